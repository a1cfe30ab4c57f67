theorem sim_taken : Sim_X9_taken Inv := by
  intro v vNc vNcj vNcs vNcp vNcr vNw vNg vNn vNq vIc vIcj vIcs vIcp vIcr vIw vIg vIn vIq vT vTj vTs vTp vTr vx vt gt vM gM hInv x1 x2
  obtain ⟨B, t, N, K, A, h⟩ := id hInv
  have hw := h.now
  have hN := hw.ci.hN
  have hK := hw.ci.hK
  have hM := hw.n13
  have hP := hw.n14
  unfold pX9_taken
  refine c_sig hN hw.co.jr (fun a ha ea => ?_) (fun e1 => ?_)
  · subst ea
    first | refine ⟨fun c => absurd c (by decide), fun _ => ?_⟩ | refine ⟨fun _ => ?_, fun c => absurd c (by decide)⟩
    have e4 : (5 : Int32) - 1 = 4 := by decide
    rw [e4, nI_clamp (by omega), hw.co.jr.kind a ha]
    obtain ⟨q, hq, eq⟩ := (hw.ci.sg a ha).kind
    refine w_in (fun c1 c2 => ?_) (fun c => ?_)
    · first | refine ⟨fun c => absurd c (by decide), fun _ => ?_⟩ | refine ⟨fun _ => ?_, fun c => absurd c (by decide)⟩
      obtain ⟨k, hk, rfl⟩ := (up_iff (M := 4) (by decide) x2).mp ⟨c1, c2⟩
      rw [nI_clamp (by omega)]
      refine ⟨vp_in_nI (by omega) (by decide), vp_in_nI (by omega) (by decide), ?_⟩
      have mo : ∀ Q : Int32 → Prop, ((nI k = 0 → (pX10_taken_J76 vM (nI a) (nI k) Q (A 1 a 0))) ∧ (¬ nI k = 0 → ((¬ nI k = (1 : Int32) → (pX10_taken_J43 vM (nI a) (nI k) Q (A 1 a 0))) ∧ (nI k = (1 : Int32) → ((¬ A 1 a 0 = (1 : Int32) → (pX10_taken_J76 vM (nI a) (nI k) Q (A 1 a 0))) ∧ (A 1 a 0 = (1 : Int32) → (pX10_taken_J43 vM (nI a) (nI k) Q (A 1 a 0)))))))) → pX10_taken vM (nI a) (nI k) Q := by
        intro Q hq
        unfold pX10_taken
        refine m_sigY hN hM ha ?_
        first | refine ⟨fun c => absurd c (by decide), fun _ => ?_⟩ | refine ⟨fun _ => ?_, fun c => absurd c (by decide)⟩
        refine inY ⟨c1, c2⟩ ?_
        first | refine ⟨fun c => absurd c (by decide), fun _ => ?_⟩ | refine ⟨fun _ => ?_, fun c => absurd c (by decide)⟩
        exact rd_at hw.ab 0 (by omega) (by decide) hq
      rw [eq] at mo ⊢
      unfold pX9_isIn
      rcases (show k = 0 ∨ k = 1 ∨ k = 2 ∨ k = 3 ∨ k = 4 by omega) with rfl | rfl | rfl | rfl | rfl <;> rcases (show q = 0 ∨ q = 1 ∨ q = 2 ∨ q = 3 by omega) with rfl | rfl | rfl | rfl
      all_goals
        first | refine ⟨fun c => absurd c (by decide), fun _ => ?_⟩ | refine ⟨fun _ => ?_, fun c => absurd c (by decide)⟩
        first | refine ⟨fun c => absurd c (by decide), fun _ => ?_⟩ | refine ⟨fun _ => ?_, fun c => absurd c (by decide)⟩
        refine mo _ ?_
        repeat (first | refine ⟨fun c => absurd c (by decide), fun _ => ?_⟩ | refine ⟨fun _ => ?_, fun c => absurd c (by decide)⟩ | unfold pX10_taken_J43 | unfold pX10_taken_J57 | unfold pX10_taken_J66 | unfold pX10_taken_J76 | unfold pX10_taken_J80 | unfold pX10_taken_J81)
        exact ⟨rfl, hInv⟩
    · first | refine ⟨fun c => absurd c (by decide), fun _ => ?_⟩ | refine ⟨fun _ => ?_, fun c => absurd c (by decide)⟩
      unfold pX10_taken
      refine m_sigY hN hM ha ?_
      first | refine ⟨fun c => absurd c (by decide), fun _ => ?_⟩ | refine ⟨fun _ => ?_, fun c => absurd c (by decide)⟩
      refine inN c ?_
      first | refine ⟨fun c => absurd c (by decide), fun _ => ?_⟩ | refine ⟨fun _ => ?_, fun c => absurd c (by decide)⟩
      exact ⟨rfl, hInv⟩
  · first | refine ⟨fun c => absurd c (by decide), fun _ => ?_⟩ | refine ⟨fun _ => ?_, fun c => absurd c (by decide)⟩
    unfold pX10_taken
    refine m_sigN hN hM e1 ?_
    first | refine ⟨fun c => absurd c (by decide), fun _ => ?_⟩ | refine ⟨fun _ => ?_, fun c => absurd c (by decide)⟩
    exact ⟨rfl, hInv⟩
theorem m_meets {t N K : Nat} {v : Lf} {A : AS} {D : Nat → Int32} (hI : CoI t N K A) (h : Ab (v 1) A) (tm : MtR N A (v 4) D) {a : Nat} (ha : a < N) {Q : Int32 → Prop} (q : ∀ r, Bits r (fun b => b < N ∧ ¬ narA A a b = -5) → Q r) : pX10_meets v (nI a) Q := by
  have hN := hI.hN
  have hm : v 1 13 = nI N := (h.gl (k := 13) (by decide)).trans hI.m
  have cl : ∀ b, b < N → (0 ≤ v 4 (8 * a + b) ↔ ¬ narA A a b = -5) := by
    intro b hb
    rw [tm.cl a b ha hb, clrA]
    by_cases c : narA A a b < 0
    · rw [if_pos c]
      exact ⟨fun e => absurd e (by decide), fun e => absurd ((nar_neg hI ha hb).mp c) e⟩
    · rw [if_neg c]
      obtain ⟨x, hx, ex⟩ := bare_ok hI ha hb
      obtain ⟨y, hy, ey⟩ := hI.sf
      rw [ex, ey, nI_add]
      exact ⟨fun _ e => c ((nar_neg hI ha hb).mpr e), fun _ => nI_pos' (by omega)⟩
  have L : ∀ (k i : Nat) (r : Int32), i + k = N → Bits r (fun b => b < i ∧ ¬ narA A a b = -5) → pX10_meets_L4 v (nI a) Q (k + 1) r (nI i) := by
    intro k
    induction k with
    | zero =>
      intro i r hi hr
      refine hdE hm (by omega) (q r ?_)
      rw [show i = N by omega] at hr
      exact hr
    | succ k ih =>
      intro i r hi hr
      refine hdG hm (by omega) (by omega) (un (P := fun z => pX10_meet z (nI a) (nI i) _) (m_meet (by omega) (by omega) (fun c => ?_) (fun c => ?_)))
      · first | refine ⟨fun c => absurd c (by decide), fun _ => ?_⟩ | refine ⟨fun _ => ?_, fun c => absurd c (by decide)⟩
        have c := (cl i (by omega)).mp c
        unfold pX10_meets_J32
        rw [nI_s]
        refine ih (i + 1) _ (by omega) (hr.put (by omega) (fun b _ => ⟨fun ⟨h1, h2⟩ => ?_, fun e => ?_⟩))
        · rcases Nat.lt_or_ge b i with l | l
          · exact .inl ⟨l, h2⟩
          · exact .inr (by omega)
        · rcases e with e | e
          · exact ⟨by omega, e.2⟩
          · exact ⟨by omega, e ▸ c⟩
      · first | refine ⟨fun c => absurd c (by decide), fun _ => ?_⟩ | refine ⟨fun _ => ?_, fun c => absurd c (by decide)⟩
        have c := fun e => c ((cl i (by omega)).mpr e)
        unfold pX10_meets_J32
        rw [nI_s, or_0]
        refine ih (i + 1) r (by omega) (hr.same (fun b _ => ⟨fun ⟨h1, h2⟩ => ⟨?_, h2⟩, fun ⟨h1, h2⟩ => ⟨by omega, h2⟩⟩))
        rcases Nat.lt_or_ge b i with l | l
        · exact l
        · exact absurd ((show b = i by omega) ▸ h2) c
  exact ⟨N + 1, L N 0 0 (by omega) (Bits.zero' (fun i _ e => by omega))⟩
theorem c_meeters {N : Nat} {j : Lf} {A : AS} (hN : N ≤ 8) (hj : JR N j A) (tb : TbR N j A) {a : Nat} (ha : a < N) {Q : Int32 → Prop} (q : ∀ r, Bits r (fun b => b < N ∧ ¬ narA A a b = -5) → Q r) : pX1_meetersOf j (nI a) Q := by
  have L : ∀ (k i : Nat) (r : Int32), i + k = N → Bits r (fun b => b < i ∧ ¬ narA A a b = -5) → pX1_meetersOf_L4 j (nI a) Q (k + 1) r (nI i) := by
    intro k
    induction k with
    | zero =>
      intro i r hi hr
      refine hdE hj.n (by omega) (q r ?_)
      rw [show i = N by omega] at hr
      exact hr
    | succ k ih =>
      intro i r hi hr
      refine hdG hj.n (by omega) (by omega) (c_meet (by omega) (by omega) (fun c => ?_) (fun c => ?_))
      · first | refine ⟨fun c => absurd c (by decide), fun _ => ?_⟩ | refine ⟨fun _ => ?_, fun c => absurd c (by decide)⟩
        rw [tb.nar a i ha (by omega)] at c
        unfold pX1_meetersOf_J27
        rw [nI_s]
        refine ih (i + 1) _ (by omega) (hr.put (by omega) (fun b _ => ⟨fun ⟨h1, h2⟩ => ?_, fun e => ?_⟩))
        · rcases Nat.lt_or_ge b i with l | l
          · exact .inl ⟨l, h2⟩
          · exact .inr (by omega)
        · rcases e with e | e
          · exact ⟨by omega, e.2⟩
          · exact ⟨by omega, e ▸ c⟩
      · first | refine ⟨fun c => absurd c (by decide), fun _ => ?_⟩ | refine ⟨fun _ => ?_, fun c => absurd c (by decide)⟩
        rw [tb.nar a i ha (by omega)] at c
        unfold pX1_meetersOf_J27
        rw [nI_s]
        refine ih (i + 1) r (by omega) (hr.same (fun b _ => ⟨fun ⟨h1, h2⟩ => ⟨?_, h2⟩, fun ⟨h1, h2⟩ => ⟨by omega, h2⟩⟩))
        rcases Nat.lt_or_ge b i with l | l
        · exact l
        · exact absurd c ((show b = i by omega) ▸ h2)
  exact ⟨N + 1, L N 0 0 (by omega) (Bits.zero' (fun i _ e => by omega))⟩
theorem sim_of : Sim_X9_of Inv := by
  intro v vNc vNcj vNcs vNcp vNcr vNw vNg vNn vNq vIc vIcj vIcs vIcp vIcr vIw vIg vIn vIq vT vTj vTs vTp vTr vx vt gt vM gM hInv x1 x2
  obtain ⟨B, t, N, K, A, h⟩ := id hInv
  have hw := h.now
  have hN := hw.ci.hN
  have hK := hw.ci.hK
  have hM := hw.n13
  have hP := hw.n14
  have ht : t < 2 ^ 30 := by have := hw.tb; have := h.hB; omega
  unfold pX9_of
  refine c_sig hN hw.co.jr (fun a ha ea => ?_) (fun e1 => ?_)
  · subst ea
    first | refine ⟨fun c => absurd c (by decide), fun _ => ?_⟩ | refine ⟨fun _ => ?_, fun c => absurd c (by decide)⟩
    by_cases hx : ∃ k, k ≤ 13 ∧ x2 = nI k
    · obtain ⟨k, hk, rfl⟩ := hx
      have a8 : a < 8 := by omega
      have pre : ∀ Q : Int32 → Prop, (((6 : Int32) ≤ nI k → ((¬ nI k = (6 : Int32) → (((10 : Int32) ≤ nI k → ((¬ nI k = (10 : Int32) → ((¬ nI k = (11 : Int32) → ((¬ nI k = (12 : Int32) → (pX10_at vM (nI a) (20 : Int32) (fun r11 => (Q r11 )))) ∧ (nI k = (12 : Int32) → (pX10_meets vM (nI a) (fun r12 => (Q r12 )))))) ∧ (nI k = (11 : Int32) → (pX10_at vM (nI a) (11 : Int32) (fun r13 => (Q r13 )))))) ∧ (nI k = (10 : Int32) → (pX10_at vM (nI a) (10 : Int32) (fun r14 => (Q r14 )))))) ∧ (¬ (10 : Int32) ≤ nI k → (pX10_at vM (nI a) (((7 : Int32) + nI k) - (7 : Int32)) (fun r15 => (Q r15 )))))) ∧ (nI k = (6 : Int32) → (pX10_light vM (nI a) (fun r16 => (Q r16 )))))) ∧ (¬ (6 : Int32) ≤ nI k → (pX10_at vM (nI a) (nI k) (fun r17 => (Q r17 ))))) → pX10_of vM (nI a) (nI k) Q := by
        intro Q hq
        unfold pX10_of
        refine m_sigY hN hM ha ?_
        first | refine ⟨fun c => absurd c (by decide), fun _ => ?_⟩ | refine ⟨fun _ => ?_, fun c => absurd c (by decide)⟩
        refine inY ((up_iff (M := 13) (by decide) _).mpr ⟨k, hk, rfl⟩) ?_
        first | refine ⟨fun c => absurd c (by decide), fun _ => ?_⟩ | refine ⟨fun _ => ?_, fun c => absurd c (by decide)⟩
        exact hq
      unfold pX0_factOf
      rw [nI_clamp (by omega), hw.co.jr.kind a ha, hw.co.sr.q a ha, hw.co.sr.be a ha, hw.co.sr.en a ha, hw.co.sr.se a ha, hw.co.sr.go a ha, hw.co.jr.len a ha, hw.co.sr.ti a ha]
      have va : vp_in (nI a) 8 := vp_in_nI a8 (by decide)
      match k, hk, pre with
      | 0, _, pre =>
        repeat (first | refine ⟨fun c => absurd c (by decide), fun _ => ?_⟩ | refine ⟨fun _ => ?_, fun c => absurd c (by decide)⟩)
        refine ⟨va, pre _ ?_⟩
        repeat (first | refine ⟨fun c => absurd c (by decide), fun _ => ?_⟩ | refine ⟨fun _ => ?_, fun c => absurd c (by decide)⟩)
        exact rd_atn (w := 0) hw.ab a8 (by decide) ⟨rfl, hInv⟩
      | 1, _, pre =>
        repeat (first | refine ⟨fun c => absurd c (by decide), fun _ => ?_⟩ | refine ⟨fun _ => ?_, fun c => absurd c (by decide)⟩)
        unfold pX0_factOf_J82
        refine c_rule hN hw.co.sr ha 0 (by decide) (pre _ ?_)
        repeat (first | refine ⟨fun c => absurd c (by decide), fun _ => ?_⟩ | refine ⟨fun _ => ?_, fun c => absurd c (by decide)⟩)
        exact rd_atn (w := 1) hw.ab a8 (by decide) ⟨rfl, hInv⟩
      | 2, _, pre =>
        repeat (first | refine ⟨fun c => absurd c (by decide), fun _ => ?_⟩ | refine ⟨fun _ => ?_, fun c => absurd c (by decide)⟩)
        unfold pX0_factOf_J82
        refine c_rule hN hw.co.sr ha 1 (by decide) (pre _ ?_)
        repeat (first | refine ⟨fun c => absurd c (by decide), fun _ => ?_⟩ | refine ⟨fun _ => ?_, fun c => absurd c (by decide)⟩)
        exact rd_atn (w := 2) hw.ab a8 (by decide) ⟨rfl, hInv⟩
      | 3, _, pre =>
        repeat (first | refine ⟨fun c => absurd c (by decide), fun _ => ?_⟩ | refine ⟨fun _ => ?_, fun c => absurd c (by decide)⟩)
        unfold pX0_factOf_J82
        refine c_rule hN hw.co.sr ha 2 (by decide) (pre _ ?_)
        repeat (first | refine ⟨fun c => absurd c (by decide), fun _ => ?_⟩ | refine ⟨fun _ => ?_, fun c => absurd c (by decide)⟩)
        exact rd_atn (w := 3) hw.ab a8 (by decide) ⟨rfl, hInv⟩
      | 4, _, pre =>
        repeat (first | refine ⟨fun c => absurd c (by decide), fun _ => ?_⟩ | refine ⟨fun _ => ?_, fun c => absurd c (by decide)⟩)
        unfold pX0_factOf_J82
        refine c_rule hN hw.co.sr ha 3 (by decide) (pre _ ?_)
        repeat (first | refine ⟨fun c => absurd c (by decide), fun _ => ?_⟩ | refine ⟨fun _ => ?_, fun c => absurd c (by decide)⟩)
        exact rd_atn (w := 4) hw.ab a8 (by decide) ⟨rfl, hInv⟩
      | 5, _, pre =>
        repeat (first | refine ⟨fun c => absurd c (by decide), fun _ => ?_⟩ | refine ⟨fun _ => ?_, fun c => absurd c (by decide)⟩)
        refine ⟨va, pre _ ?_⟩
        repeat (first | refine ⟨fun c => absurd c (by decide), fun _ => ?_⟩ | refine ⟨fun _ => ?_, fun c => absurd c (by decide)⟩)
        exact rd_atn (w := 5) hw.ab a8 (by decide) ⟨rfl, hInv⟩
      | 6, _, pre =>
        repeat (first | refine ⟨fun c => absurd c (by decide), fun _ => ?_⟩ | refine ⟨fun _ => ?_, fun c => absurd c (by decide)⟩)
        refine c_light ht hw.ci hw.co ha (pre _ ?_)
        repeat (first | refine ⟨fun c => absurd c (by decide), fun _ => ?_⟩ | refine ⟨fun _ => ?_, fun c => absurd c (by decide)⟩)
        exact m_light hw.ci hw.ab ha ⟨rfl, hInv⟩
      | 7, _, pre =>
        repeat (first | refine ⟨fun c => absurd c (by decide), fun _ => ?_⟩ | refine ⟨fun _ => ?_, fun c => absurd c (by decide)⟩)
        refine ⟨va, pre _ ?_⟩
        repeat (first | refine ⟨fun c => absurd c (by decide), fun _ => ?_⟩ | refine ⟨fun _ => ?_, fun c => absurd c (by decide)⟩)
        exact rd_atn (w := 7) hw.ab a8 (by decide) ⟨rfl, hInv⟩
      | 8, _, pre =>
        repeat (first | refine ⟨fun c => absurd c (by decide), fun _ => ?_⟩ | refine ⟨fun _ => ?_, fun c => absurd c (by decide)⟩)
        refine ⟨va, pre _ ?_⟩
        repeat (first | refine ⟨fun c => absurd c (by decide), fun _ => ?_⟩ | refine ⟨fun _ => ?_, fun c => absurd c (by decide)⟩)
        exact rd_atn (w := 8) hw.ab a8 (by decide) ⟨rfl, hInv⟩
      | 9, _, pre =>
        repeat (first | refine ⟨fun c => absurd c (by decide), fun _ => ?_⟩ | refine ⟨fun _ => ?_, fun c => absurd c (by decide)⟩)
        refine ⟨va, pre _ ?_⟩
        repeat (first | refine ⟨fun c => absurd c (by decide), fun _ => ?_⟩ | refine ⟨fun _ => ?_, fun c => absurd c (by decide)⟩)
        exact rd_atn (w := 9) hw.ab a8 (by decide) ⟨rfl, hInv⟩
      | 10, _, pre =>
        repeat (first | refine ⟨fun c => absurd c (by decide), fun _ => ?_⟩ | refine ⟨fun _ => ?_, fun c => absurd c (by decide)⟩)
        refine ⟨va, pre _ ?_⟩
        repeat (first | refine ⟨fun c => absurd c (by decide), fun _ => ?_⟩ | refine ⟨fun _ => ?_, fun c => absurd c (by decide)⟩)
        exact rd_atn (w := 10) hw.ab a8 (by decide) ⟨rfl, hInv⟩
      | 11, _, pre =>
        repeat (first | refine ⟨fun c => absurd c (by decide), fun _ => ?_⟩ | refine ⟨fun _ => ?_, fun c => absurd c (by decide)⟩)
        refine ⟨va, pre _ ?_⟩
        repeat (first | refine ⟨fun c => absurd c (by decide), fun _ => ?_⟩ | refine ⟨fun _ => ?_, fun c => absurd c (by decide)⟩)
        exact rd_atn (w := 11) hw.ab a8 (by decide) ⟨rfl, hInv⟩
      | 12, _, pre =>
        repeat (first | refine ⟨fun c => absurd c (by decide), fun _ => ?_⟩ | refine ⟨fun _ => ?_, fun c => absurd c (by decide)⟩)
        refine c_meeters hN hw.co.jr hw.tb' ha (fun r hr => pre _ ?_)
        repeat (first | refine ⟨fun c => absurd c (by decide), fun _ => ?_⟩ | refine ⟨fun _ => ?_, fun c => absurd c (by decide)⟩)
        exact m_meets hw.ci hw.ab h.tab ha (fun r2 hr2 => ⟨hr.eq hr2, hInv⟩)
      | 13, _, pre =>
        repeat (first | refine ⟨fun c => absurd c (by decide), fun _ => ?_⟩ | refine ⟨fun _ => ?_, fun c => absurd c (by decide)⟩)
        refine ⟨va, pre _ ?_⟩
        repeat (first | refine ⟨fun c => absurd c (by decide), fun _ => ?_⟩ | refine ⟨fun _ => ?_, fun c => absurd c (by decide)⟩)
        exact rd_atn (w := 20) hw.ab a8 (by decide) ⟨rfl, hInv⟩
      | k + 14, hk, _ => exact absurd hk (by omega)
    · have ne : ∀ k, k ≤ 13 → ¬ x2 = nI k := fun k hk e => hx ⟨k, hk, e⟩
      unfold pX0_factOf
      refine ⟨fun e => absurd e (ne 0 (by decide)), fun _ => ?_⟩
      refine ⟨fun e => absurd e (ne 1 (by decide)), fun _ => ?_⟩
      refine ⟨fun e => absurd e (ne 2 (by decide)), fun _ => ?_⟩
      refine ⟨fun e => absurd e (ne 3 (by decide)), fun _ => ?_⟩
      refine ⟨fun e => absurd e (ne 4 (by decide)), fun _ => ?_⟩
      refine ⟨fun e => absurd e (ne 5 (by decide)), fun _ => ?_⟩
      refine ⟨fun e => absurd e (ne 6 (by decide)), fun _ => ?_⟩
      refine ⟨fun e => absurd e (ne 7 (by decide)), fun _ => ?_⟩
      refine ⟨fun e => absurd e (ne 8 (by decide)), fun _ => ?_⟩
      refine ⟨fun e => absurd e (ne 9 (by decide)), fun _ => ?_⟩
      refine ⟨fun e => absurd e (ne 10 (by decide)), fun _ => ?_⟩
      refine ⟨fun e => absurd e (ne 11 (by decide)), fun _ => ?_⟩
      refine ⟨fun e => absurd e (ne 12 (by decide)), fun _ => ?_⟩
      refine ⟨fun e => absurd e (ne 13 (by decide)), fun _ => ?_⟩
      unfold pX10_of
      refine m_sigY hN hM ha ?_
      first | refine ⟨fun c => absurd c (by decide), fun _ => ?_⟩ | refine ⟨fun _ => ?_, fun c => absurd c (by decide)⟩
      refine inN (fun e => hx ((up_iff (M := 13) (by decide) x2).mp e)) ?_
      first | refine ⟨fun c => absurd c (by decide), fun _ => ?_⟩ | refine ⟨fun _ => ?_, fun c => absurd c (by decide)⟩
      exact ⟨rfl, hInv⟩
  · first | refine ⟨fun c => absurd c (by decide), fun _ => ?_⟩ | refine ⟨fun _ => ?_, fun c => absurd c (by decide)⟩
    unfold pX10_of
    refine m_sigN hN hM e1 ?_
    first | refine ⟨fun c => absurd c (by decide), fun _ => ?_⟩ | refine ⟨fun _ => ?_, fun c => absurd c (by decide)⟩
    exact ⟨rfl, hInv⟩

def sgA (A : AS) (r : Nat) : Nat := (A 5 r 0).toNatClampNeg
def tnA (C : Nat → Int32) (A : AS) (r q : Nat) : Prop := 0 ≤ C (8 * sgA A r + sgA A q) ∧ ¬ C (8 * sgA A q + sgA A r) ≤ A 5 r 1 - A 5 q 2 ∧ ¬ C (8 * sgA A r + sgA A q) ≤ A 5 q 1 - A 5 r 2
noncomputable def prA (C : Nat → Int32) (A : AS) (r : Nat) : Bool := @decide (∃ q, q < r ∧ tnA C A r q) (Classical.propDecidable _)
theorem prA_t {C : Nat → Int32} {A : AS} {r : Nat} (h : ∃ q, q < r ∧ tnA C A r q) : prA C A r = true := by
  unfold prA
  exact @decide_eq_true _ (Classical.propDecidable _) h
theorem prA_f {C : Nat → Int32} {A : AS} {r : Nat} (h : ¬ ∃ q, q < r ∧ tnA C A r q) : ¬ prA C A r = true := by
  unfold prA
  exact fun e => h (@of_decide_eq_true _ (Classical.propDecidable _) e)
theorem sg_ok {N : Nat} {g : Lf} {A : AS} (hN : N ≤ 8) (h : GtR N g A) {m : Nat} (hm : m ≤ 8) (em : A 0 0 18 = nI m) {r : Nat} (hr : r < m) : sgA A r < N ∧ A 5 r 0 = nI (sgA A r) ∧ ∀ k, k < 3 → g 1 (r * 3 + k) = A 5 r k := by
  obtain ⟨z, hz, ez, row⟩ := h.row
  have e : z = m := nI_inj (by omega) (by omega) (ez.symm.trans em)
  subst e
  obtain ⟨a, ha, ea⟩ := (row r hr).2.1
  have : sgA A r = a := by rw [sgA, ea, nI_clamp (by omega)]
  rw [this]
  exact ⟨ha, ea, (row r hr).1⟩
theorem c_rowG {g : Lf} {A : AS} {r : Nat} (hr : r < 8) (k : Nat) (hk : k < 3) (e : g 1 (r * 3 + k) = A 5 r k) {Q : Int32 → Prop} (q : Q (A 5 r k)) : pX4_at 24 g (nI r) (@OfNat.ofNat Int32 k _) Q := by
  unfold pX4_at
  have e1 : nI r * (3 : Int32) + (@OfNat.ofNat Int32 k _) = nI (r * 3 + k) := ix3 r k
  rw [e1, nI_clamp (by omega), e]
  exact ⟨vp_in_nI (by omega) (by decide), q⟩
theorem ix321 (p k : Nat) : (321 : Int32) + (3 : Int32) * nI p + (@OfNat.ofNat Int32 k _) = nI (321 + 3 * p + k) := by
  show nI 321 + nI 3 * nI p + nI k = _
  rw [pk_mul, nI_add, nI_add]
theorem c_behind {N : Nat} {j g : Lf} {A : AS} {C : Nat → Int32} (hN : N ≤ 8) (hC : ClR N j C) (h : GtR N g A) {m : Nat} (hm : m ≤ 8) (em : A 0 0 18 = nI m) {r q : Nat} (hr : r < m) (hq : q < m) (nn : ¬ j 5 (sgA A q * 8 + sgA A r) = -5) {Q : Int32 → Prop} (q1 : C (8 * sgA A q + sgA A r) ≤ A 5 r 1 - A 5 q 2 → Q 1) (q0 : ¬ C (8 * sgA A q + sgA A r) ≤ A 5 r 1 - A 5 q 2 → Q 0) : pX8_isClearBehind j g (nI r) (nI q) Q := by
  obtain ⟨a1, a2, a3⟩ := sg_ok hN h hm em hr
  obtain ⟨b1, b2, b3⟩ := sg_ok hN h hm em hq
  unfold pX8_isClearBehind
  refine c_rowG (by omega) 0 (by decide) (b3 0 (by decide)) (c_rowG (by omega) 0 (by decide) (a3 0 (by decide)) ?_)
  rw [a2, b2]
  refine (w_clearOf j (by omega) _).mpr ?_
  rw [← (hC.yes _ _ b1 a1 nn).1]
  refine c_rowG (by omega) 1 (by decide) (a3 1 (by decide)) (c_rowG (by omega) 2 (by decide) (b3 2 (by decide)) ⟨fun c => q0 (fun e => ?_), fun c => q1 (n_le.mp c)⟩)
  exact n_le.mpr e c
theorem c_near {N : Nat} {j g : Lf} {A : AS} {C : Nat → Int32} (hN : N ≤ 8) (hC : ClR N j C) (h : GtR N g A) {m : Nat} (hm : m ≤ 8) (em : A 0 0 18 = nI m) {r q : Nat} (hr : r < m) (hq : q < m) {Q : Int32 → Prop} (q1 : tnA C A r q → Q 1) (q0 : ¬ tnA C A r q → Q 0) : pX8_areTooNear j g (nI r) (nI q) Q := by
  obtain ⟨a1, a2, a3⟩ := sg_ok hN h hm em hr
  obtain ⟨b1, b2, b3⟩ := sg_ok hN h hm em hq
  unfold pX8_areTooNear
  refine c_rowG (by omega) 0 (by decide) (a3 0 (by decide)) (c_rowG (by omega) 0 (by decide) (b3 0 (by decide)) ?_)
  rw [a2, b2]
  refine c_meet (by omega) (by omega) (fun c => ?_) (fun c => ?_)
  · first | refine ⟨fun c => absurd c (by decide), fun _ => ?_⟩ | refine ⟨fun _ => ?_, fun c => absurd c (by decide)⟩
    have c2 : ¬ j 5 (sgA A q * 8 + sgA A r) = -5 := fun e => c (hC.sym _ _ b1 a1 e)
    refine c_behind hN hC h hm em hr hq c2 (fun d => ?_) (fun d => ?_)
    · first | refine ⟨fun c => absurd c (by decide), fun _ => ?_⟩ | refine ⟨fun _ => ?_, fun c => absurd c (by decide)⟩
      exact q0 (fun e => e.2.1 d)
    · first | refine ⟨fun c => absurd c (by decide), fun _ => ?_⟩ | refine ⟨fun _ => ?_, fun c => absurd c (by decide)⟩
      refine c_behind hN hC h hm em hq hr c (fun d2 => ?_) (fun d2 => ?_)
      · first | refine ⟨fun c => absurd c (by decide), fun _ => ?_⟩ | refine ⟨fun _ => ?_, fun c => absurd c (by decide)⟩
        exact q0 (fun e => e.2.2 d2)
      · first | refine ⟨fun c => absurd c (by decide), fun _ => ?_⟩ | refine ⟨fun _ => ?_, fun c => absurd c (by decide)⟩
        exact q1 ⟨(hC.yes _ _ a1 b1 c).2, d, d2⟩
  · first | refine ⟨fun c => absurd c (by decide), fun _ => ?_⟩ | refine ⟨fun _ => ?_, fun c => absurd c (by decide)⟩
    refine q0 (fun e => ?_)
    have := hC.no _ _ a1 b1 c
    have e1 := e.1
    rw [this] at e1
    exact absurd e1 (by decide)
theorem m_safe {N : Nat} {v g : Lf} {A : AS} (hN : N ≤ 8) (hab : Ab (v 1) A) (h : GtR N g A) {m : Nat} (hm : m ≤ 8) (em : A 0 0 18 = nI m) {r q : Nat} (hr : r < m) (hq : q < m) {Q : Int32 → Prop} (q1 : ¬ tnA (v 4) A r q → Q 1) (q0 : tnA (v 4) A r q → Q 0) : pX10_isSafe v (nI r) (nI q) Q := by
  obtain ⟨a1, a2, _⟩ := sg_ok hN h hm em hr
  obtain ⟨b1, b2, _⟩ := sg_ok hN h hm em hq
  have rd : ∀ i k, i < 8 → k < 3 → v 1 (321 + 3 * i + k) = A 5 i k := fun i k hi hk => hab 5 i k ⟨hi, hk⟩
  have z0 : ∀ p, (321 : Int32) + (3 : Int32) * nI p = nI (321 + 3 * p) := fun p => by
    show nI 321 + nI 3 * nI p = _
    rw [pk_mul, nI_add]
  unfold pX10_isSafe
  rw [ix321 r 1, ix321 r 2, ix321 q 1, ix321 q 2, z0, z0, nI_clamp (by omega), nI_clamp (by omega), nI_clamp (by omega), nI_clamp (by omega), nI_clamp (by omega), nI_clamp (by omega), show v 1 (321 + 3 * r) = A 5 r 0 from rd r 0 (by omega) (by decide), show v 1 (321 + 3 * q) = A 5 q 0 from rd q 0 (by omega) (by decide), rd r 1 (by omega) (by decide), rd r 2 (by omega) (by decide), rd q 1 (by omega) (by decide), rd q 2 (by omega) (by decide), a2, b2, ix8, ix8, nI_clamp (by omega), nI_clamp (by omega)]
  refine ⟨vp_in_nI (by omega) (by decide), vp_in_nI (by omega) (by decide), un (P := fun z => pX10_meet z (nI (sgA A r)) (nI (sgA A q)) _) (m_meet (by omega) (by omega) (fun c => ?_) (fun c => ?_))⟩
  · first | refine ⟨fun c => absurd c (by decide), fun _ => ?_⟩ | refine ⟨fun _ => ?_, fun c => absurd c (by decide)⟩
    refine ⟨vp_in_nI (by omega) (by decide), vp_in_nI (by omega) (by decide), vp_in_nI (by omega) (by decide), fun d => q1 (fun e => e.2.1 d), fun d => ⟨vp_in_nI (by omega) (by decide), vp_in_nI (by omega) (by decide), vp_in_nI (by omega) (by decide), fun d2 => q0 ⟨c, d, n_lt.mpr d2⟩, fun d2 => q1 (fun e => e.2.2 (n_le.mp d2))⟩⟩
  · first | refine ⟨fun c => absurd c (by decide), fun _ => ?_⟩ | refine ⟨fun _ => ?_, fun c => absurd c (by decide)⟩
    exact q1 (fun e => c e.1)
theorem c_unp {N : Nat} {j g : Lf} {A : AS} {C : Nat → Int32} (hN : N ≤ 8) (hC : ClR N j C) (h : GtR N g A) {m : Nat} (hm : m ≤ 8) (em : A 0 0 18 = nI m) {Q : Int32 → Prop} : ∀ (k i : Nat), i + k = m → Q (ffr (prA C A) k i) → pX8_firstUnproved_L2 j g Q (k + 1) (nI i) := by
  have hg : g 0 0 = nI m := h.n.trans em
  intro k
  induction k with
  | zero =>
    intro i hi q
    exact hdE hg (by omega) q
  | succ k ih =>
    intro i hi q
    refine hdG hg (by omega) (by omega) ?_
    have L : ∀ (n s : Nat), s + n = i → (∀ z, z < s → ¬ tnA C A i z) → pX8_firstUnproved_L15 j g Q (fun x1 => pX8_firstUnproved_L2 j g Q (k + 1) x1) (n + 1) (nI i) (nI s) := by
      intro n
      induction n with
      | zero =>
        intro s hs hz
        refine hdE rfl (by omega) ?_
        rw [nI_s]
        refine ih (i + 1) (by omega) ?_
        rw [ffr, if_neg (prA_f (fun ⟨z, h1, h2⟩ => hz z (by omega) h2))] at q
        exact q
      | succ n ihn =>
        intro s hs hz
        refine hdG rfl (by omega) (by omega) (c_near hN hC h hm em (by omega) (by omega) (fun c => ?_) (fun c => ?_))
        · first | refine ⟨fun c => absurd c (by decide), fun _ => ?_⟩ | refine ⟨fun _ => ?_, fun c => absurd c (by decide)⟩
          rw [ffr, if_pos (prA_t ⟨s, by omega, c⟩)] at q
          exact q
        · first | refine ⟨fun c => absurd c (by decide), fun _ => ?_⟩ | refine ⟨fun _ => ?_, fun c => absurd c (by decide)⟩
          rw [nI_s]
          refine ihn (s + 1) (by omega) (fun z hz2 => ?_)
          rcases Nat.lt_or_ge z s with l | l
          · exact hz z l
          · exact (show z = s by omega) ▸ c
    exact ⟨i + 1, L i 0 (by omega) (fun z hz => by omega)⟩
theorem m_unp {N : Nat} {v g : Lf} {A : AS} (hN : N ≤ 8) (hab : Ab (v 1) A) (h : GtR N g A) {m : Nat} (hm : m ≤ 8) (em : A 0 0 18 = nI m) {Q : Int32 → Prop} : ∀ (k i : Nat), i + k = m → Q (ffr (prA (v 4) A) k i) → pX10_proved_L2 v Q (k + 1) (nI i) := by
  have hg : v 1 18 = nI m := (hab.gl (k := 18) (by decide)).trans em
  intro k
  induction k with
  | zero =>
    intro i hi q
    exact hdE hg (by omega) q
  | succ k ih =>
    intro i hi q
    refine hdG hg (by omega) (by omega) ?_
    have L : ∀ (n s : Nat), s + n = i → (∀ z, z < s → ¬ tnA (v 4) A i z) → pX10_proved_L15 v Q (fun x1 => pX10_proved_L2 v Q (k + 1) x1) (n + 1) (nI i) (nI s) := by
      intro n
      induction n with
      | zero =>
        intro s hs hz
        refine hdE rfl (by omega) ?_
        rw [nI_s]
        refine ih (i + 1) (by omega) ?_
        rw [ffr, if_neg (prA_f (fun ⟨z, h1, h2⟩ => hz z (by omega) h2))] at q
        exact q
      | succ n ihn =>
        intro s hs hz
        refine hdG rfl (by omega) (by omega) (m_safe hN hab h hm em (by omega) (by omega) (fun c => ?_) (fun c => ?_))
        · first | refine ⟨fun c => absurd c (by decide), fun _ => ?_⟩ | refine ⟨fun _ => ?_, fun c => absurd c (by decide)⟩
          rw [nI_s]
          refine ihn (s + 1) (by omega) (fun z hz2 => ?_)
          rcases Nat.lt_or_ge z s with l | l
          · exact hz z l
          · exact (show z = s by omega) ▸ c
        · first | refine ⟨fun c => absurd c (by decide), fun _ => ?_⟩ | refine ⟨fun _ => ?_, fun c => absurd c (by decide)⟩
          rw [ffr, if_pos (prA_t ⟨s, by omega, c⟩)] at q
          exact q
    exact ⟨i + 1, L i 0 (by omega) (fun z hz => by omega)⟩

theorem hdE' {x : Int32} {P R : Prop} (e : x = nI 0) (p : P) : (x ≤ (1 : Int32) → P) ∧ (¬ x ≤ (1 : Int32) → R) := by
  rw [e]
  exact ⟨fun _ => p, fun c => absurd (by decide) c⟩
theorem sim_proved : Sim_X9_proved Inv := by
  intro v vNc vNcj vNcs vNcp vNcr vNw vNg vNn vNq vIc vIcj vIcs vIcp vIcr vIw vIg vIn vIq vT vTj vTs vTp vTr vx vt gt vM gM hInv _
  obtain ⟨B, t, N, K, A, h⟩ := id hInv
  have hw := h.now
  have hN := hw.ci.hN
  have hK := hw.ci.hK
  have hM := hw.n13
  have hP := hw.n14
  obtain ⟨m, hm, em, _⟩ := hw.gt.row
  have cr := ClR.of hw.ci hw.co.jr hw.tb' h.tab
  have mod : ∀ x, x = ffr (prA (vM 4) A) m 0 → pX10_proved vM (fun r' => x = r' ∧ Inv v vNc vNcj vNcs vNcp vNcr vNw vNg vNn vNq vIc vIcj vIcs vIcp vIcr vIw vIg vIn vIq vT vTj vTs vTp vTr vx vt gt vM gM) := fun x hx => ⟨m + 1, m_unp hN hw.ab hw.gt hm em m 0 (by omega) ⟨hx, hInv⟩⟩
  unfold pX9_proved
  by_cases m0 : m = 0
  · subst m0
    exact ⟨1, hdE' (hw.gt.n.trans em) (mod _ rfl)⟩
  · refine ⟨m - 1 + 1, c_unp hN cr hw.gt hm em (m - 1) 1 (by omega) (mod _ ?_)⟩
    obtain ⟨k, rfl⟩ : ∃ k, m = k + 1 := ⟨m - 1, by omega⟩
    rw [show k + 1 - 1 = k by omega, ffr, if_neg (prA_f (fun ⟨q, hq, _⟩ => by omega))]

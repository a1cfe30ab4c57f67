noncomputable def trn (C : Nat → Int32) (N K a : Nat) : Nat → AS → Int32
  | 0, _ => -5
  | k + 1, A => if turnsA C N K A 1 a 6 = 1 then A 0 0 3 else trn C N K a k (secA C N K A)
theorem go_6 (k i : Nat) (A : AS) (a : Nat) : lp goS k i A 1 a 6 = A 1 a 6 := by
  refine lp_inv (fun B : AS => B 1 a 6 = A 1 a 6) (fun i B h => ?_) k i A rfl
  unfold goS
  split
  · exact h
  · simpa [go1, U_at] using h
theorem sec_6 (C : Nat → Int32) (N K : Nat) (A : AS) (a : Nat) : secA C N K A 1 a 6 = turnsA C N K A 1 a 6 := by
  unfold secA endsS
  simp [U_at, go_6]
theorem c_turns {N K n a : Nat} {j : Lf} {C : Nat → Int32} (hn : n < 2 ^ 30) (ha : a < N) (hC : ClR N j C) {z1 z2 z3 z4 z5 v : Lf} {Q : Int32 → Lf → Lf → Lf → Lf → Lf → Lf → Prop} : ∀ (k i : Nat) {c s p r : Lf} {A : AS} {t : Nat}, i + k = n → t + k < 2 ^ 30 → CoR N K c j s p r A → CoI t N K A → A 0 0 2 = 1 → (∀ c' s' p' r', r' 0 1 = 24 → Q (trn C N K a k A) v c' j s' p' r') → pX9_turns_L39 z1 z2 z3 z4 z5 (nI a) (nI n) Q (k + 1) v c j s p r (nI i) := by
  intro k
  induction k with
  | zero =>
    intro i c s p r A t hi ht h hI hs q
    exact hdE rfl (by omega) (q _ _ _ _ h.rr.most)
  | succ k ih =>
    intro i c s p r A t hi ht h hI hs q
    have hN := hI.hN
    refine hdG rfl (by omega) (by omega) (c_passes (n := 1) (C := C) hC (by omega) h hI hs (fun c1 s1 p1 r1 h1 => ?_))
    have h1 : CoR N K c1 j s1 p1 r1 (secA C N K A) := h1
    obtain ⟨i9, s9⟩ := hI.second (by omega) hs C
    unfold trn at q
    refine c_green (by omega) (fun g => ⟨fun c => absurd c (by decide), fun _ => ?_⟩) (fun g => ⟨fun _ => ?_, fun c => absurd rfl c⟩)
    · have g1 := (h1.sr.g1 ha).mp g
      rw [sec_6] at g1
      rw [if_pos g1] at q
      have e : c1 0 5 - 1 = A 0 0 3 := by
        rw [h1.cf.sec, i9.sec, hI.sec]
        exact nI_pred t
      rw [e]
      exact q _ _ _ _ h1.rr.most
    · have g1 : ¬ turnsA C N K A 1 a 6 = 1 := fun e => g ((h1.sr.g1 ha).mpr (by rw [sec_6]; exact e))
      rw [if_neg g1] at q
      rw [nI_s]
      exact ih (i + 1) (by omega) (by omega) h1 i9 s9 q
theorem m_turnsL {v : Lf} {N K n a : Nat} (hn : n < 2 ^ 30) (ha : a < N) {Q : Int32 → Lf → Prop} : ∀ (k i : Nat) {S : Nat → Int32} {A : AS} {t : Nat}, i + k = n → t + k < 2 ^ 30 → CoI t N K A → A 0 0 2 = 1 → Ab S A → (∀ S', pX10_turns__J103 (nI a) (nI n) Q (sa v 1 S') (trn (v 4) N K a k A)) → pX10_turns__L56 (nI a) (nI n) Q (k + 2) (sa v 1 S) (-5) (nI i) := by
  intro k
  induction k with
  | zero =>
    intro i S A t hi ht hI hs h q
    exact hdE rfl (by omega) (q S)
  | succ k ih =>
    intro i S A t hi ht hI hs h q
    have hN := hI.hN
    refine hdG rfl (by omega) (by omega) ⟨fun c => absurd c (by decide), fun _ => m_turns hI hs h (fun S1 h1 => ?_)⟩
    obtain ⟨i8, s8⟩ := hI.turns hs (v 4)
    obtain ⟨i9, s9⟩ := hI.second (by omega) hs (v 4)
    unfold trn at q
    refine m_at h1 6 (by omega) (by decide) ⟨fun c => ?_, fun c => ?_⟩
    · unfold pX10_turns__J92
      rw [if_neg c] at q
      refine m_ends hN i8.m h1 (fun S2 h2 => ?_)
      rw [nI_s]
      exact ih (i + 1) (by omega) (by omega) i9 s9 h2 q
    · unfold pX10_turns__J92
      rw [if_pos c] at q
      refine m_ends hN i8.m h1 (fun S2 h2 => ?_)
      rw [nI_s, h1.gw (k := 3) (by decide), i8.sec, ← hI.sec]
      refine ⟨fun _ => q S2, fun _ => ⟨fun _ => q S2, fun c2 => absurd ?_ c2⟩⟩
      rw [hI.sec]
      exact nI_pos' (by omega)

theorem sim_turns : Sim_X9_turns Inv := by
  intro v vNc vNcj vNcs vNcp vNcr vNw vNg vNn vNq vIc vIcj vIcs vIcp vIcr vIw vIg vIn vIq vT vTj vTs vTp vTr vx vt gt vM gM hInv x1 x2
  obtain ⟨B, t, N, K, A, h⟩ := id hInv
  have hw := h.now
  have hN := hw.ci.hN
  have hK := hw.ci.hK
  have hM := hw.n13
  have hP := hw.n14
  unfold pX9_turns
  have m0 : vM 1 2 = A 0 0 2 := hw.ab.gl (k := 2) (by decide)
  refine c_sig hN hw.co.jr (fun a ha ea => ?_) (fun e1 => ?_)
  · subst ea
    first | refine ⟨fun c => absurd c (by decide), fun _ => ?_⟩ | refine ⟨fun _ => ?_, fun c => absurd c (by decide)⟩
    refine c_refusal (M := 99) (T := 1) h.cnt h.hB (by decide) (by decide) hw.co.cf (fun e => ?_) (fun n hn e s => ?_) (fun n hn e s l => ?_) (fun n hn e s l => ?_)
    · first | refine ⟨fun c => absurd c (by decide), fun _ => ?_⟩ | refine ⟨fun _ => ?_, fun c => absurd c (by decide)⟩
      unfold pX10_turns_
      refine m_sigY hN hM ha ?_
      first | refine ⟨fun c => absurd c (by decide), fun _ => ?_⟩ | refine ⟨fun _ => ?_, fun c => absurd c (by decide)⟩
      refine inN (fun c => e ((up_iff (M := 99) (by decide) x2).mp c)) ?_
      first | refine ⟨fun c => absurd c (by decide), fun _ => ?_⟩ | refine ⟨fun _ => ?_, fun c => absurd c (by decide)⟩
      exact ⟨rfl, hInv⟩
    · first | refine ⟨fun c => absurd c (by decide), fun _ => ?_⟩ | refine ⟨fun _ => ?_, fun c => absurd c (by decide)⟩
      unfold pX10_turns_
      refine m_sigY hN hM ha ?_
      first | refine ⟨fun c => absurd c (by decide), fun _ => ?_⟩ | refine ⟨fun _ => ?_, fun c => absurd c (by decide)⟩
      refine inY ((up_iff (M := 99) (by decide) x2).mpr ⟨n, hn, e⟩) ?_
      first | refine ⟨fun c => absurd c (by decide), fun _ => ?_⟩ | refine ⟨fun _ => ?_, fun c => absurd c (by decide)⟩
      rw [m0]
      exact ⟨fun c => absurd s c, fun _ => ⟨rfl, hInv⟩⟩
    · first | refine ⟨fun c => absurd c (by decide), fun _ => ?_⟩ | refine ⟨fun _ => ?_, fun c => absurd c (by decide)⟩
      unfold pX10_turns_
      refine m_sigY hN hM ha ?_
      first | refine ⟨fun c => absurd c (by decide), fun _ => ?_⟩ | refine ⟨fun _ => ?_, fun c => absurd c (by decide)⟩
      refine inY ((up_iff (M := 99) (by decide) x2).mpr ⟨n, hn, e⟩) ?_
      first | refine ⟨fun c => absurd c (by decide), fun _ => ?_⟩ | refine ⟨fun _ => ?_, fun c => absurd c (by decide)⟩
      rw [m0]
      refine ⟨fun _ => ?_, fun c => absurd c s⟩
      subst e
      refine m_counts h.cntM h.hB (by omega) (fun l2 => absurd (by omega) l) (fun _ => ?_)
      first | refine ⟨fun c => absurd c (by decide), fun _ => ?_⟩ | refine ⟨fun _ => ?_, fun c => absurd c (by decide)⟩
      exact ⟨rfl, hInv⟩
    · first | refine ⟨fun c => absurd c (by decide), fun _ => ?_⟩ | refine ⟨fun _ => ?_, fun c => absurd c (by decide)⟩
      subst e
      rw [Nat.mul_one] at l ⊢
      have hs : A 0 0 2 = 1 := hw.ci.st.elim (fun q => absurd q s) (fun q => q.1)
      have h2 := h.count (B2 := B + n) (by omega) l
      have w2 := h2.now
      have tb := hw.tb
      refine c_copyC hw.co hw.ci hw.tb' h.most.1 (fun c' j' s' p' r' co tb' _ => ?_)
      have cr := ClR.of hw.ci co.jr tb' h.tab
      refine ⟨n + 1, c_turns (C := vM 4) (by omega) ha cr n 0 (by omega) (by omega) co hw.ci hs (fun c3 s3 p3 r3 hr3 => ?_)⟩
      unfold pX10_turns_
      refine m_sigY hN hM ha ?_
      first | refine ⟨fun c => absurd c (by decide), fun _ => ?_⟩ | refine ⟨fun _ => ?_, fun c => absurd c (by decide)⟩
      refine inY ((up_iff (M := 99) (by decide) _).mpr ⟨n, hn, rfl⟩) ?_
      first | refine ⟨fun c => absurd c (by decide), fun _ => ?_⟩ | refine ⟨fun _ => ?_, fun c => absurd c (by decide)⟩
      rw [m0]
      refine ⟨fun _ => ?_, fun c => absurd c s⟩
      refine m_counts h.cntM h.hB (by omega) (fun l2 => ?_) (fun c => absurd l c)
      first | refine ⟨fun c => absurd c (by decide), fun _ => ?_⟩ | refine ⟨fun _ => ?_, fun c => absurd c (by decide)⟩
      refine m_thinks (fun g hg => ⟨n + 2, un (P := fun z => pX10_turns__L56 (nI a) (nI n) _ (n + 2) z (-5) (nI 0)) (m_turnsL (by omega) ha n 0 (by omega) (t := t) (by omega) hw.ci hs (by rw [sa_ne _ _ (by decide)]; exact w2.ab) (fun S' => ?_))⟩)
      have e4 : sa (st vM 0 4 (nI (B + n))) 3 g 4 = vM 4 := (sa_ne _ _ (by decide)).trans (st_oth vM 4 _ (by decide))
      rw [e4]
      unfold pX10_turns__J103
      refine m_forgets (fun g2 hg2 => ?_)
      have bk := Bk.mk' hg hg2
      exact ⟨rfl, h2.back bk.o bk.e hr3⟩
  · first | refine ⟨fun c => absurd c (by decide), fun _ => ?_⟩ | refine ⟨fun _ => ?_, fun c => absurd c (by decide)⟩
    unfold pX10_turns_
    refine m_sigN hN hM e1 ?_
    first | refine ⟨fun c => absurd c (by decide), fun _ => ?_⟩ | refine ⟨fun _ => ?_, fun c => absurd c (by decide)⟩
    exact ⟨rfl, hInv⟩

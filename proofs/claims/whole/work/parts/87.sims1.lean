theorem m_sigY {N : Nat} (hN : N ≤ 8) {v : Lf} (h : v 1 13 = nI N) {a : Nat} (ha : a < N) {Q : Int32 → Prop} (q : Q 1) : pX10_isSignal v (nI a) Q := m_sig hN h (fun _ _ _ => q) (fun e => absurd ⟨a, ha, rfl⟩ e)
theorem m_sigN {N : Nat} (hN : N ≤ 8) {v : Lf} (h : v 1 13 = nI N) {x : Int32} (hx : ¬ ∃ a, a < N ∧ x = nI a) {Q : Int32 → Prop} (q : Q 0) : pX10_isSignal v x Q := m_sig hN h (fun a ha e => absurd ⟨a, ha, e⟩ hx) (fun _ => q)
theorem m_phY {K : Nat} (hK : K ≤ 6) {v : Lf} (h : v 1 14 = nI K) {a : Nat} (ha : a < K) {Q : Int32 → Prop} (q : Q 1) : pX10_isPhase v (nI a) Q := m_phs hK h (fun _ _ _ => q) (fun e => absurd ⟨a, ha, rfl⟩ e)
theorem m_phN {K : Nat} (hK : K ≤ 6) {v : Lf} (h : v 1 14 = nI K) {x : Int32} (hx : ¬ ∃ a, a < K ∧ x = nI a) {Q : Int32 → Prop} (q : Q 0) : pX10_isPhase v x Q := m_phs hK h (fun a ha e => absurd ⟨a, ha, e⟩ hx) (fun _ => q)
theorem inY {x l h : Int32} (e : l ≤ x ∧ x ≤ h) {Q : Int32 → Prop} (q : Q 1) : pX10_isIn x l h Q := w_inM (fun _ _ => q) (fun c => absurd e c)
theorem inN {x l h : Int32} (e : ¬ (l ≤ x ∧ x ≤ h)) {Q : Int32 → Prop} (q : Q 0) : pX10_isIn x l h Q := w_inM (fun a b => absurd ⟨a, b⟩ e) (fun _ => q)
theorem Wo.n13 {B t N K : Nat} {A : AS} {c j s p r w g n q : Lf} {S : Nat → Int32} (h : Wo B t N K A c j s p r w g n q S) : S 13 = nI N := (h.ab.gl (k := 13) (by decide)).trans h.ci.m
theorem Wo.n14 {B t N K : Nat} {A : AS} {c j s p r w g n q : Lf} {S : Nat → Int32} (h : Wo B t N K A c j s p r w g n q S) : S 14 = nI K := (h.ab.gl (k := 14) (by decide)).trans h.ci.k
theorem rd_at {v : Lf} {A : AS} (h : Ab (v 1) A) {a : Nat} (w : Nat) {Q : Int32 → Prop} (ha : a < 8) (hw : w < 24) (q : Q (A 1 a w)) : pX10_at v (nI a) (@OfNat.ofNat Int32 w _) Q :=
  un (P := fun v => pX10_at v (nI a) (@OfNat.ofNat Int32 w _) Q) (m_at h w ha hw q)
theorem rd_atn {v : Lf} {A : AS} (h : Ab (v 1) A) {a w : Nat} {Q : Int32 → Prop} (ha : a < 8) (hw : w < 24) (q : Q (A 1 a w)) : pX10_at v (nI a) (nI w) Q := rd_at h w ha hw q

theorem sim_clear : Sim_X9_clear Inv := by
  intro v vNc vNcj vNcs vNcp vNcr vNw vNg vNn vNq vIc vIcj vIcs vIcp vIcr vIw vIg vIn vIq vT vTj vTs vTp vTr vx vt gt vM gM hInv x1 x2
  obtain ⟨B, t, N, K, A, h⟩ := id hInv
  have hw := h.now
  have hN := hw.ci.hN
  have hK := hw.ci.hK
  have hM := hw.n13
  have hP := hw.n14
  unfold pX9_clear
  refine c_sig hN hw.co.jr (fun a ha ea => ?_) (fun e1 => ?_)
  · subst ea
    first | refine ⟨fun c => absurd c (by decide), fun _ => ?_⟩ | refine ⟨fun _ => ?_, fun c => absurd c (by decide)⟩
    refine c_sig hN hw.co.jr (fun b hb eb => ?_) (fun e2 => ?_)
    · subst eb
      first | refine ⟨fun c => absurd c (by decide), fun _ => ?_⟩ | refine ⟨fun _ => ?_, fun c => absurd c (by decide)⟩
      have fin : ∀ x, x = clrA A a b → pX10_clear vM (nI a) (nI b) (fun r' => x = r' ∧ Inv v vNc vNcj vNcs vNcp vNcr vNw vNg vNn vNq vIc vIcj vIcs vIcp vIcr vIw vIg vIn vIq vT vTj vTs vTp vTr vx vt gt vM gM) := by
        intro x hx
        unfold pX10_clear
        refine m_sigY hN hM ha ?_
        first | refine ⟨fun c => absurd c (by decide), fun _ => ?_⟩ | refine ⟨fun _ => ?_, fun c => absurd c (by decide)⟩
        refine m_sigY hN hM hb ?_
        first | refine ⟨fun c => absurd c (by decide), fun _ => ?_⟩ | refine ⟨fun _ => ?_, fun c => absurd c (by decide)⟩
        rw [ix8, nI_clamp (by omega), h.tab.cl a b ha hb]
        exact ⟨vp_in_nI (by omega) (by decide), hx, hInv⟩
      have cr := ClR.of hw.ci hw.co.jr hw.tb' h.tab
      refine c_meet (by omega) (by omega) (fun c => ?_) (fun c => ?_)
      · first | refine ⟨fun c => absurd c (by decide), fun _ => ?_⟩ | refine ⟨fun _ => ?_, fun c => absurd c (by decide)⟩
        refine (w_clearOf _ (by omega) _).mpr (fin _ ?_)
        rw [← (cr.yes a b ha hb c).1, h.tab.cl a b ha hb]
      · first | refine ⟨fun c => absurd c (by decide), fun _ => ?_⟩ | refine ⟨fun _ => ?_, fun c => absurd c (by decide)⟩
        refine fin _ ?_
        rw [← h.tab.cl a b ha hb, cr.no a b ha hb c]
    · first | refine ⟨fun c => absurd c (by decide), fun _ => ?_⟩ | refine ⟨fun _ => ?_, fun c => absurd c (by decide)⟩
      unfold pX10_clear
      refine m_sigY hN hM ha ?_
      first | refine ⟨fun c => absurd c (by decide), fun _ => ?_⟩ | refine ⟨fun _ => ?_, fun c => absurd c (by decide)⟩
      refine m_sigN hN hM e2 ?_
      first | refine ⟨fun c => absurd c (by decide), fun _ => ?_⟩ | refine ⟨fun _ => ?_, fun c => absurd c (by decide)⟩
      exact ⟨rfl, hInv⟩
  · first | refine ⟨fun c => absurd c (by decide), fun _ => ?_⟩ | refine ⟨fun _ => ?_, fun c => absurd c (by decide)⟩
    unfold pX10_clear
    refine m_sigN hN hM e1 ?_
    first | refine ⟨fun c => absurd c (by decide), fun _ => ?_⟩ | refine ⟨fun _ => ?_, fun c => absurd c (by decide)⟩
    exact ⟨rfl, hInv⟩
theorem sim_narrow : Sim_X9_narrow Inv := by
  intro v vNc vNcj vNcs vNcp vNcr vNw vNg vNn vNq vIc vIcj vIcs vIcp vIcr vIw vIg vIn vIq vT vTj vTs vTp vTr vx vt gt vM gM hInv x1 x2
  obtain ⟨B, t, N, K, A, h⟩ := id hInv
  have hw := h.now
  have hN := hw.ci.hN
  have hK := hw.ci.hK
  have hM := hw.n13
  have hP := hw.n14
  unfold pX9_narrow
  refine c_sig hN hw.co.jr (fun a ha ea => ?_) (fun e1 => ?_)
  · subst ea
    first | refine ⟨fun c => absurd c (by decide), fun _ => ?_⟩ | refine ⟨fun _ => ?_, fun c => absurd c (by decide)⟩
    refine c_sig hN hw.co.jr (fun b hb eb => ?_) (fun e2 => ?_)
    · subst eb
      first | refine ⟨fun c => absurd c (by decide), fun _ => ?_⟩ | refine ⟨fun _ => ?_, fun c => absurd c (by decide)⟩
      have e : nI a * (8 : Int32) + nI b = nI (a * 8 + b) := by
        show nI a * nI 8 + nI b = _
        rw [pk_mul, nI_add]
      rw [e, nI_clamp (by omega)]
      refine ⟨vp_in_nI (by omega) (by decide), ?_⟩
      unfold pX10_narrow
      refine m_sigY hN hM ha ?_
      first | refine ⟨fun c => absurd c (by decide), fun _ => ?_⟩ | refine ⟨fun _ => ?_, fun c => absurd c (by decide)⟩
      refine m_sigY hN hM hb ?_
      first | refine ⟨fun c => absurd c (by decide), fun _ => ?_⟩ | refine ⟨fun _ => ?_, fun c => absurd c (by decide)⟩
      rw [ix8, nI_clamp (by omega), h.tab.na a b ha hb, hw.tb'.nar a b ha hb]
      exact ⟨vp_in_nI (by omega) (by decide), rfl, hInv⟩
    · first | refine ⟨fun c => absurd c (by decide), fun _ => ?_⟩ | refine ⟨fun _ => ?_, fun c => absurd c (by decide)⟩
      unfold pX10_narrow
      refine m_sigY hN hM ha ?_
      first | refine ⟨fun c => absurd c (by decide), fun _ => ?_⟩ | refine ⟨fun _ => ?_, fun c => absurd c (by decide)⟩
      refine m_sigN hN hM e2 ?_
      first | refine ⟨fun c => absurd c (by decide), fun _ => ?_⟩ | refine ⟨fun _ => ?_, fun c => absurd c (by decide)⟩
      exact ⟨rfl, hInv⟩
  · first | refine ⟨fun c => absurd c (by decide), fun _ => ?_⟩ | refine ⟨fun _ => ?_, fun c => absurd c (by decide)⟩
    unfold pX10_narrow
    refine m_sigN hN hM e1 ?_
    first | refine ⟨fun c => absurd c (by decide), fun _ => ?_⟩ | refine ⟨fun _ => ?_, fun c => absurd c (by decide)⟩
    exact ⟨rfl, hInv⟩
theorem sim_way : Sim_X9_way Inv := by
  intro v vNc vNcj vNcs vNcp vNcr vNw vNg vNn vNq vIc vIcj vIcs vIcp vIcr vIw vIg vIn vIq vT vTj vTs vTp vTr vx vt gt vM gM hInv x1 x2
  obtain ⟨B, t, N, K, A, h⟩ := id hInv
  have hw := h.now
  have hN := hw.ci.hN
  have hK := hw.ci.hK
  have hM := hw.n13
  have hP := hw.n14
  unfold pX9_way
  refine c_sig hN hw.co.jr (fun a ha ea => ?_) (fun e1 => ?_)
  · subst ea
    first | refine ⟨fun c => absurd c (by decide), fun _ => ?_⟩ | refine ⟨fun _ => ?_, fun c => absurd c (by decide)⟩
    rw [nI_clamp (by omega), hw.co.jr.len a ha]
    obtain ⟨l1, l2, l3⟩ := len_ok hw.ci ha
    have key : ∀ {Q : Int32 → Prop}, (∀ i, i < lenA A a → x2 = nI i → Q 1) → ((¬ ∃ i, i < lenA A a ∧ x2 = nI i) → Q 0) → pX9_within x2 0 (A 1 a 11 - 1) Q := by
      intro Q q1 q0
      rw [l3]
      refine w_in (fun c1 c2 => ?_) (fun c => q0 (fun e => c ((sg_iff (by omega) x2).mpr e)))
      obtain ⟨i, hi, e⟩ := (sg_iff (by omega) x2).mp ⟨c1, c2⟩
      exact q1 i hi e
    refine ⟨vp_in_nI (by omega) (by decide), key (fun i hi ei => ?_) (fun e2 => ?_)⟩
    · subst ei
      first | refine ⟨fun c => absurd c (by decide), fun _ => ?_⟩ | refine ⟨fun _ => ?_, fun c => absurd c (by decide)⟩
      refine (w_cellAt _ (by omega) _).mpr ?_
      rw [hw.co.jr.cell a ha i (by omega) (by rw [l3]; exact (nlt (by omega) (by omega)).mpr hi)]
      unfold pX10_way
      refine m_sigY hN hM ha ?_
      first | refine ⟨fun c => absurd c (by decide), fun _ => ?_⟩ | refine ⟨fun _ => ?_, fun c => absurd c (by decide)⟩
      refine rd_at hw.ab 11 (by omega) (by decide) (inY ?_ ?_)
      · rw [l3]; exact (sg_iff (by omega) _).mpr ⟨i, hi, rfl⟩
      · first | refine ⟨fun c => absurd c (by decide), fun _ => ?_⟩ | refine ⟨fun _ => ?_, fun c => absurd c (by decide)⟩
        rw [show (12 : Int32) + nI i = nI (12 + i) from nI_add 12 i]
        exact rd_atn hw.ab (by omega) (by omega) ⟨rfl, hInv⟩
    · first | refine ⟨fun c => absurd c (by decide), fun _ => ?_⟩ | refine ⟨fun _ => ?_, fun c => absurd c (by decide)⟩
      unfold pX10_way
      refine m_sigY hN hM ha ?_
      first | refine ⟨fun c => absurd c (by decide), fun _ => ?_⟩ | refine ⟨fun _ => ?_, fun c => absurd c (by decide)⟩
      refine rd_at hw.ab 11 (by omega) (by decide) (inN ?_ ?_)
      · rw [l3]; exact fun e => e2 ((sg_iff (by omega) _).mp e)
      · first | refine ⟨fun c => absurd c (by decide), fun _ => ?_⟩ | refine ⟨fun _ => ?_, fun c => absurd c (by decide)⟩
        exact ⟨rfl, hInv⟩
  · first | refine ⟨fun c => absurd c (by decide), fun _ => ?_⟩ | refine ⟨fun _ => ?_, fun c => absurd c (by decide)⟩
    unfold pX10_way
    refine m_sigN hN hM e1 ?_
    first | refine ⟨fun c => absurd c (by decide), fun _ => ?_⟩ | refine ⟨fun _ => ?_, fun c => absurd c (by decide)⟩
    exact ⟨rfl, hInv⟩
theorem sim_count : Sim_X9_count Inv := by
  intro v vNc vNcj vNcs vNcp vNcr vNw vNg vNn vNq vIc vIcj vIcs vIcp vIcr vIw vIg vIn vIq vT vTj vTs vTp vTr vx vt gt vM gM hInv x1
  obtain ⟨B, t, N, K, A, h⟩ := id hInv
  have hw := h.now
  have hN := hw.ci.hN
  have hK := hw.ci.hK
  have hM := hw.n13
  have hP := hw.n14
  unfold pX9_count pX10_count
  rw [h.txt.n, hw.nt.n, hw.pl.n, hw.gt.n, hw.wv.n, hw.wv.rd, hw.co.rr.n, h.cnt, h.cntM, hw.ab.gl (k := 19) (by decide), hw.ab.gl (k := 20) (by decide), hw.ab.gl (k := 18) (by decide), hw.ab.gl (k := 17) (by decide), hw.ab.gl (k := 15) (by decide), hw.ab.gl (k := 16) (by decide)]
  by_cases c0 : x1 = 0
  · simp [c0, hInv]
  by_cases c1 : x1 = 1
  · simp [c1, hInv]
  by_cases c2 : x1 = 2
  · simp [c2, hInv]
  by_cases c3 : x1 = 3
  · simp [c3, hInv]
  by_cases c4 : x1 = 4
  · simp [c4, hInv]
  by_cases c5 : x1 = 5
  · simp [c5, hInv]
  by_cases c6 : x1 = 6
  · simp [c6, hInv]
  by_cases c7 : x1 = 7
  · simp [c7, hInv]
  · simp [c0, c1, c2, c3, c4, c5, c6, c7, hInv]

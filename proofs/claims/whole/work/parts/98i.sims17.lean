def okw (R k : Nat) (x : Int32) : Prop := (k = 0 ∧ ∃ q, q < R ∧ x = nI q) ∨ (k = 1 ∧ ∃ q, 1 ≤ q ∧ q ≤ R ∧ x = nI q) ∨ (k = 2 ∧ qb x 99)
theorem ok_in {R k : Nat} (hR : R < 2 ^ 20) (hk : k < 3) {x : Int32} {Q : Int32 → Prop} (q1 : okw R k x → Q 1) (q0 : ¬ okw R k x → Q 0) : (k = 0 → pX9_within x 0 (nI R - 1) (fun r => narrow .boolean (.int r) = .int r ∧ Q r)) ∧ (k = 1 → pX9_within x 1 (nI R) (fun r => narrow .boolean (.int r) = .int r ∧ Q r)) ∧ (k = 2 → pX9_within x 0 99 (fun r => narrow .boolean (.int r) = .int r ∧ Q r)) := by
  refine ⟨fun e => ?_, fun e => ?_, fun e => ?_⟩
  · subst e
    have i := sg_iff (N := R) (by omega) x
    refine w_in (fun c1 c2 => ⟨rfl, q1 (.inl ⟨rfl, i.mp ⟨c1, c2⟩⟩)⟩) (fun c => ⟨rfl, q0 (fun e => c (i.mpr ?_))⟩)
    rcases e with e | e | e
    · exact e.2
    · exact absurd e.1 (by decide)
    · exact absurd e.1 (by decide)
  · subst e
    have i := bd_iff (l := 1) (h := R) (by decide) (by omega) x
    refine w_in (fun c1 c2 => ⟨rfl, q1 (.inr (.inl ⟨rfl, i.mp ⟨c1, c2⟩⟩))⟩) (fun c => ⟨rfl, q0 (fun e => c (i.mpr ?_))⟩)
    rcases e with e | e | e
    · exact absurd e.1 (by decide)
    · exact e.2
    · exact absurd e.1 (by decide)
  · subst e
    have i := up_iff (M := 99) (by decide) x
    refine w_in (fun c1 c2 => ⟨rfl, q1 (.inr (.inr ⟨rfl, i.mp ⟨c1, c2⟩⟩))⟩) (fun c => ⟨rfl, q0 (fun e => c (i.mpr ?_))⟩)
    rcases e with e | e | e
    · exact absurd e.1 (by decide)
    · exact absurd e.1 (by decide)
    · exact e.2
theorem c_allows {w : Lf} {R k : Nat} (hw : w 0 0 = nI R) (hR : R < 2 ^ 20) (hk : k < 3) {x : Int32} {Q : Int32 → Prop} (q1 : okw R k x → Q 1) (q0 : ¬ okw R k x → Q 0) : pX7_allows w (nI k) x Q := by
  obtain ⟨a, b, c⟩ := ok_in hR hk q1 q0
  unfold pX7_allows
  rw [hw]
  rcases (show k = 0 ∨ k = 1 ∨ k = 2 by omega) with e | e | e
  · have := a e
    subst e
    first | refine ⟨fun c => absurd c (by decide), fun _ => ?_⟩ | refine ⟨fun _ => ?_, fun c => absurd c (by decide)⟩
    exact this
  · have := b e
    subst e
    first | refine ⟨fun c => absurd c (by decide), fun _ => ?_⟩ | refine ⟨fun _ => ?_, fun c => absurd c (by decide)⟩
    first | refine ⟨fun c => absurd c (by decide), fun _ => ?_⟩ | refine ⟨fun _ => ?_, fun c => absurd c (by decide)⟩
    exact this
  · have := c e
    subst e
    first | refine ⟨fun c => absurd c (by decide), fun _ => ?_⟩ | refine ⟨fun _ => ?_, fun c => absurd c (by decide)⟩
    first | refine ⟨fun c => absurd c (by decide), fun _ => ?_⟩ | refine ⟨fun _ => ?_, fun c => absurd c (by decide)⟩
    exact this
theorem m_mayBe {v : Lf} {R k : Nat} (hw : v 1 16 = nI R) (hR : R < 2 ^ 20) (hk : k < 3) {x : Int32} {Q : Int32 → Prop} (q1 : okw R k x → Q 1) (q0 : ¬ okw R k x → Q 0) : pX10_mayBe v (nI k) x Q := by
  obtain ⟨a, b, c⟩ := ok_in hR hk q1 q0
  unfold pX10_mayBe
  rw [hw]
  rcases (show k = 0 ∨ k = 1 ∨ k = 2 by omega) with e | e | e
  · have := a e
    subst e
    first | refine ⟨fun c => absurd c (by decide), fun _ => ?_⟩ | refine ⟨fun _ => ?_, fun c => absurd c (by decide)⟩
    exact this
  · have := b e
    subst e
    first | refine ⟨fun c => absurd c (by decide), fun _ => ?_⟩ | refine ⟨fun _ => ?_, fun c => absurd c (by decide)⟩
    first | refine ⟨fun c => absurd c (by decide), fun _ => ?_⟩ | refine ⟨fun _ => ?_, fun c => absurd c (by decide)⟩
    exact this
  · have := c e
    subst e
    first | refine ⟨fun c => absurd c (by decide), fun _ => ?_⟩ | refine ⟨fun _ => ?_, fun c => absurd c (by decide)⟩
    first | refine ⟨fun c => absurd c (by decide), fun _ => ?_⟩ | refine ⟨fun _ => ?_, fun c => absurd c (by decide)⟩
    exact this
theorem ix306 (p k : Nat) : (306 : Int32) + (3 : Int32) * nI p + nI k = nI (306 + 3 * p + k) := by
  show nI 306 + nI 3 * nI p + nI k = _
  rw [pk_mul, nI_add, nI_add]
theorem w_row {w : Lf} {A : AS} (h : WvR w A) {R n : Nat} (hR : A 0 0 16 = nI R) (hR2 : R < 2 ^ 20) (hn : A 0 0 17 = nI n) (hn2 : n < 2 ^ 20) : 20 ≤ R ∧ R ≤ 60 ∧ n ≤ 5 ∧ ∀ i, i < n → ∀ k, k < 3 → w 1 (i * 3 + k) = A 4 i k ∧ okw R k (A 4 i k) := by
  obtain ⟨R', a, b, c, n', d, e, f⟩ := h.rdok
  have e1 : R' = R := nI_inj (by omega) (by omega) (c.symm.trans hR)
  have e2 : n' = n := nI_inj (by omega) (by omega) (e.symm.trans hn)
  subst e1 e2
  refine ⟨a, b, d, fun i hi k hk => ?_⟩
  obtain ⟨g1, g2, g3, g4⟩ := f i hi
  refine ⟨g1 k hk, ?_⟩
  rcases (show k = 0 ∨ k = 1 ∨ k = 2 by omega) with rfl | rfl | rfl
  · exact .inl ⟨rfl, g2⟩
  · exact .inr (.inl ⟨rfl, g3⟩)
  · exact .inr (.inr ⟨rfl, g4⟩)
theorem w_mk {w : Lf} {A : AS} {R n : Nat} (h1 : 20 ≤ R) (h2 : R ≤ 60) (hn : n ≤ 5) (a : A 0 0 16 = nI R) (b : A 0 0 17 = nI n) (c : w 0 0 = nI R) (d : w 0 1 = nI n) (e : ∀ i, i < n → ∀ k, k < 3 → w 1 (i * 3 + k) = A 4 i k ∧ okw R k (A 4 i k)) : WvR w A := by
  refine ⟨c.trans a.symm, d.trans b.symm, R, h1, h2, a, n, hn, b, fun i hi => ⟨fun k hk => (e i hi k hk).1, ?_, ?_, ?_⟩⟩
  · rcases (e i hi 0 (by decide)).2 with x | x | x
    · exact x.2
    · exact absurd x.1 (by decide)
    · exact absurd x.1 (by decide)
  · rcases (e i hi 1 (by decide)).2 with x | x | x
    · exact absurd x.1 (by decide)
    · exact x.2
    · exact absurd x.1 (by decide)
  · rcases (e i hi 2 (by decide)).2 with x | x | x
    · exact absurd x.1 (by decide)
    · exact absurd x.1 (by decide)
    · exact x.2
theorem m_node {v : Lf} {n : Nat} (hn : n ≤ 5) (h : v 1 17 = nI n) {x : Int32} {Q : Int32 → Prop} (q1 : ∀ k, k < n → x = nI k → Q 1) (q0 : (¬ ∃ k, k < n ∧ x = nI k) → Q 0) : pX10_isNode v x Q := by
  unfold pX10_isNode
  rw [h]
  have i := sg_iff (N := n) (by omega) x
  refine w_inM (fun c1 c2 => ⟨rfl, ?_⟩) (fun c => ⟨rfl, q0 (fun e => c (i.mpr e))⟩)
  obtain ⟨k, hk, e⟩ := i.mp ⟨c1, c2⟩
  exact q1 k hk e

theorem sim_change : Sim_X9_change Inv := by
  intro v vNc vNcj vNcs vNcp vNcr vNw vNg vNn vNq vIc vIcj vIcs vIcp vIcr vIw vIg vIn vIq vT vTj vTs vTp vTr vx vt gt vM gM hInv x1 x2 x3
  obtain ⟨B, t, N, K, A, h⟩ := id hInv
  have hw := h.now
  have hN := hw.ci.hN
  have hK := hw.ci.hK
  have hM := hw.n13
  have hP := hw.n14
  obtain ⟨R, r1, r2, er, n, hn, en, _⟩ := hw.wv.rdok
  obtain ⟨_, _, _, row⟩ := w_row hw.wv er (by omega) en (by omega)
  have w0 : vNw 0 0 = nI R := hw.wv.rd.trans er
  have w1 : vNw 0 1 = nI n := hw.wv.n.trans en
  have m16 : vM 1 16 = nI R := (hw.ab.gl (k := 16) (by decide)).trans er
  have m17 : vM 1 17 = nI n := (hw.ab.gl (k := 17) (by decide)).trans en
  unfold pX9_change
  rw [w1]
  have ii := sg_iff (N := n) (by omega) x1
  refine w_in (fun c1 c2 => ?_) (fun c => ?_)
  · first | refine ⟨fun c => absurd c (by decide), fun _ => ?_⟩ | refine ⟨fun _ => ?_, fun c => absurd c (by decide)⟩
    obtain ⟨i, hi, rfl⟩ := ii.mp ⟨c1, c2⟩
    refine w_in (fun d1 d2 => ?_) (fun d => ?_)
    · first | refine ⟨fun c => absurd c (by decide), fun _ => ?_⟩ | refine ⟨fun _ => ?_, fun c => absurd c (by decide)⟩
      obtain ⟨k, hk, rfl⟩ := (up_iff (M := 2) (by decide) x2).mp ⟨d1, d2⟩
      have pre : ∀ Q : Int32 → Lf → Prop, pX10_mayBe vM (nI k) x3 (fun r5 => ((¬ r5 = 0 → (vp_in (((306 : Int32) + ((3 : Int32) * nI i)) + nI k) 372 ∧ (vp_in (((306 : Int32) + ((3 : Int32) * nI i)) + nI k) 372 ∧ (Q (vM 1 (((306 : Int32) + ((3 : Int32) * nI i)) + nI k).toNatClampNeg) (st vM 1 ((((306 : Int32) + ((3 : Int32) * nI i)) + nI k).toNatClampNeg) x3))))) ∧ (r5 = 0 → (Q (-2 : Int32) vM)))) → pX10_change vM (nI i) (nI k) x3 Q := by
        intro Q hq
        unfold pX10_change
        refine m_node hn m17 (fun _ _ _ => ?_) (fun e => absurd ⟨i, hi, rfl⟩ e)
        first | refine ⟨fun c => absurd c (by decide), fun _ => ?_⟩ | refine ⟨fun _ => ?_, fun c => absurd c (by decide)⟩
        refine inY ⟨d1, d2⟩ ?_
        first | refine ⟨fun c => absurd c (by decide), fun _ => ?_⟩ | refine ⟨fun _ => ?_, fun c => absurd c (by decide)⟩
        exact hq
      refine c_allows w0 (by omega) (by omega) (fun g => ?_) (fun g => ?_)
      · first | refine ⟨fun c => absurd c (by decide), fun _ => ?_⟩ | refine ⟨fun _ => ?_, fun c => absurd c (by decide)⟩
        unfold pX7_at pX7_put
        rw [ix3, nI_clamp (by omega), (row i hi k (by omega)).1]
        refine ⟨vp_in_nI (by omega) (by decide), vp_in_nI (by omega) (by decide), pre _ (m_mayBe m16 (by omega) (by omega) (fun _ => ?_) (fun e => absurd g e))⟩
        first | refine ⟨fun c => absurd c (by decide), fun _ => ?_⟩ | refine ⟨fun _ => ?_, fun c => absurd c (by decide)⟩
        rw [ix306, nI_clamp (by omega), show vM 1 (306 + 3 * i + k) = A 4 i k from hw.ab 4 i k ⟨by omega, by omega⟩, st_sa vM]
        refine ⟨vp_in_nI (by omega) (by decide), vp_in_nI (by omega) (by decide), rfl, ?_⟩
        refine h.nowC (t' := t) (N' := N) (K' := K) (A' := U A 4 i k x3) (hw.side (hw.ab.up (x := 4) (i := i) (k := k) ⟨by omega, by omega⟩ x3) (by simp [U_ne]) (by simp [U_ne]) (by simp [U_ne]) (fun z hz => by simp [U_at]) (w_mk r1 r2 hn (by simp [U_at, er]) (by simp [U_at, en]) (by simp [st_at, w0]) (by simp [st_at, w1]) (fun j hj z hz => ?_)) (hw.gt.fr (by simp [U_at]) (by simp [U_ne])) (hw.nt.fr (by simp [U_at]) (by simp [U_ne])) (hw.pl.fr (by simp [U_at]) (by simp [U_ne]))) (h.tab.fr hw.ci (fun a _ w _ => by simp [U_at]) (by simp [U_at]))
        rw [st_at, U_at]
        by_cases e : j = i ∧ z = k
        · rw [if_pos (by omega), if_pos (by omega)]
          exact ⟨rfl, e.2 ▸ g⟩
        · rw [if_neg (by omega), if_neg (by omega)]
          exact row j hj z hz
      · first | refine ⟨fun c => absurd c (by decide), fun _ => ?_⟩ | refine ⟨fun _ => ?_, fun c => absurd c (by decide)⟩
        refine pre _ (m_mayBe m16 (by omega) (by omega) (fun e => absurd e g) (fun _ => ?_))
        first | refine ⟨fun c => absurd c (by decide), fun _ => ?_⟩ | refine ⟨fun _ => ?_, fun c => absurd c (by decide)⟩
        exact ⟨rfl, hInv⟩
    · first | refine ⟨fun c => absurd c (by decide), fun _ => ?_⟩ | refine ⟨fun _ => ?_, fun c => absurd c (by decide)⟩
      unfold pX10_change
      refine m_node hn m17 (fun _ _ _ => ?_) (fun e => absurd ⟨i, hi, rfl⟩ e)
      first | refine ⟨fun c => absurd c (by decide), fun _ => ?_⟩ | refine ⟨fun _ => ?_, fun c => absurd c (by decide)⟩
      refine inN d ?_
      first | refine ⟨fun c => absurd c (by decide), fun _ => ?_⟩ | refine ⟨fun _ => ?_, fun c => absurd c (by decide)⟩
      exact ⟨rfl, hInv⟩
  · first | refine ⟨fun c => absurd c (by decide), fun _ => ?_⟩ | refine ⟨fun _ => ?_, fun c => absurd c (by decide)⟩
    unfold pX10_change
    refine m_node hn m17 (fun k hk ek => absurd (ii.mpr ⟨k, hk, ek⟩) c) (fun _ => ?_)
    first | refine ⟨fun c => absurd c (by decide), fun _ => ?_⟩ | refine ⟨fun _ => ?_, fun c => absurd c (by decide)⟩
    exact ⟨rfl, hInv⟩
theorem sim_node : Sim_X9_node Inv := by
  intro v vNc vNcj vNcs vNcp vNcr vNw vNg vNn vNq vIc vIcj vIcs vIcp vIcr vIw vIg vIn vIq vT vTj vTs vTp vTr vx vt gt vM gM hInv x1 x2 x3
  obtain ⟨B, t, N, K, A, h⟩ := id hInv
  have hw := h.now
  have hN := hw.ci.hN
  have hK := hw.ci.hK
  have hM := hw.n13
  have hP := hw.n14
  obtain ⟨R, r1, r2, er, n, hn, en, _⟩ := hw.wv.rdok
  obtain ⟨_, _, _, row⟩ := w_row hw.wv er (by omega) en (by omega)
  have w0 : vNw 0 0 = nI R := hw.wv.rd.trans er
  have w1 : vNw 0 1 = nI n := hw.wv.n.trans en
  have m16 : vM 1 16 = nI R := (hw.ab.gl (k := 16) (by decide)).trans er
  have m17 : vM 1 17 = nI n := (hw.ab.gl (k := 17) (by decide)).trans en
  unfold pX9_node
  refine c_allows (k := 0) w0 (by omega) (by decide) (fun g0 => ?_) (fun g => ?_)
  · first | refine ⟨fun c => absurd c (by decide), fun _ => ?_⟩ | refine ⟨fun _ => ?_, fun c => absurd c (by decide)⟩
    refine c_allows (k := 1) w0 (by omega) (by decide) (fun g1 => ?_) (fun g => ?_)
    · first | refine ⟨fun c => absurd c (by decide), fun _ => ?_⟩ | refine ⟨fun _ => ?_, fun c => absurd c (by decide)⟩
      refine c_allows (k := 2) w0 (by omega) (by decide) (fun g2 => ?_) (fun g => ?_)
      · first | refine ⟨fun c => absurd c (by decide), fun _ => ?_⟩ | refine ⟨fun _ => ?_, fun c => absurd c (by decide)⟩
        rw [w1]
        have head : ∀ Q : Int32 → Lf → Prop, ((¬ (vM 1 17) = (5 : Int32) → (vp_in ((306 : Int32) + ((3 : Int32) * (vM 1 17))) 372 ∧ (vp_in (((306 : Int32) + ((3 : Int32) * (vM 1 17))) + (1 : Int32)) 372 ∧ (vp_in (((306 : Int32) + ((3 : Int32) * (vM 1 17))) + (2 : Int32)) 372 ∧ (Q (((st (st (st (st vM 1 (((306 : Int32) + ((3 : Int32) * (vM 1 17))).toNatClampNeg) x1) 1 ((((306 : Int32) + ((3 : Int32) * (vM 1 17))) + (1 : Int32)).toNatClampNeg) x2) 1 ((((306 : Int32) + ((3 : Int32) * (vM 1 17))) + (2 : Int32)).toNatClampNeg) x3) 1 17 (((st (st (st vM 1 (((306 : Int32) + ((3 : Int32) * (vM 1 17))).toNatClampNeg) x1) 1 ((((306 : Int32) + ((3 : Int32) * (vM 1 17))) + (1 : Int32)).toNatClampNeg) x2) 1 ((((306 : Int32) + ((3 : Int32) * (vM 1 17))) + (2 : Int32)).toNatClampNeg) x3) 1 17) + (1 : Int32))) 1 17) - (1 : Int32)) (st (st (st (st vM 1 (((306 : Int32) + ((3 : Int32) * (vM 1 17))).toNatClampNeg) x1) 1 ((((306 : Int32) + ((3 : Int32) * (vM 1 17))) + (1 : Int32)).toNatClampNeg) x2) 1 ((((306 : Int32) + ((3 : Int32) * (vM 1 17))) + (2 : Int32)).toNatClampNeg) x3) 1 17 (((st (st (st vM 1 (((306 : Int32) + ((3 : Int32) * (vM 1 17))).toNatClampNeg) x1) 1 ((((306 : Int32) + ((3 : Int32) * (vM 1 17))) + (1 : Int32)).toNatClampNeg) x2) 1 ((((306 : Int32) + ((3 : Int32) * (vM 1 17))) + (2 : Int32)).toNatClampNeg) x3) 1 17) + (1 : Int32)))))))) ∧ ((vM 1 17) = (5 : Int32) → (Q (-4 : Int32) vM))) → pX10_node vM x1 x2 x3 Q := by
          intro Q hq
          unfold pX10_node
          refine m_mayBe (k := 0) m16 (by omega) (by decide) (fun _ => ?_) (fun e => absurd g0 e)
          first | refine ⟨fun c => absurd c (by decide), fun _ => ?_⟩ | refine ⟨fun _ => ?_, fun c => absurd c (by decide)⟩
          refine m_mayBe (k := 1) m16 (by omega) (by decide) (fun _ => ?_) (fun e => absurd g1 e)
          first | refine ⟨fun c => absurd c (by decide), fun _ => ?_⟩ | refine ⟨fun _ => ?_, fun c => absurd c (by decide)⟩
          refine m_mayBe (k := 2) m16 (by omega) (by decide) (fun _ => ?_) (fun e => absurd g2 e)
          first | refine ⟨fun c => absurd c (by decide), fun _ => ?_⟩ | refine ⟨fun _ => ?_, fun c => absurd c (by decide)⟩
          exact hq
        refine ⟨fun l => ?_, fun l => head _ ⟨fun e => ?_, fun _ => ⟨rfl, hInv⟩⟩⟩
        · have l := (nlt (b := 5) (by omega) (by decide)).mp l
          unfold pX7_add pX7_put
          have e0 : nI n * (3 : Int32) + 0 = nI (n * 3 + 0) := ix3 n 0
          have e1 : nI n * (3 : Int32) + 1 = nI (n * 3 + 1) := ix3 n 1
          have e2 : nI n * (3 : Int32) + 2 = nI (n * 3 + 2) := ix3 n 2
          rw [w1, e0, e1, e2, nI_clamp (by omega), nI_clamp (by omega), nI_clamp (by omega)]
          refine ⟨vp_in_nI (by omega) (by decide), vp_in_nI (by omega) (by decide), vp_in_nI (by omega) (by decide), head _ ?_⟩
          rw [m17]
          have z0 : (306 : Int32) + (3 : Int32) * nI n = nI (306 + 3 * n) := by
            show nI 306 + nI 3 * nI n = _
            rw [pk_mul, nI_add]
          have z1 : (306 : Int32) + (3 : Int32) * nI n + 1 = nI (306 + 3 * n + 1) := ix306 n 1
          have z2 : (306 : Int32) + (3 : Int32) * nI n + 2 = nI (306 + 3 * n + 2) := ix306 n 2
          rw [z1, z2, z0, nI_clamp (by omega), nI_clamp (by omega), nI_clamp (by omega)]
          have q2 : st (st (st vM 1 (306 + 3 * n) x1) 1 (306 + 3 * n + 1) x2) 1 (306 + 3 * n + 2) x3 1 17 = nI n := by
            rw [st_at, if_neg (by omega), st_at, if_neg (by omega), st_at, if_neg (by omega), m17]
          rw [q2]
          refine ⟨fun _ => ⟨vp_in_nI (by omega) (by decide), vp_in_nI (by omega) (by decide), vp_in_nI (by omega) (by decide), ?_, ?_⟩, fun e => absurd (nI_inj (b := 5) (by omega) (by decide) e) (by omega)⟩
          · rw [st_at, if_pos ⟨rfl, rfl⟩, nI_s]
            exact (nI_pred n).symm
          · have hab1 := hw.ab.up (x := 4) (i := n) (k := 0) ⟨by omega, by decide⟩ x1
            have hab2 := hab1.up (x := 4) (i := n) (k := 1) ⟨by omega, by decide⟩ x2
            have hab3 := hab2.up (x := 4) (i := n) (k := 2) ⟨by omega, by decide⟩ x3
            have hab4 := hab3.ug (k := 17) (by decide) (nI n + 1)
            rw [st_sa vM, st_sa1, st_sa1, st_sa1]
            refine h.nowC (t' := t) (N' := N) (K' := K) (A' := U (U (U (U A 4 n 0 x1) 4 n 1 x2) 4 n 2 x3) 0 0 17 (nI n + 1)) (hw.side hab4 (by simp [U_ne]) (by simp [U_ne]) (by simp [U_ne]) (fun k hk => ?_) (w_mk (n := n + 1) r1 r2 (by omega) (by simp [U_at, er]) (by simp [U_at, nI_s]) (by simp [st_at, w0]) (by simp [st_at, w1, nI_s]) (fun j hj z hz => ?_)) (hw.gt.fr (by simp [U_at]) (by simp [U_ne])) (hw.nt.fr (by simp [U_at]) (by simp [U_ne])) (hw.pl.fr (by simp [U_at]) (by simp [U_ne]))) (h.tab.fr hw.ci (fun a _ w _ => by simp [U_at]) (by simp [U_at]))
            · rw [U_at, if_neg (by omega), U_at, if_neg (by omega), U_at, if_neg (by omega), U_at, if_neg (by omega)]
            · by_cases ej : j = n
              · subst ej
                rcases (show z = 0 ∨ z = 1 ∨ z = 2 by omega) with rfl | rfl | rfl
                · refine ⟨by simp [st_at, U_at], by simpa [U_at] using g0⟩
                · refine ⟨by simp [st_at, U_at], by simpa [U_at] using g1⟩
                · refine ⟨by simp [st_at, U_at], by simpa [U_at] using g2⟩
              · have := row j (by omega) z hz
                simp only [st_at, U_at]
                rw [if_neg (by omega), if_neg (by omega), if_neg (by omega), if_neg (by omega), if_neg (by omega), if_neg (by omega), if_neg (by omega), if_neg (by omega)]
                exact this
        · have : n < 5 := by
            rcases Nat.lt_or_ge n 5 with z | z
            · exact z
            · exact absurd (m17.trans (by rw [show n = 5 by omega]; rfl)) e
          exact absurd ((nlt (b := 5) (by omega) (by decide)).mpr this) l
      · first | refine ⟨fun c => absurd c (by decide), fun _ => ?_⟩ | refine ⟨fun _ => ?_, fun c => absurd c (by decide)⟩
        unfold pX10_node
        refine m_mayBe (k := 0) m16 (by omega) (by decide) (fun _ => ?_) (fun e => absurd g0 e)
        first | refine ⟨fun c => absurd c (by decide), fun _ => ?_⟩ | refine ⟨fun _ => ?_, fun c => absurd c (by decide)⟩
        refine m_mayBe (k := 1) m16 (by omega) (by decide) (fun _ => ?_) (fun e => absurd g1 e)
        first | refine ⟨fun c => absurd c (by decide), fun _ => ?_⟩ | refine ⟨fun _ => ?_, fun c => absurd c (by decide)⟩
        refine m_mayBe (k := 2) m16 (by omega) (by decide) (fun e => absurd e g) (fun _ => ?_)
        first | refine ⟨fun c => absurd c (by decide), fun _ => ?_⟩ | refine ⟨fun _ => ?_, fun c => absurd c (by decide)⟩
        exact ⟨rfl, hInv⟩
    · first | refine ⟨fun c => absurd c (by decide), fun _ => ?_⟩ | refine ⟨fun _ => ?_, fun c => absurd c (by decide)⟩
      unfold pX10_node
      refine m_mayBe (k := 0) m16 (by omega) (by decide) (fun _ => ?_) (fun e => absurd g0 e)
      first | refine ⟨fun c => absurd c (by decide), fun _ => ?_⟩ | refine ⟨fun _ => ?_, fun c => absurd c (by decide)⟩
      refine m_mayBe (k := 1) m16 (by omega) (by decide) (fun e => absurd e g) (fun _ => ?_)
      first | refine ⟨fun c => absurd c (by decide), fun _ => ?_⟩ | refine ⟨fun _ => ?_, fun c => absurd c (by decide)⟩
      exact ⟨rfl, hInv⟩
  · first | refine ⟨fun c => absurd c (by decide), fun _ => ?_⟩ | refine ⟨fun _ => ?_, fun c => absurd c (by decide)⟩
    unfold pX10_node
    refine m_mayBe (k := 0) m16 (by omega) (by decide) (fun e => absurd e g) (fun _ => ?_)
    first | refine ⟨fun c => absurd c (by decide), fun _ => ?_⟩ | refine ⟨fun _ => ?_, fun c => absurd c (by decide)⟩
    exact ⟨rfl, hInv⟩

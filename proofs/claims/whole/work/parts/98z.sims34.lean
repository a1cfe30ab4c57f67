theorem m_bnd {v : Lf} {A : AS} {R n : Nat} (h : Ab (v 1) A) (rw' : RW A R n) {x1 : Int32} {nd tv : Nat → Nat} (hd : (x1 = 0 ∧ (∀ i, nd i = i) ∧ ∀ i, tv i = trA A i) ∨ (¬ x1 = 0 ∧ (∀ i, nd i = n - 1 - i) ∧ ∀ i, tv i = trA A (n - 2 - i))) {Q : Int32 → Prop} (q : Q (nI (bnA A R n nd tv))) : pX10_bandOf v x1 Q := by
  have r1 := rw'.r1
  have r2 := rw'.r2
  have n5 := rw'.n5
  have e16 : v 1 16 = nI R := (h.gl (k := 16) (by decide)).trans rw'.e16
  have e17 : v 1 17 = nI n := (h.gl (k := 17) (by decide)).trans rw'.e17
  have ndl : ∀ i, i < n → nd i < n := fun i hi => by
    rcases hd with ⟨_, a, _⟩ | ⟨_, a, _⟩
    · rw [a]; exact hi
    · rw [a]; omega
  have tvl : ∀ i, i < n - 1 → tv i ≤ 99 := fun i hi => by
    rcases hd with ⟨_, _, a⟩ | ⟨_, _, a⟩
    · rw [a]; exact (rw'.tra (by omega)).2
    · rw [a]; exact (rw'.tra (by omega)).2
  unfold bnA at q
  by_cases c : n = 0
  · rw [if_pos c] at q
    refine ⟨1, hdG (i := 0) e16 (by omega) (by omega) ?_⟩
    rw [e17, c]
    exact ⟨fun _ => q, fun d => absurd ((nle (a := 0) (b := 0) (by decide) (by decide)).mpr (Nat.le_refl 0)) d⟩
  · rw [if_neg c] at q
    have I : ∀ (K4 : Int32 → Int32 → Prop) (x2 : Int32) (t : Nat), t < R → ∀ (k i : Nat) (x4 : Int32), i + k = n → V x4 (∀ m, m < i → opI R (ofA A (nd m)) (wiA A (nd m)) (t + sumN tv m)) → K4 (x2 + nI (gdA A R n nd tv t)) (nI (t + 1)) → pX10_bandOf_L34 v x1 Q K4 (k + 1) x2 (nI t) x4 (nI (t + sumN tv (i - 1))) (nI i) := by
      intro K4 x2 t ht k
      induction k with
      | zero =>
        intro i x4 hi hv kk
        have e : i = n := by omega
        subst e
        unfold gdA at kk
        refine hdE e17 rfl ⟨fun d => ?_, fun d => ?_⟩
        · unfold pX10_bandOf_J135
          rw [if_neg (hv.e.mp d)] at kk
          rw [nI_s]; exact kk
        · unfold pX10_bandOf_J135
          rw [if_pos (hv.ne.mp d)] at kk
          rw [nI_s]; exact kk
      | succ k ih =>
        intro i x4 hi hv kk
        have sm := tr_sum rw' (tv := tv) (i := i) (fun m hm => tvl m (by omega))
        have J : pX10_bandOf_J105 v x1 Q K4 (fun x2 x3 x4 x5 x6 => pX10_bandOf_L34 v x1 Q K4 (k + 1) x2 x3 x4 x5 x6) x2 (nI t) x4 (nI (t + sumN tv i)) (nI i) (nI (nd i)) := by
          unfold pX10_bandOf_J105
          refine m_isOpen h rw' (ndl i (by omega)) (by omega) (fun y hy => ?_)
          rw [nI_s]
          have := ih (i + 1) (x4 &&& y) (by omega) (hv.and hy ⟨fun a => ⟨fun m hm => a m (by omega), a i (by omega)⟩, fun a m hm => by
            by_cases e : m = i
            · subst e; exact a.2
            · exact a.1 m (by omega)⟩) kk
          rw [Nat.add_sub_cancel] at this
          exact this
        have J67 : pX10_bandOf_J67 v x1 Q K4 (fun x2 x3 x4 x5 x6 => pX10_bandOf_L34 v x1 Q K4 (k + 1) x2 x3 x4 x5 x6) x2 (nI t) x4 (nI (t + sumN tv (i - 1))) (nI i) (nI (nd i)) := by
          unfold pX10_bandOf_J67
          refine ⟨fun d => ?_, fun d => ?_⟩
          · have d := (nle (b := 0) (by omega) (by decide)).mp d
            have i0 : i = 0 := by omega
            subst i0
            exact J
          · have d := nle' (b := 0) (by omega) (by decide) d
            have i0 : i - 1 + 1 = i := by omega
            have s : sumN tv i = sumN tv (i - 1) + tv (i - 1) := by
              have := sum_s tv (i - 1)
              rw [i0] at this
              exact this
            rw [s, ← Nat.add_assoc] at J
            unfold pX10_bandOf_J97
            rcases hd with ⟨a0, a1, a2⟩ | ⟨a0, a1, a2⟩
            · refine ⟨fun d2 => absurd a0 d2, fun _ => ?_⟩
              have em : nI (nd i) - 1 = nI (i - 1) := by rw [a1]; exact nI_sub (a := i) (b := 1) (by omega)
              have ix : (306 : Int32) + (3 : Int32) * nI (i - 1) + 2 = nI (306 + 3 * (i - 1) + 2) := ix306 (i - 1) 2
              rw [em, ix, nI_clamp (by omega), show v 1 (306 + 3 * (i - 1) + 2) = nI (trA A (i - 1)) from (h 4 (i - 1) 2 ⟨by omega, by decide⟩).trans (rw'.tra (by omega)).1, nI_add, ← a2]
              exact ⟨vp_in_nI (by omega) (by decide), J⟩
            · refine ⟨fun _ => ?_, fun d2 => absurd d2 a0⟩
              have ix : (306 : Int32) + (3 : Int32) * nI (nd i) + 2 = nI (306 + 3 * nd i + 2) := ix306 (nd i) 2
              have nn := ndl i (by omega)
              have et : tv (i - 1) = trA A (nd i) := by rw [a2, a1]; congr 1; omega
              rw [ix, nI_clamp (by omega), show v 1 (306 + 3 * nd i + 2) = nI (trA A (nd i)) from (h 4 (nd i) 2 ⟨by omega, by decide⟩).trans (rw'.tra nn).1, nI_add, ← et]
              exact ⟨vp_in_nI (by omega) (by decide), J⟩
        refine hdG e17 (by omega) (by omega) ⟨fun d => ?_, fun d => ?_⟩
        · rcases hd with ⟨a0, _, _⟩ | ⟨_, a1, _⟩
          · exact absurd a0 d
          · have em : nI n - 1 - nI i = nI (nd i) := by
              rw [a1, show nI n - 1 = nI (n - 1) from nI_sub (a := n) (b := 1) (by omega), nI_sub (by omega)]
            rw [e17, em]
            exact J67
        · rcases hd with ⟨_, a1, _⟩ | ⟨a0, _, _⟩
          · rw [a1] at J67
            exact J67
          · exact absurd d a0
    have O : ∀ (k t x : Nat), t + k = R → Q (nI (lp (fun t x => x + gdA A R n nd tv t) k t x)) → pX10_bandOf_L4 v x1 Q (k + 1) (nI x) (nI t) := by
      intro k
      induction k with
      | zero =>
        intro t x ht q
        exact hdE e16 (by omega) q
      | succ k ih =>
        intro t x ht q
        rw [lp_succ] at q
        refine hdG e16 (by omega) (by omega) ?_
        rw [e17]
        refine ⟨fun d => absurd ((nle (b := 0) (by omega) (by decide)).mp d) (by omega), fun _ => ⟨n + 1, I _ (nI x) t (by omega) n 0 1 (by omega) (V.t (fun m hm => by omega)) ?_⟩⟩
        rw [nI_add]
        exact ih (t + 1) _ (by omega) q
    refine ⟨R + 1, O R 0 0 (by omega) ?_⟩
    rw [lp_sum0, Nat.zero_add]
    exact q
noncomputable def onA (A : AS) (R n : Nat) : Nat := bnA A R n (fun i => i) (trA A)
noncomputable def bkA (A : AS) (R n : Nat) : Nat := bnA A R n (fun i => n - 1 - i) (fun i => trA A (n - 2 - i))
theorem m_on {v : Lf} {A : AS} {R n : Nat} (h : Ab (v 1) A) (rw' : RW A R n) {Q : Int32 → Prop} (q : Q (nI (onA A R n))) : pX10_bandOf v 0 Q :=
  m_bnd h rw' (nd := fun i => i) (tv := trA A) (.inl ⟨rfl, fun _ => rfl, fun _ => rfl⟩) q
theorem m_bk {v : Lf} {A : AS} {R n : Nat} (h : Ab (v 1) A) (rw' : RW A R n) {x : Int32} (hx : ¬ x = 0) {Q : Int32 → Prop} (q : Q (nI (bkA A R n))) : pX10_bandOf v x Q :=
  m_bnd h rw' (nd := fun i => n - 1 - i) (tv := fun i => trA A (n - 2 - i)) (.inr ⟨hx, fun _ => rfl, fun _ => rfl⟩) q
theorem m_bands {v : Lf} {A : AS} {R n : Nat} (h : Ab (v 1) A) (rw' : RW A R n) {Q : Int32 → Prop} (q : Q (nI (onA A R n + bkA A R n))) : pX10_bands v Q := by
  refine m_on h rw' (m_bk h rw' (by decide) ?_)
  rw [nI_add]
  exact q
theorem c_bands {w : Lf} {A : AS} {R n : Nat} (h : WF w A R n) (rw' : RW A R n) {Q : Int32 → Prop} (q : Q (nI (onA A R n + bkA A R n))) : pX7_bothBands w Q := by
  refine c_on h rw' (c_back h rw' ?_)
  rw [nI_add]
  exact q
theorem RW.get {w : Lf} {A : AS} (h : WvR w A) : ∃ R n, RW A R n ∧ WF w A R n := by
  obtain ⟨R, r1, r2, er, n, hn, en, _⟩ := h.rdok
  obtain ⟨_, _, _, row⟩ := w_row h er (by omega) en (by omega)
  exact ⟨R, n, ⟨r1, r2, hn, er, en, fun i hi k hk => (row i hi k hk).2⟩, ⟨h.rd.trans er, h.n.trans en, fun i hi k hk => (row i hi k hk).1⟩⟩

theorem sim_band : Sim_X9_band Inv := by
  intro v vNc vNcj vNcs vNcp vNcr vNw vNg vNn vNq vIc vIcj vIcs vIcp vIcr vIw vIg vIn vIq vT vTj vTs vTp vTr vx vt gt vM gM hInv x1
  obtain ⟨B, t, N, K, A, h⟩ := id hInv
  have hw := h.now
  have hN := hw.ci.hN
  have hK := hw.ci.hK
  have hM := hw.n13
  have hP := hw.n14
  obtain ⟨R, n, rw', wf⟩ := RW.get hw.wv
  unfold pX9_band
  have in3 : ∀ k, k < 3 → x1 = nI k → (0 : Int32) ≤ x1 ∧ x1 ≤ 2 := fun k hk e => (up_iff (M := 2) (by decide) x1).mpr ⟨k, by omega, e⟩
  refine ⟨fun c0 => ?_, fun c0 => ⟨fun c1 => ?_, fun c1 => ⟨fun c2 => ?_, fun c2 => ?_⟩⟩⟩
  · refine c_on wf rw' ?_
    unfold pX10_band
    refine inY (in3 0 (by decide) c0) ?_
    first | refine ⟨fun c => absurd c (by decide), fun _ => ?_⟩ | refine ⟨fun _ => ?_, fun c => absurd c (by decide)⟩
    refine ⟨fun _ => ?_, fun e => absurd (c0.symm.trans e) (by decide)⟩
    rw [c0]
    exact m_on hw.ab rw' ⟨rfl, hInv⟩
  · refine c_back wf rw' ?_
    unfold pX10_band
    refine inY (in3 1 (by decide) c1) ?_
    first | refine ⟨fun c => absurd c (by decide), fun _ => ?_⟩ | refine ⟨fun _ => ?_, fun c => absurd c (by decide)⟩
    refine ⟨fun _ => ?_, fun e => absurd (c1.symm.trans e) (by decide)⟩
    exact m_bk hw.ab rw' c0 ⟨rfl, hInv⟩
  · refine c_bands wf rw' ?_
    unfold pX10_band
    refine inY (in3 2 (by decide) c2) ?_
    first | refine ⟨fun c => absurd c (by decide), fun _ => ?_⟩ | refine ⟨fun _ => ?_, fun c => absurd c (by decide)⟩
    refine ⟨fun e => absurd c2 e, fun _ => ?_⟩
    exact m_bands hw.ab rw' ⟨rfl, hInv⟩
  · unfold pX10_band
    refine inN (fun e => ?_) ?_
    · obtain ⟨k, hk, e⟩ := (up_iff (M := 2) (by decide) _).mp e
      rcases (show k = 0 ∨ k = 1 ∨ k = 2 by omega) with rfl | rfl | rfl
      · exact c0 e
      · exact c1 e
      · exact c2 e
    · first | refine ⟨fun c => absurd c (by decide), fun _ => ?_⟩ | refine ⟨fun _ => ?_, fun c => absurd c (by decide)⟩
      exact ⟨rfl, hInv⟩

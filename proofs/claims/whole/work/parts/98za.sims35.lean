theorem U_U (A : AS) (x i k : Nat) (y z : Int32) : U (U A x i k y) x i k z = U A x i k z := by
  funext a b c
  simp only [U_at]
  by_cases e : a = x ∧ b = i ∧ c = k
  · rw [if_pos e, if_pos e]
  · rw [if_neg e, if_neg e, if_neg e]
theorem RW.put {A : AS} {R n : Nat} (h : RW A R n) {k o : Nat} (ho : o < R) : RW (U A 4 k 0 (nI o)) R n := by
  refine ⟨h.r1, h.r2, h.n5, ?_, ?_, fun i hi j hj => ?_⟩
  · rw [U_at, if_neg (by omega)]; exact h.e16
  · rw [U_at, if_neg (by omega)]; exact h.e17
  · rw [U_at]
    by_cases c : i = k ∧ j = 0
    · rw [if_pos ⟨rfl, c⟩]; exact .inl ⟨c.2, o, ho, rfl⟩
    · rw [if_neg (fun e => c e.2)]; exact h.row i hi j hj
theorem WF.put {w : Lf} {A : AS} {R n : Nat} (h : WF w A R n) (k : Nat) (x : Int32) : WF (st w 1 (k * 3) x) (U A 4 k 0 x) R n := by
  refine ⟨?_, ?_, fun i hi j hj => ?_⟩
  · rw [st_at, if_neg (by omega)]; exact h.w0
  · rw [st_at, if_neg (by omega)]; exact h.w1
  · rw [st_at, U_at]
    by_cases c : i = k ∧ j = 0
    · rw [if_pos (by omega), if_pos ⟨rfl, c⟩]
    · rw [if_neg (by omega), if_neg (fun e => c e.2)]; exact h.at' i hi j hj
theorem WF.wv {w : Lf} {A : AS} {R n : Nat} (h : WF w A R n) (rw' : RW A R n) : WvR w A :=
  w_mk rw'.r1 rw'.r2 rw'.n5 rw'.e16 rw'.e17 h.w0 h.w1 (fun i hi k hk => ⟨h.at' i hi k hk, rw'.row i hi k hk⟩)
theorem c_wput {w : Lf} {k : Nat} (hk : k < 5) {x : Int32} {Q : Lf → Prop} (q : Q (st w 1 (k * 3) x)) : pX7_put w (nI k) 0 x Q := by
  have e : nI k * (3 : Int32) + 0 = nI (k * 3) := by
    show nI k * nI 3 + nI 0 = _
    rw [pk_mul, nI_add, Nat.add_zero]
  unfold pX7_put
  rw [e, nI_clamp (by omega)]
  exact ⟨vp_in_nI (by omega) (by decide), q⟩
noncomputable def bbA (R n : Nat) (A : AS) : Nat := onA A R n + bkA A R n
noncomputable def bwA (R n : Nat) (A : AS) (k o : Nat) : Int32 := nI (bbA R n (U A 4 k 0 (nI o)))
theorem c_with {w : Lf} {A : AS} {R n : Nat} (h : WF w A R n) (rw' : RW A R n) {k o : Nat} (hk : k < n) (ho : o < R) {Q : Int32 → Lf → Prop} (q : ∀ w', WF w' A R n → Q (bwA R n A k o) w') : pX7_bandsWith w (nI k) (nI o) Q := by
  have n5 := rw'.n5
  have h2 := h.put k (nI o)
  have rw2 := rw'.put (k := k) ho
  unfold pX7_bandsWith
  refine c_wat h n5 hk 0 (by decide) (c_wput (by omega) (c_on h2 rw2 (c_back h2 rw2 (c_wput (by omega) ?_))))
  rw [nI_add]
  refine q _ ?_
  have := h2.put k (A 4 k 0)
  rw [U_U, U_same] at this
  exact this
theorem bn_le {A : AS} {R n : Nat} {nd tv : Nat → Nat} : bnA A R n nd tv ≤ R := by
  unfold bnA
  split
  · exact Nat.zero_le _
  · have := sum_le (f := gdA A R n nd tv) (b := 1) (fun i => by
      unfold gdA
      split <;> omega) R
    omega
theorem bb_le (R n : Nat) (A : AS) : bbA R n A ≤ R + R := by
  have h1 := bn_le (A := A) (R := R) (n := n) (nd := fun i => i) (tv := trA A)
  have h2 := bn_le (A := A) (R := R) (n := n) (nd := fun i => n - 1 - i) (tv := fun i => trA A (n - 2 - i))
  unfold bbA onA bkA
  omega
def boS (W : Nat → Int32) (i : Nat) (x : Nat × Int32) : Nat × Int32 := if W i ≤ x.2 then x else (i, W i)
theorem bo_inv {W : Nat → Int32} (hW : ∀ i, ¬ W i ≤ -1) {k : Nat} (hk : 1 ≤ k) : (lp (boS W) k 0 (0, -1)).1 < k ∧ (lp (boS W) k 0 (0, -1)).2 = W (lp (boS W) k 0 (0, -1)).1 := by
  have := lp_invI (f := boS W) (fun i (x : Nat × Int32) => (i = 0 ∧ x.2 = -1) ∨ (x.1 < i ∧ x.2 = W x.1)) k (fun i x hi hx => by
    unfold boS
    rcases hx with ⟨e, e2⟩ | ⟨e, e2⟩
    · rw [e2, if_neg (hW i)]
      exact .inr ⟨Nat.lt_succ_self i, rfl⟩
    · split
      · exact .inr ⟨by omega, e2⟩
      · exact .inr ⟨Nat.lt_succ_self i, rfl⟩) k 0 (0, -1) (by omega) (.inl ⟨rfl, rfl⟩)
  rw [Nat.zero_add] at this
  rcases this with ⟨e, _⟩ | e
  · omega
  · exact e
theorem bw_neg (R n : Nat) (hR : R ≤ 60) (A : AS) (k o : Nat) : ¬ bwA R n A k o ≤ -1 := fun c => by
  have h := bb_le R n (U A 4 k 0 (nI o))
  have c := i_le.mp c
  unfold bwA at c
  rw [nI_toInt (by omega)] at c
  have e : (-1 : Int32).toInt = -1 := by decide
  omega
noncomputable def boA (R n : Nat) (A : AS) (k : Nat) : Nat × Int32 := lp (boS (bwA R n A k)) R 0 (0, -1)
theorem c_bestO {w : Lf} {A : AS} {R n : Nat} (h : WF w A R n) (rw' : RW A R n) {k : Nat} (hk : k < n) {Q : Int32 → Lf → Prop} (q : ∀ w', WF w' A R n → Q (nI (boA R n A k).1) w') : pX7_bestOffset w (nI k) Q := by
  have r2 := rw'.r2
  have L : ∀ (j i : Nat) (x : Nat × Int32) (w' : Lf), i + j = R → WF w' A R n → (∀ w', WF w' A R n → Q (nI (lp (boS (bwA R n A k)) j i x).1) w') → pX7_bestOffset_L7 (nI k) Q (j + 1) w' (nI x.1) x.2 (nI i) := by
    intro j
    induction j with
    | zero =>
      intro i x w' hi wf q
      exact hdE wf.w0 (by omega) (q w' wf)
    | succ j ih =>
      intro i x w' hi wf q
      simp only [lp_succ] at q
      unfold boS at q
      refine hdG wf.w0 (by omega) (by omega) (c_with wf rw' hk (by omega) (fun w2 wf2 => ⟨fun c => ?_, fun c => ?_⟩))
      · unfold pX7_bestOffset_J37
        rw [nI_s]
        rw [if_pos c] at q
        exact ih (i + 1) x w2 (by omega) wf2 q
      · unfold pX7_bestOffset_J37
        rw [nI_s]
        rw [if_neg c] at q
        exact ih (i + 1) (i, bwA R n A k i) w2 (by omega) wf2 q
  exact ⟨R + 1, L R 0 (0, -1) w (by omega) h q⟩
abbrev Mw (v M : Lf) : Prop := (∀ c, c ≠ 0 → c ≠ 1 → M c = v c) ∧ (∀ j, j ≠ 16 → M 0 j = v 0 j)
theorem Mw.o {v M : Lf} (h : Mw v M) : ∀ c, c ≠ 0 → c ≠ 1 → M c = v c := h.1
theorem Mw.o0 {v M : Lf} (h : Mw v M) : ∀ j, j ≠ 16 → M 0 j = v 0 j := h.2
theorem Mw.refl (v : Lf) : Mw v v := ⟨fun _ _ _ => rfl, fun _ _ => rfl⟩
theorem Mw.put {v M : Lf} (h : Mw v M) (i : Nat) (x : Int32) : Mw v (st M 1 i x) := ⟨fun c h0 h1 => by rw [st_oth _ _ _ h1]; exact h.o c h0 h1, fun j hj => by rw [st_at, if_neg (by omega)]; exact h.o0 j hj⟩
theorem Mw.sl {v M : Lf} (h : Mw v M) (x : Int32) : Mw v (st M 0 16 x) := ⟨fun c h0 h1 => by rw [st_oth _ _ _ h0]; exact h.o c h0 h1, fun j hj => by rw [st_at, if_neg (by omega)]; exact h.o0 j hj⟩
theorem m_bestO {v : Lf} {A : AS} {R n : Nat} (h : Ab (v 1) A) (rw' : RW A R n) {k : Nat} (hk : k < n) {Q : Int32 → Lf → Prop} (q : ∀ M, Mw v M → Ab (M 1) A → M 0 16 = (boA R n A k).2 → Q (nI (boA R n A k).1) M) : pX10_bestOffset v (nI k) Q := by
  have r2 := rw'.r2
  have n5 := rw'.n5
  have vp : vp_in (nI (306 + 3 * k)) 372 := vp_in_nI (by omega) (by decide)
  have L : ∀ (j i : Nat) (x : Nat × Int32) (M : Lf) (y : Int32), i + j = R → Mw v M → Ab (M 1) (U A 4 k 0 y) → M 0 16 = x.2 → (∀ M', Mw v M' → Ab (M' 1) A → M' 0 16 = (lp (boS (bwA R n A k)) j i x).2 → Q (nI (lp (boS (bwA R n A k)) j i x).1) M') → pX10_bestOffset_L23 (nI k) Q (j + 1) M (A 4 k 0) (nI x.1) (nI i) := by
    intro j
    induction j with
    | zero =>
      intro i x M y hi mw ab e16 q
      have eR : M 1 16 = nI R := (ab.gl (k := 16) (by decide)).trans (by rw [U_at, if_neg (by omega)]; exact rw'.e16)
      refine hdE eR (by omega) ?_
      rw [ix306z, nI_clamp (by omega)]
      refine ⟨vp, q _ (mw.put _ _) ?_ ?_⟩
      · have := ab.up (x := 4) (i := k) (k := 0) ⟨by omega, by decide⟩ (A 4 k 0)
        rw [U_U, U_same] at this
        rw [st_sa, sa_self]
        exact this
      · rw [st_at, if_neg (by omega)]; exact e16
    | succ j ih =>
      intro i x M y hi mw ab e16 q
      have eR : M 1 16 = nI R := (ab.gl (k := 16) (by decide)).trans (by rw [U_at, if_neg (by omega)]; exact rw'.e16)
      simp only [lp_succ] at q
      unfold boS at q
      refine hdG eR (by omega) (by omega) ?_
      rw [ix306z, nI_clamp (by omega)]
      have ab2 : Ab (st M 1 (306 + 3 * k) (nI i) 1) (U A 4 k 0 (nI i)) := by
        have := ab.up (x := 4) (i := k) (k := 0) ⟨by omega, by decide⟩ (nI i)
        rw [U_U] at this
        rw [st_sa, sa_self]
        exact this
      have e16' : st M 1 (306 + 3 * k) (nI i) 0 16 = x.2 := by rw [st_at, if_neg (by omega)]; exact e16
      refine ⟨vp, m_bands ab2 (rw'.put (by omega)) ?_⟩
      rw [e16']
      refine ⟨fun c => ?_, fun c => ?_⟩
      · unfold pX10_bestOffset_J76
        rw [nI_s]
        have c2 : ¬ bwA R n A k i ≤ x.2 := fun d => n_le.mpr d c
        rw [if_neg c2] at q
        exact ih (i + 1) (i, bwA R n A k i) _ (nI i) (by omega) ((mw.put _ _).sl _) (by rw [st_oth _ _ _ (by decide)]; exact ab2) (by rw [st_at, if_pos ⟨rfl, rfl⟩]; rfl) q
      · unfold pX10_bestOffset_J76
        rw [nI_s]
        have c2 : bwA R n A k i ≤ x.2 := n_le.mp c
        rw [if_pos c2] at q
        exact ih (i + 1) x _ (nI i) (by omega) (mw.put _ _) ab2 e16' q
  unfold pX10_bestOffset
  rw [ix306z, nI_clamp (by omega), show v 1 (306 + 3 * k) = A 4 k 0 from h 4 k 0 ⟨by omega, by decide⟩]
  refine ⟨vp, R + 1, L R 0 (0, -1) _ (A 4 k 0) (by omega) ((Mw.refl v).sl _) (by rw [U_same, st_oth _ _ _ (by decide)]; exact h) (by rw [st_at, if_pos ⟨rfl, rfl⟩]) q⟩
theorem St.w1 {B t N K : Nat} {A A' : AS} {v vNc vNcj vNcs vNcp vNcr vNw vNg vNn vNq vIc vIcj vIcs vIcp vIcr vIw vIg vIn vIq vT vTj vTs vTp vTr vx : Lf} {vt : Nat → Lf} {gt : Nat → Lg} {vM : Lf} {gM : Lg} {vNw' M' : Lf} (h : St B t N K A v vNc vNcj vNcs vNcp vNcr vNw vNg vNn vNq vIc vIcj vIcs vIcp vIcr vIw vIg vIn vIq vT vTj vTs vTp vTr vx vt gt vM gM) (mw : Mw vM M') (w : Wo B t N K A' vNc vNcj vNcs vNcp vNcr vNw' vNg vNn vNq (M' 1)) (m : MtR N A' (vM 4) (vM 5)) : Inv v vNc vNcj vNcs vNcp vNcr vNw' vNg vNn vNq vIc vIcj vIcs vIcp vIcr vIw vIg vIn vIq vT vTj vTs vTp vTr vx vt gt M' gM := by
  refine ⟨B, t, N, K, A', w, ?_, h.hB, h.cnt, ?_, ?_, ?_, h.most, ⟨?_, ?_⟩, ⟨?_, ?_, ?_⟩⟩
  · rw [mw.o 4 (by decide) (by decide), mw.o 5 (by decide) (by decide)]; exact m
  · rw [mw.o0 4 (by decide)]; exact h.cntM
  · rw [mw.o0 3 (by decide)]; exact h.kept
  · rw [mw.o0 3 (by decide), mw.o 2 (by decide) (by decide)]; exact h.img
  · rw [mw.o0 9 (by decide)]; exact h.txt.n
  · rw [mw.o0 9 (by decide), mw.o 6 (by decide) (by decide)]; exact h.txt.ok
  · rw [mw.o 8 (by decide) (by decide), mw.o 9 (by decide) (by decide)]; exact h.tp.so
  · rw [mw.o 9 (by decide) (by decide)]; exact h.tp.le
  · rw [mw.o 9 (by decide) (by decide)]; exact h.tp.at'
noncomputable def tuS (R n : Nat) (k : Nat) (A : AS) : AS := if (boA R n A k).2 ≤ nI (bbA R n A) then A else U A 4 k 0 (nI (boA R n A k).1)
theorem tu_rw {A : AS} {R n : Nat} (h : RW A R n) (k : Nat) : RW (tuS R n k A) R n := by
  have b := bo_inv (bw_neg R n h.r2 A k) (k := R) (by have := h.r1; omega)
  unfold tuS
  split
  · exact h
  · exact h.put b.1
theorem tu_o (R n k : Nat) (A : AS) {x : Nat} (hx : x ≠ 4) : tuS R n k A x = A x := by
  unfold tuS
  split
  · rfl
  · exact U_ne _ _ _ _ hx
theorem c_tuL {R n : Nat} {Q : Lf → Prop} {K2 : Lf → Int32 → Prop} {x1 : Int32} : ∀ (j k : Nat) (w : Lf) (A : AS), k + j = n → WF w A R n → RW A R n → (∀ w', WF w' (lp (tuS R n) j k A) R n → K2 w' (x1 + 1)) → pX7_tuneAll_L9 Q K2 (j + 1) w x1 (nI k) := by
  intro j
  induction j with
  | zero =>
    intro k w A hk wf rw' q
    exact hdE wf.w1 (by omega) (q w wf)
  | succ j ih =>
    intro k w A hk wf rw' q
    have n5 := rw'.n5
    have b := bo_inv (bw_neg R n rw'.r2 A k) (k := R) (by have := rw'.r1; omega)
    have rw2 := tu_rw rw' k
    simp only [lp_succ] at q
    refine hdG wf.w1 (by omega) (by omega) (c_bestO wf rw' (by omega) (fun w2 wf2 => c_with wf2 rw' (by omega) b.1 (fun w3 wf3 => c_bands wf3 rw' ?_)))
    rw [← b.2]
    show ((boA R n A k).2 ≤ nI (bbA R n A) → _) ∧ (¬ (boA R n A k).2 ≤ nI (bbA R n A) → _)
    unfold tuS at q rw2
    refine ⟨fun c => ?_, fun c => c_wput (by omega) ?_⟩
    · unfold pX7_tuneAll_J43
      rw [nI_s]
      rw [if_pos c] at q
      exact ih (k + 1) w3 A (by omega) wf3 rw' q
    · unfold pX7_tuneAll_J43
      rw [nI_s]
      rw [if_neg c] at q rw2
      exact ih (k + 1) _ _ (by omega) (wf3.put k _) rw2 q
theorem m_tuL {v : Lf} {R n : Nat} {Q : Int32 → Lf → Prop} {K15 : Lf → Int32 → Prop} {x1 : Int32} : ∀ (j k : Nat) (M : Lf) (A : AS), k + j = n → Mw v M → Ab (M 1) A → RW A R n → (∀ M', Mw v M' → Ab (M' 1) (lp (tuS R n) j k A) → K15 M' (x1 + 1)) → pX10_tune_L22 Q K15 (j + 1) M x1 (nI k) := by
  intro j
  induction j with
  | zero =>
    intro k M A hk mw ab rw' q
    have eN : M 1 17 = nI n := (ab.gl (k := 17) (by decide)).trans rw'.e17
    exact hdE eN (by omega) (q M mw ab)
  | succ j ih =>
    intro k M A hk mw ab rw' q
    have n5 := rw'.n5
    have eN : M 1 17 = nI n := (ab.gl (k := 17) (by decide)).trans rw'.e17
    have rw2 := tu_rw rw' k
    simp only [lp_succ] at q
    unfold tuS at q rw2
    refine hdG eN (by omega) (by omega) (m_bestO ab rw' (by omega) (fun M2 mw2 ab2 e2 => m_bands ab2 rw' ?_))
    have mw3 : Mw v M2 := ⟨fun c h0 h1 => (mw2.o c h0 h1).trans (mw.o c h0 h1), fun j hj => (mw2.o0 j hj).trans (mw.o0 j hj)⟩
    rw [e2]
    show ((boA R n A k).2 ≤ nI (bbA R n A) → _) ∧ (¬ (boA R n A k).2 ≤ nI (bbA R n A) → _)
    refine ⟨fun c => ?_, fun c => ?_⟩
    · unfold pX10_tune_J63
      rw [nI_s]
      rw [if_pos c] at q
      exact ih (k + 1) M2 A (by omega) mw3 ab2 rw' q
    · unfold pX10_tune_J63
      rw [ix306z, nI_clamp (by omega), nI_s]
      rw [if_neg c] at q rw2
      refine ⟨vp_in_nI (by omega) (by decide), ih (k + 1) _ _ (by omega) (mw3.put _ _) ?_ rw2 q⟩
      rw [st_sa, sa_self]
      exact ab2.up (x := 4) (i := k) (k := 0) ⟨by omega, by decide⟩ _
noncomputable def tuA (R n : Nat) (_ : Nat) (A : AS) : AS := lp (tuS R n) n 0 A
theorem tu_rwL {R n : Nat} : ∀ (k i : Nat) {A : AS}, RW A R n → RW (lp (tuS R n) k i A) R n := fun k i A h => lp_inv (fun A => RW A R n) (fun i A h => tu_rw h i) k i A h
theorem c_tune {R n : Nat} {Q : Lf → Prop} : ∀ (j i : Nat) (w : Lf) (A : AS), i + j = 4 → WF w A R n → RW A R n → (∀ w', WF w' (lp (tuA R n) j i A) R n → Q w') → pX7_tuneAll_L2 Q (j + 1) w (nI i) := by
  intro j
  induction j with
  | zero =>
    intro i w A hi wf rw' q
    exact hdE (N := 4) rfl (by omega) (q w wf)
  | succ j ih =>
    intro i w A hi wf rw' q
    simp only [lp_succ] at q
    refine hdG (N := 4) rfl (by omega) (by omega) ⟨n + 1, c_tuL n 0 w A (by omega) wf rw' (fun w' wf' => ?_)⟩
    rw [nI_s]
    exact ih (i + 1) w' _ (by omega) wf' (tu_rwL n 0 rw') q
theorem m_tune {v : Lf} {R n : Nat} {Q : Int32 → Lf → Prop} : ∀ (j i : Nat) (M : Lf) (A : AS), i + j = 4 → Mw v M → Ab (M 1) A → RW A R n → (∀ M', Mw v M' → Ab (M' 1) (lp (tuA R n) j i A) → Q (nI (bbA R n (lp (tuA R n) j i A))) M') → pX10_tune_L15 Q (j + 1) M (nI i) := by
  intro j
  induction j with
  | zero =>
    intro i M A hi mw ab rw' q
    exact hdE (N := 4) rfl (by omega) (m_bands ab rw' (q M mw ab))
  | succ j ih =>
    intro i M A hi mw ab rw' q
    simp only [lp_succ] at q
    refine hdG (N := 4) rfl (by omega) (by omega) ⟨n + 1, m_tuL n 0 M A (by omega) mw ab rw' (fun M' mw' ab' => ?_)⟩
    rw [nI_s]
    exact ih (i + 1) M' _ (by omega) mw' ab' (tu_rwL n 0 rw') q

theorem sim_nodeBest : Sim_X9_nodeBest Inv := by
  intro v vNc vNcj vNcs vNcp vNcr vNw vNg vNn vNq vIc vIcj vIcs vIcp vIcr vIw vIg vIn vIq vT vTj vTs vTp vTr vx vt gt vM gM hInv x1 x2
  obtain ⟨B, t, N, K, A, h⟩ := id hInv
  have hw := h.now
  have hN := hw.ci.hN
  have hK := hw.ci.hK
  have hM := hw.n13
  have hP := hw.n14
  obtain ⟨R, n, rw', wf⟩ := RW.get hw.wv
  have n5 := rw'.n5
  have m17 : vM 1 17 = nI n := (hw.ab.gl (k := 17) (by decide)).trans rw'.e17
  have ii := sg_iff (N := n) (by omega) x1
  unfold pX9_nodeBest
  rw [wf.w1]
  refine w_in (fun c1 c2 => ?_) (fun c => ?_)
  · first | refine ⟨fun c => absurd c (by decide), fun _ => ?_⟩ | refine ⟨fun _ => ?_, fun c => absurd c (by decide)⟩
    obtain ⟨k, hk, rfl⟩ := ii.mp ⟨c1, c2⟩
    have b := bo_inv (bw_neg R n rw'.r2 A k) (k := R) (by have := rw'.r1; omega)
    refine w_in (fun d1 d2 => ?_) (fun d => ?_)
    · first | refine ⟨fun c => absurd c (by decide), fun _ => ?_⟩ | refine ⟨fun _ => ?_, fun c => absurd c (by decide)⟩
      refine c_take (n := 10) h.cnt h.hB (by decide) (fun l => ?_) (fun l => ?_)
      · first | refine ⟨fun c => absurd c (by decide), fun _ => ?_⟩ | refine ⟨fun _ => ?_, fun c => absurd c (by decide)⟩
        have h2 := h.count (B2 := B + 10) (by omega) l
        have w2 := h2.now
        have mod : ∀ Q : Int32 → Lf → Prop, (∀ M, Mw (st vM 0 4 (nI (B + 10))) M → Ab (M 1) A → M 0 16 = (boA R n A k).2 → (¬ x2 = 0 → Q (M 0 16) M) ∧ (x2 = 0 → Q (nI (boA R n A k).1) M)) → pX10_nodeBest vM (nI k) x2 Q := by
          intro Q q
          unfold pX10_nodeBest
          refine m_node n5 m17 (fun _ _ _ => ?_) (fun e => absurd ⟨k, hk, rfl⟩ e)
          first | refine ⟨fun c => absurd c (by decide), fun _ => ?_⟩ | refine ⟨fun _ => ?_, fun c => absurd c (by decide)⟩
          refine inY ⟨d1, d2⟩ ?_
          first | refine ⟨fun c => absurd c (by decide), fun _ => ?_⟩ | refine ⟨fun _ => ?_, fun c => absurd c (by decide)⟩
          refine m_counts (n := 10) h.cntM h.hB (by decide) (fun _ => ?_) (fun e => absurd l e)
          first | refine ⟨fun c => absurd c (by decide), fun _ => ?_⟩ | refine ⟨fun _ => ?_, fun c => absurd c (by decide)⟩
          exact m_bestO w2.ab rw' hk q
        have fin : ∀ M w', Mw (st vM 0 4 (nI (B + 10))) M → Ab (M 1) A → WF w' A R n → Inv (st v 0 11 (nI (B + 10))) vNc vNcj vNcs vNcp vNcr w' vNg vNn vNq vIc vIcj vIcs vIcp vIcr vIw vIg vIn vIq vT vTj vTs vTp vTr vx vt gt M gM := by
          intro M w' mw ab wf'
          exact h2.w1 mw (w2.side ab rfl rfl rfl (fun _ _ => rfl) (wf'.wv rw') w2.gt w2.nt w2.pl) h2.tab
        refine c_bestO wf rw' hk (fun w' wf' => ⟨fun z => ?_, fun z => ?_⟩)
        · refine c_with wf' rw' hk b.1 (fun w2 wf2 => mod _ (fun M mw ab e => ⟨fun _ => ⟨?_, fin M w2 mw ab wf2⟩, fun z2 => absurd z2 z⟩))
          rw [e]
          exact b.2.symm
        · exact mod _ (fun M mw ab e => ⟨fun z2 => absurd z z2, fun _ => ⟨rfl, fin M w' mw ab wf'⟩⟩)
      · first | refine ⟨fun c => absurd c (by decide), fun _ => ?_⟩ | refine ⟨fun _ => ?_, fun c => absurd c (by decide)⟩
        unfold pX10_nodeBest
        refine m_node n5 m17 (fun _ _ _ => ?_) (fun e => absurd ⟨k, hk, rfl⟩ e)
        first | refine ⟨fun c => absurd c (by decide), fun _ => ?_⟩ | refine ⟨fun _ => ?_, fun c => absurd c (by decide)⟩
        refine inY ⟨d1, d2⟩ ?_
        first | refine ⟨fun c => absurd c (by decide), fun _ => ?_⟩ | refine ⟨fun _ => ?_, fun c => absurd c (by decide)⟩
        refine m_counts (n := 10) h.cntM h.hB (by decide) (fun e => absurd e l) (fun _ => ?_)
        first | refine ⟨fun c => absurd c (by decide), fun _ => ?_⟩ | refine ⟨fun _ => ?_, fun c => absurd c (by decide)⟩
        exact ⟨rfl, hInv⟩
    · first | refine ⟨fun c => absurd c (by decide), fun _ => ?_⟩ | refine ⟨fun _ => ?_, fun c => absurd c (by decide)⟩
      unfold pX10_nodeBest
      refine m_node n5 m17 (fun _ _ _ => ?_) (fun e => absurd ⟨k, hk, rfl⟩ e)
      first | refine ⟨fun c => absurd c (by decide), fun _ => ?_⟩ | refine ⟨fun _ => ?_, fun c => absurd c (by decide)⟩
      refine inN d ?_
      first | refine ⟨fun c => absurd c (by decide), fun _ => ?_⟩ | refine ⟨fun _ => ?_, fun c => absurd c (by decide)⟩
      exact ⟨rfl, hInv⟩
  · first | refine ⟨fun c => absurd c (by decide), fun _ => ?_⟩ | refine ⟨fun _ => ?_, fun c => absurd c (by decide)⟩
    unfold pX10_nodeBest
    refine m_node n5 m17 (fun k hk ek => absurd (ii.mpr ⟨k, hk, ek⟩) c) (fun _ => ?_)
    first | refine ⟨fun c => absurd c (by decide), fun _ => ?_⟩ | refine ⟨fun _ => ?_, fun c => absurd c (by decide)⟩
    exact ⟨rfl, hInv⟩
theorem sim_tune : Sim_X9_tune Inv := by
  intro v vNc vNcj vNcs vNcp vNcr vNw vNg vNn vNq vIc vIcj vIcs vIcp vIcr vIw vIg vIn vIq vT vTj vTs vTp vTr vx vt gt vM gM hInv _
  obtain ⟨B, t, N, K, A, h⟩ := id hInv
  have hw := h.now
  have hN := hw.ci.hN
  have hK := hw.ci.hK
  have hM := hw.n13
  have hP := hw.n14
  obtain ⟨R, n, rw', wf⟩ := RW.get hw.wv
  unfold pX9_tune
  refine c_take (n := 200) h.cnt h.hB (by decide) (fun l => ?_) (fun l => ?_)
  · first | refine ⟨fun c => absurd c (by decide), fun _ => ?_⟩ | refine ⟨fun _ => ?_, fun c => absurd c (by decide)⟩
    have h2 := h.count (B2 := B + 200) (by omega) l
    have w2 := h2.now
    have rw2 : RW (lp (tuA R n) 4 0 A) R n := lp_inv (fun A => RW A R n) (fun i A h => tu_rwL n 0 h) 4 0 A rw'
    have o : ∀ x, x ≠ 4 → lp (tuA R n) 4 0 A x = A x := fun x hx => lp_inv (fun D : AS => D x = A x) (fun i D e => (lp_inv (fun E : AS => E x = D x) (fun i E e2 => (tu_o R n i E hx).trans e2) n 0 D rfl).trans e) 4 0 A rfl
    refine ⟨5, c_tune 4 0 vNw A (by omega) wf rw' (fun w' wf' => c_bands wf' rw2 ?_)⟩
    unfold pX10_tune
    refine m_counts (n := 200) h.cntM h.hB (by decide) (fun _ => ?_) (fun e => absurd l e)
    first | refine ⟨fun c => absurd c (by decide), fun _ => ?_⟩ | refine ⟨fun _ => ?_, fun c => absurd c (by decide)⟩
    refine ⟨5, m_tune (v := st vM 0 4 (nI (B + 200))) 4 0 _ A (by omega) (Mw.refl _) w2.ab rw' (fun M mw ab => ⟨rfl, ?_⟩)⟩
    have o0 := o 0 (by decide)
    have o1 := o 1 (by decide)
    refine h2.w1 mw (w2.side ab o1 (o 2 (by decide)) (o 3 (by decide)) (fun k _ => by rw [o0]) (wf'.wv rw2) (w2.gt.fr (by rw [o0]) (o 5 (by decide))) (w2.nt.fr (by rw [o0]) (o 6 (by decide))) (w2.pl.fr (by rw [o0]) (o 7 (by decide)))) (h2.tab.fr hw.ci (fun a _ w _ => by rw [o1]) (by rw [o0]))
  · first | refine ⟨fun c => absurd c (by decide), fun _ => ?_⟩ | refine ⟨fun _ => ?_, fun c => absurd c (by decide)⟩
    unfold pX10_tune
    refine m_counts (n := 200) h.cntM h.hB (by decide) (fun e => absurd e l) (fun _ => ?_)
    first | refine ⟨fun c => absurd c (by decide), fun _ => ?_⟩ | refine ⟨fun _ => ?_, fun c => absurd c (by decide)⟩
    exact ⟨rfl, hInv⟩

theorem st_sa (v : Lf) (c i : Nat) (x : Int32) : st v c i x = sa v c (upd (v c) i x) := rfl
theorem sa_self (v : Lf) (c : Nat) (f : Nat → Int32) : sa v c f c = f := by simp [sa]
theorem sa_ne (v : Lf) {c k : Nat} (f : Nat → Int32) (h : k ≠ c) : sa v c f k = v k := by simp [sa, h]
theorem sa_sa (v : Lf) (c : Nat) (f g : Nat → Int32) : sa (sa v c f) c g = sa v c g := by
  funext k
  by_cases h : k = c <;> simp [sa, h]
theorem sa_id (v : Lf) (c : Nat) : sa v c (v c) = v := by
  funext k
  by_cases h : k = c
  · subst h; simp [sa]
  · simp [sa, h]
theorem upd_self (f : Nat → Int32) (i : Nat) (x : Int32) : upd f i x i = x := by simp [upd]
theorem upd_ne (f : Nat → Int32) {i k : Nat} (x : Int32) (h : k ≠ i) : upd f i x k = f k := by simp [upd, h]
theorem upd_at (f : Nat → Int32) (i k : Nat) (x : Int32) : upd f i x k = if k = i then x else f k := by
  by_cases h : k = i <;> simp [upd, h]
theorem st_same (v : Lf) (c i : Nat) (x : Int32) (k : Nat) : st v c i x c k = if k = i then x else v c k := by
  simp [st, upd_at]
theorem st_oth (v : Lf) {c c2 : Nat} (i : Nat) (x : Int32) (h : c2 ≠ c) : st v c i x c2 = v c2 := by simp [st, h]
theorem br_i {c A B : Prop} [Decidable c] : ((c → A) ∧ (¬ c → B)) ↔ if c then A else B := by
  by_cases h : c <;> simp [h]
theorem br_n {c A B : Prop} [Decidable c] : ((¬ c → A) ∧ (c → B)) ↔ if c then B else A := by
  by_cases h : c <;> simp [h]
theorem i01 {c : Prop} [Decidable c] : ((if c then (1 : Int32) else 0) = 0) ↔ ¬ c := by
  by_cases h : c <;> simp [h]
theorem nz01 {c : Prop} [Decidable c] : (narrow .boolean (.int (if c then (1 : Int32) else 0)) = .int (if c then (1 : Int32) else 0)) := by
  by_cases h : c <;> simp [h] <;> rfl
def bt (x : Int32) (i : Nat) : Bool := x.toBitVec.getLsbD i
theorem b_ext {x y : Int32} (h : ∀ i, i < 32 → bt x i = bt y i) : x = y := Int32.toBitVec_inj.mp (BitVec.eq_of_getLsbD_eq (fun i hi => h i hi))
theorem b_or (x y : Int32) (i : Nat) : bt (x ||| y) i = (bt x i || bt y i) := by unfold bt; rw [Int32.toBitVec_or, BitVec.getLsbD_or]
theorem b_and (x y : Int32) (i : Nat) : bt (x &&& y) i = (bt x i && bt y i) := by unfold bt; rw [Int32.toBitVec_and, BitVec.getLsbD_and]
theorem b_xor (x y : Int32) (i : Nat) : bt (x ^^^ y) i = (bt x i ^^ bt y i) := by unfold bt; rw [Int32.toBitVec_xor, BitVec.getLsbD_xor]
theorem b_big {x : Int32} {i : Nat} (h : 32 ≤ i) : bt x i = false := BitVec.getLsbD_of_ge _ _ h
theorem b_m1 : ∀ i, i < 32 → bt (-1) i = true := by decide +kernel
theorem b_0 (i : Nat) : bt 0 i = false := BitVec.getLsbD_zero
theorem b_1 : ∀ i, i < 32 → bt 1 i = decide (i = 0) := by decide +kernel
theorem s_l : ∀ n, n < 32 → ((nI n &&& 31).toBitVec.smod 32).toNat = n := by decide +kernel
theorem b_shl (n : Nat) (hn : n < 32) (x : Int32) {i : Nat} (hi : i < 32) : bt (x <<< (nI n &&& 31)) i = (decide (n ≤ i) && bt x (i - n)) := by
  unfold bt
  rw [Int32.toBitVec_shiftLeft]
  show (x.toBitVec <<< ((nI n &&& 31).toBitVec.smod 32).toNat).getLsbD i = _
  rw [s_l n hn, BitVec.getLsbD_shiftLeft]
  rcases Nat.lt_or_ge i n with h | h
  · simp [h, Nat.not_le.mpr h]
  · simp [hi, h, Nat.not_lt.mpr h]
theorem b_sshr (n : Nat) (hn : n < 32) (x : Int32) {i : Nat} (hi : i < 32) : bt (x >>> (nI n &&& 31)) i = if n + i < 32 then bt x (n + i) else bt x 31 := by
  unfold bt
  rw [Int32.toBitVec_shiftRight]
  show (x.toBitVec.sshiftRight ((nI n &&& 31).toBitVec.smod 32).toNat).getLsbD i = _
  rw [s_l n hn, BitVec.getLsbD_sshiftRight, BitVec.msb_eq_getLsbD_last]
  simp [hi]
theorem b_one (n : Nat) (hn : n < 32) {i : Nat} (hi : i < 32) : bt ((1 : Int32) <<< (nI n &&& 31)) i = decide (i = n) := by
  rw [b_shl n hn 1 hi]
  rcases Nat.lt_or_ge i n with h | h
  · simp [Nat.not_le.mpr h, Nat.ne_of_lt h]
  · rw [b_1 (i - n) (by omega)]
    by_cases e : i = n
    · subst e; simp
    · simp [h, e]; omega
theorem b_test (x : Int32) (n : Nat) (hn : n < 32) : ((x >>> (nI n &&& 31)) &&& 1) = if bt x n then 1 else 0 := by
  apply b_ext
  intro i hi
  rw [b_and, b_sshr n hn x hi, b_1 i hi]
  by_cases h : i = 0
  · subst h
    simp [hn]
    cases bt x n <;> decide +kernel
  · cases hb : bt x n
    · simp [h, b_0]
    · simp [h, b_1 i hi]
theorem b_test0 (x : Int32) (n : Nat) (hn : n < 32) : (((x >>> (nI n &&& 31)) &&& 1) = 0) ↔ bt x n = false := by
  rw [b_test x n hn]
  cases bt x n <;> simp
theorem b_test1 (x : Int32) (n : Nat) (hn : n < 32) : (((x >>> (nI n &&& 31)) &&& 1) = 1) ↔ bt x n = true := by
  rw [b_test x n hn]
  cases bt x n <;> simp
theorem w_within (x l h : Int32) (Q : Int32 → Prop) : pX9_within x l h Q ↔ Q (if l ≤ x ∧ x ≤ h then 1 else 0) := by
  unfold pX9_within
  by_cases c1 : x < l
  · have e : ¬ (l ≤ x ∧ x ≤ h) := fun q => absurd (Int32.lt_iff_toInt_lt.mp c1) (Int.not_lt.mpr (Int32.le_iff_toInt_le.mp q.1))
    simp [c1, e]
  · have e1 : l ≤ x := Int32.le_iff_toInt_le.mpr (Int.not_lt.mp (fun q => c1 (Int32.lt_iff_toInt_lt.mpr q)))
    by_cases c2 : h < x
    · have e : ¬ (l ≤ x ∧ x ≤ h) := fun q => absurd (Int32.lt_iff_toInt_lt.mp c2) (Int.not_lt.mpr (Int32.le_iff_toInt_le.mp q.2))
      simp [c1, c2, e]
    · have e2 : x ≤ h := Int32.le_iff_toInt_le.mpr (Int.not_lt.mp (fun q => c2 (Int32.lt_iff_toInt_lt.mpr q)))
      simp [c1, c2, e1, e2]
theorem w_isIn (x l h : Int32) (Q : Int32 → Prop) : pX10_isIn x l h Q ↔ Q (if l ≤ x ∧ x ≤ h then 1 else 0) := w_within x l h Q
theorem w_isTape (x : Int32) (Q : Int32 → Prop) : pX10_isTape x Q ↔ Q (if 0 ≤ x ∧ x ≤ 5 then 1 else 0) := by
  unfold pX10_isTape
  rw [w_isIn]
  exact ⟨fun h => h.2, fun h => ⟨nz01, h⟩⟩
theorem w_isSig (j : Lf) (x : Int32) (Q : Int32 → Prop) : pX9_isSignal j x Q ↔ Q (if 0 ≤ x ∧ x ≤ j 0 0 - 1 then 1 else 0) := by
  unfold pX9_isSignal
  rw [w_within]
  exact ⟨fun h => h.2, fun h => ⟨nz01, h⟩⟩
theorem w_isSigM (v : Lf) (x : Int32) (Q : Int32 → Prop) : pX10_isSignal v x Q ↔ Q (if 0 ≤ x ∧ x ≤ v 1 13 - 1 then 1 else 0) := by
  unfold pX10_isSignal
  rw [w_isIn]
  exact ⟨fun h => h.2, fun h => ⟨nz01, h⟩⟩
theorem w_isPhM (v : Lf) (x : Int32) (Q : Int32 → Prop) : pX10_isPhase v x Q ↔ Q (if 0 ≤ x ∧ x ≤ v 1 14 - 1 then 1 else 0) := by
  unfold pX10_isPhase
  rw [w_isIn]
  exact ⟨fun h => h.2, fun h => ⟨nz01, h⟩⟩
theorem w_isNodeM (v : Lf) (x : Int32) (Q : Int32 → Prop) : pX10_isNode v x Q ↔ Q (if 0 ≤ x ∧ x ≤ v 1 17 - 1 then 1 else 0) := by
  unfold pX10_isNode
  rw [w_isIn]
  exact ⟨fun h => h.2, fun h => ⟨nz01, h⟩⟩
theorem nI_toI {n : Nat} (h : n < 2 ^ 31) : (nI n).toInt = (n : Int) := nI_toInt h
theorem i_le {a b : Int32} : a ≤ b ↔ a.toInt ≤ b.toInt := Int32.le_iff_toInt_le
theorem i_lt {a b : Int32} : a < b ↔ a.toInt < b.toInt := Int32.lt_iff_toInt_lt
theorem nI_of_toInt {x : Int32} (h : 0 ≤ x.toInt) : x = nI x.toInt.toNat := by
  have h2 : x.toInt < 2 ^ 31 := Int32.toInt_lt x
  apply Int32.toInt_inj.mp
  rw [nI_toInt (by omega)]
  omega
theorem nI_inj {a b : Nat} (ha : a < 2 ^ 31) (hb : b < 2 ^ 31) (h : nI a = nI b) : a = b := (nI_eq ha hb).mp h
theorem nI_m1 {N : Nat} (h : N < 2 ^ 30) : (nI N - 1).toInt = (N : Int) - 1 := pk_sub_toInt (b := 1) h (by decide)
theorem sg_iff {N : Nat} (hN : N < 2 ^ 30) (x : Int32) : (0 ≤ x ∧ x ≤ nI N - 1) ↔ ∃ a, a < N ∧ x = nI a := by
  rw [i_le, i_le, nI_m1 hN]
  constructor
  · intro ⟨h1, h2⟩
    have h1 : 0 ≤ x.toInt := h1
    exact ⟨x.toInt.toNat, by omega, nI_of_toInt h1⟩
  · rintro ⟨a, h1, rfl⟩
    rw [nI_toInt (by omega)]
    refine ⟨?_, by omega⟩
    show (0 : Int) ≤ _
    omega
theorem bd_iff {l h : Nat} (hl : l < 2 ^ 31) (hh : h < 2 ^ 31) (x : Int32) : (nI l ≤ x ∧ x ≤ nI h) ↔ ∃ a, l ≤ a ∧ a ≤ h ∧ x = nI a := by
  rw [i_le, i_le, nI_toInt hl, nI_toInt hh]
  constructor
  · intro ⟨h1, h2⟩
    exact ⟨x.toInt.toNat, by omega, by omega, nI_of_toInt (by omega)⟩
  · rintro ⟨a, h1, h2, rfl⟩
    rw [nI_toInt (by omega)]
    omega
theorem w_bit (x : Int32) {i : Nat} (hi : i < 32) (Q : Int32 → Prop) : pX9_isIn x (nI i) Q ↔ Q (if bt x i = true then 1 else 0) := by
  unfold pX9_isIn
  rw [b_test0 x i hi]
  cases bt x i <;> simp
theorem w_has (x : Int32) {i : Nat} (hi : i < 32) (Q : Int32 → Prop) : pX10_has x (nI i) Q ↔ Q (if bt x i = true then 1 else 0) := by
  unfold pX10_has
  rw [b_test1 x i hi]
  cases bt x i <;> simp
theorem w_green (s : Lf) {i : Nat} (hi : i < 32) (Q : Int32 → Prop) : pX5_isGreen s (nI i) Q ↔ Q (if bt (s 0 0) i = true then 1 else 0) := by
  unfold pX5_isGreen
  rw [b_test0 (s 0 0) i hi]
  cases bt (s 0 0) i <;> simp
theorem ix_at (a w : Nat) : (24 : Int32) + (24 : Int32) * nI a + nI w = nI (24 + 24 * a + w) := by
  show nI 24 + nI 24 * nI a + nI w = _
  rw [pk_mul, nI_add, nI_add]
theorem w_at (v : Lf) {a w : Nat} (h : 24 + 24 * a + w < 372) (Q : Int32 → Prop) : pX10_at v (nI a) (nI w) Q ↔ Q (v 1 (24 + 24 * a + w)) := by
  unfold pX10_at
  rw [ix_at, nI_clamp (by omega)]
  exact ⟨fun q => q.2, fun q => ⟨vp_in_nI h (by decide), q⟩⟩
theorem w_puts (v : Lf) {a w : Nat} (h : 24 + 24 * a + w < 372) (x : Int32) (Q : Lf → Prop) : pX10_puts v (nI a) (nI w) x Q ↔ Q (sa v 1 (upd (v 1) (24 + 24 * a + w) x)) := by
  unfold pX10_puts
  rw [ix_at, nI_clamp (by omega)]
  exact ⟨fun q => q.2, fun q => ⟨vp_in_nI h (by decide), q⟩⟩
theorem w_setOf (v : Lf) {a : Nat} (h : 216 + 3 * a < 372) (Q : Int32 → Prop) : pX10_setOf v (nI a) Q ↔ Q (v 1 (216 + 3 * a)) := by
  unfold pX10_setOf
  have e : (216 : Int32) + (3 : Int32) * nI a = nI (216 + 3 * a) := by
    show nI 216 + nI 3 * nI a = _
    rw [pk_mul, nI_add]
  rw [e, nI_clamp (by omega)]
  exact ⟨fun q => q.2, fun q => ⟨vp_in_nI h (by decide), q⟩⟩
theorem w_rule (s : Lf) {a k : Nat} (h : a * 4 + k < 32) (Q : Int32 → Prop) : pX5_rule s (nI a) (nI k) Q ↔ Q (s 1 (a * 4 + k)) := by
  unfold pX5_rule
  have e : nI a * (4 : Int32) + nI k = nI (a * 4 + k) := by
    show nI a * nI 4 + nI k = _
    rw [pk_mul, nI_add]
  rw [e, nI_clamp (by omega)]
  exact ⟨fun q => q.2, fun q => ⟨vp_in_nI h (by decide), q⟩⟩
theorem w_cellAt (j : Lf) {a i : Nat} (h : a * 8 + i < 64) (Q : Int32 → Prop) : pX1_cellAt j (nI a) (nI i) Q ↔ Q (j 3 (a * 8 + i)) := by
  unfold pX1_cellAt
  have e : nI a * (8 : Int32) + nI i = nI (a * 8 + i) := by
    show nI a * nI 8 + nI i = _
    rw [pk_mul, nI_add]
  rw [e, nI_clamp (by omega)]
  exact ⟨fun q => q.2, fun q => ⟨vp_in_nI h (by decide), q⟩⟩
theorem w_meet (j : Lf) {a b : Nat} (h : a * 8 + b < 64) (Q : Int32 → Prop) : pX1_meet j (nI a) (nI b) Q ↔ Q (if j 5 (a * 8 + b) = -5 then 0 else 1) := by
  unfold pX1_meet
  have e : nI a * (8 : Int32) + nI b = nI (a * 8 + b) := by
    show nI a * nI 8 + nI b = _
    rw [pk_mul, nI_add]
  rw [e, nI_clamp (by omega)]
  by_cases c : j 5 (a * 8 + b) = -5
  · rw [if_pos c]
    exact ⟨fun q => q.2.1 c, fun q => ⟨vp_in_nI h (by decide), fun _ => q, fun c2 => absurd c c2⟩⟩
  · rw [if_neg c]
    exact ⟨fun q => q.2.2 c, fun q => ⟨vp_in_nI h (by decide), fun c2 => absurd c2 c, fun _ => q⟩⟩
theorem w_clearOf (j : Lf) {a b : Nat} (h : a * 8 + b < 64) (Q : Int32 → Prop) : pX1_clearOf j (nI a) (nI b) Q ↔ Q (j 4 (a * 8 + b) + j 0 1) := by
  unfold pX1_clearOf
  have e : nI a * (8 : Int32) + nI b = nI (a * 8 + b) := by
    show nI a * nI 8 + nI b = _
    rw [pk_mul, nI_add]
  rw [e, nI_clamp (by omega)]
  exact ⟨fun q => q.2, fun q => ⟨vp_in_nI h (by decide), q⟩⟩
theorem w_meetM (v : Lf) {a b : Nat} (h : 8 * a + b < 64) (Q : Int32 → Prop) : pX10_meet v (nI a) (nI b) Q ↔ Q (if 0 ≤ v 4 (8 * a + b) then 1 else 0) := by
  unfold pX10_meet
  have e : (8 : Int32) * nI a + nI b = nI (8 * a + b) := by
    show nI 8 * nI a + nI b = _
    rw [pk_mul, nI_add]
  rw [e, nI_clamp (by omega)]
  by_cases c : v 4 (8 * a + b) < 0
  · have c2 : ¬ 0 ≤ v 4 (8 * a + b) := fun q => by
      have := i_lt.mp c
      have := i_le.mp q
      omega
    simp only [c2, if_false]
    exact ⟨fun q => q.2.1 c, fun q => ⟨vp_in_nI h (by decide), fun _ => q, fun c3 => absurd c c3⟩⟩
  · have c2 : 0 ≤ v 4 (8 * a + b) := i_le.mpr (by
      have : ¬ (v 4 (8 * a + b)).toInt < (0 : Int32).toInt := fun q => c (i_lt.mpr q)
      omega)
    simp only [c2, if_true]
    exact ⟨fun q => q.2.2 c, fun q => ⟨vp_in_nI h (by decide), fun c3 => absurd c3 c, fun _ => q⟩⟩

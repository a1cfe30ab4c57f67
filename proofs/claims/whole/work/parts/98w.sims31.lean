theorem wb_tb (n : Nat) : (lN n).toBitVec = BitVec.ofNat 64 n := rfl
theorem wb_inj {a b : Int64} (h : a.toBitVec = b.toBitVec) : a = b := Int64.toBitVec_inj.mp h
theorem wb_tn {n : Nat} (h : n < 2 ^ 64) : (lN n).toBitVec.toNat = n := by rw [wb_tb, BitVec.toNat_ofNat, Nat.mod_eq_of_lt h]
theorem wb_of (x : Int64) : ∃ n, n < 2 ^ 64 ∧ x = lN n := ⟨x.toBitVec.toNat, x.toBitVec.isLt, wb_inj (by rw [wb_tb]; simp)⟩
theorem wb_of32 (x : Int32) : ∃ n, n < 2 ^ 32 ∧ x = nI n := ⟨x.toBitVec.toNat, x.toBitVec.isLt, Int32.toBitVec_inj.mp (by show _ = BitVec.ofNat 32 _; simp)⟩
theorem wb_c : ∀ k, k < 64 → ((nI k).toInt64 &&& 63) = lN k := by decide +kernel
theorem wb_cu : ∀ k, k < 64 → ((nI k).toInt64.toUInt64 &&& Int64.toUInt64 63) = UInt64.ofNat k := by decide +kernel
theorem wb_sm : ∀ k, k < 64 → (BitVec.ofNat 64 k).smod 64 = BitVec.ofNat 64 k := by decide +kernel
theorem wb_pw {a b : Nat} (h : a ≤ b) : 2 ^ b = 2 ^ a * 2 ^ (b - a) := by rw [← Nat.pow_add]; congr 1; omega
theorem wb_lt2 {a b : Nat} (h : a < b) : 2 ^ a < 2 ^ b := Nat.pow_lt_pow_right (by decide) h
theorem wb_mod (n : Nat) : lN n = lN (n % 2 ^ 64) := wb_inj (by rw [wb_tb, wb_tb]; apply BitVec.eq_of_toNat_eq; rw [BitVec.toNat_ofNat, BitVec.toNat_ofNat, Nat.mod_mod])
theorem wb_shr {n k : Nat} (hn : n < 2 ^ 64) (hk : k < 64) : ((lN n).toUInt64 >>> ((nI k).toInt64.toUInt64 &&& Int64.toUInt64 63)).toInt64 = lN (n / 2 ^ k) := by
  rw [wb_cu k hk]
  apply wb_inj
  apply BitVec.eq_of_toNat_eq
  show ((lN n).toUInt64 >>> UInt64.ofNat k).toNat = (BitVec.ofNat 64 _).toNat
  have h1 : (UInt64.ofNat k).toNat = k := by
    show (BitVec.ofNat 64 k).toNat = k
    rw [BitVec.toNat_ofNat, Nat.mod_eq_of_lt (by omega)]
  have h2 : (lN n).toUInt64.toNat = n := wb_tn hn
  rw [UInt64.toNat_shiftRight, h1, h2, Nat.mod_eq_of_lt hk, Nat.shiftRight_eq_div_pow, BitVec.toNat_ofNat, Nat.mod_eq_of_lt (Nat.lt_of_le_of_lt (Nat.div_le_self _ _) hn)]
theorem wb_shl (n : Nat) {k : Nat} (hk : k < 64) : lN n <<< ((nI k).toInt64 &&& 63) = lN (n * 2 ^ k) := by
  rw [wb_c k hk]
  apply wb_inj
  rw [Int64.toBitVec_shiftLeft, wb_tb, wb_tb, wb_tb, wb_sm k hk]
  apply BitVec.eq_of_toNat_eq
  rw [BitVec.shiftLeft_eq', BitVec.toNat_shiftLeft, BitVec.toNat_ofNat, BitVec.toNat_ofNat, BitVec.toNat_ofNat, Nat.mod_eq_of_lt (show k < 2 ^ 64 by omega), Nat.shiftLeft_eq, Nat.mul_mod, Nat.mod_mod, ← Nat.mul_mod]
theorem wb_and {a b : Nat} (ha : a < 2 ^ 64) (hb : b < 2 ^ 64) : lN a &&& lN b = lN (a &&& b) := by
  apply wb_inj
  rw [Int64.toBitVec_and, wb_tb, wb_tb, wb_tb]
  apply BitVec.eq_of_toNat_eq
  rw [BitVec.toNat_and, BitVec.toNat_ofNat, BitVec.toNat_ofNat, BitVec.toNat_ofNat, Nat.mod_eq_of_lt ha, Nat.mod_eq_of_lt hb, Nat.mod_eq_of_lt (Nat.and_lt_two_pow _ hb)]
theorem wb_or {a b : Nat} (ha : a < 2 ^ 64) (hb : b < 2 ^ 64) : lN a ||| lN b = lN (a ||| b) := by
  apply wb_inj
  rw [Int64.toBitVec_or, wb_tb, wb_tb, wb_tb]
  apply BitVec.eq_of_toNat_eq
  rw [BitVec.toNat_or, BitVec.toNat_ofNat, BitVec.toNat_ofNat, BitVec.toNat_ofNat, Nat.mod_eq_of_lt ha, Nat.mod_eq_of_lt hb, Nat.mod_eq_of_lt (Nat.or_lt_two_pow ha hb)]
theorem wb_mask {n k : Nat} (hn : n < 2 ^ 64) (hk : k < 64) : lN n &&& lN (2 ^ k - 1) = lN (n % 2 ^ k) := by
  rw [wb_and hn (by have := wb_lt2 hk; omega), Nat.and_two_pow_sub_one_eq_mod]
theorem wb_a1 {n : Nat} (hn : n < 2 ^ 64) : lN n &&& 1 = lN (n % 2) := wb_mask (k := 1) hn (by decide)
theorem wb_bit {n k : Nat} (hn : n < 2 ^ 64) (hk : k < 64) : ((lN n).toUInt64 >>> ((nI k).toInt64.toUInt64 &&& Int64.toUInt64 63)).toInt64 &&& 1 = lN (n / 2 ^ k % 2) := by
  rw [wb_shr hn hk, wb_a1 (Nat.lt_of_le_of_lt (Nat.div_le_self _ _) hn)]
theorem wb_xor {q k : Nat} (hk : k < 63) (h : 2 ^ k ≤ q) (h2 : q < 2 ^ (k + 1)) : lN q ^^^ lN (2 ^ k) = lN (q - 2 ^ k) := by
  obtain ⟨r, rfl⟩ : ∃ r, q = 2 ^ k + r := ⟨q - 2 ^ k, by omega⟩
  have hr : r < 2 ^ k := by rw [Nat.pow_succ] at h2; omega
  have hx : (2 ^ k + r) ^^^ 2 ^ k = r := by
    apply Nat.eq_of_testBit_eq
    intro i
    rw [Nat.testBit_xor, Nat.testBit_two_pow]
    rcases Nat.lt_trichotomy i k with h | h | h
    · rw [Nat.testBit_two_pow_add_gt h]
      simp [show ¬ k = i by omega]
    · subst h
      rw [Nat.testBit_two_pow_add_eq]
      simp
    · have a1 : 2 ^ (k + 1) ≤ 2 ^ i := Nat.pow_le_pow_right (by decide) h
      rw [Nat.testBit_lt_two_pow (show 2 ^ k + r < 2 ^ i by omega), Nat.testBit_lt_two_pow (show r < 2 ^ i by omega)]
      simp [show ¬ k = i by omega]
  have b1 := wb_lt2 (show k + 1 < 64 by omega)
  have b2 := wb_lt2 (show k < 64 by omega)
  apply wb_inj
  rw [Int64.toBitVec_xor, wb_tb, wb_tb, wb_tb]
  apply BitVec.eq_of_toNat_eq
  rw [BitVec.toNat_xor, BitVec.toNat_ofNat, BitVec.toNat_ofNat, BitVec.toNat_ofNat, Nat.mod_eq_of_lt (by omega : 2 ^ k + r < 2 ^ 64), Nat.mod_eq_of_lt b2, hx, Nat.add_sub_cancel_left, Nat.mod_eq_of_lt (by omega)]
theorem andB (j a : Nat) {b : Nat} (c : Nat) {d : Nat} (hb : b < 2 ^ j) (hd : d < 2 ^ j) : (2 ^ j * a + b) &&& (2 ^ j * c + d) = 2 ^ j * (a &&& c) + (b &&& d) := by
  refine Nat.eq_of_testBit_eq (fun i => ?_)
  rw [Nat.testBit_and, Nat.testBit_two_pow_mul_add a hb, Nat.testBit_two_pow_mul_add c hd, Nat.testBit_two_pow_mul_add (a &&& c) (Nat.and_lt_two_pow b hd)]
  split
  · rw [Nat.testBit_and]
  · rw [Nat.testBit_and]
theorem and8 (a c : Nat) {b d : Nat} (hb : b < 256) (hd : d < 256) : (256 * a + b) &&& (256 * c + d) = 256 * (a &&& c) + (b &&& d) := andB 8 a c hb hd
theorem and7 (u : Nat) {e m : Nat} (he : e < 128) (hm : m < 128) : (128 * u + e) &&& m = e &&& m := by
  have := andB 7 u (b := e) 0 (d := m) he hm
  rw [Nat.and_zero, Nat.mul_zero, Nat.zero_add, Nat.zero_add] at this
  exact this
theorem and6 (u : Nat) {e m : Nat} (he : e < 64) (hm : m < 64) : (64 * u + e) &&& m = e &&& m := by
  have := andB 6 u (b := e) 0 (d := m) he hm
  rw [Nat.and_zero, Nat.mul_zero, Nat.zero_add, Nat.zero_add] at this
  exact this
def byM (g : Nat → Nat) : Nat → Nat → Nat
  | 0, _ => 0
  | k + 1, n => 256 * byM g k (n / 256) + g (n % 256)
def byR (m : Nat) : Nat → Nat
  | 0 => 0
  | k + 1 => 256 * byR m k + m
theorem byM_s (g : Nat → Nat) (k n : Nat) : byM g (k + 1) n = 256 * byM g k (n / 256) + g (n % 256) := rfl
theorem byR_s (m k : Nat) : byR m (k + 1) = 256 * byR m k + m := rfl
theorem p256 (k : Nat) : 256 ^ (k + 1) = 256 * 256 ^ k := by rw [Nat.pow_succ, Nat.mul_comm]
theorem by_id : ∀ k n, n < 256 ^ k → byM (fun b => b) k n = n := by
  intro k
  induction k with
  | zero => intro n h; rw [Nat.pow_zero] at h; show 0 = n; omega
  | succ k ih =>
    intro n h
    rw [p256] at h
    rw [byM_s, ih (n / 256) (by omega)]
    omega
theorem by_ext {g h : Nat → Nat} (e : ∀ b, b < 256 → g b = h b) : ∀ k n, byM g k n = byM h k n := by
  intro k
  induction k with
  | zero => exact fun _ => rfl
  | succ k ih => intro n; rw [byM_s, byM_s, ih, e _ (Nat.mod_lt _ (by decide))]
theorem by_add (g h : Nat → Nat) : ∀ k n, byM g k n + byM h k n = byM (fun b => g b + h b) k n := by
  intro k
  induction k with
  | zero => exact fun _ => rfl
  | succ k ih => intro n; rw [byM_s, byM_s, byM_s, ← ih]; omega
theorem by_sub {g h : Nat → Nat} (e : ∀ b, b < 256 → h b ≤ g b) (k n : Nat) : byM h k n ≤ byM g k n ∧ byM g k n - byM h k n = byM (fun b => g b - h b) k n := by
  have a := by_add (fun b => g b - h b) h k n
  have b := by_ext (g := fun b => g b - h b + h b) (h := g) (fun b hb => by have := e b hb; omega) k n
  omega
theorem by_lt {g : Nat → Nat} (e : ∀ b, b < 256 → g b < 256) : ∀ k n, byM g k n < 256 ^ k := by
  intro k
  induction k with
  | zero => intro n; show 0 < 256 ^ 0; decide
  | succ k ih =>
    intro n
    have := ih (n / 256)
    have := e (n % 256) (Nat.mod_lt _ (by decide))
    rw [byM_s, p256]
    omega
theorem by_comp {g : Nat → Nat} (h : Nat → Nat) (e : ∀ b, b < 256 → g b < 256) : ∀ k n, byM h k (byM g k n) = byM (fun b => h (g b)) k n := by
  intro k
  induction k with
  | zero => exact fun _ => rfl
  | succ k ih =>
    intro n
    have l := e (n % 256) (Nat.mod_lt _ (by decide))
    have e1 : byM g (k + 1) n / 256 = byM g k (n / 256) := by rw [byM_s]; omega
    have e2 : byM g (k + 1) n % 256 = g (n % 256) := by rw [byM_s]; omega
    rw [byM_s, e1, e2, ih, byM_s]
theorem and_0s {m : Nat} (hm : m < 256) : ∀ k n, n &&& byR m k = byM (fun b => b &&& m) k n := by
  intro k
  induction k with
  | zero => intro n; show n &&& 0 = 0; rw [Nat.and_zero]
  | succ k ih =>
    intro n
    rw [byR_s, byM_s, ← ih, ← and8 _ _ (Nat.mod_lt _ (by decide)) hm]
    congr 1
    omega
theorem and_1s {m : Nat} (hm : m < 128) : ∀ k n, n / 2 &&& byR m k = byM (fun b => b / 2 &&& m) k n := by
  intro k
  induction k with
  | zero => intro n; show n / 2 &&& 0 = 0; rw [Nat.and_zero]
  | succ k ih =>
    intro n
    rw [byR_s, byM_s, ← ih, ← and7 (n / 256 % 2) (e := n % 256 / 2) (by omega) hm, ← and8 _ _ (by omega) (by omega)]
    congr 1
    omega
theorem and_2s {m : Nat} (hm : m < 64) : ∀ k n, n / 4 &&& byR m k = byM (fun b => b / 4 &&& m) k n := by
  intro k
  induction k with
  | zero => intro n; show n / 4 &&& 0 = 0; rw [Nat.and_zero]
  | succ k ih =>
    intro n
    rw [byR_s, byM_s, ← ih, ← and6 (n / 256 % 4) (e := n % 256 / 4) (by omega) hm, ← and8 _ _ (by omega) (by omega)]
    congr 1
    omega
theorem and_4s {g : Nat → Nat} (e : ∀ b, b < 256 → g b % 16 ≤ 4 ∧ g b / 16 ≤ 4) : ∀ k n, (byM g k n + byM g k n / 16) &&& byR 15 k = byM (fun b => (g b + g b / 16) % 16) k n := by
  intro k
  induction k with
  | zero => intro n; show _ &&& 0 = 0; rw [Nat.and_zero]
  | succ k ih =>
    intro n
    have l := e (n % 256) (Nat.mod_lt _ (by decide))
    have z : byM g k (n / 256) % 16 ≤ 4 := by
      cases k with
      | zero => exact Nat.zero_le _
      | succ k =>
        have := e (n / 256 % 256) (Nat.mod_lt _ (by decide))
        rw [byM_s]
        omega
    rw [byR_s, byM_s, byM_s, ← ih]
    have e1 : 256 * byM g k (n / 256) + g (n % 256) + (256 * byM g k (n / 256) + g (n % 256)) / 16 = 256 * (byM g k (n / 256) + byM g k (n / 256) / 16) + (g (n % 256) + g (n % 256) / 16 + 16 * (byM g k (n / 256) % 16)) := by omega
    rw [e1, and8 _ _ (by omega) (by decide)]
    have e2 := Nat.and_two_pow_sub_one_eq_mod (g (n % 256) + g (n % 256) / 16 + 16 * (byM g k (n / 256) % 16)) 4
    rw [show (2 ^ 4 - 1 : Nat) = 15 from rfl, show (2 ^ 4 : Nat) = 16 from rfl] at e2
    rw [e2]
    congr 1
    omega
def bc1 (b : Nat) : Nat := b - (b / 2 &&& 85)
def bc2 (b : Nat) : Nat := (b &&& 51) + (b / 4 &&& 51)
def bc8 (b : Nat) : Nat := (bc2 (bc1 b) + bc2 (bc1 b) / 16) % 16
def tbN (n i : Nat) : Nat := if n.testBit i = true then 1 else 0
theorem bc_a : ∀ b, b < 256 → (b / 2 &&& 85) ≤ b ∧ bc1 b < 256 ∧ bc2 b < 256 := by decide +kernel
theorem bc_b : ∀ b, b < 256 → bc2 (bc1 b) % 16 ≤ 4 ∧ bc2 (bc1 b) / 16 ≤ 4 ∧ bc8 b ≤ 8 ∧ bc8 b = sumN (tbN b) 8 := by decide +kernel
theorem st_1 {n : Nat} (hn : n < 2 ^ 64) : lN n - ((((lN n)).toUInt64 >>> (((1 : Int32)).toInt64.toUInt64 &&& Int64.toUInt64 63)).toInt64 &&& (6148914691236517205 : Int64)) = lN (byM bc1 8 n) := by
  have s1 : (((lN n)).toUInt64 >>> (((1 : Int32)).toInt64.toUInt64 &&& Int64.toUInt64 63)).toInt64 = lN (n / 2) := wb_shr (k := 1) hn (by decide)
  have c : (6148914691236517205 : Int64) = lN (byR 85 8) := by decide +kernel
  have l : byR 85 8 < 2 ^ 64 := by decide +kernel
  have i := by_id 8 n hn
  obtain ⟨a, b⟩ := by_sub (g := fun b => b) (h := fun b => b / 2 &&& 85) (fun b hb => (bc_a b hb).1) 8 n
  rw [s1, c, wb_and (by omega) l, and_1s (by decide), lN_sub (by rw [i] at a; exact a)]
  rw [i] at b
  rw [b]
  rfl
theorem st_2 {n : Nat} (hn : n < 2 ^ 64) : (lN n &&& (3689348814741910323 : Int64)) + ((((lN n)).toUInt64 >>> (((2 : Int32)).toInt64.toUInt64 &&& Int64.toUInt64 63)).toInt64 &&& (3689348814741910323 : Int64)) = lN (byM bc2 8 n) := by
  have s1 : (((lN n)).toUInt64 >>> (((2 : Int32)).toInt64.toUInt64 &&& Int64.toUInt64 63)).toInt64 = lN (n / 4) := wb_shr (k := 2) hn (by decide)
  have c : (3689348814741910323 : Int64) = lN (byR 51 8) := by decide +kernel
  have l : byR 51 8 < 2 ^ 64 := by decide +kernel
  rw [s1, c, wb_and hn l, wb_and (by omega) l, and_0s (by decide), and_2s (by decide), lN_add, by_add]
  rfl
theorem st_3 {g : Nat → Nat} (e : ∀ b, b < 256 → g b % 16 ≤ 4 ∧ g b / 16 ≤ 4) (n : Nat) : (lN (byM g 8 n) + (((lN (byM g 8 n))).toUInt64 >>> (((4 : Int32)).toInt64.toUInt64 &&& Int64.toUInt64 63)).toInt64) &&& (1085102592571150095 : Int64) = lN (byM (fun b => (g b + g b / 16) % 16) 8 n) := by
  have lz : ∀ k n, 255 * byM g k n + 68 ≤ 68 * 256 ^ k := by
    intro k
    induction k with
    | zero => intro n; show 255 * 0 + 68 ≤ 68 * 256 ^ 0; decide
    | succ k ih =>
      intro n
      have := ih (n / 256)
      have := e (n % 256) (Nat.mod_lt _ (by decide))
      rw [byM_s, p256]
      omega
  have hz := lz 8 n
  have e64 : (256 ^ 8 : Nat) = 2 ^ 64 := by decide +kernel
  rw [e64] at hz
  have s1 : (((lN (byM g 8 n))).toUInt64 >>> (((4 : Int32)).toInt64.toUInt64 &&& Int64.toUInt64 63)).toInt64 = lN (byM g 8 n / 16) := wb_shr (k := 4) (by omega) (by decide)
  have c : (1085102592571150095 : Int64) = lN (byR 15 8) := by decide +kernel
  have l : byR 15 8 < 2 ^ 64 := by decide +kernel
  rw [s1, c, lN_add, wb_and (by omega) l, and_4s e]
theorem st_8 {n : Nat} (hn : n < 2 ^ 64) : lN n + (((lN n)).toUInt64 >>> (((8 : Int32)).toInt64.toUInt64 &&& Int64.toUInt64 63)).toInt64 = lN (n + n / 256) := by
  have s1 : (((lN n)).toUInt64 >>> (((8 : Int32)).toInt64.toUInt64 &&& Int64.toUInt64 63)).toInt64 = lN (n / 256) := wb_shr (k := 8) hn (by decide)
  rw [s1, lN_add]
theorem st_16 {n : Nat} (hn : n < 2 ^ 64) : lN n + (((lN n)).toUInt64 >>> (((16 : Int32)).toInt64.toUInt64 &&& Int64.toUInt64 63)).toInt64 = lN (n + n / 65536) := by
  have s1 : (((lN n)).toUInt64 >>> (((16 : Int32)).toInt64.toUInt64 &&& Int64.toUInt64 63)).toInt64 = lN (n / 65536) := wb_shr (k := 16) hn (by decide)
  rw [s1, lN_add]
theorem st_32 {n : Nat} (hn : n < 2 ^ 64) : lN n + (((lN n)).toUInt64 >>> (((32 : Int32)).toInt64.toUInt64 &&& Int64.toUInt64 63)).toInt64 = lN (n + n / 4294967296) := by
  have s1 : (((lN n)).toUInt64 >>> (((32 : Int32)).toInt64.toUInt64 &&& Int64.toUInt64 63)).toInt64 = lN (n / 4294967296) := wb_shr (k := 32) hn (by decide)
  rw [s1, lN_add]
theorem nI_127 (n : Nat) : nI n &&& (127 : Int32) = nI (n % 128) := by
  apply Int32.toBitVec_inj.mp
  rw [Int32.toBitVec_and]
  show BitVec.ofNat 32 n &&& BitVec.ofNat 32 127 = BitVec.ofNat 32 (n % 128)
  apply BitVec.eq_of_toNat_eq
  rw [BitVec.toNat_and, BitVec.toNat_ofNat, BitVec.toNat_ofNat, BitVec.toNat_ofNat]
  have e2 := Nat.and_two_pow_sub_one_eq_mod (n % 2 ^ 32) 7
  rw [show (2 ^ 7 - 1 : Nat) = 127 from rfl, show (2 ^ 7 : Nat) = 128 from rfl] at e2
  rw [show 127 % 2 ^ 32 = 127 from rfl, e2]
  omega
theorem dv_lo (X a d : Nat) (h : a < d) : (d * X + a) / d = X := by
  rw [Nat.mul_add_div (by omega), Nat.div_eq_of_lt h, Nat.add_zero]
theorem fq_1 (a b c d e f g h : Nat) : (256 * (256 * (256 * (256 * (256 * (256 * (256 * h + g) + f) + e) + d) + c) + b) + a) + (256 * (256 * (256 * (256 * (256 * (256 * h + g) + f) + e) + d) + c) + b) = 65536 * (1099511627776 * h + 4294967296 * (g + h) + 16777216 * (f + g) + 65536 * (e + f) + 256 * (d + e) + (c + d)) + (256 * (b + c) + (a + b)) := by omega
theorem fq_2 (a b c d e f g h : Nat) : 65536 * (1099511627776 * h + 4294967296 * (g + h) + 16777216 * (f + g) + 65536 * (e + f) + 256 * (d + e) + (c + d)) + (256 * (b + c) + (a + b)) + (1099511627776 * h + 4294967296 * (g + h) + 16777216 * (f + g) + 65536 * (e + f) + 256 * (d + e) + (c + d)) = 4294967296 * (16777216 * h + 65536 * (g + h) + 256 * (f + g + h) + (e + f + g + h)) + (16777216 * (d + e + f + g) + 65536 * (c + d + e + f) + 256 * (b + c + d + e) + (a + b + c + d)) := by omega
theorem fq_3 (a b c d e f g h : Nat) : 4294967296 * (16777216 * h + 65536 * (g + h) + 256 * (f + g + h) + (e + f + g + h)) + (16777216 * (d + e + f + g) + 65536 * (c + d + e + f) + 256 * (b + c + d + e) + (a + b + c + d)) + (16777216 * h + 65536 * (g + h) + 256 * (f + g + h) + (e + f + g + h)) = 128 * (33554432 * (16777216 * h + 65536 * (g + h) + 256 * (f + g + h) + (e + f + g + h)) + 131072 * (d + e + f + g) + 512 * (c + d + e + f) + 2 * (b + c + d + e) + 131072 * h + 512 * (g + h) + 2 * (f + g + h)) + (a + b + c + d + e + f + g + h) := by omega
theorem fb_1 {a b c : Nat} (ha : a ≤ 8) (hb : b ≤ 8) (hc : c ≤ 8) : (256 * (b + c) + (a + b)) < 65536 := by omega
theorem fb_2 {a b c d e f g : Nat} (ha : a ≤ 8) (hb : b ≤ 8) (hc : c ≤ 8) (hd : d ≤ 8) (he : e ≤ 8) (hf : f ≤ 8) (hg : g ≤ 8) : (16777216 * (d + e + f + g) + 65536 * (c + d + e + f) + 256 * (b + c + d + e) + (a + b + c + d)) < 4294967296 := by omega
theorem fb_3 {a b c d e f g h : Nat} (ha : a ≤ 8) (hb : b ≤ 8) (hc : c ≤ 8) (hd : d ≤ 8) (he : e ≤ 8) (hf : f ≤ 8) (hg : g ≤ 8) (hh : h ≤ 8) : (a + b + c + d + e + f + g + h) < 128 := by omega
theorem fb_4 {a b c d e f g h : Nat} (ha : a ≤ 8) (hb : b ≤ 8) (hc : c ≤ 8) (hd : d ≤ 8) (he : e ≤ 8) (hf : f ≤ 8) (hg : g ≤ 8) (hh : h ≤ 8) : (256 * (256 * (256 * (256 * (256 * (256 * (256 * h + g) + f) + e) + d) + c) + b) + a) < 2 ^ 60 := by omega
theorem fin_8 {a b c d e f g h : Nat} (ha : a ≤ 8) (hb : b ≤ 8) (hc : c ≤ 8) (hd : d ≤ 8) (he : e ≤ 8) (hf : f ≤ 8) (hg : g ≤ 8) (hh : h ≤ 8) {w w1 w2 w3 : Nat} (e0 : w = 256 * (256 * (256 * (256 * (256 * (256 * (256 * (256 * 0 + h) + g) + f) + e) + d) + c) + b) + a) (e1 : w1 = w + w / 256) (e2 : w2 = w1 + w1 / 65536) (e3 : w3 = w2 + w2 / 4294967296) : w < 2 ^ 60 ∧ w3 % 128 = a + b + c + d + e + f + g + h := by
  rw [Nat.mul_zero, Nat.zero_add] at e0
  have f1 : w / 256 = (256 * (256 * (256 * (256 * (256 * (256 * h + g) + f) + e) + d) + c) + b) := by
    rw [e0]
    exact dv_lo (256 * (256 * (256 * (256 * (256 * (256 * h + g) + f) + e) + d) + c) + b) a 256 (Nat.lt_of_le_of_lt ha (by decide))
  rw [f1, e0, fq_1] at e1
  have f3 : w1 / 65536 = (1099511627776 * h + 4294967296 * (g + h) + 16777216 * (f + g) + 65536 * (e + f) + 256 * (d + e) + (c + d)) := by
    rw [e1]
    exact dv_lo (1099511627776 * h + 4294967296 * (g + h) + 16777216 * (f + g) + 65536 * (e + f) + 256 * (d + e) + (c + d)) (256 * (b + c) + (a + b)) 65536 (fb_1 ha hb hc)
  rw [f3, e1, fq_2] at e2
  have f5 : w2 / 4294967296 = (16777216 * h + 65536 * (g + h) + 256 * (f + g + h) + (e + f + g + h)) := by
    rw [e2]
    exact dv_lo (16777216 * h + 65536 * (g + h) + 256 * (f + g + h) + (e + f + g + h)) (16777216 * (d + e + f + g) + 65536 * (c + d + e + f) + 256 * (b + c + d + e) + (a + b + c + d)) 4294967296 (fb_2 ha hb hc hd he hf hg)
  rw [f5, e2, fq_3] at e3
  refine ⟨?_, ?_⟩
  · rw [e0]
    exact fb_4 ha hb hc hd he hf hg hh
  · rw [e3, Nat.mul_add_mod]
    exact Nat.mod_eq_of_lt (fb_3 ha hb hc hd he hf hg hh)
theorem sum_app (f : Nat → Nat) (m : Nat) : ∀ n, sumN f (m + n) = sumN f m + sumN (fun i => f (m + i)) n := by
  intro n
  induction n with
  | zero => rfl
  | succ n ih => rw [show m + (n + 1) = (m + n) + 1 from rfl, sum_s, ih, sum_s]; omega
theorem tb_lo (n : Nat) : sumN (tbN n) 8 = sumN (tbN (n % 256)) 8 := sum_ext (fun i hi => by
  have := Nat.testBit_mod_two_pow n 8 i
  unfold tbN
  rw [show n % 256 = n % 2 ^ 8 from rfl, this, decide_eq_true hi, Bool.true_and])
theorem tb_hi (n m : Nat) : sumN (fun i => tbN n (8 + i)) m = sumN (tbN (n / 256)) m := sum_ext (fun i hi => by
  have := Nat.testBit_div_two_pow (n := 8) n i
  unfold tbN
  rw [show n / 256 = n / 2 ^ 8 from rfl, this, Nat.add_comm])
theorem sum_64 (n : Nat) : sumN (tbN n) 64 = bc8 (n % 256) + bc8 (n / 256 % 256) + bc8 (n / 256 / 256 % 256) + bc8 (n / 256 / 256 / 256 % 256) + bc8 (n / 256 / 256 / 256 / 256 % 256) + bc8 (n / 256 / 256 / 256 / 256 / 256 % 256) + bc8 (n / 256 / 256 / 256 / 256 / 256 / 256 % 256) + bc8 (n / 256 / 256 / 256 / 256 / 256 / 256 / 256 % 256) := by
  have s : ∀ n m, sumN (tbN n) (8 + m) = bc8 (n % 256) + sumN (tbN (n / 256)) m := fun n m => by
    rw [sum_app, tb_hi, tb_lo, ← (bc_b (n % 256) (Nat.mod_lt _ (by decide))).2.2.2]
  rw [show 64 = 8 + (8 + (8 + (8 + (8 + (8 + (8 + (8 + 0))))))) from rfl, s, s, s, s, s, s, s, s]
  show _ + (_ + (_ + (_ + (_ + (_ + (_ + (_ + 0))))))) = _
  omega

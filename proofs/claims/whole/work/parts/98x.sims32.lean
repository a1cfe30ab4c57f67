theorem c_bits {n : Nat} (hn : n < 2 ^ 64) {Q : Int32 → Prop} (q : Q (nI (sumN (tbN n) 64))) : pJ13_bitCount_95d88 (lN n) Q := by
  have e64 : (256 ^ 8 : Nat) = 2 ^ 64 := by decide +kernel
  have l1 : byM bc1 8 n < 2 ^ 64 := by
    have := by_lt (g := bc1) (fun b hb => (bc_a b hb).2.1) 8 n
    rw [e64] at this
    exact this
  have e2 : byM bc2 8 (byM bc1 8 n) = byM (fun b => bc2 (bc1 b)) 8 n := by_comp bc2 (fun b hb => (bc_a b hb).2.1) 8 n
  have e3 := st_3 (g := fun b => bc2 (bc1 b)) (fun b hb => ⟨(bc_b b hb).1, (bc_b b hb).2.1⟩) n
  have b8 := fun m => (bc_b (m % 256) (Nat.mod_lt _ (by decide))).2.2.1
  obtain ⟨lw, f⟩ := fin_8 (b8 n) (b8 (n / 256)) (b8 (n / 256 / 256)) (b8 (n / 256 / 256 / 256)) (b8 (n / 256 / 256 / 256 / 256)) (b8 (n / 256 / 256 / 256 / 256 / 256)) (b8 (n / 256 / 256 / 256 / 256 / 256 / 256)) (b8 (n / 256 / 256 / 256 / 256 / 256 / 256 / 256)) (w := byM bc8 8 n) rfl rfl rfl rfl
  have e3 : (lN (byM (fun b => bc2 (bc1 b)) 8 n) + (((lN (byM (fun b => bc2 (bc1 b)) 8 n))).toUInt64 >>> (((4 : Int32)).toInt64.toUInt64 &&& Int64.toUInt64 63)).toInt64) &&& (1085102592571150095 : Int64) = lN (byM bc8 8 n) := e3
  unfold pJ13_bitCount_95d88
  rw [st_1 hn, st_2 l1, e2, e3, st_8 (by omega), st_16 (by omega), st_32 (by omega), lN_i, nI_127, f, ← sum_64]
  exact q

def wX0 (d : Nat → Nat) (a1 a2 a3 a4 : Nat) (v : Lf) : va_W := [(d 0, .inr (0, [.ref a1, .ref a2, .ref a3, .ref a4, .int (v 0 4), .int (v 0 5), .int (v 0 6), .int (v 0 7), .int (v 0 8), .int (v 0 9), .int (v 0 10), .int (v 0 11), .int (v 0 12), .int (v 0 13), .int (v 0 14), .int (v 0 15)]))]
def wX1 (cI : ClassId) (d : Nat → Nat) (v : Lf) : va_W := [(d 0, .inr (1, [.int (v 0 0), .int (v 0 1), .ref (d 1), .ref (d 2), .ref (d 3), .ref (d 4), .ref (d 5)])), (d 1, .inl (cI, 8, .inl (v 1))), (d 2, .inl (cI, 8, .inl (v 2))), (d 3, .inl (cI, 64, .inl (v 3))), (d 4, .inl (cI, 64, .inl (v 4))), (d 5, .inl (cI, 64, .inl (v 5)))]
def wX2 (cI : ClassId) (d : Nat → Nat) (v : Lf) : va_W := [(d 0, .inr (2, [.int (v 0 0), .ref (d 1), .ref (d 2), .ref (d 3)])), (d 1, .inl (cI, 6, .inl (v 1))), (d 2, .inl (cI, 6, .inl (v 2))), (d 3, .inl (cI, 6, .inl (v 3)))]
def wX3 (cI : ClassId) (d : Nat → Nat) (v : Lf) : va_W := [(d 0, .inr (3, [.ref (d 1), .int (v 0 1), .int (v 0 2), .int (v 0 3), .int (v 0 4), .ref (d 2), .ref (d 3), .ref (d 4), .ref (d 5)])), (d 1, .inl (cI, 100, .inl (v 1))), (d 2, .inl (cI, 4, .inl (v 2))), (d 3, .inl (cI, 4, .inl (v 3))), (d 4, .inl (cI, 32, .inl (v 4))), (d 5, .inl (cI, 16, .inl (v 5)))]
def wX4 (cI : ClassId) (n : Nat) (d : Nat → Nat) (v : Lf) : va_W := [(d 0, .inr (4, [.int (v 0 0), .int (v 0 1), .ref (d 1)])), (d 1, .inl (cI, n, .inl (v 1)))]
def wX5 (cI : ClassId) (d : Nat → Nat) (v : Lf) : va_W := [(d 0, .inr (5, [.int (v 0 0), .ref (d 1), .ref (d 2), .ref (d 3), .ref (d 4), .ref (d 5), .ref (d 6), .ref (d 7)])), (d 1, .inl (cI, 32, .inl (v 1))), (d 2, .inl (cI, 8, .inl (v 2))), (d 3, .inl (cI, 8, .inl (v 3))), (d 4, .inl (cI, 8, .inl (v 4))), (d 5, .inl (cI, 8, .inl (v 5))), (d 6, .inl (cI, 8, .inl (v 6))), (d 7, .inl (cI, 8, .inl (v 7)))]
def wX6 (cJ : ClassId) (d : Nat → Nat) (v : Lf) (g : Lg) : va_W := [(d 0, .inr (6, [.int (v 0 0), .int (v 0 1), .ref (d 1)])), (d 1, .inl (cJ, 60, .inr (.inl (g 1))))]
def wX7 (cI : ClassId) (d : Nat → Nat) (v : Lf) : va_W := [(d 0, .inr (7, [.int (v 0 0), .int (v 0 1), .ref (d 1)])), (d 1, .inl (cI, 15, .inl (v 1)))]
def wX8 (d : Nat → Nat) (a1 a2 a3 a4 a5 : Nat) : va_W := [(d 0, .inr (8, [.ref a1, .ref a2, .ref a3, .ref a4, .ref a5]))]
def wX9 (d : Nat → Nat) (a1 a2 a3 a4 a5 a6 a7 a8 a9 : Nat) (dtt : Nat) (v : Lf) : va_W := [(d 0, .inr (9, [.ref a1, .ref a2, .ref a3, .ref a4, .ref a5, .ref a6, .ref a7, .ref a8, .ref a9, .ref dtt, .int (v 0 10), .int (v 0 11)]))]
def wX10 (cI : ClassId) (cJ : ClassId) (d : Nat → Nat) (v : Lf) (g : Lg) : va_W := [(d 0, .inr (10, [.ref (d 1), .ref (d 2), .ref (d 3), .int (v 0 3), .int (v 0 4), .ref (d 4), .ref (d 5), .ref (d 6), .ref (d 7), .int (v 0 9), .int (v 0 10), .int (v 0 11), .ref (d 8), .ref (d 9), .ref (d 10), .ref (d 11), .int (v 0 16)])), (d 1, .inl (cI, 372, .inl (v 1))), (d 2, .inl (cI, 372, .inl (v 2))), (d 3, .inl (cI, 372, .inl (v 3))), (d 4, .inl (cI, 64, .inl (v 4))), (d 5, .inl (cI, 64, .inl (v 5))), (d 6, .inl (cI, 100, .inl (v 6))), (d 7, .inl (cI, 56, .inl (v 7))), (d 8, .inl (cI, 6, .inl (v 8))), (d 9, .inl (cI, 6, .inl (v 9))), (d 10, .inl (cJ, 360, .inr (.inl (g 10)))), (d 11, .inl (cJ, 60, .inr (.inl (g 11))))]
def wTT (cJ cT : ClassId) (dtt : Nat) (dt : Nat → Nat → Nat) (vt : Nat → Lf) (gt : Nat → Lg) : va_W := [(dtt, .inl (cT, 6, .inr (.inr (.inr (.inr (fun i => some (dt i 0))))))), (dt 0 0, .inr (6, [.int (vt 0 0 0), .int (vt 0 0 1), .ref (dt 0 1)])), (dt 0 1, .inl (cJ, 60, .inr (.inl (gt 0 1)))), (dt 1 0, .inr (6, [.int (vt 1 0 0), .int (vt 1 0 1), .ref (dt 1 1)])), (dt 1 1, .inl (cJ, 60, .inr (.inl (gt 1 1)))), (dt 2 0, .inr (6, [.int (vt 2 0 0), .int (vt 2 0 1), .ref (dt 2 1)])), (dt 2 1, .inl (cJ, 60, .inr (.inl (gt 2 1)))), (dt 3 0, .inr (6, [.int (vt 3 0 0), .int (vt 3 0 1), .ref (dt 3 1)])), (dt 3 1, .inl (cJ, 60, .inr (.inl (gt 3 1)))), (dt 4 0, .inr (6, [.int (vt 4 0 0), .int (vt 4 0 1), .ref (dt 4 1)])), (dt 4 1, .inl (cJ, 60, .inr (.inl (gt 4 1)))), (dt 5 0, .inr (6, [.int (vt 5 0 0), .int (vt 5 0 1), .ref (dt 5 1)])), (dt 5 1, .inl (cJ, 60, .inr (.inl (gt 5 1))))]
theorem cl_0 : (0 : Int32).toNatClampNeg = 0 := by decide +kernel
theorem cl_1 : (1 : Int32).toNatClampNeg = 1 := by decide +kernel
theorem cl_2 : (2 : Int32).toNatClampNeg = 2 := by decide +kernel
theorem cl_3 : (3 : Int32).toNatClampNeg = 3 := by decide +kernel
theorem cl_4 : (4 : Int32).toNatClampNeg = 4 := by decide +kernel
theorem cl_5 : (5 : Int32).toNatClampNeg = 5 := by decide +kernel
theorem cl_6 : (6 : Int32).toNatClampNeg = 6 := by decide +kernel
theorem cl_7 : (7 : Int32).toNatClampNeg = 7 := by decide +kernel
theorem cl_8 : (8 : Int32).toNatClampNeg = 8 := by decide +kernel
theorem cl_9 : (9 : Int32).toNatClampNeg = 9 := by decide +kernel
theorem cl_10 : (10 : Int32).toNatClampNeg = 10 := by decide +kernel
theorem cl_11 : (11 : Int32).toNatClampNeg = 11 := by decide +kernel
theorem cl_12 : (12 : Int32).toNatClampNeg = 12 := by decide +kernel
theorem cl_13 : (13 : Int32).toNatClampNeg = 13 := by decide +kernel
theorem cl_14 : (14 : Int32).toNatClampNeg = 14 := by decide +kernel
theorem cl_15 : (15 : Int32).toNatClampNeg = 15 := by decide +kernel
theorem cl_16 : (16 : Int32).toNatClampNeg = 16 := by decide +kernel
theorem cl_17 : (17 : Int32).toNatClampNeg = 17 := by decide +kernel
theorem cl_18 : (18 : Int32).toNatClampNeg = 18 := by decide +kernel
theorem cl_19 : (19 : Int32).toNatClampNeg = 19 := by decide +kernel
theorem cl_20 : (20 : Int32).toNatClampNeg = 20 := by decide +kernel
theorem vi_0_372 : vp_in (0 : Int32) 372 := by unfold vp_in; decide +kernel
theorem vi_1_372 : vp_in (1 : Int32) 372 := by unfold vp_in; decide +kernel
theorem vi_2_372 : vp_in (2 : Int32) 372 := by unfold vp_in; decide +kernel
theorem vi_3_372 : vp_in (3 : Int32) 372 := by unfold vp_in; decide +kernel
theorem vi_4_372 : vp_in (4 : Int32) 372 := by unfold vp_in; decide +kernel
theorem vi_5_372 : vp_in (5 : Int32) 372 := by unfold vp_in; decide +kernel
theorem vi_6_372 : vp_in (6 : Int32) 372 := by unfold vp_in; decide +kernel
theorem vi_7_372 : vp_in (7 : Int32) 372 := by unfold vp_in; decide +kernel
theorem vi_8_372 : vp_in (8 : Int32) 372 := by unfold vp_in; decide +kernel
theorem vi_9_372 : vp_in (9 : Int32) 372 := by unfold vp_in; decide +kernel
theorem vi_10_372 : vp_in (10 : Int32) 372 := by unfold vp_in; decide +kernel
theorem vi_11_372 : vp_in (11 : Int32) 372 := by unfold vp_in; decide +kernel
theorem vi_12_372 : vp_in (12 : Int32) 372 := by unfold vp_in; decide +kernel
theorem vi_13_372 : vp_in (13 : Int32) 372 := by unfold vp_in; decide +kernel
theorem vi_14_372 : vp_in (14 : Int32) 372 := by unfold vp_in; decide +kernel
theorem vi_15_372 : vp_in (15 : Int32) 372 := by unfold vp_in; decide +kernel
theorem vi_16_372 : vp_in (16 : Int32) 372 := by unfold vp_in; decide +kernel
theorem vi_17_372 : vp_in (17 : Int32) 372 := by unfold vp_in; decide +kernel
theorem vi_18_372 : vp_in (18 : Int32) 372 := by unfold vp_in; decide +kernel
theorem vi_19_372 : vp_in (19 : Int32) 372 := by unfold vp_in; decide +kernel
theorem vi_20_372 : vp_in (20 : Int32) 372 := by unfold vp_in; decide +kernel
theorem z_out0_13 {x : Int32} (h0 : ¬ x = 0) (h1 : ¬ x = 1) (h2 : ¬ x = 2) (h3 : ¬ x = 3) (h4 : ¬ x = 4) (h5 : ¬ x = 5) (h6 : ¬ x = 6) (h7 : ¬ x = 7) (h8 : ¬ x = 8) (h9 : ¬ x = 9) (h10 : ¬ x = 10) (h11 : ¬ x = 11) (h12 : ¬ x = 12) (h13 : ¬ x = 13) : x.toInt < 0 ∨ 13 < x.toInt := by
  have e0 : x.toInt ≠ 0 := fun e => h0 (Int32.toInt_inj.mp (e.trans (by decide)))
  have e1 : x.toInt ≠ 1 := fun e => h1 (Int32.toInt_inj.mp (e.trans (by decide)))
  have e2 : x.toInt ≠ 2 := fun e => h2 (Int32.toInt_inj.mp (e.trans (by decide)))
  have e3 : x.toInt ≠ 3 := fun e => h3 (Int32.toInt_inj.mp (e.trans (by decide)))
  have e4 : x.toInt ≠ 4 := fun e => h4 (Int32.toInt_inj.mp (e.trans (by decide)))
  have e5 : x.toInt ≠ 5 := fun e => h5 (Int32.toInt_inj.mp (e.trans (by decide)))
  have e6 : x.toInt ≠ 6 := fun e => h6 (Int32.toInt_inj.mp (e.trans (by decide)))
  have e7 : x.toInt ≠ 7 := fun e => h7 (Int32.toInt_inj.mp (e.trans (by decide)))
  have e8 : x.toInt ≠ 8 := fun e => h8 (Int32.toInt_inj.mp (e.trans (by decide)))
  have e9 : x.toInt ≠ 9 := fun e => h9 (Int32.toInt_inj.mp (e.trans (by decide)))
  have e10 : x.toInt ≠ 10 := fun e => h10 (Int32.toInt_inj.mp (e.trans (by decide)))
  have e11 : x.toInt ≠ 11 := fun e => h11 (Int32.toInt_inj.mp (e.trans (by decide)))
  have e12 : x.toInt ≠ 12 := fun e => h12 (Int32.toInt_inj.mp (e.trans (by decide)))
  have e13 : x.toInt ≠ 13 := fun e => h13 (Int32.toInt_inj.mp (e.trans (by decide)))
  omega
theorem z_out0_18 {x : Int32} (h0 : ¬ x = 0) (h1 : ¬ x = 1) (h2 : ¬ x = 2) (h3 : ¬ x = 3) (h4 : ¬ x = 4) (h5 : ¬ x = 5) (h6 : ¬ x = 6) (h7 : ¬ x = 7) (h8 : ¬ x = 8) (h9 : ¬ x = 9) (h10 : ¬ x = 10) (h11 : ¬ x = 11) (h12 : ¬ x = 12) (h13 : ¬ x = 13) (h14 : ¬ x = 14) (h15 : ¬ x = 15) (h16 : ¬ x = 16) (h17 : ¬ x = 17) (h18 : ¬ x = 18) : x.toInt < 0 ∨ 18 < x.toInt := by
  have e0 : x.toInt ≠ 0 := fun e => h0 (Int32.toInt_inj.mp (e.trans (by decide)))
  have e1 : x.toInt ≠ 1 := fun e => h1 (Int32.toInt_inj.mp (e.trans (by decide)))
  have e2 : x.toInt ≠ 2 := fun e => h2 (Int32.toInt_inj.mp (e.trans (by decide)))
  have e3 : x.toInt ≠ 3 := fun e => h3 (Int32.toInt_inj.mp (e.trans (by decide)))
  have e4 : x.toInt ≠ 4 := fun e => h4 (Int32.toInt_inj.mp (e.trans (by decide)))
  have e5 : x.toInt ≠ 5 := fun e => h5 (Int32.toInt_inj.mp (e.trans (by decide)))
  have e6 : x.toInt ≠ 6 := fun e => h6 (Int32.toInt_inj.mp (e.trans (by decide)))
  have e7 : x.toInt ≠ 7 := fun e => h7 (Int32.toInt_inj.mp (e.trans (by decide)))
  have e8 : x.toInt ≠ 8 := fun e => h8 (Int32.toInt_inj.mp (e.trans (by decide)))
  have e9 : x.toInt ≠ 9 := fun e => h9 (Int32.toInt_inj.mp (e.trans (by decide)))
  have e10 : x.toInt ≠ 10 := fun e => h10 (Int32.toInt_inj.mp (e.trans (by decide)))
  have e11 : x.toInt ≠ 11 := fun e => h11 (Int32.toInt_inj.mp (e.trans (by decide)))
  have e12 : x.toInt ≠ 12 := fun e => h12 (Int32.toInt_inj.mp (e.trans (by decide)))
  have e13 : x.toInt ≠ 13 := fun e => h13 (Int32.toInt_inj.mp (e.trans (by decide)))
  have e14 : x.toInt ≠ 14 := fun e => h14 (Int32.toInt_inj.mp (e.trans (by decide)))
  have e15 : x.toInt ≠ 15 := fun e => h15 (Int32.toInt_inj.mp (e.trans (by decide)))
  have e16 : x.toInt ≠ 16 := fun e => h16 (Int32.toInt_inj.mp (e.trans (by decide)))
  have e17 : x.toInt ≠ 17 := fun e => h17 (Int32.toInt_inj.mp (e.trans (by decide)))
  have e18 : x.toInt ≠ 18 := fun e => h18 (Int32.toInt_inj.mp (e.trans (by decide)))
  omega
theorem z_out0_2 {x : Int32} (h0 : ¬ x = 0) (h1 : ¬ x = 1) (h2 : ¬ x = 2) : x.toInt < 0 ∨ 2 < x.toInt := by
  have e0 : x.toInt ≠ 0 := fun e => h0 (Int32.toInt_inj.mp (e.trans (by decide)))
  have e1 : x.toInt ≠ 1 := fun e => h1 (Int32.toInt_inj.mp (e.trans (by decide)))
  have e2 : x.toInt ≠ 2 := fun e => h2 (Int32.toInt_inj.mp (e.trans (by decide)))
  omega
theorem z_out0_3 {x : Int32} (h0 : ¬ x = 0) (h1 : ¬ x = 1) (h2 : ¬ x = 2) (h3 : ¬ x = 3) : x.toInt < 0 ∨ 3 < x.toInt := by
  have e0 : x.toInt ≠ 0 := fun e => h0 (Int32.toInt_inj.mp (e.trans (by decide)))
  have e1 : x.toInt ≠ 1 := fun e => h1 (Int32.toInt_inj.mp (e.trans (by decide)))
  have e2 : x.toInt ≠ 2 := fun e => h2 (Int32.toInt_inj.mp (e.trans (by decide)))
  have e3 : x.toInt ≠ 3 := fun e => h3 (Int32.toInt_inj.mp (e.trans (by decide)))
  omega
theorem z_out0_7 {x : Int32} (h0 : ¬ x = 0) (h1 : ¬ x = 1) (h2 : ¬ x = 2) (h3 : ¬ x = 3) (h4 : ¬ x = 4) (h5 : ¬ x = 5) (h6 : ¬ x = 6) (h7 : ¬ x = 7) : x.toInt < 0 ∨ 7 < x.toInt := by
  have e0 : x.toInt ≠ 0 := fun e => h0 (Int32.toInt_inj.mp (e.trans (by decide)))
  have e1 : x.toInt ≠ 1 := fun e => h1 (Int32.toInt_inj.mp (e.trans (by decide)))
  have e2 : x.toInt ≠ 2 := fun e => h2 (Int32.toInt_inj.mp (e.trans (by decide)))
  have e3 : x.toInt ≠ 3 := fun e => h3 (Int32.toInt_inj.mp (e.trans (by decide)))
  have e4 : x.toInt ≠ 4 := fun e => h4 (Int32.toInt_inj.mp (e.trans (by decide)))
  have e5 : x.toInt ≠ 5 := fun e => h5 (Int32.toInt_inj.mp (e.trans (by decide)))
  have e6 : x.toInt ≠ 6 := fun e => h6 (Int32.toInt_inj.mp (e.trans (by decide)))
  have e7 : x.toInt ≠ 7 := fun e => h7 (Int32.toInt_inj.mp (e.trans (by decide)))
  omega

def wX0 (d : Nat → Nat) (a1 a2 a3 a4 : Nat) (v : Lf) : va_W := [(d 0, .inr (0, [.ref a1, .ref a2, .ref a3, .ref a4, .int (v 0 4), .int (v 0 5), .int (v 0 6), .int (v 0 7), .int (v 0 8), .int (v 0 9), .int (v 0 10), .int (v 0 11), .int (v 0 12), .int (v 0 13), .int (v 0 14), .int (v 0 15)]))]
def wX1 (cI : ClassId) (d : Nat → Nat) (v : Lf) : va_W := [(d 0, .inr (1, [.int (v 0 0), .int (v 0 1), .ref (d 1), .ref (d 2), .ref (d 3), .ref (d 4), .ref (d 5)])), (d 1, .inl (cI, 8, .inl (v 1))), (d 2, .inl (cI, 8, .inl (v 2))), (d 3, .inl (cI, 64, .inl (v 3))), (d 4, .inl (cI, 64, .inl (v 4))), (d 5, .inl (cI, 64, .inl (v 5)))]
def wX2 (cI : ClassId) (d : Nat → Nat) (v : Lf) : va_W := [(d 0, .inr (2, [.int (v 0 0), .ref (d 1), .ref (d 2), .ref (d 3)])), (d 1, .inl (cI, 6, .inl (v 1))), (d 2, .inl (cI, 6, .inl (v 2))), (d 3, .inl (cI, 6, .inl (v 3)))]
def wX3 (cI : ClassId) (d : Nat → Nat) (v : Lf) : va_W := [(d 0, .inr (3, [.ref (d 1), .int (v 0 1), .int (v 0 2), .int (v 0 3), .int (v 0 4), .ref (d 2), .ref (d 3), .ref (d 4), .ref (d 5)])), (d 1, .inl (cI, 100, .inl (v 1))), (d 2, .inl (cI, 4, .inl (v 2))), (d 3, .inl (cI, 4, .inl (v 3))), (d 4, .inl (cI, 32, .inl (v 4))), (d 5, .inl (cI, 16, .inl (v 5)))]
def wX4 (cI : ClassId) (n : Nat) (d : Nat → Nat) (v : Lf) : va_W := [(d 0, .inr (4, [.int (v 0 0), .int (v 0 1), .ref (d 1)])), (d 1, .inl (cI, n, .inl (v 1)))]
def wX5 (cI : ClassId) (d : Nat → Nat) (v : Lf) : va_W := [(d 0, .inr (5, [.int (v 0 0), .ref (d 1), .ref (d 2), .ref (d 3), .ref (d 4), .ref (d 5), .ref (d 6), .ref (d 7)])), (d 1, .inl (cI, 32, .inl (v 1))), (d 2, .inl (cI, 8, .inl (v 2))), (d 3, .inl (cI, 8, .inl (v 3))), (d 4, .inl (cI, 8, .inl (v 4))), (d 5, .inl (cI, 8, .inl (v 5))), (d 6, .inl (cI, 8, .inl (v 6))), (d 7, .inl (cI, 8, .inl (v 7)))]
def wX6 (cJ : ClassId) (d : Nat → Nat) (v : Lf) (g : Lg) : va_W := [(d 0, .inr (6, [.int (v 0 0), .int (v 0 1), .ref (d 1)])), (d 1, .inl (cJ, 60, .inr (.inl (g 1))))]
def wX7 (cI : ClassId) (d : Nat → Nat) (v : Lf) : va_W := [(d 0, .inr (7, [.int (v 0 0), .int (v 0 1), .ref (d 1)])), (d 1, .inl (cI, 15, .inl (v 1)))]
def wX8 (d : Nat → Nat) (a1 a2 a3 a4 a5 : Nat) : va_W := [(d 0, .inr (8, [.ref a1, .ref a2, .ref a3, .ref a4, .ref a5]))]
def wX9 (d : Nat → Nat) (a1 a2 a3 a4 a5 a6 a7 a8 a9 : Nat) (dtt : Nat) (v : Lf) : va_W := [(d 0, .inr (9, [.ref a1, .ref a2, .ref a3, .ref a4, .ref a5, .ref a6, .ref a7, .ref a8, .ref a9, .ref dtt, .int (v 0 10), .int (v 0 11)]))]
def wX10 (cI : ClassId) (cJ : ClassId) (d : Nat → Nat) (v : Lf) (g : Lg) : va_W := [(d 0, .inr (10, [.ref (d 1), .ref (d 2), .ref (d 3), .int (v 0 3), .int (v 0 4), .ref (d 4), .ref (d 5), .ref (d 6), .ref (d 7), .int (v 0 9), .int (v 0 10), .int (v 0 11), .ref (d 8), .ref (d 9), .ref (d 10), .ref (d 11), .int (v 0 16)])), (d 1, .inl (cI, 372, .inl (v 1))), (d 2, .inl (cI, 372, .inl (v 2))), (d 3, .inl (cI, 372, .inl (v 3))), (d 4, .inl (cI, 64, .inl (v 4))), (d 5, .inl (cI, 64, .inl (v 5))), (d 6, .inl (cI, 100, .inl (v 6))), (d 7, .inl (cI, 56, .inl (v 7))), (d 8, .inl (cI, 6, .inl (v 8))), (d 9, .inl (cI, 6, .inl (v 9))), (d 10, .inl (cJ, 360, .inr (.inl (g 10)))), (d 11, .inl (cJ, 60, .inr (.inl (g 11))))]
def wTT (cJ cT : ClassId) (dtt : Nat) (dt : Nat → Nat → Nat) (vt : Nat → Lf) (gt : Nat → Lg) : va_W := [(dtt, .inl (cT, 6, .inr (.inr (.inr (.inr (fun i => some (dt i 0))))))), (dt 0 0, .inr (6, [.int (vt 0 0 0), .int (vt 0 0 1), .ref (dt 0 1)])), (dt 0 1, .inl (cJ, 60, .inr (.inl (gt 0 1)))), (dt 1 0, .inr (6, [.int (vt 1 0 0), .int (vt 1 0 1), .ref (dt 1 1)])), (dt 1 1, .inl (cJ, 60, .inr (.inl (gt 1 1)))), (dt 2 0, .inr (6, [.int (vt 2 0 0), .int (vt 2 0 1), .ref (dt 2 1)])), (dt 2 1, .inl (cJ, 60, .inr (.inl (gt 2 1)))), (dt 3 0, .inr (6, [.int (vt 3 0 0), .int (vt 3 0 1), .ref (dt 3 1)])), (dt 3 1, .inl (cJ, 60, .inr (.inl (gt 3 1)))), (dt 4 0, .inr (6, [.int (vt 4 0 0), .int (vt 4 0 1), .ref (dt 4 1)])), (dt 4 1, .inl (cJ, 60, .inr (.inl (gt 4 1)))), (dt 5 0, .inr (6, [.int (vt 5 0 0), .int (vt 5 0 1), .ref (dt 5 1)])), (dt 5 1, .inl (cJ, 60, .inr (.inl (gt 5 1))))]
theorem set_r {w1 w2 w2' : va_W} {k i : Nat} {c : Nat × va_E} (h : w1.length = k) (e : w2.set i c = w2') : (w1 ++ w2).set (k + i) c = w1 ++ w2' := by
  subst h
  rw [List.set_append_right _ _ (Nat.le_add_right _ _), Nat.add_sub_cancel_left, e]
theorem set_l {w1 w2 w1' : va_W} {i : Nat} {c : Nat × va_E} (h : i < w1.length) (e : w1.set i c = w1') : (w1 ++ w2).set i c = w1' ++ w2 := by
  rw [List.set_append_left _ _ h, e]
theorem sX0_f4 {d : Nat → Nat} {a1 a2 a3 a4 : Nat} {v : Lf} {x : Int32} : (wX0 d a1 a2 a3 a4 v).set 0 (d 0, .inr (0, [.ref a1, .ref a2, .ref a3, .ref a4, .int x, .int (v 0 5), .int (v 0 6), .int (v 0 7), .int (v 0 8), .int (v 0 9), .int (v 0 10), .int (v 0 11), .int (v 0 12), .int (v 0 13), .int (v 0 14), .int (v 0 15)])) = wX0 d a1 a2 a3 a4 (st v 0 4 x) := rfl
theorem sX0_f5 {d : Nat → Nat} {a1 a2 a3 a4 : Nat} {v : Lf} {x : Int32} : (wX0 d a1 a2 a3 a4 v).set 0 (d 0, .inr (0, [.ref a1, .ref a2, .ref a3, .ref a4, .int (v 0 4), .int x, .int (v 0 6), .int (v 0 7), .int (v 0 8), .int (v 0 9), .int (v 0 10), .int (v 0 11), .int (v 0 12), .int (v 0 13), .int (v 0 14), .int (v 0 15)])) = wX0 d a1 a2 a3 a4 (st v 0 5 x) := rfl
theorem sX0_f6 {d : Nat → Nat} {a1 a2 a3 a4 : Nat} {v : Lf} {x : Int32} : (wX0 d a1 a2 a3 a4 v).set 0 (d 0, .inr (0, [.ref a1, .ref a2, .ref a3, .ref a4, .int (v 0 4), .int (v 0 5), .int x, .int (v 0 7), .int (v 0 8), .int (v 0 9), .int (v 0 10), .int (v 0 11), .int (v 0 12), .int (v 0 13), .int (v 0 14), .int (v 0 15)])) = wX0 d a1 a2 a3 a4 (st v 0 6 x) := rfl
theorem sX0_f7 {d : Nat → Nat} {a1 a2 a3 a4 : Nat} {v : Lf} {x : Int32} : (wX0 d a1 a2 a3 a4 v).set 0 (d 0, .inr (0, [.ref a1, .ref a2, .ref a3, .ref a4, .int (v 0 4), .int (v 0 5), .int (v 0 6), .int x, .int (v 0 8), .int (v 0 9), .int (v 0 10), .int (v 0 11), .int (v 0 12), .int (v 0 13), .int (v 0 14), .int (v 0 15)])) = wX0 d a1 a2 a3 a4 (st v 0 7 x) := rfl
theorem sX0_f8 {d : Nat → Nat} {a1 a2 a3 a4 : Nat} {v : Lf} {x : Int32} : (wX0 d a1 a2 a3 a4 v).set 0 (d 0, .inr (0, [.ref a1, .ref a2, .ref a3, .ref a4, .int (v 0 4), .int (v 0 5), .int (v 0 6), .int (v 0 7), .int x, .int (v 0 9), .int (v 0 10), .int (v 0 11), .int (v 0 12), .int (v 0 13), .int (v 0 14), .int (v 0 15)])) = wX0 d a1 a2 a3 a4 (st v 0 8 x) := rfl
theorem sX0_f9 {d : Nat → Nat} {a1 a2 a3 a4 : Nat} {v : Lf} {x : Int32} : (wX0 d a1 a2 a3 a4 v).set 0 (d 0, .inr (0, [.ref a1, .ref a2, .ref a3, .ref a4, .int (v 0 4), .int (v 0 5), .int (v 0 6), .int (v 0 7), .int (v 0 8), .int x, .int (v 0 10), .int (v 0 11), .int (v 0 12), .int (v 0 13), .int (v 0 14), .int (v 0 15)])) = wX0 d a1 a2 a3 a4 (st v 0 9 x) := rfl
theorem sX0_f10 {d : Nat → Nat} {a1 a2 a3 a4 : Nat} {v : Lf} {x : Int32} : (wX0 d a1 a2 a3 a4 v).set 0 (d 0, .inr (0, [.ref a1, .ref a2, .ref a3, .ref a4, .int (v 0 4), .int (v 0 5), .int (v 0 6), .int (v 0 7), .int (v 0 8), .int (v 0 9), .int x, .int (v 0 11), .int (v 0 12), .int (v 0 13), .int (v 0 14), .int (v 0 15)])) = wX0 d a1 a2 a3 a4 (st v 0 10 x) := rfl
theorem sX0_f11 {d : Nat → Nat} {a1 a2 a3 a4 : Nat} {v : Lf} {x : Int32} : (wX0 d a1 a2 a3 a4 v).set 0 (d 0, .inr (0, [.ref a1, .ref a2, .ref a3, .ref a4, .int (v 0 4), .int (v 0 5), .int (v 0 6), .int (v 0 7), .int (v 0 8), .int (v 0 9), .int (v 0 10), .int x, .int (v 0 12), .int (v 0 13), .int (v 0 14), .int (v 0 15)])) = wX0 d a1 a2 a3 a4 (st v 0 11 x) := rfl
theorem sX0_f12 {d : Nat → Nat} {a1 a2 a3 a4 : Nat} {v : Lf} {x : Int32} : (wX0 d a1 a2 a3 a4 v).set 0 (d 0, .inr (0, [.ref a1, .ref a2, .ref a3, .ref a4, .int (v 0 4), .int (v 0 5), .int (v 0 6), .int (v 0 7), .int (v 0 8), .int (v 0 9), .int (v 0 10), .int (v 0 11), .int x, .int (v 0 13), .int (v 0 14), .int (v 0 15)])) = wX0 d a1 a2 a3 a4 (st v 0 12 x) := rfl
theorem sX0_f13 {d : Nat → Nat} {a1 a2 a3 a4 : Nat} {v : Lf} {x : Int32} : (wX0 d a1 a2 a3 a4 v).set 0 (d 0, .inr (0, [.ref a1, .ref a2, .ref a3, .ref a4, .int (v 0 4), .int (v 0 5), .int (v 0 6), .int (v 0 7), .int (v 0 8), .int (v 0 9), .int (v 0 10), .int (v 0 11), .int (v 0 12), .int x, .int (v 0 14), .int (v 0 15)])) = wX0 d a1 a2 a3 a4 (st v 0 13 x) := rfl
theorem sX0_f14 {d : Nat → Nat} {a1 a2 a3 a4 : Nat} {v : Lf} {x : Int32} : (wX0 d a1 a2 a3 a4 v).set 0 (d 0, .inr (0, [.ref a1, .ref a2, .ref a3, .ref a4, .int (v 0 4), .int (v 0 5), .int (v 0 6), .int (v 0 7), .int (v 0 8), .int (v 0 9), .int (v 0 10), .int (v 0 11), .int (v 0 12), .int (v 0 13), .int x, .int (v 0 15)])) = wX0 d a1 a2 a3 a4 (st v 0 14 x) := rfl
theorem sX0_f15 {d : Nat → Nat} {a1 a2 a3 a4 : Nat} {v : Lf} {x : Int32} : (wX0 d a1 a2 a3 a4 v).set 0 (d 0, .inr (0, [.ref a1, .ref a2, .ref a3, .ref a4, .int (v 0 4), .int (v 0 5), .int (v 0 6), .int (v 0 7), .int (v 0 8), .int (v 0 9), .int (v 0 10), .int (v 0 11), .int (v 0 12), .int (v 0 13), .int (v 0 14), .int x])) = wX0 d a1 a2 a3 a4 (st v 0 15 x) := rfl
theorem sX1_f0 {cI : ClassId} {d : Nat → Nat} {v : Lf} {x : Int32} : (wX1 cI d v).set 0 (d 0, .inr (1, [.int x, .int (v 0 1), .ref (d 1), .ref (d 2), .ref (d 3), .ref (d 4), .ref (d 5)])) = wX1 cI d (st v 0 0 x) := rfl
theorem sX1_f1 {cI : ClassId} {d : Nat → Nat} {v : Lf} {x : Int32} : (wX1 cI d v).set 0 (d 0, .inr (1, [.int (v 0 0), .int x, .ref (d 1), .ref (d 2), .ref (d 3), .ref (d 4), .ref (d 5)])) = wX1 cI d (st v 0 1 x) := rfl
theorem sX1_a1 {cI : ClassId} {d : Nat → Nat} {v : Lf} {i : Nat} {x : Int32} : (wX1 cI d v).set 1 (d 1, .inl (cI, 8, .inl (upd (v 1) i x))) = wX1 cI d (st v 1 i x) := rfl
theorem sX1_c1 {cI : ClassId} {d : Nat → Nat} {v : Lf} {f : Nat → Int32} : (wX1 cI d v).set 1 (d 1, .inl (cI, 8, .inl f)) = wX1 cI d (sa v 1 f) := rfl
theorem sX1_a2 {cI : ClassId} {d : Nat → Nat} {v : Lf} {i : Nat} {x : Int32} : (wX1 cI d v).set 2 (d 2, .inl (cI, 8, .inl (upd (v 2) i x))) = wX1 cI d (st v 2 i x) := rfl
theorem sX1_c2 {cI : ClassId} {d : Nat → Nat} {v : Lf} {f : Nat → Int32} : (wX1 cI d v).set 2 (d 2, .inl (cI, 8, .inl f)) = wX1 cI d (sa v 2 f) := rfl
theorem sX1_a3 {cI : ClassId} {d : Nat → Nat} {v : Lf} {i : Nat} {x : Int32} : (wX1 cI d v).set 3 (d 3, .inl (cI, 64, .inl (upd (v 3) i x))) = wX1 cI d (st v 3 i x) := rfl
theorem sX1_c3 {cI : ClassId} {d : Nat → Nat} {v : Lf} {f : Nat → Int32} : (wX1 cI d v).set 3 (d 3, .inl (cI, 64, .inl f)) = wX1 cI d (sa v 3 f) := rfl
theorem sX1_a4 {cI : ClassId} {d : Nat → Nat} {v : Lf} {i : Nat} {x : Int32} : (wX1 cI d v).set 4 (d 4, .inl (cI, 64, .inl (upd (v 4) i x))) = wX1 cI d (st v 4 i x) := rfl
theorem sX1_c4 {cI : ClassId} {d : Nat → Nat} {v : Lf} {f : Nat → Int32} : (wX1 cI d v).set 4 (d 4, .inl (cI, 64, .inl f)) = wX1 cI d (sa v 4 f) := rfl
theorem sX1_a5 {cI : ClassId} {d : Nat → Nat} {v : Lf} {i : Nat} {x : Int32} : (wX1 cI d v).set 5 (d 5, .inl (cI, 64, .inl (upd (v 5) i x))) = wX1 cI d (st v 5 i x) := rfl
theorem sX1_c5 {cI : ClassId} {d : Nat → Nat} {v : Lf} {f : Nat → Int32} : (wX1 cI d v).set 5 (d 5, .inl (cI, 64, .inl f)) = wX1 cI d (sa v 5 f) := rfl
theorem sX2_f0 {cI : ClassId} {d : Nat → Nat} {v : Lf} {x : Int32} : (wX2 cI d v).set 0 (d 0, .inr (2, [.int x, .ref (d 1), .ref (d 2), .ref (d 3)])) = wX2 cI d (st v 0 0 x) := rfl
theorem sX2_a1 {cI : ClassId} {d : Nat → Nat} {v : Lf} {i : Nat} {x : Int32} : (wX2 cI d v).set 1 (d 1, .inl (cI, 6, .inl (upd (v 1) i x))) = wX2 cI d (st v 1 i x) := rfl
theorem sX2_c1 {cI : ClassId} {d : Nat → Nat} {v : Lf} {f : Nat → Int32} : (wX2 cI d v).set 1 (d 1, .inl (cI, 6, .inl f)) = wX2 cI d (sa v 1 f) := rfl
theorem sX2_a2 {cI : ClassId} {d : Nat → Nat} {v : Lf} {i : Nat} {x : Int32} : (wX2 cI d v).set 2 (d 2, .inl (cI, 6, .inl (upd (v 2) i x))) = wX2 cI d (st v 2 i x) := rfl
theorem sX2_c2 {cI : ClassId} {d : Nat → Nat} {v : Lf} {f : Nat → Int32} : (wX2 cI d v).set 2 (d 2, .inl (cI, 6, .inl f)) = wX2 cI d (sa v 2 f) := rfl
theorem sX2_a3 {cI : ClassId} {d : Nat → Nat} {v : Lf} {i : Nat} {x : Int32} : (wX2 cI d v).set 3 (d 3, .inl (cI, 6, .inl (upd (v 3) i x))) = wX2 cI d (st v 3 i x) := rfl
theorem sX2_c3 {cI : ClassId} {d : Nat → Nat} {v : Lf} {f : Nat → Int32} : (wX2 cI d v).set 3 (d 3, .inl (cI, 6, .inl f)) = wX2 cI d (sa v 3 f) := rfl
theorem sX3_a1 {cI : ClassId} {d : Nat → Nat} {v : Lf} {i : Nat} {x : Int32} : (wX3 cI d v).set 1 (d 1, .inl (cI, 100, .inl (upd (v 1) i x))) = wX3 cI d (st v 1 i x) := rfl
theorem sX3_c1 {cI : ClassId} {d : Nat → Nat} {v : Lf} {f : Nat → Int32} : (wX3 cI d v).set 1 (d 1, .inl (cI, 100, .inl f)) = wX3 cI d (sa v 1 f) := rfl
theorem sX3_f1 {cI : ClassId} {d : Nat → Nat} {v : Lf} {x : Int32} : (wX3 cI d v).set 0 (d 0, .inr (3, [.ref (d 1), .int x, .int (v 0 2), .int (v 0 3), .int (v 0 4), .ref (d 2), .ref (d 3), .ref (d 4), .ref (d 5)])) = wX3 cI d (st v 0 1 x) := rfl
theorem sX3_f2 {cI : ClassId} {d : Nat → Nat} {v : Lf} {x : Int32} : (wX3 cI d v).set 0 (d 0, .inr (3, [.ref (d 1), .int (v 0 1), .int x, .int (v 0 3), .int (v 0 4), .ref (d 2), .ref (d 3), .ref (d 4), .ref (d 5)])) = wX3 cI d (st v 0 2 x) := rfl
theorem sX3_f3 {cI : ClassId} {d : Nat → Nat} {v : Lf} {x : Int32} : (wX3 cI d v).set 0 (d 0, .inr (3, [.ref (d 1), .int (v 0 1), .int (v 0 2), .int x, .int (v 0 4), .ref (d 2), .ref (d 3), .ref (d 4), .ref (d 5)])) = wX3 cI d (st v 0 3 x) := rfl
theorem sX3_f4 {cI : ClassId} {d : Nat → Nat} {v : Lf} {x : Int32} : (wX3 cI d v).set 0 (d 0, .inr (3, [.ref (d 1), .int (v 0 1), .int (v 0 2), .int (v 0 3), .int x, .ref (d 2), .ref (d 3), .ref (d 4), .ref (d 5)])) = wX3 cI d (st v 0 4 x) := rfl
theorem sX3_a2 {cI : ClassId} {d : Nat → Nat} {v : Lf} {i : Nat} {x : Int32} : (wX3 cI d v).set 2 (d 2, .inl (cI, 4, .inl (upd (v 2) i x))) = wX3 cI d (st v 2 i x) := rfl
theorem sX3_c2 {cI : ClassId} {d : Nat → Nat} {v : Lf} {f : Nat → Int32} : (wX3 cI d v).set 2 (d 2, .inl (cI, 4, .inl f)) = wX3 cI d (sa v 2 f) := rfl
theorem sX3_a3 {cI : ClassId} {d : Nat → Nat} {v : Lf} {i : Nat} {x : Int32} : (wX3 cI d v).set 3 (d 3, .inl (cI, 4, .inl (upd (v 3) i x))) = wX3 cI d (st v 3 i x) := rfl
theorem sX3_c3 {cI : ClassId} {d : Nat → Nat} {v : Lf} {f : Nat → Int32} : (wX3 cI d v).set 3 (d 3, .inl (cI, 4, .inl f)) = wX3 cI d (sa v 3 f) := rfl
theorem sX3_a4 {cI : ClassId} {d : Nat → Nat} {v : Lf} {i : Nat} {x : Int32} : (wX3 cI d v).set 4 (d 4, .inl (cI, 32, .inl (upd (v 4) i x))) = wX3 cI d (st v 4 i x) := rfl
theorem sX3_c4 {cI : ClassId} {d : Nat → Nat} {v : Lf} {f : Nat → Int32} : (wX3 cI d v).set 4 (d 4, .inl (cI, 32, .inl f)) = wX3 cI d (sa v 4 f) := rfl
theorem sX3_a5 {cI : ClassId} {d : Nat → Nat} {v : Lf} {i : Nat} {x : Int32} : (wX3 cI d v).set 5 (d 5, .inl (cI, 16, .inl (upd (v 5) i x))) = wX3 cI d (st v 5 i x) := rfl
theorem sX3_c5 {cI : ClassId} {d : Nat → Nat} {v : Lf} {f : Nat → Int32} : (wX3 cI d v).set 5 (d 5, .inl (cI, 16, .inl f)) = wX3 cI d (sa v 5 f) := rfl
theorem sX4_f0 {cI : ClassId} {n : Nat} {d : Nat → Nat} {v : Lf} {x : Int32} : (wX4 cI n d v).set 0 (d 0, .inr (4, [.int x, .int (v 0 1), .ref (d 1)])) = wX4 cI n d (st v 0 0 x) := rfl
theorem sX4_f1 {cI : ClassId} {n : Nat} {d : Nat → Nat} {v : Lf} {x : Int32} : (wX4 cI n d v).set 0 (d 0, .inr (4, [.int (v 0 0), .int x, .ref (d 1)])) = wX4 cI n d (st v 0 1 x) := rfl
theorem sX4_a1 {cI : ClassId} {n : Nat} {d : Nat → Nat} {v : Lf} {i : Nat} {x : Int32} : (wX4 cI n d v).set 1 (d 1, .inl (cI, n, .inl (upd (v 1) i x))) = wX4 cI n d (st v 1 i x) := rfl
theorem sX4_c1 {cI : ClassId} {n : Nat} {d : Nat → Nat} {v : Lf} {f : Nat → Int32} : (wX4 cI n d v).set 1 (d 1, .inl (cI, n, .inl f)) = wX4 cI n d (sa v 1 f) := rfl
theorem sX5_f0 {cI : ClassId} {d : Nat → Nat} {v : Lf} {x : Int32} : (wX5 cI d v).set 0 (d 0, .inr (5, [.int x, .ref (d 1), .ref (d 2), .ref (d 3), .ref (d 4), .ref (d 5), .ref (d 6), .ref (d 7)])) = wX5 cI d (st v 0 0 x) := rfl
theorem sX5_a1 {cI : ClassId} {d : Nat → Nat} {v : Lf} {i : Nat} {x : Int32} : (wX5 cI d v).set 1 (d 1, .inl (cI, 32, .inl (upd (v 1) i x))) = wX5 cI d (st v 1 i x) := rfl
theorem sX5_c1 {cI : ClassId} {d : Nat → Nat} {v : Lf} {f : Nat → Int32} : (wX5 cI d v).set 1 (d 1, .inl (cI, 32, .inl f)) = wX5 cI d (sa v 1 f) := rfl
theorem sX5_a2 {cI : ClassId} {d : Nat → Nat} {v : Lf} {i : Nat} {x : Int32} : (wX5 cI d v).set 2 (d 2, .inl (cI, 8, .inl (upd (v 2) i x))) = wX5 cI d (st v 2 i x) := rfl
theorem sX5_c2 {cI : ClassId} {d : Nat → Nat} {v : Lf} {f : Nat → Int32} : (wX5 cI d v).set 2 (d 2, .inl (cI, 8, .inl f)) = wX5 cI d (sa v 2 f) := rfl
theorem sX5_a3 {cI : ClassId} {d : Nat → Nat} {v : Lf} {i : Nat} {x : Int32} : (wX5 cI d v).set 3 (d 3, .inl (cI, 8, .inl (upd (v 3) i x))) = wX5 cI d (st v 3 i x) := rfl
theorem sX5_c3 {cI : ClassId} {d : Nat → Nat} {v : Lf} {f : Nat → Int32} : (wX5 cI d v).set 3 (d 3, .inl (cI, 8, .inl f)) = wX5 cI d (sa v 3 f) := rfl
theorem sX5_a4 {cI : ClassId} {d : Nat → Nat} {v : Lf} {i : Nat} {x : Int32} : (wX5 cI d v).set 4 (d 4, .inl (cI, 8, .inl (upd (v 4) i x))) = wX5 cI d (st v 4 i x) := rfl
theorem sX5_c4 {cI : ClassId} {d : Nat → Nat} {v : Lf} {f : Nat → Int32} : (wX5 cI d v).set 4 (d 4, .inl (cI, 8, .inl f)) = wX5 cI d (sa v 4 f) := rfl
theorem sX5_a5 {cI : ClassId} {d : Nat → Nat} {v : Lf} {i : Nat} {x : Int32} : (wX5 cI d v).set 5 (d 5, .inl (cI, 8, .inl (upd (v 5) i x))) = wX5 cI d (st v 5 i x) := rfl
theorem sX5_c5 {cI : ClassId} {d : Nat → Nat} {v : Lf} {f : Nat → Int32} : (wX5 cI d v).set 5 (d 5, .inl (cI, 8, .inl f)) = wX5 cI d (sa v 5 f) := rfl
theorem sX5_a6 {cI : ClassId} {d : Nat → Nat} {v : Lf} {i : Nat} {x : Int32} : (wX5 cI d v).set 6 (d 6, .inl (cI, 8, .inl (upd (v 6) i x))) = wX5 cI d (st v 6 i x) := rfl
theorem sX5_c6 {cI : ClassId} {d : Nat → Nat} {v : Lf} {f : Nat → Int32} : (wX5 cI d v).set 6 (d 6, .inl (cI, 8, .inl f)) = wX5 cI d (sa v 6 f) := rfl
theorem sX5_a7 {cI : ClassId} {d : Nat → Nat} {v : Lf} {i : Nat} {x : Int32} : (wX5 cI d v).set 7 (d 7, .inl (cI, 8, .inl (upd (v 7) i x))) = wX5 cI d (st v 7 i x) := rfl
theorem sX5_c7 {cI : ClassId} {d : Nat → Nat} {v : Lf} {f : Nat → Int32} : (wX5 cI d v).set 7 (d 7, .inl (cI, 8, .inl f)) = wX5 cI d (sa v 7 f) := rfl
theorem sX6_f0 {cJ : ClassId} {d : Nat → Nat} {v : Lf} {g : Lg} {x : Int32} : (wX6 cJ d v g).set 0 (d 0, .inr (6, [.int x, .int (v 0 1), .ref (d 1)])) = wX6 cJ d (st v 0 0 x) g := rfl
theorem sX6_f1 {cJ : ClassId} {d : Nat → Nat} {v : Lf} {g : Lg} {x : Int32} : (wX6 cJ d v g).set 0 (d 0, .inr (6, [.int (v 0 0), .int x, .ref (d 1)])) = wX6 cJ d (st v 0 1 x) g := rfl
theorem sX6_a1 {cJ : ClassId} {d : Nat → Nat} {v : Lf} {g : Lg} {i : Nat} {x : Int64} : (wX6 cJ d v g).set 1 (d 1, .inl (cJ, 60, .inr (.inl (vp_updL (g 1) i x)))) = wX6 cJ d v (sg g 1 i x) := rfl
theorem sX6_c1 {cJ : ClassId} {d : Nat → Nat} {v : Lf} {g : Lg} {f : Nat → Int64} : (wX6 cJ d v g).set 1 (d 1, .inl (cJ, 60, .inr (.inl f))) = wX6 cJ d v (sb g 1 f) := rfl
theorem sX7_f0 {cI : ClassId} {d : Nat → Nat} {v : Lf} {x : Int32} : (wX7 cI d v).set 0 (d 0, .inr (7, [.int x, .int (v 0 1), .ref (d 1)])) = wX7 cI d (st v 0 0 x) := rfl
theorem sX7_f1 {cI : ClassId} {d : Nat → Nat} {v : Lf} {x : Int32} : (wX7 cI d v).set 0 (d 0, .inr (7, [.int (v 0 0), .int x, .ref (d 1)])) = wX7 cI d (st v 0 1 x) := rfl
theorem sX7_a1 {cI : ClassId} {d : Nat → Nat} {v : Lf} {i : Nat} {x : Int32} : (wX7 cI d v).set 1 (d 1, .inl (cI, 15, .inl (upd (v 1) i x))) = wX7 cI d (st v 1 i x) := rfl
theorem sX7_c1 {cI : ClassId} {d : Nat → Nat} {v : Lf} {f : Nat → Int32} : (wX7 cI d v).set 1 (d 1, .inl (cI, 15, .inl f)) = wX7 cI d (sa v 1 f) := rfl
theorem sX9_f10 {d : Nat → Nat} {a1 a2 a3 a4 a5 a6 a7 a8 a9 : Nat} {dtt : Nat} {v : Lf} {x : Int32} : (wX9 d a1 a2 a3 a4 a5 a6 a7 a8 a9 dtt v).set 0 (d 0, .inr (9, [.ref a1, .ref a2, .ref a3, .ref a4, .ref a5, .ref a6, .ref a7, .ref a8, .ref a9, .ref dtt, .int x, .int (v 0 11)])) = wX9 d a1 a2 a3 a4 a5 a6 a7 a8 a9 dtt (st v 0 10 x) := rfl
theorem sX9_f11 {d : Nat → Nat} {a1 a2 a3 a4 a5 a6 a7 a8 a9 : Nat} {dtt : Nat} {v : Lf} {x : Int32} : (wX9 d a1 a2 a3 a4 a5 a6 a7 a8 a9 dtt v).set 0 (d 0, .inr (9, [.ref a1, .ref a2, .ref a3, .ref a4, .ref a5, .ref a6, .ref a7, .ref a8, .ref a9, .ref dtt, .int (v 0 10), .int x])) = wX9 d a1 a2 a3 a4 a5 a6 a7 a8 a9 dtt (st v 0 11 x) := rfl
theorem sX10_a1 {cI : ClassId} {cJ : ClassId} {d : Nat → Nat} {v : Lf} {g : Lg} {i : Nat} {x : Int32} : (wX10 cI cJ d v g).set 1 (d 1, .inl (cI, 372, .inl (upd (v 1) i x))) = wX10 cI cJ d (st v 1 i x) g := rfl
theorem sX10_c1 {cI : ClassId} {cJ : ClassId} {d : Nat → Nat} {v : Lf} {g : Lg} {f : Nat → Int32} : (wX10 cI cJ d v g).set 1 (d 1, .inl (cI, 372, .inl f)) = wX10 cI cJ d (sa v 1 f) g := rfl
theorem sX10_a2 {cI : ClassId} {cJ : ClassId} {d : Nat → Nat} {v : Lf} {g : Lg} {i : Nat} {x : Int32} : (wX10 cI cJ d v g).set 2 (d 2, .inl (cI, 372, .inl (upd (v 2) i x))) = wX10 cI cJ d (st v 2 i x) g := rfl
theorem sX10_c2 {cI : ClassId} {cJ : ClassId} {d : Nat → Nat} {v : Lf} {g : Lg} {f : Nat → Int32} : (wX10 cI cJ d v g).set 2 (d 2, .inl (cI, 372, .inl f)) = wX10 cI cJ d (sa v 2 f) g := rfl
theorem sX10_a3 {cI : ClassId} {cJ : ClassId} {d : Nat → Nat} {v : Lf} {g : Lg} {i : Nat} {x : Int32} : (wX10 cI cJ d v g).set 3 (d 3, .inl (cI, 372, .inl (upd (v 3) i x))) = wX10 cI cJ d (st v 3 i x) g := rfl
theorem sX10_c3 {cI : ClassId} {cJ : ClassId} {d : Nat → Nat} {v : Lf} {g : Lg} {f : Nat → Int32} : (wX10 cI cJ d v g).set 3 (d 3, .inl (cI, 372, .inl f)) = wX10 cI cJ d (sa v 3 f) g := rfl
theorem sX10_f3 {cI : ClassId} {cJ : ClassId} {d : Nat → Nat} {v : Lf} {g : Lg} {x : Int32} : (wX10 cI cJ d v g).set 0 (d 0, .inr (10, [.ref (d 1), .ref (d 2), .ref (d 3), .int x, .int (v 0 4), .ref (d 4), .ref (d 5), .ref (d 6), .ref (d 7), .int (v 0 9), .int (v 0 10), .int (v 0 11), .ref (d 8), .ref (d 9), .ref (d 10), .ref (d 11), .int (v 0 16)])) = wX10 cI cJ d (st v 0 3 x) g := rfl
theorem sX10_f4 {cI : ClassId} {cJ : ClassId} {d : Nat → Nat} {v : Lf} {g : Lg} {x : Int32} : (wX10 cI cJ d v g).set 0 (d 0, .inr (10, [.ref (d 1), .ref (d 2), .ref (d 3), .int (v 0 3), .int x, .ref (d 4), .ref (d 5), .ref (d 6), .ref (d 7), .int (v 0 9), .int (v 0 10), .int (v 0 11), .ref (d 8), .ref (d 9), .ref (d 10), .ref (d 11), .int (v 0 16)])) = wX10 cI cJ d (st v 0 4 x) g := rfl
theorem sX10_a4 {cI : ClassId} {cJ : ClassId} {d : Nat → Nat} {v : Lf} {g : Lg} {i : Nat} {x : Int32} : (wX10 cI cJ d v g).set 4 (d 4, .inl (cI, 64, .inl (upd (v 4) i x))) = wX10 cI cJ d (st v 4 i x) g := rfl
theorem sX10_c4 {cI : ClassId} {cJ : ClassId} {d : Nat → Nat} {v : Lf} {g : Lg} {f : Nat → Int32} : (wX10 cI cJ d v g).set 4 (d 4, .inl (cI, 64, .inl f)) = wX10 cI cJ d (sa v 4 f) g := rfl
theorem sX10_a5 {cI : ClassId} {cJ : ClassId} {d : Nat → Nat} {v : Lf} {g : Lg} {i : Nat} {x : Int32} : (wX10 cI cJ d v g).set 5 (d 5, .inl (cI, 64, .inl (upd (v 5) i x))) = wX10 cI cJ d (st v 5 i x) g := rfl
theorem sX10_c5 {cI : ClassId} {cJ : ClassId} {d : Nat → Nat} {v : Lf} {g : Lg} {f : Nat → Int32} : (wX10 cI cJ d v g).set 5 (d 5, .inl (cI, 64, .inl f)) = wX10 cI cJ d (sa v 5 f) g := rfl
theorem sX10_a6 {cI : ClassId} {cJ : ClassId} {d : Nat → Nat} {v : Lf} {g : Lg} {i : Nat} {x : Int32} : (wX10 cI cJ d v g).set 6 (d 6, .inl (cI, 100, .inl (upd (v 6) i x))) = wX10 cI cJ d (st v 6 i x) g := rfl
theorem sX10_c6 {cI : ClassId} {cJ : ClassId} {d : Nat → Nat} {v : Lf} {g : Lg} {f : Nat → Int32} : (wX10 cI cJ d v g).set 6 (d 6, .inl (cI, 100, .inl f)) = wX10 cI cJ d (sa v 6 f) g := rfl
theorem sX10_a7 {cI : ClassId} {cJ : ClassId} {d : Nat → Nat} {v : Lf} {g : Lg} {i : Nat} {x : Int32} : (wX10 cI cJ d v g).set 7 (d 7, .inl (cI, 56, .inl (upd (v 7) i x))) = wX10 cI cJ d (st v 7 i x) g := rfl
theorem sX10_c7 {cI : ClassId} {cJ : ClassId} {d : Nat → Nat} {v : Lf} {g : Lg} {f : Nat → Int32} : (wX10 cI cJ d v g).set 7 (d 7, .inl (cI, 56, .inl f)) = wX10 cI cJ d (sa v 7 f) g := rfl
theorem sX10_f9 {cI : ClassId} {cJ : ClassId} {d : Nat → Nat} {v : Lf} {g : Lg} {x : Int32} : (wX10 cI cJ d v g).set 0 (d 0, .inr (10, [.ref (d 1), .ref (d 2), .ref (d 3), .int (v 0 3), .int (v 0 4), .ref (d 4), .ref (d 5), .ref (d 6), .ref (d 7), .int x, .int (v 0 10), .int (v 0 11), .ref (d 8), .ref (d 9), .ref (d 10), .ref (d 11), .int (v 0 16)])) = wX10 cI cJ d (st v 0 9 x) g := rfl
theorem sX10_f10 {cI : ClassId} {cJ : ClassId} {d : Nat → Nat} {v : Lf} {g : Lg} {x : Int32} : (wX10 cI cJ d v g).set 0 (d 0, .inr (10, [.ref (d 1), .ref (d 2), .ref (d 3), .int (v 0 3), .int (v 0 4), .ref (d 4), .ref (d 5), .ref (d 6), .ref (d 7), .int (v 0 9), .int x, .int (v 0 11), .ref (d 8), .ref (d 9), .ref (d 10), .ref (d 11), .int (v 0 16)])) = wX10 cI cJ d (st v 0 10 x) g := rfl
theorem sX10_f11 {cI : ClassId} {cJ : ClassId} {d : Nat → Nat} {v : Lf} {g : Lg} {x : Int32} : (wX10 cI cJ d v g).set 0 (d 0, .inr (10, [.ref (d 1), .ref (d 2), .ref (d 3), .int (v 0 3), .int (v 0 4), .ref (d 4), .ref (d 5), .ref (d 6), .ref (d 7), .int (v 0 9), .int (v 0 10), .int x, .ref (d 8), .ref (d 9), .ref (d 10), .ref (d 11), .int (v 0 16)])) = wX10 cI cJ d (st v 0 11 x) g := rfl
theorem sX10_a8 {cI : ClassId} {cJ : ClassId} {d : Nat → Nat} {v : Lf} {g : Lg} {i : Nat} {x : Int32} : (wX10 cI cJ d v g).set 8 (d 8, .inl (cI, 6, .inl (upd (v 8) i x))) = wX10 cI cJ d (st v 8 i x) g := rfl
theorem sX10_c8 {cI : ClassId} {cJ : ClassId} {d : Nat → Nat} {v : Lf} {g : Lg} {f : Nat → Int32} : (wX10 cI cJ d v g).set 8 (d 8, .inl (cI, 6, .inl f)) = wX10 cI cJ d (sa v 8 f) g := rfl
theorem sX10_a9 {cI : ClassId} {cJ : ClassId} {d : Nat → Nat} {v : Lf} {g : Lg} {i : Nat} {x : Int32} : (wX10 cI cJ d v g).set 9 (d 9, .inl (cI, 6, .inl (upd (v 9) i x))) = wX10 cI cJ d (st v 9 i x) g := rfl
theorem sX10_c9 {cI : ClassId} {cJ : ClassId} {d : Nat → Nat} {v : Lf} {g : Lg} {f : Nat → Int32} : (wX10 cI cJ d v g).set 9 (d 9, .inl (cI, 6, .inl f)) = wX10 cI cJ d (sa v 9 f) g := rfl
theorem sX10_a10 {cI : ClassId} {cJ : ClassId} {d : Nat → Nat} {v : Lf} {g : Lg} {i : Nat} {x : Int64} : (wX10 cI cJ d v g).set 10 (d 10, .inl (cJ, 360, .inr (.inl (vp_updL (g 10) i x)))) = wX10 cI cJ d v (sg g 10 i x) := rfl
theorem sX10_c10 {cI : ClassId} {cJ : ClassId} {d : Nat → Nat} {v : Lf} {g : Lg} {f : Nat → Int64} : (wX10 cI cJ d v g).set 10 (d 10, .inl (cJ, 360, .inr (.inl f))) = wX10 cI cJ d v (sb g 10 f) := rfl
theorem sX10_a11 {cI : ClassId} {cJ : ClassId} {d : Nat → Nat} {v : Lf} {g : Lg} {i : Nat} {x : Int64} : (wX10 cI cJ d v g).set 11 (d 11, .inl (cJ, 60, .inr (.inl (vp_updL (g 11) i x)))) = wX10 cI cJ d v (sg g 11 i x) := rfl
theorem sX10_c11 {cI : ClassId} {cJ : ClassId} {d : Nat → Nat} {v : Lf} {g : Lg} {f : Nat → Int64} : (wX10 cI cJ d v g).set 11 (d 11, .inl (cJ, 60, .inr (.inl f))) = wX10 cI cJ d v (sb g 11 f) := rfl
theorem sX10_f16 {cI : ClassId} {cJ : ClassId} {d : Nat → Nat} {v : Lf} {g : Lg} {x : Int32} : (wX10 cI cJ d v g).set 0 (d 0, .inr (10, [.ref (d 1), .ref (d 2), .ref (d 3), .int (v 0 3), .int (v 0 4), .ref (d 4), .ref (d 5), .ref (d 6), .ref (d 7), .int (v 0 9), .int (v 0 10), .int (v 0 11), .ref (d 8), .ref (d 9), .ref (d 10), .ref (d 11), .int x])) = wX10 cI cJ d (st v 0 16 x) g := rfl
theorem sTT_a0 {cJ cT : ClassId} {dtt : Nat} {dt : Nat → Nat → Nat} {vt : Nat → Lf} {gt : Nat → Lg} {i : Nat} {x : Int64} : (wTT cJ cT dtt dt vt gt).set 2 (dt 0 1, .inl (cJ, 60, .inr (.inl (vp_updL (gt 0 1) i x)))) = wTT cJ cT dtt dt vt (va_up gt 0 (sg (gt 0) 1 i x)) := rfl
theorem sTT_c0 {cJ cT : ClassId} {dtt : Nat} {dt : Nat → Nat → Nat} {vt : Nat → Lf} {gt : Nat → Lg} {f : Nat → Int64} : (wTT cJ cT dtt dt vt gt).set 2 (dt 0 1, .inl (cJ, 60, .inr (.inl f))) = wTT cJ cT dtt dt vt (va_up gt 0 (sb (gt 0) 1 f)) := rfl
theorem sTT_a1 {cJ cT : ClassId} {dtt : Nat} {dt : Nat → Nat → Nat} {vt : Nat → Lf} {gt : Nat → Lg} {i : Nat} {x : Int64} : (wTT cJ cT dtt dt vt gt).set 4 (dt 1 1, .inl (cJ, 60, .inr (.inl (vp_updL (gt 1 1) i x)))) = wTT cJ cT dtt dt vt (va_up gt 1 (sg (gt 1) 1 i x)) := rfl
theorem sTT_c1 {cJ cT : ClassId} {dtt : Nat} {dt : Nat → Nat → Nat} {vt : Nat → Lf} {gt : Nat → Lg} {f : Nat → Int64} : (wTT cJ cT dtt dt vt gt).set 4 (dt 1 1, .inl (cJ, 60, .inr (.inl f))) = wTT cJ cT dtt dt vt (va_up gt 1 (sb (gt 1) 1 f)) := rfl
theorem sTT_a2 {cJ cT : ClassId} {dtt : Nat} {dt : Nat → Nat → Nat} {vt : Nat → Lf} {gt : Nat → Lg} {i : Nat} {x : Int64} : (wTT cJ cT dtt dt vt gt).set 6 (dt 2 1, .inl (cJ, 60, .inr (.inl (vp_updL (gt 2 1) i x)))) = wTT cJ cT dtt dt vt (va_up gt 2 (sg (gt 2) 1 i x)) := rfl
theorem sTT_c2 {cJ cT : ClassId} {dtt : Nat} {dt : Nat → Nat → Nat} {vt : Nat → Lf} {gt : Nat → Lg} {f : Nat → Int64} : (wTT cJ cT dtt dt vt gt).set 6 (dt 2 1, .inl (cJ, 60, .inr (.inl f))) = wTT cJ cT dtt dt vt (va_up gt 2 (sb (gt 2) 1 f)) := rfl
theorem sTT_a3 {cJ cT : ClassId} {dtt : Nat} {dt : Nat → Nat → Nat} {vt : Nat → Lf} {gt : Nat → Lg} {i : Nat} {x : Int64} : (wTT cJ cT dtt dt vt gt).set 8 (dt 3 1, .inl (cJ, 60, .inr (.inl (vp_updL (gt 3 1) i x)))) = wTT cJ cT dtt dt vt (va_up gt 3 (sg (gt 3) 1 i x)) := rfl
theorem sTT_c3 {cJ cT : ClassId} {dtt : Nat} {dt : Nat → Nat → Nat} {vt : Nat → Lf} {gt : Nat → Lg} {f : Nat → Int64} : (wTT cJ cT dtt dt vt gt).set 8 (dt 3 1, .inl (cJ, 60, .inr (.inl f))) = wTT cJ cT dtt dt vt (va_up gt 3 (sb (gt 3) 1 f)) := rfl
theorem sTT_a4 {cJ cT : ClassId} {dtt : Nat} {dt : Nat → Nat → Nat} {vt : Nat → Lf} {gt : Nat → Lg} {i : Nat} {x : Int64} : (wTT cJ cT dtt dt vt gt).set 10 (dt 4 1, .inl (cJ, 60, .inr (.inl (vp_updL (gt 4 1) i x)))) = wTT cJ cT dtt dt vt (va_up gt 4 (sg (gt 4) 1 i x)) := rfl
theorem sTT_c4 {cJ cT : ClassId} {dtt : Nat} {dt : Nat → Nat → Nat} {vt : Nat → Lf} {gt : Nat → Lg} {f : Nat → Int64} : (wTT cJ cT dtt dt vt gt).set 10 (dt 4 1, .inl (cJ, 60, .inr (.inl f))) = wTT cJ cT dtt dt vt (va_up gt 4 (sb (gt 4) 1 f)) := rfl
theorem sTT_a5 {cJ cT : ClassId} {dtt : Nat} {dt : Nat → Nat → Nat} {vt : Nat → Lf} {gt : Nat → Lg} {i : Nat} {x : Int64} : (wTT cJ cT dtt dt vt gt).set 12 (dt 5 1, .inl (cJ, 60, .inr (.inl (vp_updL (gt 5 1) i x)))) = wTT cJ cT dtt dt vt (va_up gt 5 (sg (gt 5) 1 i x)) := rfl
theorem sTT_c5 {cJ cT : ClassId} {dtt : Nat} {dt : Nat → Nat → Nat} {vt : Nat → Lf} {gt : Nat → Lg} {f : Nat → Int64} : (wTT cJ cT dtt dt vt gt).set 12 (dt 5 1, .inl (cJ, 60, .inr (.inl f))) = wTT cJ cT dtt dt vt (va_up gt 5 (sb (gt 5) 1 f)) := rfl
theorem z_metF {l : Launch} {y : MethodName} {wds : List Cond} {rm : Room} {cc : ByteArray} {maxL : Nat} {ret : Option FieldType} {own : String} {D : va_G} {tys : List (ClassId × FieldType)} {av : List Value} {w0 : va_W} {sz mc ms : Nat} {Qc : Array Value → State → Outcome → State → Prop} {lv0 : List (Nat × Value)} (hy : plainFor y = true) (hw : wds = Cond.code y cc maxL ret :: TB) (hown : y.cls = own) (hlen : (lg_sl av).length ≤ maxL) (hlv : lv_args 0 av = lv0)
    (body : ∀ (p : Program) (e : Env) (s : State) (m : MethodId) (below : List Frame) (meth : Method) (c : Code), s.heap.size = sz → CX p s m av.toArray c cc own TB D tys (va_A w0 sz) maxL → meth.sig.returnType = ret → meth.locks = false → meth.name = y.name → ZZ p l e rm s m av.toArray below meth c D (va_A w0 sz) maxL 0 0 (MQ below Qc av.toArray s mc ms (va_A w0 sz)) 0 w0 lv0 []) : Met l y wds rm (Pz D tys av w0 sz) Qc mc ms (va_A w0 sz) := by
  refine va_MetF (cc := cc) (maxL := maxL) (ret := ret) hy hw ?_
  intro p e s m args below meth c s₁ B hml hv
  obtain ⟨rfl, hsz, hP, hK, hD0, hBG⟩ := hv
  have hts0 := atoms_spec (ws := wds) B.pre
  have hts : ∀ w ∈ TB, w.before av.toArray s = true := fun w h => hts0 w (by rw [hw]; exact List.mem_cons_of_mem _ h)
  have ho : s.vm.findClass own = some m.cls := by rw [← hown]; exact findClass_of_methodNamed B.named
  have hD : va_D (va_A w0 sz) w0 := hD0.self (sz := sz)
  have hin : meth.name = y.name := (name_of_methodNamed B.named B.method).1
  have hl := lv_entry av (n := maxL) hlen
  rw [hlv] at hl
  rw [lg_entry_eq]
  exact body p e s m below meth c hsz ⟨B.exec, B.bytes, hml, ho, hts, hK, fun q h => Or.inr (by rw [← hsz]; exact h), hBG⟩ B.returns B.notSynchronized hin s.heap [] _ hP hD va_S.rf hl
theorem z_metiF {l : Launch} {y : MethodName} {wds : List Cond} {rm : Room} {cc : ByteArray} {maxL : Nat} {own : String} {D : va_G} {tys : List (ClassId × FieldType)} {av : List Value} {w0 : va_W} {sz mc ms : Nat} {S : Type} {post : Int32 → S → Prop} {w1 : S → va_W} {lv0 : List (Nat × Value)} (hy : plainFor y = true) (hw : wds = Cond.code y cc maxL (some .int) :: TB) (hown : y.cls = own) (hlen : (lg_sl av).length ≤ maxL) (hlv : lv_args 0 av = lv0) (body : ∀ (p : Program) (e : Env) (s : State) (m : MethodId) (args : Array Value) (below : List Frame) (meth : Method) (c : Code) (A : Nat → Prop) (QQ : State → Prop), CX p s m args c cc own TB D tys A maxL → meth.name = y.name → (∀ (pc : Nat) (ws : va_W) (lv : List (Nat × Value)) (v : Int32) (u : S), ws = w1 u → post v u → decode cc pc = .ok (.ireturn, 1) → ZZ p l e rm s m args below meth c D A maxL mc ms QQ pc ws lv [.int v]) → ZZ p l e rm s m args below meth c D A maxL 0 0 QQ 0 w0 lv0 []) : Met l y wds rm (Pz D tys av w0 sz) (va_Qi post (Bz D tys w0 sz w1) (va_A w0 sz)) mc ms (va_A w0 sz)   := z_metF hy hw hown hlen hlv (fun p e s m below meth c hsz C hr hk hin => body p e s m av.toArray below meth c (va_A w0 sz) _ C hin (fun pc ws lv v u hws hp hdg => z_iret C hr hk u hws hp hdg))
theorem cl_0 : (0 : Int32).toNatClampNeg = 0 := by decide +kernel
theorem cl_1 : (1 : Int32).toNatClampNeg = 1 := by decide +kernel
theorem cl_2 : (2 : Int32).toNatClampNeg = 2 := by decide +kernel
theorem cl_3 : (3 : Int32).toNatClampNeg = 3 := by decide +kernel
theorem cl_4 : (4 : Int32).toNatClampNeg = 4 := by decide +kernel
theorem cl_5 : (5 : Int32).toNatClampNeg = 5 := by decide +kernel
theorem cl_6 : (6 : Int32).toNatClampNeg = 6 := by decide +kernel
theorem cl_7 : (7 : Int32).toNatClampNeg = 7 := by decide +kernel
theorem cl_8 : (8 : Int32).toNatClampNeg = 8 := by decide +kernel
theorem cl_9 : (9 : Int32).toNatClampNeg = 9 := by decide +kernel
theorem cl_10 : (10 : Int32).toNatClampNeg = 10 := by decide +kernel
theorem cl_11 : (11 : Int32).toNatClampNeg = 11 := by decide +kernel
theorem cl_12 : (12 : Int32).toNatClampNeg = 12 := by decide +kernel
theorem cl_13 : (13 : Int32).toNatClampNeg = 13 := by decide +kernel
theorem cl_14 : (14 : Int32).toNatClampNeg = 14 := by decide +kernel
theorem cl_15 : (15 : Int32).toNatClampNeg = 15 := by decide +kernel
theorem cl_16 : (16 : Int32).toNatClampNeg = 16 := by decide +kernel
theorem cl_17 : (17 : Int32).toNatClampNeg = 17 := by decide +kernel
theorem cl_18 : (18 : Int32).toNatClampNeg = 18 := by decide +kernel
theorem cl_19 : (19 : Int32).toNatClampNeg = 19 := by decide +kernel
theorem cl_20 : (20 : Int32).toNatClampNeg = 20 := by decide +kernel
theorem vi_0_372 : vp_in (0 : Int32) 372 := by unfold vp_in; decide +kernel
theorem vi_1_372 : vp_in (1 : Int32) 372 := by unfold vp_in; decide +kernel
theorem vi_2_372 : vp_in (2 : Int32) 372 := by unfold vp_in; decide +kernel
theorem vi_3_372 : vp_in (3 : Int32) 372 := by unfold vp_in; decide +kernel
theorem vi_4_372 : vp_in (4 : Int32) 372 := by unfold vp_in; decide +kernel
theorem vi_5_372 : vp_in (5 : Int32) 372 := by unfold vp_in; decide +kernel
theorem vi_6_372 : vp_in (6 : Int32) 372 := by unfold vp_in; decide +kernel
theorem vi_7_372 : vp_in (7 : Int32) 372 := by unfold vp_in; decide +kernel
theorem vi_8_372 : vp_in (8 : Int32) 372 := by unfold vp_in; decide +kernel
theorem vi_9_372 : vp_in (9 : Int32) 372 := by unfold vp_in; decide +kernel
theorem vi_10_372 : vp_in (10 : Int32) 372 := by unfold vp_in; decide +kernel
theorem vi_11_372 : vp_in (11 : Int32) 372 := by unfold vp_in; decide +kernel
theorem vi_12_372 : vp_in (12 : Int32) 372 := by unfold vp_in; decide +kernel
theorem vi_13_372 : vp_in (13 : Int32) 372 := by unfold vp_in; decide +kernel
theorem vi_14_372 : vp_in (14 : Int32) 372 := by unfold vp_in; decide +kernel
theorem vi_15_372 : vp_in (15 : Int32) 372 := by unfold vp_in; decide +kernel
theorem vi_16_372 : vp_in (16 : Int32) 372 := by unfold vp_in; decide +kernel
theorem vi_17_372 : vp_in (17 : Int32) 372 := by unfold vp_in; decide +kernel
theorem vi_18_372 : vp_in (18 : Int32) 372 := by unfold vp_in; decide +kernel
theorem vi_19_372 : vp_in (19 : Int32) 372 := by unfold vp_in; decide +kernel
theorem vi_20_372 : vp_in (20 : Int32) 372 := by unfold vp_in; decide +kernel
theorem z_out0_13 {x : Int32} (h0 : ¬ x = 0) (h1 : ¬ x = 1) (h2 : ¬ x = 2) (h3 : ¬ x = 3) (h4 : ¬ x = 4) (h5 : ¬ x = 5) (h6 : ¬ x = 6) (h7 : ¬ x = 7) (h8 : ¬ x = 8) (h9 : ¬ x = 9) (h10 : ¬ x = 10) (h11 : ¬ x = 11) (h12 : ¬ x = 12) (h13 : ¬ x = 13) : x.toInt < 0 ∨ 13 < x.toInt := by
  have e0 : x.toInt ≠ 0 := fun e => h0 (Int32.toInt_inj.mp (e.trans (by decide)))
  have e1 : x.toInt ≠ 1 := fun e => h1 (Int32.toInt_inj.mp (e.trans (by decide)))
  have e2 : x.toInt ≠ 2 := fun e => h2 (Int32.toInt_inj.mp (e.trans (by decide)))
  have e3 : x.toInt ≠ 3 := fun e => h3 (Int32.toInt_inj.mp (e.trans (by decide)))
  have e4 : x.toInt ≠ 4 := fun e => h4 (Int32.toInt_inj.mp (e.trans (by decide)))
  have e5 : x.toInt ≠ 5 := fun e => h5 (Int32.toInt_inj.mp (e.trans (by decide)))
  have e6 : x.toInt ≠ 6 := fun e => h6 (Int32.toInt_inj.mp (e.trans (by decide)))
  have e7 : x.toInt ≠ 7 := fun e => h7 (Int32.toInt_inj.mp (e.trans (by decide)))
  have e8 : x.toInt ≠ 8 := fun e => h8 (Int32.toInt_inj.mp (e.trans (by decide)))
  have e9 : x.toInt ≠ 9 := fun e => h9 (Int32.toInt_inj.mp (e.trans (by decide)))
  have e10 : x.toInt ≠ 10 := fun e => h10 (Int32.toInt_inj.mp (e.trans (by decide)))
  have e11 : x.toInt ≠ 11 := fun e => h11 (Int32.toInt_inj.mp (e.trans (by decide)))
  have e12 : x.toInt ≠ 12 := fun e => h12 (Int32.toInt_inj.mp (e.trans (by decide)))
  have e13 : x.toInt ≠ 13 := fun e => h13 (Int32.toInt_inj.mp (e.trans (by decide)))
  omega
theorem z_out0_18 {x : Int32} (h0 : ¬ x = 0) (h1 : ¬ x = 1) (h2 : ¬ x = 2) (h3 : ¬ x = 3) (h4 : ¬ x = 4) (h5 : ¬ x = 5) (h6 : ¬ x = 6) (h7 : ¬ x = 7) (h8 : ¬ x = 8) (h9 : ¬ x = 9) (h10 : ¬ x = 10) (h11 : ¬ x = 11) (h12 : ¬ x = 12) (h13 : ¬ x = 13) (h14 : ¬ x = 14) (h15 : ¬ x = 15) (h16 : ¬ x = 16) (h17 : ¬ x = 17) (h18 : ¬ x = 18) : x.toInt < 0 ∨ 18 < x.toInt := by
  have e0 : x.toInt ≠ 0 := fun e => h0 (Int32.toInt_inj.mp (e.trans (by decide)))
  have e1 : x.toInt ≠ 1 := fun e => h1 (Int32.toInt_inj.mp (e.trans (by decide)))
  have e2 : x.toInt ≠ 2 := fun e => h2 (Int32.toInt_inj.mp (e.trans (by decide)))
  have e3 : x.toInt ≠ 3 := fun e => h3 (Int32.toInt_inj.mp (e.trans (by decide)))
  have e4 : x.toInt ≠ 4 := fun e => h4 (Int32.toInt_inj.mp (e.trans (by decide)))
  have e5 : x.toInt ≠ 5 := fun e => h5 (Int32.toInt_inj.mp (e.trans (by decide)))
  have e6 : x.toInt ≠ 6 := fun e => h6 (Int32.toInt_inj.mp (e.trans (by decide)))
  have e7 : x.toInt ≠ 7 := fun e => h7 (Int32.toInt_inj.mp (e.trans (by decide)))
  have e8 : x.toInt ≠ 8 := fun e => h8 (Int32.toInt_inj.mp (e.trans (by decide)))
  have e9 : x.toInt ≠ 9 := fun e => h9 (Int32.toInt_inj.mp (e.trans (by decide)))
  have e10 : x.toInt ≠ 10 := fun e => h10 (Int32.toInt_inj.mp (e.trans (by decide)))
  have e11 : x.toInt ≠ 11 := fun e => h11 (Int32.toInt_inj.mp (e.trans (by decide)))
  have e12 : x.toInt ≠ 12 := fun e => h12 (Int32.toInt_inj.mp (e.trans (by decide)))
  have e13 : x.toInt ≠ 13 := fun e => h13 (Int32.toInt_inj.mp (e.trans (by decide)))
  have e14 : x.toInt ≠ 14 := fun e => h14 (Int32.toInt_inj.mp (e.trans (by decide)))
  have e15 : x.toInt ≠ 15 := fun e => h15 (Int32.toInt_inj.mp (e.trans (by decide)))
  have e16 : x.toInt ≠ 16 := fun e => h16 (Int32.toInt_inj.mp (e.trans (by decide)))
  have e17 : x.toInt ≠ 17 := fun e => h17 (Int32.toInt_inj.mp (e.trans (by decide)))
  have e18 : x.toInt ≠ 18 := fun e => h18 (Int32.toInt_inj.mp (e.trans (by decide)))
  omega
theorem z_out0_2 {x : Int32} (h0 : ¬ x = 0) (h1 : ¬ x = 1) (h2 : ¬ x = 2) : x.toInt < 0 ∨ 2 < x.toInt := by
  have e0 : x.toInt ≠ 0 := fun e => h0 (Int32.toInt_inj.mp (e.trans (by decide)))
  have e1 : x.toInt ≠ 1 := fun e => h1 (Int32.toInt_inj.mp (e.trans (by decide)))
  have e2 : x.toInt ≠ 2 := fun e => h2 (Int32.toInt_inj.mp (e.trans (by decide)))
  omega
theorem z_out0_3 {x : Int32} (h0 : ¬ x = 0) (h1 : ¬ x = 1) (h2 : ¬ x = 2) (h3 : ¬ x = 3) : x.toInt < 0 ∨ 3 < x.toInt := by
  have e0 : x.toInt ≠ 0 := fun e => h0 (Int32.toInt_inj.mp (e.trans (by decide)))
  have e1 : x.toInt ≠ 1 := fun e => h1 (Int32.toInt_inj.mp (e.trans (by decide)))
  have e2 : x.toInt ≠ 2 := fun e => h2 (Int32.toInt_inj.mp (e.trans (by decide)))
  have e3 : x.toInt ≠ 3 := fun e => h3 (Int32.toInt_inj.mp (e.trans (by decide)))
  omega
theorem z_out0_7 {x : Int32} (h0 : ¬ x = 0) (h1 : ¬ x = 1) (h2 : ¬ x = 2) (h3 : ¬ x = 3) (h4 : ¬ x = 4) (h5 : ¬ x = 5) (h6 : ¬ x = 6) (h7 : ¬ x = 7) : x.toInt < 0 ∨ 7 < x.toInt := by
  have e0 : x.toInt ≠ 0 := fun e => h0 (Int32.toInt_inj.mp (e.trans (by decide)))
  have e1 : x.toInt ≠ 1 := fun e => h1 (Int32.toInt_inj.mp (e.trans (by decide)))
  have e2 : x.toInt ≠ 2 := fun e => h2 (Int32.toInt_inj.mp (e.trans (by decide)))
  have e3 : x.toInt ≠ 3 := fun e => h3 (Int32.toInt_inj.mp (e.trans (by decide)))
  have e4 : x.toInt ≠ 4 := fun e => h4 (Int32.toInt_inj.mp (e.trans (by decide)))
  have e5 : x.toInt ≠ 5 := fun e => h5 (Int32.toInt_inj.mp (e.trans (by decide)))
  have e6 : x.toInt ≠ 6 := fun e => h6 (Int32.toInt_inj.mp (e.trans (by decide)))
  have e7 : x.toInt ≠ 7 := fun e => h7 (Int32.toInt_inj.mp (e.trans (by decide)))
  omega

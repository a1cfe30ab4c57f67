def pX1_copyFrom (v : Lf) (vO : Lf)  (Q : Lf → Prop) : Prop := (Q (sa (sa (sa (sa (sa (st (st v 0 0 (vO 0 0)) 0 1 (vO 0 1)) 1 (va_cpy (vO 1) ((st (st v 0 0 (vO 0 0)) 0 1 (vO 0 1)) 1) (0 : Int32).toNatClampNeg (0 : Int32).toNatClampNeg (8 : Int32).toNatClampNeg)) 2 (va_cpy (vO 2) ((sa (st (st v 0 0 (vO 0 0)) 0 1 (vO 0 1)) 1 (va_cpy (vO 1) ((st (st v 0 0 (vO 0 0)) 0 1 (vO 0 1)) 1) (0 : Int32).toNatClampNeg (0 : Int32).toNatClampNeg (8 : Int32).toNatClampNeg)) 2) (0 : Int32).toNatClampNeg (0 : Int32).toNatClampNeg (8 : Int32).toNatClampNeg)) 3 (va_cpy (vO 3) ((sa (sa (st (st v 0 0 (vO 0 0)) 0 1 (vO 0 1)) 1 (va_cpy (vO 1) ((st (st v 0 0 (vO 0 0)) 0 1 (vO 0 1)) 1) (0 : Int32).toNatClampNeg (0 : Int32).toNatClampNeg (8 : Int32).toNatClampNeg)) 2 (va_cpy (vO 2) ((sa (st (st v 0 0 (vO 0 0)) 0 1 (vO 0 1)) 1 (va_cpy (vO 1) ((st (st v 0 0 (vO 0 0)) 0 1 (vO 0 1)) 1) (0 : Int32).toNatClampNeg (0 : Int32).toNatClampNeg (8 : Int32).toNatClampNeg)) 2) (0 : Int32).toNatClampNeg (0 : Int32).toNatClampNeg (8 : Int32).toNatClampNeg)) 3) (0 : Int32).toNatClampNeg (0 : Int32).toNatClampNeg (64 : Int32).toNatClampNeg)) 4 (va_cpy (vO 4) ((sa (sa (sa (st (st v 0 0 (vO 0 0)) 0 1 (vO 0 1)) 1 (va_cpy (vO 1) ((st (st v 0 0 (vO 0 0)) 0 1 (vO 0 1)) 1) (0 : Int32).toNatClampNeg (0 : Int32).toNatClampNeg (8 : Int32).toNatClampNeg)) 2 (va_cpy (vO 2) ((sa (st (st v 0 0 (vO 0 0)) 0 1 (vO 0 1)) 1 (va_cpy (vO 1) ((st (st v 0 0 (vO 0 0)) 0 1 (vO 0 1)) 1) (0 : Int32).toNatClampNeg (0 : Int32).toNatClampNeg (8 : Int32).toNatClampNeg)) 2) (0 : Int32).toNatClampNeg (0 : Int32).toNatClampNeg (8 : Int32).toNatClampNeg)) 3 (va_cpy (vO 3) ((sa (sa (st (st v 0 0 (vO 0 0)) 0 1 (vO 0 1)) 1 (va_cpy (vO 1) ((st (st v 0 0 (vO 0 0)) 0 1 (vO 0 1)) 1) (0 : Int32).toNatClampNeg (0 : Int32).toNatClampNeg (8 : Int32).toNatClampNeg)) 2 (va_cpy (vO 2) ((sa (st (st v 0 0 (vO 0 0)) 0 1 (vO 0 1)) 1 (va_cpy (vO 1) ((st (st v 0 0 (vO 0 0)) 0 1 (vO 0 1)) 1) (0 : Int32).toNatClampNeg (0 : Int32).toNatClampNeg (8 : Int32).toNatClampNeg)) 2) (0 : Int32).toNatClampNeg (0 : Int32).toNatClampNeg (8 : Int32).toNatClampNeg)) 3) (0 : Int32).toNatClampNeg (0 : Int32).toNatClampNeg (64 : Int32).toNatClampNeg)) 4) (0 : Int32).toNatClampNeg (0 : Int32).toNatClampNeg (64 : Int32).toNatClampNeg)) 5 (va_cpy (vO 5) ((sa (sa (sa (sa (st (st v 0 0 (vO 0 0)) 0 1 (vO 0 1)) 1 (va_cpy (vO 1) ((st (st v 0 0 (vO 0 0)) 0 1 (vO 0 1)) 1) (0 : Int32).toNatClampNeg (0 : Int32).toNatClampNeg (8 : Int32).toNatClampNeg)) 2 (va_cpy (vO 2) ((sa (st (st v 0 0 (vO 0 0)) 0 1 (vO 0 1)) 1 (va_cpy (vO 1) ((st (st v 0 0 (vO 0 0)) 0 1 (vO 0 1)) 1) (0 : Int32).toNatClampNeg (0 : Int32).toNatClampNeg (8 : Int32).toNatClampNeg)) 2) (0 : Int32).toNatClampNeg (0 : Int32).toNatClampNeg (8 : Int32).toNatClampNeg)) 3 (va_cpy (vO 3) ((sa (sa (st (st v 0 0 (vO 0 0)) 0 1 (vO 0 1)) 1 (va_cpy (vO 1) ((st (st v 0 0 (vO 0 0)) 0 1 (vO 0 1)) 1) (0 : Int32).toNatClampNeg (0 : Int32).toNatClampNeg (8 : Int32).toNatClampNeg)) 2 (va_cpy (vO 2) ((sa (st (st v 0 0 (vO 0 0)) 0 1 (vO 0 1)) 1 (va_cpy (vO 1) ((st (st v 0 0 (vO 0 0)) 0 1 (vO 0 1)) 1) (0 : Int32).toNatClampNeg (0 : Int32).toNatClampNeg (8 : Int32).toNatClampNeg)) 2) (0 : Int32).toNatClampNeg (0 : Int32).toNatClampNeg (8 : Int32).toNatClampNeg)) 3) (0 : Int32).toNatClampNeg (0 : Int32).toNatClampNeg (64 : Int32).toNatClampNeg)) 4 (va_cpy (vO 4) ((sa (sa (sa (st (st v 0 0 (vO 0 0)) 0 1 (vO 0 1)) 1 (va_cpy (vO 1) ((st (st v 0 0 (vO 0 0)) 0 1 (vO 0 1)) 1) (0 : Int32).toNatClampNeg (0 : Int32).toNatClampNeg (8 : Int32).toNatClampNeg)) 2 (va_cpy (vO 2) ((sa (st (st v 0 0 (vO 0 0)) 0 1 (vO 0 1)) 1 (va_cpy (vO 1) ((st (st v 0 0 (vO 0 0)) 0 1 (vO 0 1)) 1) (0 : Int32).toNatClampNeg (0 : Int32).toNatClampNeg (8 : Int32).toNatClampNeg)) 2) (0 : Int32).toNatClampNeg (0 : Int32).toNatClampNeg (8 : Int32).toNatClampNeg)) 3 (va_cpy (vO 3) ((sa (sa (st (st v 0 0 (vO 0 0)) 0 1 (vO 0 1)) 1 (va_cpy (vO 1) ((st (st v 0 0 (vO 0 0)) 0 1 (vO 0 1)) 1) (0 : Int32).toNatClampNeg (0 : Int32).toNatClampNeg (8 : Int32).toNatClampNeg)) 2 (va_cpy (vO 2) ((sa (st (st v 0 0 (vO 0 0)) 0 1 (vO 0 1)) 1 (va_cpy (vO 1) ((st (st v 0 0 (vO 0 0)) 0 1 (vO 0 1)) 1) (0 : Int32).toNatClampNeg (0 : Int32).toNatClampNeg (8 : Int32).toNatClampNeg)) 2) (0 : Int32).toNatClampNeg (0 : Int32).toNatClampNeg (8 : Int32).toNatClampNeg)) 3) (0 : Int32).toNatClampNeg (0 : Int32).toNatClampNeg (64 : Int32).toNatClampNeg)) 4) (0 : Int32).toNatClampNeg (0 : Int32).toNatClampNeg (64 : Int32).toNatClampNeg)) 5) (0 : Int32).toNatClampNeg (0 : Int32).toNatClampNeg (64 : Int32).toNatClampNeg)))
abbrev rmX1_copyFrom : Room := { frames := 1, cells := 0, slots := 0, locals := 100 }
abbrev wdX1_copyFrom : List Cond := Cond.code yX1_copyFrom cX1_copyFrom 2 none :: TB
theorem hdSX1_copyFrom : (yX1_copyFrom).cls ≠ "java/lang/invoke/MethodHandle" ∧ (yX1_copyFrom).cls ≠ "java/lang/invoke/VarHandle" ∧ (parseMethodDescriptor (yX1_copyFrom).desc).map (fun d => d.parameters.length) = some 1 := by decide +kernel
theorem hdX1_copyFrom : (yX1_copyFrom).cls = RX1 ∧ (yX1_copyFrom).cls ≠ "java/lang/invoke/MethodHandle" ∧ (yX1_copyFrom).cls ≠ "java/lang/invoke/VarHandle" ∧ (parseMethodDescriptor (yX1_copyFrom).desc).map (fun d => d.parameters.length) = some 1 := ⟨rfl, hdSX1_copyFrom⟩
set_option maxHeartbeats 4000000 in
set_option maxRecDepth 100000 in
theorem kX1_copyFrom {l : Launch} {D : va_G} {cI cJ cT : ClassId} (d : Nat → Nat) (dO : Nat → Nat)  (v : Lf) (vO : Lf)  {Q : Lf → Prop} (sz : Nat) (h : pX1_copyFrom v vO Q) : Met l yX1_copyFrom wdX1_copyFrom rmX1_copyFrom (Pz D (tyL cI cJ cT) [.ref (d 0), .ref (dO 0)] ((wX1 cI d v) ++ (wX1 cI dO vO)) sz) (va_Qv (fun (u : Lf) => Q u) (Bz D (tyL cI cJ cT) ((wX1 cI d v) ++ (wX1 cI dO vO)) sz (fun (u : Lf) => ((wX1 cI d u) ++ (wX1 cI dO vO)))) (va_A ((wX1 cI d v) ++ (wX1 cI dO vO)) sz)) 0 0 (va_A ((wX1 cI d v) ++ (wX1 cI dO vO)) sz) := by
  refine z_metv (cc := cX1_copyFrom) (maxL := 2) (own := RX1) (lv0 := [(0, .ref (d 0)), (1, .ref (dO 0))]) (by decide) rfl rfl (Nat.le_of_ble_eq_true rfl) rfl ?_
  intro p e s m args below meth c A QQ C hin hret
  refine z_aload_n (pc := 0) C 0 dX1_copyFrom_0 rfl ?_
  refine z_aload_n (pc := 1) C 1 dX1_copyFrom_1 rfl ?_
  refine z_get (pc := 2) C uw1 6 rfl rfl 0 (by decide) wq63 rfl dX1_copyFrom_2 ?_
  refine z_put (pc := 5) (ws' := ((wX1 cI d (st v 0 0 (vO 0 0))) ++ (wX1 cI dO vO))) C uw1 tyX1 tyX1_ok nmX1 0 rfl rfl 0 (by decide) wq63 rfl rfl rfl (Nat.le_of_ble_eq_true rfl) dX1_copyFrom_5 (set_l (Nat.le_of_ble_eq_true rfl) sX1_f0) ?_
  refine z_aload_n (pc := 8) C 0 dX1_copyFrom_8 rfl ?_
  refine z_aload_n (pc := 9) C 1 dX1_copyFrom_9 rfl ?_
  refine z_get (pc := 10) C uw1 6 rfl rfl 1 (by decide) wq5 rfl dX1_copyFrom_10 ?_
  refine z_put (pc := 13) (ws' := ((wX1 cI d (st (st v 0 0 (vO 0 0)) 0 1 (vO 0 1))) ++ (wX1 cI dO vO))) C uw1 tyX1 tyX1_ok nmX1 0 rfl rfl 1 (by decide) wq5 rfl rfl rfl (Nat.le_of_ble_eq_true rfl) dX1_copyFrom_13 (set_l (Nat.le_of_ble_eq_true rfl) sX1_f1) ?_
  refine z_aload_n (pc := 16) C 1 dX1_copyFrom_16 rfl ?_
  refine z_get (pc := 17) C uw1 6 rfl rfl 2 (by decide) wq6 rfl dX1_copyFrom_17 ?_
  refine z_iconst (pc := 20) (v := 0) C dX1_copyFrom_20 (by decide) ?_
  refine z_aload_n (pc := 21) C 0 dX1_copyFrom_21 rfl ?_
  refine z_get (pc := 22) C uw1 0 rfl rfl 2 (by decide) wq6 rfl dX1_copyFrom_22 ?_
  refine z_iconst (pc := 25) (v := 0) C dX1_copyFrom_25 (by decide) ?_
  refine z_bipush (pc := 26) (v := 8) C dX1_copyFrom_26 (by decide) ?_
  refine z_copyi (pc := 28) (ws' := ((wX1 cI d (sa (st (st v 0 0 (vO 0 0)) 0 1 (vO 0 1)) 1 (va_cpy (vO 1) ((st (st v 0 0 (vO 0 0)) 0 1 (vO 0 1)) 1) (0 : Int32).toNatClampNeg (0 : Int32).toNatClampNeg (8 : Int32).toNatClampNeg))) ++ (wX1 cI dO vO))) C wq64 wq65 wq66 wq67 7 1 0 rfl rfl rfl (by decide) (Nat.le_of_ble_eq_true rfl) (Nat.le_of_ble_eq_true rfl) dX1_copyFrom_28 (set_l (Nat.le_of_ble_eq_true rfl) sX1_c1) ?_
  refine z_aload_n (pc := 31) C 1 dX1_copyFrom_31 rfl ?_
  refine z_get (pc := 32) C uw1 6 rfl rfl 3 (by decide) wq7 rfl dX1_copyFrom_32 ?_
  refine z_iconst (pc := 35) (v := 0) C dX1_copyFrom_35 (by decide) ?_
  refine z_aload_n (pc := 36) C 0 dX1_copyFrom_36 rfl ?_
  refine z_get (pc := 37) C uw1 0 rfl rfl 3 (by decide) wq7 rfl dX1_copyFrom_37 ?_
  refine z_iconst (pc := 40) (v := 0) C dX1_copyFrom_40 (by decide) ?_
  refine z_bipush (pc := 41) (v := 8) C dX1_copyFrom_41 (by decide) ?_
  refine z_copyi (pc := 43) (ws' := ((wX1 cI d (sa (sa (st (st v 0 0 (vO 0 0)) 0 1 (vO 0 1)) 1 (va_cpy (vO 1) ((st (st v 0 0 (vO 0 0)) 0 1 (vO 0 1)) 1) (0 : Int32).toNatClampNeg (0 : Int32).toNatClampNeg (8 : Int32).toNatClampNeg)) 2 (va_cpy (vO 2) ((sa (st (st v 0 0 (vO 0 0)) 0 1 (vO 0 1)) 1 (va_cpy (vO 1) ((st (st v 0 0 (vO 0 0)) 0 1 (vO 0 1)) 1) (0 : Int32).toNatClampNeg (0 : Int32).toNatClampNeg (8 : Int32).toNatClampNeg)) 2) (0 : Int32).toNatClampNeg (0 : Int32).toNatClampNeg (8 : Int32).toNatClampNeg))) ++ (wX1 cI dO vO))) C wq64 wq65 wq66 wq67 8 2 0 rfl rfl rfl (by decide) (Nat.le_of_ble_eq_true rfl) (Nat.le_of_ble_eq_true rfl) dX1_copyFrom_43 (set_l (Nat.le_of_ble_eq_true rfl) sX1_c2) ?_
  refine z_aload_n (pc := 46) C 1 dX1_copyFrom_46 rfl ?_
  refine z_get (pc := 47) C uw1 6 rfl rfl 4 (by decide) wq8 rfl dX1_copyFrom_47 ?_
  refine z_iconst (pc := 50) (v := 0) C dX1_copyFrom_50 (by decide) ?_
  refine z_aload_n (pc := 51) C 0 dX1_copyFrom_51 rfl ?_
  refine z_get (pc := 52) C uw1 0 rfl rfl 4 (by decide) wq8 rfl dX1_copyFrom_52 ?_
  refine z_iconst (pc := 55) (v := 0) C dX1_copyFrom_55 (by decide) ?_
  refine z_bipush (pc := 56) (v := 64) C dX1_copyFrom_56 (by decide) ?_
  refine z_copyi (pc := 58) (ws' := ((wX1 cI d (sa (sa (sa (st (st v 0 0 (vO 0 0)) 0 1 (vO 0 1)) 1 (va_cpy (vO 1) ((st (st v 0 0 (vO 0 0)) 0 1 (vO 0 1)) 1) (0 : Int32).toNatClampNeg (0 : Int32).toNatClampNeg (8 : Int32).toNatClampNeg)) 2 (va_cpy (vO 2) ((sa (st (st v 0 0 (vO 0 0)) 0 1 (vO 0 1)) 1 (va_cpy (vO 1) ((st (st v 0 0 (vO 0 0)) 0 1 (vO 0 1)) 1) (0 : Int32).toNatClampNeg (0 : Int32).toNatClampNeg (8 : Int32).toNatClampNeg)) 2) (0 : Int32).toNatClampNeg (0 : Int32).toNatClampNeg (8 : Int32).toNatClampNeg)) 3 (va_cpy (vO 3) ((sa (sa (st (st v 0 0 (vO 0 0)) 0 1 (vO 0 1)) 1 (va_cpy (vO 1) ((st (st v 0 0 (vO 0 0)) 0 1 (vO 0 1)) 1) (0 : Int32).toNatClampNeg (0 : Int32).toNatClampNeg (8 : Int32).toNatClampNeg)) 2 (va_cpy (vO 2) ((sa (st (st v 0 0 (vO 0 0)) 0 1 (vO 0 1)) 1 (va_cpy (vO 1) ((st (st v 0 0 (vO 0 0)) 0 1 (vO 0 1)) 1) (0 : Int32).toNatClampNeg (0 : Int32).toNatClampNeg (8 : Int32).toNatClampNeg)) 2) (0 : Int32).toNatClampNeg (0 : Int32).toNatClampNeg (8 : Int32).toNatClampNeg)) 3) (0 : Int32).toNatClampNeg (0 : Int32).toNatClampNeg (64 : Int32).toNatClampNeg))) ++ (wX1 cI dO vO))) C wq64 wq65 wq66 wq67 9 3 0 rfl rfl rfl (by decide) (Nat.le_of_ble_eq_true rfl) (Nat.le_of_ble_eq_true rfl) dX1_copyFrom_58 (set_l (Nat.le_of_ble_eq_true rfl) sX1_c3) ?_
  refine z_aload_n (pc := 61) C 1 dX1_copyFrom_61 rfl ?_
  refine z_get (pc := 62) C uw1 6 rfl rfl 5 (by decide) wq9 rfl dX1_copyFrom_62 ?_
  refine z_iconst (pc := 65) (v := 0) C dX1_copyFrom_65 (by decide) ?_
  refine z_aload_n (pc := 66) C 0 dX1_copyFrom_66 rfl ?_
  refine z_get (pc := 67) C uw1 0 rfl rfl 5 (by decide) wq9 rfl dX1_copyFrom_67 ?_
  refine z_iconst (pc := 70) (v := 0) C dX1_copyFrom_70 (by decide) ?_
  refine z_bipush (pc := 71) (v := 64) C dX1_copyFrom_71 (by decide) ?_
  refine z_copyi (pc := 73) (ws' := ((wX1 cI d (sa (sa (sa (sa (st (st v 0 0 (vO 0 0)) 0 1 (vO 0 1)) 1 (va_cpy (vO 1) ((st (st v 0 0 (vO 0 0)) 0 1 (vO 0 1)) 1) (0 : Int32).toNatClampNeg (0 : Int32).toNatClampNeg (8 : Int32).toNatClampNeg)) 2 (va_cpy (vO 2) ((sa (st (st v 0 0 (vO 0 0)) 0 1 (vO 0 1)) 1 (va_cpy (vO 1) ((st (st v 0 0 (vO 0 0)) 0 1 (vO 0 1)) 1) (0 : Int32).toNatClampNeg (0 : Int32).toNatClampNeg (8 : Int32).toNatClampNeg)) 2) (0 : Int32).toNatClampNeg (0 : Int32).toNatClampNeg (8 : Int32).toNatClampNeg)) 3 (va_cpy (vO 3) ((sa (sa (st (st v 0 0 (vO 0 0)) 0 1 (vO 0 1)) 1 (va_cpy (vO 1) ((st (st v 0 0 (vO 0 0)) 0 1 (vO 0 1)) 1) (0 : Int32).toNatClampNeg (0 : Int32).toNatClampNeg (8 : Int32).toNatClampNeg)) 2 (va_cpy (vO 2) ((sa (st (st v 0 0 (vO 0 0)) 0 1 (vO 0 1)) 1 (va_cpy (vO 1) ((st (st v 0 0 (vO 0 0)) 0 1 (vO 0 1)) 1) (0 : Int32).toNatClampNeg (0 : Int32).toNatClampNeg (8 : Int32).toNatClampNeg)) 2) (0 : Int32).toNatClampNeg (0 : Int32).toNatClampNeg (8 : Int32).toNatClampNeg)) 3) (0 : Int32).toNatClampNeg (0 : Int32).toNatClampNeg (64 : Int32).toNatClampNeg)) 4 (va_cpy (vO 4) ((sa (sa (sa (st (st v 0 0 (vO 0 0)) 0 1 (vO 0 1)) 1 (va_cpy (vO 1) ((st (st v 0 0 (vO 0 0)) 0 1 (vO 0 1)) 1) (0 : Int32).toNatClampNeg (0 : Int32).toNatClampNeg (8 : Int32).toNatClampNeg)) 2 (va_cpy (vO 2) ((sa (st (st v 0 0 (vO 0 0)) 0 1 (vO 0 1)) 1 (va_cpy (vO 1) ((st (st v 0 0 (vO 0 0)) 0 1 (vO 0 1)) 1) (0 : Int32).toNatClampNeg (0 : Int32).toNatClampNeg (8 : Int32).toNatClampNeg)) 2) (0 : Int32).toNatClampNeg (0 : Int32).toNatClampNeg (8 : Int32).toNatClampNeg)) 3 (va_cpy (vO 3) ((sa (sa (st (st v 0 0 (vO 0 0)) 0 1 (vO 0 1)) 1 (va_cpy (vO 1) ((st (st v 0 0 (vO 0 0)) 0 1 (vO 0 1)) 1) (0 : Int32).toNatClampNeg (0 : Int32).toNatClampNeg (8 : Int32).toNatClampNeg)) 2 (va_cpy (vO 2) ((sa (st (st v 0 0 (vO 0 0)) 0 1 (vO 0 1)) 1 (va_cpy (vO 1) ((st (st v 0 0 (vO 0 0)) 0 1 (vO 0 1)) 1) (0 : Int32).toNatClampNeg (0 : Int32).toNatClampNeg (8 : Int32).toNatClampNeg)) 2) (0 : Int32).toNatClampNeg (0 : Int32).toNatClampNeg (8 : Int32).toNatClampNeg)) 3) (0 : Int32).toNatClampNeg (0 : Int32).toNatClampNeg (64 : Int32).toNatClampNeg)) 4) (0 : Int32).toNatClampNeg (0 : Int32).toNatClampNeg (64 : Int32).toNatClampNeg))) ++ (wX1 cI dO vO))) C wq64 wq65 wq66 wq67 10 4 0 rfl rfl rfl (by decide) (Nat.le_of_ble_eq_true rfl) (Nat.le_of_ble_eq_true rfl) dX1_copyFrom_73 (set_l (Nat.le_of_ble_eq_true rfl) sX1_c4) ?_
  refine z_aload_n (pc := 76) C 1 dX1_copyFrom_76 rfl ?_
  refine z_get (pc := 77) C uw1 6 rfl rfl 6 (by decide) wq10 rfl dX1_copyFrom_77 ?_
  refine z_iconst (pc := 80) (v := 0) C dX1_copyFrom_80 (by decide) ?_
  refine z_aload_n (pc := 81) C 0 dX1_copyFrom_81 rfl ?_
  refine z_get (pc := 82) C uw1 0 rfl rfl 6 (by decide) wq10 rfl dX1_copyFrom_82 ?_
  refine z_iconst (pc := 85) (v := 0) C dX1_copyFrom_85 (by decide) ?_
  refine z_bipush (pc := 86) (v := 64) C dX1_copyFrom_86 (by decide) ?_
  refine z_copyi (pc := 88) (ws' := ((wX1 cI d (sa (sa (sa (sa (sa (st (st v 0 0 (vO 0 0)) 0 1 (vO 0 1)) 1 (va_cpy (vO 1) ((st (st v 0 0 (vO 0 0)) 0 1 (vO 0 1)) 1) (0 : Int32).toNatClampNeg (0 : Int32).toNatClampNeg (8 : Int32).toNatClampNeg)) 2 (va_cpy (vO 2) ((sa (st (st v 0 0 (vO 0 0)) 0 1 (vO 0 1)) 1 (va_cpy (vO 1) ((st (st v 0 0 (vO 0 0)) 0 1 (vO 0 1)) 1) (0 : Int32).toNatClampNeg (0 : Int32).toNatClampNeg (8 : Int32).toNatClampNeg)) 2) (0 : Int32).toNatClampNeg (0 : Int32).toNatClampNeg (8 : Int32).toNatClampNeg)) 3 (va_cpy (vO 3) ((sa (sa (st (st v 0 0 (vO 0 0)) 0 1 (vO 0 1)) 1 (va_cpy (vO 1) ((st (st v 0 0 (vO 0 0)) 0 1 (vO 0 1)) 1) (0 : Int32).toNatClampNeg (0 : Int32).toNatClampNeg (8 : Int32).toNatClampNeg)) 2 (va_cpy (vO 2) ((sa (st (st v 0 0 (vO 0 0)) 0 1 (vO 0 1)) 1 (va_cpy (vO 1) ((st (st v 0 0 (vO 0 0)) 0 1 (vO 0 1)) 1) (0 : Int32).toNatClampNeg (0 : Int32).toNatClampNeg (8 : Int32).toNatClampNeg)) 2) (0 : Int32).toNatClampNeg (0 : Int32).toNatClampNeg (8 : Int32).toNatClampNeg)) 3) (0 : Int32).toNatClampNeg (0 : Int32).toNatClampNeg (64 : Int32).toNatClampNeg)) 4 (va_cpy (vO 4) ((sa (sa (sa (st (st v 0 0 (vO 0 0)) 0 1 (vO 0 1)) 1 (va_cpy (vO 1) ((st (st v 0 0 (vO 0 0)) 0 1 (vO 0 1)) 1) (0 : Int32).toNatClampNeg (0 : Int32).toNatClampNeg (8 : Int32).toNatClampNeg)) 2 (va_cpy (vO 2) ((sa (st (st v 0 0 (vO 0 0)) 0 1 (vO 0 1)) 1 (va_cpy (vO 1) ((st (st v 0 0 (vO 0 0)) 0 1 (vO 0 1)) 1) (0 : Int32).toNatClampNeg (0 : Int32).toNatClampNeg (8 : Int32).toNatClampNeg)) 2) (0 : Int32).toNatClampNeg (0 : Int32).toNatClampNeg (8 : Int32).toNatClampNeg)) 3 (va_cpy (vO 3) ((sa (sa (st (st v 0 0 (vO 0 0)) 0 1 (vO 0 1)) 1 (va_cpy (vO 1) ((st (st v 0 0 (vO 0 0)) 0 1 (vO 0 1)) 1) (0 : Int32).toNatClampNeg (0 : Int32).toNatClampNeg (8 : Int32).toNatClampNeg)) 2 (va_cpy (vO 2) ((sa (st (st v 0 0 (vO 0 0)) 0 1 (vO 0 1)) 1 (va_cpy (vO 1) ((st (st v 0 0 (vO 0 0)) 0 1 (vO 0 1)) 1) (0 : Int32).toNatClampNeg (0 : Int32).toNatClampNeg (8 : Int32).toNatClampNeg)) 2) (0 : Int32).toNatClampNeg (0 : Int32).toNatClampNeg (8 : Int32).toNatClampNeg)) 3) (0 : Int32).toNatClampNeg (0 : Int32).toNatClampNeg (64 : Int32).toNatClampNeg)) 4) (0 : Int32).toNatClampNeg (0 : Int32).toNatClampNeg (64 : Int32).toNatClampNeg)) 5 (va_cpy (vO 5) ((sa (sa (sa (sa (st (st v 0 0 (vO 0 0)) 0 1 (vO 0 1)) 1 (va_cpy (vO 1) ((st (st v 0 0 (vO 0 0)) 0 1 (vO 0 1)) 1) (0 : Int32).toNatClampNeg (0 : Int32).toNatClampNeg (8 : Int32).toNatClampNeg)) 2 (va_cpy (vO 2) ((sa (st (st v 0 0 (vO 0 0)) 0 1 (vO 0 1)) 1 (va_cpy (vO 1) ((st (st v 0 0 (vO 0 0)) 0 1 (vO 0 1)) 1) (0 : Int32).toNatClampNeg (0 : Int32).toNatClampNeg (8 : Int32).toNatClampNeg)) 2) (0 : Int32).toNatClampNeg (0 : Int32).toNatClampNeg (8 : Int32).toNatClampNeg)) 3 (va_cpy (vO 3) ((sa (sa (st (st v 0 0 (vO 0 0)) 0 1 (vO 0 1)) 1 (va_cpy (vO 1) ((st (st v 0 0 (vO 0 0)) 0 1 (vO 0 1)) 1) (0 : Int32).toNatClampNeg (0 : Int32).toNatClampNeg (8 : Int32).toNatClampNeg)) 2 (va_cpy (vO 2) ((sa (st (st v 0 0 (vO 0 0)) 0 1 (vO 0 1)) 1 (va_cpy (vO 1) ((st (st v 0 0 (vO 0 0)) 0 1 (vO 0 1)) 1) (0 : Int32).toNatClampNeg (0 : Int32).toNatClampNeg (8 : Int32).toNatClampNeg)) 2) (0 : Int32).toNatClampNeg (0 : Int32).toNatClampNeg (8 : Int32).toNatClampNeg)) 3) (0 : Int32).toNatClampNeg (0 : Int32).toNatClampNeg (64 : Int32).toNatClampNeg)) 4 (va_cpy (vO 4) ((sa (sa (sa (st (st v 0 0 (vO 0 0)) 0 1 (vO 0 1)) 1 (va_cpy (vO 1) ((st (st v 0 0 (vO 0 0)) 0 1 (vO 0 1)) 1) (0 : Int32).toNatClampNeg (0 : Int32).toNatClampNeg (8 : Int32).toNatClampNeg)) 2 (va_cpy (vO 2) ((sa (st (st v 0 0 (vO 0 0)) 0 1 (vO 0 1)) 1 (va_cpy (vO 1) ((st (st v 0 0 (vO 0 0)) 0 1 (vO 0 1)) 1) (0 : Int32).toNatClampNeg (0 : Int32).toNatClampNeg (8 : Int32).toNatClampNeg)) 2) (0 : Int32).toNatClampNeg (0 : Int32).toNatClampNeg (8 : Int32).toNatClampNeg)) 3 (va_cpy (vO 3) ((sa (sa (st (st v 0 0 (vO 0 0)) 0 1 (vO 0 1)) 1 (va_cpy (vO 1) ((st (st v 0 0 (vO 0 0)) 0 1 (vO 0 1)) 1) (0 : Int32).toNatClampNeg (0 : Int32).toNatClampNeg (8 : Int32).toNatClampNeg)) 2 (va_cpy (vO 2) ((sa (st (st v 0 0 (vO 0 0)) 0 1 (vO 0 1)) 1 (va_cpy (vO 1) ((st (st v 0 0 (vO 0 0)) 0 1 (vO 0 1)) 1) (0 : Int32).toNatClampNeg (0 : Int32).toNatClampNeg (8 : Int32).toNatClampNeg)) 2) (0 : Int32).toNatClampNeg (0 : Int32).toNatClampNeg (8 : Int32).toNatClampNeg)) 3) (0 : Int32).toNatClampNeg (0 : Int32).toNatClampNeg (64 : Int32).toNatClampNeg)) 4) (0 : Int32).toNatClampNeg (0 : Int32).toNatClampNeg (64 : Int32).toNatClampNeg)) 5) (0 : Int32).toNatClampNeg (0 : Int32).toNatClampNeg (64 : Int32).toNatClampNeg))) ++ (wX1 cI dO vO))) C wq64 wq65 wq66 wq67 11 5 0 rfl rfl rfl (by decide) (Nat.le_of_ble_eq_true rfl) (Nat.le_of_ble_eq_true rfl) dX1_copyFrom_88 (set_l (Nat.le_of_ble_eq_true rfl) sX1_c5) ?_
  exact hret 91 _ _ (sa (sa (sa (sa (sa (st (st v 0 0 (vO 0 0)) 0 1 (vO 0 1)) 1 (va_cpy (vO 1) ((st (st v 0 0 (vO 0 0)) 0 1 (vO 0 1)) 1) (0 : Int32).toNatClampNeg (0 : Int32).toNatClampNeg (8 : Int32).toNatClampNeg)) 2 (va_cpy (vO 2) ((sa (st (st v 0 0 (vO 0 0)) 0 1 (vO 0 1)) 1 (va_cpy (vO 1) ((st (st v 0 0 (vO 0 0)) 0 1 (vO 0 1)) 1) (0 : Int32).toNatClampNeg (0 : Int32).toNatClampNeg (8 : Int32).toNatClampNeg)) 2) (0 : Int32).toNatClampNeg (0 : Int32).toNatClampNeg (8 : Int32).toNatClampNeg)) 3 (va_cpy (vO 3) ((sa (sa (st (st v 0 0 (vO 0 0)) 0 1 (vO 0 1)) 1 (va_cpy (vO 1) ((st (st v 0 0 (vO 0 0)) 0 1 (vO 0 1)) 1) (0 : Int32).toNatClampNeg (0 : Int32).toNatClampNeg (8 : Int32).toNatClampNeg)) 2 (va_cpy (vO 2) ((sa (st (st v 0 0 (vO 0 0)) 0 1 (vO 0 1)) 1 (va_cpy (vO 1) ((st (st v 0 0 (vO 0 0)) 0 1 (vO 0 1)) 1) (0 : Int32).toNatClampNeg (0 : Int32).toNatClampNeg (8 : Int32).toNatClampNeg)) 2) (0 : Int32).toNatClampNeg (0 : Int32).toNatClampNeg (8 : Int32).toNatClampNeg)) 3) (0 : Int32).toNatClampNeg (0 : Int32).toNatClampNeg (64 : Int32).toNatClampNeg)) 4 (va_cpy (vO 4) ((sa (sa (sa (st (st v 0 0 (vO 0 0)) 0 1 (vO 0 1)) 1 (va_cpy (vO 1) ((st (st v 0 0 (vO 0 0)) 0 1 (vO 0 1)) 1) (0 : Int32).toNatClampNeg (0 : Int32).toNatClampNeg (8 : Int32).toNatClampNeg)) 2 (va_cpy (vO 2) ((sa (st (st v 0 0 (vO 0 0)) 0 1 (vO 0 1)) 1 (va_cpy (vO 1) ((st (st v 0 0 (vO 0 0)) 0 1 (vO 0 1)) 1) (0 : Int32).toNatClampNeg (0 : Int32).toNatClampNeg (8 : Int32).toNatClampNeg)) 2) (0 : Int32).toNatClampNeg (0 : Int32).toNatClampNeg (8 : Int32).toNatClampNeg)) 3 (va_cpy (vO 3) ((sa (sa (st (st v 0 0 (vO 0 0)) 0 1 (vO 0 1)) 1 (va_cpy (vO 1) ((st (st v 0 0 (vO 0 0)) 0 1 (vO 0 1)) 1) (0 : Int32).toNatClampNeg (0 : Int32).toNatClampNeg (8 : Int32).toNatClampNeg)) 2 (va_cpy (vO 2) ((sa (st (st v 0 0 (vO 0 0)) 0 1 (vO 0 1)) 1 (va_cpy (vO 1) ((st (st v 0 0 (vO 0 0)) 0 1 (vO 0 1)) 1) (0 : Int32).toNatClampNeg (0 : Int32).toNatClampNeg (8 : Int32).toNatClampNeg)) 2) (0 : Int32).toNatClampNeg (0 : Int32).toNatClampNeg (8 : Int32).toNatClampNeg)) 3) (0 : Int32).toNatClampNeg (0 : Int32).toNatClampNeg (64 : Int32).toNatClampNeg)) 4) (0 : Int32).toNatClampNeg (0 : Int32).toNatClampNeg (64 : Int32).toNatClampNeg)) 5 (va_cpy (vO 5) ((sa (sa (sa (sa (st (st v 0 0 (vO 0 0)) 0 1 (vO 0 1)) 1 (va_cpy (vO 1) ((st (st v 0 0 (vO 0 0)) 0 1 (vO 0 1)) 1) (0 : Int32).toNatClampNeg (0 : Int32).toNatClampNeg (8 : Int32).toNatClampNeg)) 2 (va_cpy (vO 2) ((sa (st (st v 0 0 (vO 0 0)) 0 1 (vO 0 1)) 1 (va_cpy (vO 1) ((st (st v 0 0 (vO 0 0)) 0 1 (vO 0 1)) 1) (0 : Int32).toNatClampNeg (0 : Int32).toNatClampNeg (8 : Int32).toNatClampNeg)) 2) (0 : Int32).toNatClampNeg (0 : Int32).toNatClampNeg (8 : Int32).toNatClampNeg)) 3 (va_cpy (vO 3) ((sa (sa (st (st v 0 0 (vO 0 0)) 0 1 (vO 0 1)) 1 (va_cpy (vO 1) ((st (st v 0 0 (vO 0 0)) 0 1 (vO 0 1)) 1) (0 : Int32).toNatClampNeg (0 : Int32).toNatClampNeg (8 : Int32).toNatClampNeg)) 2 (va_cpy (vO 2) ((sa (st (st v 0 0 (vO 0 0)) 0 1 (vO 0 1)) 1 (va_cpy (vO 1) ((st (st v 0 0 (vO 0 0)) 0 1 (vO 0 1)) 1) (0 : Int32).toNatClampNeg (0 : Int32).toNatClampNeg (8 : Int32).toNatClampNeg)) 2) (0 : Int32).toNatClampNeg (0 : Int32).toNatClampNeg (8 : Int32).toNatClampNeg)) 3) (0 : Int32).toNatClampNeg (0 : Int32).toNatClampNeg (64 : Int32).toNatClampNeg)) 4 (va_cpy (vO 4) ((sa (sa (sa (st (st v 0 0 (vO 0 0)) 0 1 (vO 0 1)) 1 (va_cpy (vO 1) ((st (st v 0 0 (vO 0 0)) 0 1 (vO 0 1)) 1) (0 : Int32).toNatClampNeg (0 : Int32).toNatClampNeg (8 : Int32).toNatClampNeg)) 2 (va_cpy (vO 2) ((sa (st (st v 0 0 (vO 0 0)) 0 1 (vO 0 1)) 1 (va_cpy (vO 1) ((st (st v 0 0 (vO 0 0)) 0 1 (vO 0 1)) 1) (0 : Int32).toNatClampNeg (0 : Int32).toNatClampNeg (8 : Int32).toNatClampNeg)) 2) (0 : Int32).toNatClampNeg (0 : Int32).toNatClampNeg (8 : Int32).toNatClampNeg)) 3 (va_cpy (vO 3) ((sa (sa (st (st v 0 0 (vO 0 0)) 0 1 (vO 0 1)) 1 (va_cpy (vO 1) ((st (st v 0 0 (vO 0 0)) 0 1 (vO 0 1)) 1) (0 : Int32).toNatClampNeg (0 : Int32).toNatClampNeg (8 : Int32).toNatClampNeg)) 2 (va_cpy (vO 2) ((sa (st (st v 0 0 (vO 0 0)) 0 1 (vO 0 1)) 1 (va_cpy (vO 1) ((st (st v 0 0 (vO 0 0)) 0 1 (vO 0 1)) 1) (0 : Int32).toNatClampNeg (0 : Int32).toNatClampNeg (8 : Int32).toNatClampNeg)) 2) (0 : Int32).toNatClampNeg (0 : Int32).toNatClampNeg (8 : Int32).toNatClampNeg)) 3) (0 : Int32).toNatClampNeg (0 : Int32).toNatClampNeg (64 : Int32).toNatClampNeg)) 4) (0 : Int32).toNatClampNeg (0 : Int32).toNatClampNeg (64 : Int32).toNatClampNeg)) 5) (0 : Int32).toNatClampNeg (0 : Int32).toNatClampNeg (64 : Int32).toNatClampNeg)) rfl h dX1_copyFrom_91

def pX1_meet (v : Lf) (x1 : Int32) (x2 : Int32) (Q : Int32 → Prop) : Prop := (vp_in ((x1 * (8 : Int32)) + x2) 64 ∧ (((v 5 ((x1 * (8 : Int32)) + x2).toNatClampNeg) = (-5 : Int32) → (Q (0 : Int32) )) ∧ (¬ (v 5 ((x1 * (8 : Int32)) + x2).toNatClampNeg) = (-5 : Int32) → (Q (1 : Int32) ))))
abbrev rmX1_meet : Room := { frames := 0, cells := 0, slots := 0, locals := 0 }
abbrev wdX1_meet : List Cond := Cond.code yX1_meet cX1_meet 3 (some .boolean) :: TB
theorem hdSX1_meet : (yX1_meet).cls ≠ "java/lang/invoke/MethodHandle" ∧ (yX1_meet).cls ≠ "java/lang/invoke/VarHandle" ∧ (parseMethodDescriptor (yX1_meet).desc).map (fun d => d.parameters.length) = some 2 := by decide +kernel
theorem hdX1_meet : (yX1_meet).cls = RX1 ∧ (yX1_meet).cls ≠ "java/lang/invoke/MethodHandle" ∧ (yX1_meet).cls ≠ "java/lang/invoke/VarHandle" ∧ (parseMethodDescriptor (yX1_meet).desc).map (fun d => d.parameters.length) = some 2 := ⟨rfl, hdSX1_meet⟩
set_option maxHeartbeats 4000000 in
set_option maxRecDepth 100000 in
theorem kX1_meet {l : Launch} {D : va_G} {cI cJ cT : ClassId} (d : Nat → Nat)  (v : Lf) (x1 : Int32) (x2 : Int32) {Q : Int32 → Prop} (sz : Nat) (h : pX1_meet v x1 x2 Q) : Met l yX1_meet wdX1_meet rmX1_meet (Pz D (tyL cI cJ cT) [.ref (d 0), .int x1, .int x2] (wX1 cI d v) sz) (va_Qi (fun (r : Int32) (u : Unit) => Q r) (Bz D (tyL cI cJ cT) (wX1 cI d v) sz (fun (u : Unit) => (wX1 cI d v))) (va_A (wX1 cI d v) sz)) 0 0 (va_A (wX1 cI d v) sz) := by
  refine z_metz (cc := cX1_meet) (maxL := 3) (own := RX1) (lv0 := [(0, .ref (d 0)), (1, .int x1), (2, .int x2)]) (by decide) rfl rfl (Nat.le_of_ble_eq_true rfl) rfl ?_
  intro p e s m args below meth c A QQ C hin hret
  refine z_aload_n (pc := 0) C 0 dX1_meet_0 rfl ?_
  refine z_get (pc := 1) C uw1 0 rfl rfl 6 (by decide) wq10 rfl dX1_meet_1 ?_
  refine z_iload_n (pc := 4) C 1 dX1_meet_4 rfl ?_
  refine z_bipush (pc := 5) (v := 8) C dX1_meet_5 (by decide) ?_
  refine z_imul (pc := 7) C dX1_meet_7 ?_
  refine z_iload_n (pc := 8) C 2 dX1_meet_8 rfl ?_
  refine z_iadd (pc := 9) C dX1_meet_9 ?_
  obtain ⟨g1, h⟩ := h
  refine z_iald (pc := 10) C 5 0 rfl rfl g1 (v 5 ((x1 * (8 : Int32)) + x2).toNatClampNeg) rfl dX1_meet_10 ?_
  refine z_bipush (pc := 11) (v := -5) C dX1_meet_11 (by decide) ?_
  refine z_icmp_eq (pc := 13) (tgt := 20) C dX1_meet_13 (by decide) (fun c2 => ?_) (fun c2 => ?_)
  · have h := h.1 c2
    refine z_iconst (pc := 20) (v := 0) C dX1_meet_20 (by decide) ?_
    exact hret 21 _ _ (0 : Int32) rfl () rfl h dX1_meet_21
  · have h := h.2 c2
    refine z_iconst (pc := 16) (v := 1) C dX1_meet_16 (by decide) ?_
    refine z_goto (pc := 17) (tgt := 21) C dX1_meet_17 (by decide) ?_
    exact hret 21 _ _ (1 : Int32) rfl () rfl h dX1_meet_21

def pX1_clearOf (v : Lf) (x1 : Int32) (x2 : Int32) (Q : Int32 → Prop) : Prop := (vp_in ((x1 * (8 : Int32)) + x2) 64 ∧ (Q ((v 4 ((x1 * (8 : Int32)) + x2).toNatClampNeg) + (v 0 1)) ))
abbrev rmX1_clearOf : Room := { frames := 0, cells := 0, slots := 0, locals := 0 }
abbrev wdX1_clearOf : List Cond := Cond.code yX1_clearOf cX1_clearOf 3 (some .int) :: TB
theorem hdSX1_clearOf : (yX1_clearOf).cls ≠ "java/lang/invoke/MethodHandle" ∧ (yX1_clearOf).cls ≠ "java/lang/invoke/VarHandle" ∧ (parseMethodDescriptor (yX1_clearOf).desc).map (fun d => d.parameters.length) = some 2 := by decide +kernel
theorem hdX1_clearOf : (yX1_clearOf).cls = RX1 ∧ (yX1_clearOf).cls ≠ "java/lang/invoke/MethodHandle" ∧ (yX1_clearOf).cls ≠ "java/lang/invoke/VarHandle" ∧ (parseMethodDescriptor (yX1_clearOf).desc).map (fun d => d.parameters.length) = some 2 := ⟨rfl, hdSX1_clearOf⟩
set_option maxHeartbeats 4000000 in
set_option maxRecDepth 100000 in
theorem kX1_clearOf {l : Launch} {D : va_G} {cI cJ cT : ClassId} (d : Nat → Nat)  (v : Lf) (x1 : Int32) (x2 : Int32) {Q : Int32 → Prop} (sz : Nat) (h : pX1_clearOf v x1 x2 Q) : Met l yX1_clearOf wdX1_clearOf rmX1_clearOf (Pz D (tyL cI cJ cT) [.ref (d 0), .int x1, .int x2] (wX1 cI d v) sz) (va_Qi (fun (r : Int32) (u : Unit) => Q r) (Bz D (tyL cI cJ cT) (wX1 cI d v) sz (fun (u : Unit) => (wX1 cI d v))) (va_A (wX1 cI d v) sz)) 0 0 (va_A (wX1 cI d v) sz) := by
  refine z_meti (cc := cX1_clearOf) (maxL := 3) (own := RX1) (lv0 := [(0, .ref (d 0)), (1, .int x1), (2, .int x2)]) (by decide) rfl rfl (Nat.le_of_ble_eq_true rfl) rfl ?_
  intro p e s m args below meth c A QQ C hin hret
  refine z_aload_n (pc := 0) C 0 dX1_clearOf_0 rfl ?_
  refine z_get (pc := 1) C uw1 0 rfl rfl 5 (by decide) wq9 rfl dX1_clearOf_1 ?_
  refine z_iload_n (pc := 4) C 1 dX1_clearOf_4 rfl ?_
  refine z_bipush (pc := 5) (v := 8) C dX1_clearOf_5 (by decide) ?_
  refine z_imul (pc := 7) C dX1_clearOf_7 ?_
  refine z_iload_n (pc := 8) C 2 dX1_clearOf_8 rfl ?_
  refine z_iadd (pc := 9) C dX1_clearOf_9 ?_
  obtain ⟨g1, h⟩ := h
  refine z_iald (pc := 10) C 4 0 rfl rfl g1 (v 4 ((x1 * (8 : Int32)) + x2).toNatClampNeg) rfl dX1_clearOf_10 ?_
  refine z_aload_n (pc := 11) C 0 dX1_clearOf_11 rfl ?_
  refine z_get (pc := 12) C uw1 0 rfl rfl 1 (by decide) wq5 rfl dX1_clearOf_12 ?_
  refine z_iadd (pc := 15) C dX1_clearOf_15 ?_
  exact hret 16 _ _ ((v 4 ((x1 * (8 : Int32)) + x2).toNatClampNeg) + (v 0 1)) () rfl h dX1_clearOf_16

def pX1_amber (v : Lf) (x1 : Int32) (Q : Int32 → Prop) : Prop := (vp_in x1 8 ∧ (vp_in (v 1 x1.toNatClampNeg) 4 ∧ (Q (tbA (v 1 x1.toNatClampNeg).toNatClampNeg) )))
abbrev rmX1_amber : Room := { frames := 0, cells := 0, slots := 0, locals := 0 }
abbrev wdX1_amber : List Cond := Cond.code yX1_amber cX1_amber 2 (some .int) :: TB
theorem hdSX1_amber : (yX1_amber).cls ≠ "java/lang/invoke/MethodHandle" ∧ (yX1_amber).cls ≠ "java/lang/invoke/VarHandle" ∧ (parseMethodDescriptor (yX1_amber).desc).map (fun d => d.parameters.length) = some 1 := by decide +kernel
theorem hdX1_amber : (yX1_amber).cls = RX1 ∧ (yX1_amber).cls ≠ "java/lang/invoke/MethodHandle" ∧ (yX1_amber).cls ≠ "java/lang/invoke/VarHandle" ∧ (parseMethodDescriptor (yX1_amber).desc).map (fun d => d.parameters.length) = some 1 := ⟨rfl, hdSX1_amber⟩
set_option maxHeartbeats 4000000 in
set_option maxRecDepth 100000 in
theorem kX1_amber {l : Launch} {D : va_G} {cI cJ cT : ClassId} (d : Nat → Nat)  (v : Lf) (x1 : Int32) {Q : Int32 → Prop} (sz : Nat) (h : pX1_amber v x1 Q) : Met l yX1_amber wdX1_amber rmX1_amber (Pz D (tyL cI cJ cT) [.ref (d 0), .int x1] (wX1 cI d v) sz) (va_Qi (fun (r : Int32) (u : Unit) => Q r) (Bz D (tyL cI cJ cT) (wX1 cI d v) sz (fun (u : Unit) => (wX1 cI d v))) (va_A (wX1 cI d v) sz)) 0 0 (va_A (wX1 cI d v) sz) := by
  refine z_meti (cc := cX1_amber) (maxL := 2) (own := RX1) (lv0 := [(0, .ref (d 0)), (1, .int x1)]) (by decide) rfl rfl (Nat.le_of_ble_eq_true rfl) rfl ?_
  intro p e s m args below meth c A QQ C hin hret
  refine z_getsN (pc := 0) C (CX.s0 C) (CX.n0 C) dX1_amber_0 (fun z1 hz1 => ?_)
  refine z_aload_n (pc := 3) C 0 dX1_amber_3 rfl ?_
  refine z_get (pc := 4) C uw1 0 rfl rfl 2 (by decide) wq6 rfl dX1_amber_4 ?_
  refine z_iload_n (pc := 7) C 1 dX1_amber_7 rfl ?_
  obtain ⟨g2, h⟩ := h
  refine z_iald (pc := 8) C 1 0 rfl rfl g2 (v 1 x1.toNatClampNeg) rfl dX1_amber_8 ?_
  obtain ⟨g3, h⟩ := h
  refine z_ti (pc := 9) C hz1 g3 (tbA (v 1 x1.toNatClampNeg).toNatClampNeg) rfl dX1_amber_9 ?_
  exact hret 10 _ _ (tbA (v 1 x1.toNatClampNeg).toNatClampNeg) () rfl h dX1_amber_10

def pX1_meetersOf_J27 (v : Lf) (x1 : Int32) (Q : Int32 → Prop) (K4 : Int32 → Int32 → Prop) (x2 : Int32) (x3 : Int32) : Prop := (K4 x2 (x3 + 1))
def pX1_meetersOf_L4 (v : Lf) (x1 : Int32) (Q : Int32 → Prop) : Nat → Int32 → Int32 → Prop
  | 0, _, _ => False
  | n4 + 1, x2, x3 => (((v 0 0) ≤ x3 → (Q x2 )) ∧ (¬ (v 0 0) ≤ x3 → (pX1_meet v x1 x3 (fun r2 => ((r2 = 0 → (pX1_meetersOf_J27 v x1 Q (fun x2 x3 => pX1_meetersOf_L4 v x1 Q n4 x2 x3) x2 x3)) ∧ (¬ r2 = 0 → (pX1_meetersOf_J27 v x1 Q (fun x2 x3 => pX1_meetersOf_L4 v x1 Q n4 x2 x3) (x2 ||| ((1 : Int32) <<< (x3 &&& 31))) x3)))))))
def pX1_meetersOf (v : Lf) (x1 : Int32) (Q : Int32 → Prop) : Prop := (∃ n4, pX1_meetersOf_L4 v x1 Q  n4 (0 : Int32) (0 : Int32))
abbrev rmX1_meetersOf : Room := { frames := 1, cells := 0, slots := 0, locals := 22 }
abbrev wdX1_meetersOf : List Cond := Cond.code yX1_meetersOf cX1_meetersOf 4 (some .int) :: TB
theorem hdSX1_meetersOf : (yX1_meetersOf).cls ≠ "java/lang/invoke/MethodHandle" ∧ (yX1_meetersOf).cls ≠ "java/lang/invoke/VarHandle" ∧ (parseMethodDescriptor (yX1_meetersOf).desc).map (fun d => d.parameters.length) = some 1 := by decide +kernel
theorem hdX1_meetersOf : (yX1_meetersOf).cls = RX1 ∧ (yX1_meetersOf).cls ≠ "java/lang/invoke/MethodHandle" ∧ (yX1_meetersOf).cls ≠ "java/lang/invoke/VarHandle" ∧ (parseMethodDescriptor (yX1_meetersOf).desc).map (fun d => d.parameters.length) = some 1 := ⟨rfl, hdSX1_meetersOf⟩
set_option maxHeartbeats 4000000 in
set_option maxRecDepth 100000 in
theorem kX1_meetersOf {l : Launch} {D : va_G} {cI cJ cT : ClassId} (d : Nat → Nat)  (v : Lf) (x1 : Int32) {Q : Int32 → Prop} (sz : Nat) (h : pX1_meetersOf v x1 Q) : Met l yX1_meetersOf wdX1_meetersOf rmX1_meetersOf (Pz D (tyL cI cJ cT) [.ref (d 0), .int x1] (wX1 cI d v) sz) (va_Qi (fun (r : Int32) (u : Unit) => Q r) (Bz D (tyL cI cJ cT) (wX1 cI d v) sz (fun (u : Unit) => (wX1 cI d v))) (va_A (wX1 cI d v) sz)) 0 0 (va_A (wX1 cI d v) sz) := by
  refine z_meti (cc := cX1_meetersOf) (maxL := 4) (own := RX1) (lv0 := [(0, .ref (d 0)), (1, .int x1)]) (by decide) rfl rfl (Nat.le_of_ble_eq_true rfl) rfl ?_
  intro p e s m args below meth c A QQ C hin hret
  have J27 : ∀ (K4 : Int32 → Int32 → Prop), (∀ (x2 : Int32) (x3 : Int32), K4 x2 x3 → ZZ p l e rmX1_meetersOf s m args below meth c D A 4 0 0 QQ 4 (wX1 cI d v) [(0, .ref (d 0)), (1, .int x1), (2, .int x2), (3, .int x3)] []) → ∀ (x2 : Int32) (x3 : Int32), pX1_meetersOf_J27 v x1 Q K4 x2 x3 → ZZ p l e rmX1_meetersOf s m args below meth c D A 4 0 0 QQ 27 (wX1 cI d v) [(0, .ref (d 0)), (1, .int x1), (2, .int x2), (3, .int x3)] [] := by
    intro K4 hK4 x2 x3 h
    refine z_iinc (pc := 27) (v := (x3 + 1)) (lv' := [(3, .int (x3 + 1)), (0, .ref (d 0)), (1, .int x1), (2, .int x2)]) C 3 dX1_meetersOf_27 rfl rfl (by decide) rfl ?_
    refine z_goto (pc := 30) (tgt := 4) C dX1_meetersOf_30 (by decide) ?_
    refine z_sub (lv' := [(0, .ref (d 0)), (1, .int x1), (2, .int x2), (3, .int (x3 + 1))]) [1, 2, 3, 0] rfl ?_
    exact hK4 x2 (x3 + 1) h
  have L4 : ∀ (n4 : Nat) (x2 : Int32) (x3 : Int32), pX1_meetersOf_L4 v x1 Q n4 x2 x3 → ZZ p l e rmX1_meetersOf s m args below meth c D A 4 0 0 QQ 4 (wX1 cI d v) [(0, .ref (d 0)), (1, .int x1), (2, .int x2), (3, .int x3)] [] := by
    intro n4
    induction n4 with
    | zero => intro x2 x3 h; exact False.elim h
    | succ n4 ih4 =>
      intro x2 x3 h
      refine z_iload_n (pc := 4) C 3 dX1_meetersOf_4 rfl ?_
      refine z_aload_n (pc := 5) C 0 dX1_meetersOf_5 rfl ?_
      refine z_get (pc := 6) C uw1 0 rfl rfl 0 (by decide) wq63 rfl dX1_meetersOf_6 ?_
      refine z_icmp_ge (pc := 9) (tgt := 33) C dX1_meetersOf_9 (by decide) (fun c1 => ?_) (fun c1 => ?_)
      · have h := h.1 c1
        refine z_iload_n (pc := 33) C 2 dX1_meetersOf_33 rfl ?_
        exact hret 34 _ _ x2 () rfl h dX1_meetersOf_34
      · have h := h.2 c1
        refine z_aload_n (pc := 12) C 0 dX1_meetersOf_12 rfl ?_
        refine z_iload_n (pc := 13) C 1 dX1_meetersOf_13 rfl ?_
        refine z_iload_n (pc := 14) C 3 dX1_meetersOf_14 rfl ?_
        refine z_callRi (pc := 15) C (z_runV (pc := 15) (wc := (wX1 cI d v)) (As := [.int x1, .int x3]) C (fun sz => kX1_meet d v x1 x3 sz h) [0, 1, 2, 3, 4, 5] rfl (by decide) (gdV wq213 wq281 wq218 wq219 wq36) rfl rfl rfl hdX1_meet 0 rfl rfl rfl ⟨Nat.le_of_ble_eq_true rfl, Nat.le_of_ble_eq_true rfl⟩ rfl (Nat.le_of_ble_eq_true rfl) ⟨Nat.zero_le _, Nat.zero_le _⟩ dX1_meetersOf_15) [0, 1, 2, 3, 4, 5] rfl (by decide) (fun r2 u2 h => ?_)
        refine z_if_eq (pc := 18) (tgt := 27) C dX1_meetersOf_18 (by decide) (fun c3 => ?_) (fun c3 => ?_)
        · have h := h.1 c3
          exact J27 (fun x2 x3 => pX1_meetersOf_L4 v x1 Q n4 x2 x3) ih4 x2 x3 h
        · have h := h.2 c3
          refine z_iload_n (pc := 21) C 2 dX1_meetersOf_21 rfl ?_
          refine z_iconst (pc := 22) (v := 1) C dX1_meetersOf_22 (by decide) ?_
          refine z_iload_n (pc := 23) C 3 dX1_meetersOf_23 rfl ?_
          refine z_ishl (pc := 24) C dX1_meetersOf_24 ?_
          refine z_ior (pc := 25) C dX1_meetersOf_25 ?_
          refine z_istore_n (pc := 26) (lv' := [(2, .int (x2 ||| ((1 : Int32) <<< (x3 &&& 31)))), (0, .ref (d 0)), (1, .int x1), (3, .int x3)]) C dX1_meetersOf_26 (by decide) rfl ?_
          refine z_sub (lv' := [(0, .ref (d 0)), (1, .int x1), (2, .int (x2 ||| ((1 : Int32) <<< (x3 &&& 31)))), (3, .int x3)]) [1, 2, 0, 3] rfl ?_
          exact J27 (fun x2 x3 => pX1_meetersOf_L4 v x1 Q n4 x2 x3) ih4 (x2 ||| ((1 : Int32) <<< (x3 &&& 31))) x3 h
  refine z_iconst (pc := 0) (v := 0) C dX1_meetersOf_0 (by decide) ?_
  refine z_istore_n (pc := 1) (lv' := [(2, .int (0 : Int32)), (0, .ref (d 0)), (1, .int x1)]) C dX1_meetersOf_1 (by decide) rfl ?_
  refine z_iconst (pc := 2) (v := 0) C dX1_meetersOf_2 (by decide) ?_
  refine z_istore_n (pc := 3) (lv' := [(3, .int (0 : Int32)), (2, .int (0 : Int32)), (0, .ref (d 0)), (1, .int x1)]) C dX1_meetersOf_3 (by decide) rfl ?_
  obtain ⟨n4, h⟩ := h
  refine z_sub (lv' := [(0, .ref (d 0)), (1, .int x1), (2, .int (0 : Int32)), (3, .int (0 : Int32))]) [2, 3, 1, 0] rfl ?_
  exact L4  n4 (0 : Int32) (0 : Int32) h

def pX1_cellAt (v : Lf) (x1 : Int32) (x2 : Int32) (Q : Int32 → Prop) : Prop := (vp_in ((x1 * (8 : Int32)) + x2) 64 ∧ (Q (v 3 ((x1 * (8 : Int32)) + x2).toNatClampNeg) ))
abbrev rmX1_cellAt : Room := { frames := 0, cells := 0, slots := 0, locals := 0 }
abbrev wdX1_cellAt : List Cond := Cond.code yX1_cellAt cX1_cellAt 3 (some .int) :: TB
theorem hdSX1_cellAt : (yX1_cellAt).cls ≠ "java/lang/invoke/MethodHandle" ∧ (yX1_cellAt).cls ≠ "java/lang/invoke/VarHandle" ∧ (parseMethodDescriptor (yX1_cellAt).desc).map (fun d => d.parameters.length) = some 2 := by decide +kernel
theorem hdX1_cellAt : (yX1_cellAt).cls = RX1 ∧ (yX1_cellAt).cls ≠ "java/lang/invoke/MethodHandle" ∧ (yX1_cellAt).cls ≠ "java/lang/invoke/VarHandle" ∧ (parseMethodDescriptor (yX1_cellAt).desc).map (fun d => d.parameters.length) = some 2 := ⟨rfl, hdSX1_cellAt⟩
set_option maxHeartbeats 4000000 in
set_option maxRecDepth 100000 in
theorem kX1_cellAt {l : Launch} {D : va_G} {cI cJ cT : ClassId} (d : Nat → Nat)  (v : Lf) (x1 : Int32) (x2 : Int32) {Q : Int32 → Prop} (sz : Nat) (h : pX1_cellAt v x1 x2 Q) : Met l yX1_cellAt wdX1_cellAt rmX1_cellAt (Pz D (tyL cI cJ cT) [.ref (d 0), .int x1, .int x2] (wX1 cI d v) sz) (va_Qi (fun (r : Int32) (u : Unit) => Q r) (Bz D (tyL cI cJ cT) (wX1 cI d v) sz (fun (u : Unit) => (wX1 cI d v))) (va_A (wX1 cI d v) sz)) 0 0 (va_A (wX1 cI d v) sz) := by
  refine z_meti (cc := cX1_cellAt) (maxL := 3) (own := RX1) (lv0 := [(0, .ref (d 0)), (1, .int x1), (2, .int x2)]) (by decide) rfl rfl (Nat.le_of_ble_eq_true rfl) rfl ?_
  intro p e s m args below meth c A QQ C hin hret
  refine z_aload_n (pc := 0) C 0 dX1_cellAt_0 rfl ?_
  refine z_get (pc := 1) C uw1 0 rfl rfl 4 (by decide) wq8 rfl dX1_cellAt_1 ?_
  refine z_iload_n (pc := 4) C 1 dX1_cellAt_4 rfl ?_
  refine z_bipush (pc := 5) (v := 8) C dX1_cellAt_5 (by decide) ?_
  refine z_imul (pc := 7) C dX1_cellAt_7 ?_
  refine z_iload_n (pc := 8) C 2 dX1_cellAt_8 rfl ?_
  refine z_iadd (pc := 9) C dX1_cellAt_9 ?_
  obtain ⟨g1, h⟩ := h
  refine z_iald (pc := 10) C 3 0 rfl rfl g1 (v 3 ((x1 * (8 : Int32)) + x2).toNatClampNeg) rfl dX1_cellAt_10 ?_
  exact hret 11 _ _ (v 3 ((x1 * (8 : Int32)) + x2).toNatClampNeg) () rfl h dX1_cellAt_11

def pX1_placeOf_L2 (v : Lf) (x1 : Int32) (x2 : Int32) (Q : Int32 → Prop) : Nat → Int32 → Prop
  | 0, _ => False
  | n2 + 1, x3 => (vp_in x1 8 ∧ (((v 2 x1.toNatClampNeg) ≤ x3 → (Q (-5 : Int32) )) ∧ (¬ (v 2 x1.toNatClampNeg) ≤ x3 → (pX1_cellAt v x1 x3 (fun r3 => ((¬ r3 = x2 → (pX1_placeOf_L2 v x1 x2 Q n2 (x3 + 1))) ∧ (r3 = x2 → (Q x3 ))))))))
def pX1_placeOf (v : Lf) (x1 : Int32) (x2 : Int32) (Q : Int32 → Prop) : Prop := (∃ n2, pX1_placeOf_L2 v x1 x2 Q  n2 (0 : Int32))
abbrev rmX1_placeOf : Room := { frames := 1, cells := 0, slots := 0, locals := 22 }
abbrev wdX1_placeOf : List Cond := Cond.code yX1_placeOf cX1_placeOf 4 (some .int) :: TB
theorem hdSX1_placeOf : (yX1_placeOf).cls ≠ "java/lang/invoke/MethodHandle" ∧ (yX1_placeOf).cls ≠ "java/lang/invoke/VarHandle" ∧ (parseMethodDescriptor (yX1_placeOf).desc).map (fun d => d.parameters.length) = some 2 := by decide +kernel
theorem hdX1_placeOf : (yX1_placeOf).cls = RX1 ∧ (yX1_placeOf).cls ≠ "java/lang/invoke/MethodHandle" ∧ (yX1_placeOf).cls ≠ "java/lang/invoke/VarHandle" ∧ (parseMethodDescriptor (yX1_placeOf).desc).map (fun d => d.parameters.length) = some 2 := ⟨rfl, hdSX1_placeOf⟩
set_option maxHeartbeats 4000000 in
set_option maxRecDepth 100000 in
theorem kX1_placeOf {l : Launch} {D : va_G} {cI cJ cT : ClassId} (d : Nat → Nat)  (v : Lf) (x1 : Int32) (x2 : Int32) {Q : Int32 → Prop} (sz : Nat) (h : pX1_placeOf v x1 x2 Q) : Met l yX1_placeOf wdX1_placeOf rmX1_placeOf (Pz D (tyL cI cJ cT) [.ref (d 0), .int x1, .int x2] (wX1 cI d v) sz) (va_Qi (fun (r : Int32) (u : Unit) => Q r) (Bz D (tyL cI cJ cT) (wX1 cI d v) sz (fun (u : Unit) => (wX1 cI d v))) (va_A (wX1 cI d v) sz)) 0 0 (va_A (wX1 cI d v) sz) := by
  refine z_meti (cc := cX1_placeOf) (maxL := 4) (own := RX1) (lv0 := [(0, .ref (d 0)), (1, .int x1), (2, .int x2)]) (by decide) rfl rfl (Nat.le_of_ble_eq_true rfl) rfl ?_
  intro p e s m args below meth c A QQ C hin hret
  have L2 : ∀ (n2 : Nat) (x3 : Int32), pX1_placeOf_L2 v x1 x2 Q n2 x3 → ZZ p l e rmX1_placeOf s m args below meth c D A 4 0 0 QQ 2 (wX1 cI d v) [(0, .ref (d 0)), (1, .int x1), (2, .int x2), (3, .int x3)] [] := by
    intro n2
    induction n2 with
    | zero => intro x3 h; exact False.elim h
    | succ n2 ih2 =>
      intro x3 h
      refine z_iload_n (pc := 2) C 3 dX1_placeOf_2 rfl ?_
      refine z_aload_n (pc := 3) C 0 dX1_placeOf_3 rfl ?_
      refine z_get (pc := 4) C uw1 0 rfl rfl 3 (by decide) wq7 rfl dX1_placeOf_4 ?_
      refine z_iload_n (pc := 7) C 1 dX1_placeOf_7 rfl ?_
      obtain ⟨g1, h⟩ := h
      refine z_iald (pc := 8) C 2 0 rfl rfl g1 (v 2 x1.toNatClampNeg) rfl dX1_placeOf_8 ?_
      refine z_icmp_ge (pc := 9) (tgt := 30) C dX1_placeOf_9 (by decide) (fun c2 => ?_) (fun c2 => ?_)
      · have h := h.1 c2
        refine z_bipush (pc := 30) (v := -5) C dX1_placeOf_30 (by decide) ?_
        exact hret 32 _ _ (-5 : Int32) () rfl h dX1_placeOf_32
      · have h := h.2 c2
        refine z_aload_n (pc := 12) C 0 dX1_placeOf_12 rfl ?_
        refine z_iload_n (pc := 13) C 1 dX1_placeOf_13 rfl ?_
        refine z_iload_n (pc := 14) C 3 dX1_placeOf_14 rfl ?_
        refine z_callRi (pc := 15) C (z_runV (pc := 15) (wc := (wX1 cI d v)) (As := [.int x1, .int x3]) C (fun sz => kX1_cellAt d v x1 x3 sz h) [0, 1, 2, 3, 4, 5] rfl (by decide) (gdV wq304 wq306 wq307 wq308 wq36) rfl rfl rfl hdX1_cellAt 0 rfl rfl rfl ⟨Nat.le_of_ble_eq_true rfl, Nat.le_of_ble_eq_true rfl⟩ rfl (Nat.le_of_ble_eq_true rfl) ⟨Nat.zero_le _, Nat.zero_le _⟩ dX1_placeOf_15) [0, 1, 2, 3, 4, 5] rfl (by decide) (fun r3 u3 h => ?_)
        refine z_iload_n (pc := 18) C 2 dX1_placeOf_18 rfl ?_
        refine z_icmp_ne (pc := 19) (tgt := 24) C dX1_placeOf_19 (by decide) (fun c4 => ?_) (fun c4 => ?_)
        · have h := h.1 c4
          refine z_iinc (pc := 24) (v := (x3 + 1)) (lv' := [(3, .int (x3 + 1)), (0, .ref (d 0)), (1, .int x1), (2, .int x2)]) C 3 dX1_placeOf_24 rfl rfl (by decide) rfl ?_
          refine z_goto (pc := 27) (tgt := 2) C dX1_placeOf_27 (by decide) ?_
          refine z_sub (lv' := [(0, .ref (d 0)), (1, .int x1), (2, .int x2), (3, .int (x3 + 1))]) [1, 2, 3, 0] rfl ?_
          exact ih2 (x3 + 1) h
        · have h := h.2 c4
          refine z_iload_n (pc := 22) C 3 dX1_placeOf_22 rfl ?_
          exact hret 23 _ _ x3 () rfl h dX1_placeOf_23
  refine z_iconst (pc := 0) (v := 0) C dX1_placeOf_0 (by decide) ?_
  refine z_istore_n (pc := 1) (lv' := [(3, .int (0 : Int32)), (0, .ref (d 0)), (1, .int x1), (2, .int x2)]) C dX1_placeOf_1 (by decide) rfl ?_
  obtain ⟨n2, h⟩ := h
  refine z_sub (lv' := [(0, .ref (d 0)), (1, .int x1), (2, .int x2), (3, .int (0 : Int32))]) [1, 2, 3, 0] rfl ?_
  exact L2  n2 (0 : Int32) h

def pX1_pace (v : Lf) (x1 : Int32) (Q : Int32 → Prop) : Prop := (vp_in x1 8 ∧ (vp_in (v 1 x1.toNatClampNeg) 4 ∧ (Q (tbP (v 1 x1.toNatClampNeg).toNatClampNeg) )))
abbrev rmX1_pace : Room := { frames := 0, cells := 0, slots := 0, locals := 0 }
abbrev wdX1_pace : List Cond := Cond.code yX1_pace cX1_pace 2 (some .int) :: TB
theorem hdSX1_pace : (yX1_pace).cls ≠ "java/lang/invoke/MethodHandle" ∧ (yX1_pace).cls ≠ "java/lang/invoke/VarHandle" ∧ (parseMethodDescriptor (yX1_pace).desc).map (fun d => d.parameters.length) = some 1 := by decide +kernel
theorem hdX1_pace : (yX1_pace).cls = RX1 ∧ (yX1_pace).cls ≠ "java/lang/invoke/MethodHandle" ∧ (yX1_pace).cls ≠ "java/lang/invoke/VarHandle" ∧ (parseMethodDescriptor (yX1_pace).desc).map (fun d => d.parameters.length) = some 1 := ⟨rfl, hdSX1_pace⟩
set_option maxHeartbeats 4000000 in
set_option maxRecDepth 100000 in
theorem kX1_pace {l : Launch} {D : va_G} {cI cJ cT : ClassId} (d : Nat → Nat)  (v : Lf) (x1 : Int32) {Q : Int32 → Prop} (sz : Nat) (h : pX1_pace v x1 Q) : Met l yX1_pace wdX1_pace rmX1_pace (Pz D (tyL cI cJ cT) [.ref (d 0), .int x1] (wX1 cI d v) sz) (va_Qi (fun (r : Int32) (u : Unit) => Q r) (Bz D (tyL cI cJ cT) (wX1 cI d v) sz (fun (u : Unit) => (wX1 cI d v))) (va_A (wX1 cI d v) sz)) 0 0 (va_A (wX1 cI d v) sz) := by
  refine z_meti (cc := cX1_pace) (maxL := 2) (own := RX1) (lv0 := [(0, .ref (d 0)), (1, .int x1)]) (by decide) rfl rfl (Nat.le_of_ble_eq_true rfl) rfl ?_
  intro p e s m args below meth c A QQ C hin hret
  refine z_getsN (pc := 0) C (CX.s1 C) (CX.n1 C) dX1_pace_0 (fun z1 hz1 => ?_)
  refine z_aload_n (pc := 3) C 0 dX1_pace_3 rfl ?_
  refine z_get (pc := 4) C uw1 0 rfl rfl 2 (by decide) wq6 rfl dX1_pace_4 ?_
  refine z_iload_n (pc := 7) C 1 dX1_pace_7 rfl ?_
  obtain ⟨g2, h⟩ := h
  refine z_iald (pc := 8) C 1 0 rfl rfl g2 (v 1 x1.toNatClampNeg) rfl dX1_pace_8 ?_
  obtain ⟨g3, h⟩ := h
  refine z_ti (pc := 9) C hz1 g3 (tbP (v 1 x1.toNatClampNeg).toNatClampNeg) rfl dX1_pace_9 ?_
  exact hret 10 _ _ (tbP (v 1 x1.toNatClampNeg).toNatClampNeg) () rfl h dX1_pace_10

def pX1_reaches (v : Lf) (x1 : Int32) (x2 : Int32) (x3 : Int32) (Q : Int32 → Prop) : Prop := (pX1_pace v x1 (fun r1 => (Q (x3 + (r1 * x2)) )))
abbrev rmX1_reaches : Room := { frames := 1, cells := 0, slots := 0, locals := 21 }
abbrev wdX1_reaches : List Cond := Cond.code yX1_reaches cX1_reaches 4 (some .int) :: TB
theorem hdSX1_reaches : (yX1_reaches).cls ≠ "java/lang/invoke/MethodHandle" ∧ (yX1_reaches).cls ≠ "java/lang/invoke/VarHandle" ∧ (parseMethodDescriptor (yX1_reaches).desc).map (fun d => d.parameters.length) = some 3 := by decide +kernel
theorem hdX1_reaches : (yX1_reaches).cls = RX1 ∧ (yX1_reaches).cls ≠ "java/lang/invoke/MethodHandle" ∧ (yX1_reaches).cls ≠ "java/lang/invoke/VarHandle" ∧ (parseMethodDescriptor (yX1_reaches).desc).map (fun d => d.parameters.length) = some 3 := ⟨rfl, hdSX1_reaches⟩
set_option maxHeartbeats 4000000 in
set_option maxRecDepth 100000 in
theorem kX1_reaches {l : Launch} {D : va_G} {cI cJ cT : ClassId} (d : Nat → Nat)  (v : Lf) (x1 : Int32) (x2 : Int32) (x3 : Int32) {Q : Int32 → Prop} (sz : Nat) (h : pX1_reaches v x1 x2 x3 Q) : Met l yX1_reaches wdX1_reaches rmX1_reaches (Pz D (tyL cI cJ cT) [.ref (d 0), .int x1, .int x2, .int x3] (wX1 cI d v) sz) (va_Qi (fun (r : Int32) (u : Unit) => Q r) (Bz D (tyL cI cJ cT) (wX1 cI d v) sz (fun (u : Unit) => (wX1 cI d v))) (va_A (wX1 cI d v) sz)) 0 0 (va_A (wX1 cI d v) sz) := by
  refine z_meti (cc := cX1_reaches) (maxL := 4) (own := RX1) (lv0 := [(0, .ref (d 0)), (1, .int x1), (2, .int x2), (3, .int x3)]) (by decide) rfl rfl (Nat.le_of_ble_eq_true rfl) rfl ?_
  intro p e s m args below meth c A QQ C hin hret
  refine z_iload_n (pc := 0) C 3 dX1_reaches_0 rfl ?_
  refine z_aload_n (pc := 1) C 0 dX1_reaches_1 rfl ?_
  refine z_iload_n (pc := 2) C 1 dX1_reaches_2 rfl ?_
  refine z_callRi (pc := 3) C (z_runV (pc := 3) (wc := (wX1 cI d v)) (As := [.int x1]) C (fun sz => kX1_pace d v x1 sz h) [0, 1, 2, 3, 4, 5] rfl (by decide) (gdV wq309 wq311 wq312 wq313 wq36) rfl rfl rfl hdX1_pace 0 rfl rfl rfl ⟨Nat.le_of_ble_eq_true rfl, Nat.le_of_ble_eq_true rfl⟩ rfl (Nat.le_of_ble_eq_true rfl) ⟨Nat.zero_le _, Nat.zero_le _⟩ dX1_reaches_3) [0, 1, 2, 3, 4, 5] rfl (by decide) (fun r1 u1 h => ?_)
  refine z_iload_n (pc := 6) C 2 dX1_reaches_6 rfl ?_
  refine z_imul (pc := 7) C dX1_reaches_7 ?_
  refine z_iadd (pc := 8) C dX1_reaches_8 ?_
  exact hret 9 _ _ (x3 + (r1 * x2)) () rfl h dX1_reaches_9

def pX1_leaves (v : Lf) (x1 : Int32) (x2 : Int32) (x3 : Int32) (Q : Int32 → Prop) : Prop := (pX1_amber v x1 (fun r1 => (pX1_pace v x1 (fun r2 => (Q ((x3 + r1) + (r2 * (x2 + (1 : Int32)))) )))))
abbrev rmX1_leaves : Room := { frames := 1, cells := 0, slots := 0, locals := 21 }
abbrev wdX1_leaves : List Cond := Cond.code yX1_leaves cX1_leaves 4 (some .int) :: TB
theorem hdSX1_leaves : (yX1_leaves).cls ≠ "java/lang/invoke/MethodHandle" ∧ (yX1_leaves).cls ≠ "java/lang/invoke/VarHandle" ∧ (parseMethodDescriptor (yX1_leaves).desc).map (fun d => d.parameters.length) = some 3 := by decide +kernel
theorem hdX1_leaves : (yX1_leaves).cls = RX1 ∧ (yX1_leaves).cls ≠ "java/lang/invoke/MethodHandle" ∧ (yX1_leaves).cls ≠ "java/lang/invoke/VarHandle" ∧ (parseMethodDescriptor (yX1_leaves).desc).map (fun d => d.parameters.length) = some 3 := ⟨rfl, hdSX1_leaves⟩
set_option maxHeartbeats 4000000 in
set_option maxRecDepth 100000 in
theorem kX1_leaves {l : Launch} {D : va_G} {cI cJ cT : ClassId} (d : Nat → Nat)  (v : Lf) (x1 : Int32) (x2 : Int32) (x3 : Int32) {Q : Int32 → Prop} (sz : Nat) (h : pX1_leaves v x1 x2 x3 Q) : Met l yX1_leaves wdX1_leaves rmX1_leaves (Pz D (tyL cI cJ cT) [.ref (d 0), .int x1, .int x2, .int x3] (wX1 cI d v) sz) (va_Qi (fun (r : Int32) (u : Unit) => Q r) (Bz D (tyL cI cJ cT) (wX1 cI d v) sz (fun (u : Unit) => (wX1 cI d v))) (va_A (wX1 cI d v) sz)) 0 0 (va_A (wX1 cI d v) sz) := by
  refine z_meti (cc := cX1_leaves) (maxL := 4) (own := RX1) (lv0 := [(0, .ref (d 0)), (1, .int x1), (2, .int x2), (3, .int x3)]) (by decide) rfl rfl (Nat.le_of_ble_eq_true rfl) rfl ?_
  intro p e s m args below meth c A QQ C hin hret
  refine z_iload_n (pc := 0) C 3 dX1_leaves_0 rfl ?_
  refine z_aload_n (pc := 1) C 0 dX1_leaves_1 rfl ?_
  refine z_iload_n (pc := 2) C 1 dX1_leaves_2 rfl ?_
  refine z_callRi (pc := 3) C (z_runV (pc := 3) (wc := (wX1 cI d v)) (As := [.int x1]) C (fun sz => kX1_amber d v x1 sz h) [0, 1, 2, 3, 4, 5] rfl (by decide) (gdV wq265 wq322 wq268 wq269 wq36) rfl rfl rfl hdX1_amber 0 rfl rfl rfl ⟨Nat.le_of_ble_eq_true rfl, Nat.le_of_ble_eq_true rfl⟩ rfl (Nat.le_of_ble_eq_true rfl) ⟨Nat.zero_le _, Nat.zero_le _⟩ dX1_leaves_3) [0, 1, 2, 3, 4, 5] rfl (by decide) (fun r1 u1 h => ?_)
  refine z_iadd (pc := 6) C dX1_leaves_6 ?_
  refine z_aload_n (pc := 7) C 0 dX1_leaves_7 rfl ?_
  refine z_iload_n (pc := 8) C 1 dX1_leaves_8 rfl ?_
  refine z_callRi (pc := 9) C (z_runV (pc := 9) (wc := (wX1 cI d v)) (As := [.int x1]) C (fun sz => kX1_pace d v x1 sz h) [0, 1, 2, 3, 4, 5] rfl (by decide) (gdV wq309 wq311 wq312 wq313 wq36) rfl rfl rfl hdX1_pace 0 rfl rfl rfl ⟨Nat.le_of_ble_eq_true rfl, Nat.le_of_ble_eq_true rfl⟩ rfl (Nat.le_of_ble_eq_true rfl) ⟨Nat.zero_le _, Nat.zero_le _⟩ dX1_leaves_9) [0, 1, 2, 3, 4, 5] rfl (by decide) (fun r2 u2 h => ?_)
  refine z_iload_n (pc := 12) C 2 dX1_leaves_12 rfl ?_
  refine z_iconst (pc := 13) (v := 1) C dX1_leaves_13 (by decide) ?_
  refine z_iadd (pc := 14) C dX1_leaves_14 ?_
  refine z_imul (pc := 15) C dX1_leaves_15 ?_
  refine z_iadd (pc := 16) C dX1_leaves_16 ?_
  exact hret 17 _ _ ((x3 + r1) + (r2 * (x2 + (1 : Int32)))) () rfl h dX1_leaves_17

def pX1_measure_J87 (x1 : Int32) (x2 : Int32) (Q : Lf → Prop) (K9 : Lf → Int32 → Int32 → Int32 → Prop) (v : Lf) (x3 : Int32) (x4 : Int32) (x5 : Int32) : Prop := (K9 v x3 x4 (x5 + 1))
def pX1_measure_J80 (x1 : Int32) (x2 : Int32) (Q : Lf → Prop) (K9 : Lf → Int32 → Int32 → Int32 → Prop) (v : Lf) (x5 : Int32) (x6 : Int32) (x8 : Int32) : Prop := (pX1_measure_J87 x1 x2 Q K9 v x6 x8 x5)
def pX1_measure_L9 (x1 : Int32) (x2 : Int32) (Q : Lf → Prop) : Nat → Lf → Int32 → Int32 → Int32 → Prop
  | 0, _, _, _, _ => False
  | n9 + 1, v, x3, x4, x5 => (vp_in x1 8 ∧ (((v 2 x1.toNatClampNeg) ≤ x5 → (vp_in ((x1 * (8 : Int32)) + x2) 64 ∧ (pX1_amber (st v 5 (((x1 * (8 : Int32)) + x2).toNatClampNeg) x3) x1 (fun r4 => (vp_in ((x1 * (8 : Int32)) + x2) 64 ∧ (Q (st (st v 5 (((x1 * (8 : Int32)) + x2).toNatClampNeg) x3) 4 (((x1 * (8 : Int32)) + x2).toNatClampNeg) (if x4 < r4 then r4 else x4)))))))) ∧ (¬ (v 2 x1.toNatClampNeg) ≤ x5 → (pX1_cellAt v x1 x5 (fun r6 => (pX1_placeOf v x2 r6 (fun r7 => ((¬ r7 = (-5 : Int32) → (pX1_leaves v x1 x5 (0 : Int32) (fun r9 => (pX1_reaches v x2 r7 (0 : Int32) (fun r10 => ((x3 = (-5 : Int32) → (pX1_measure_J80 x1 x2 Q (fun v x3 x4 x5 => pX1_measure_L9 x1 x2 Q n9 v x3 x4 x5) v x5 r6 (r9 - r10))) ∧ (¬ x3 = (-5 : Int32) → (((r9 - r10) ≤ x4 → (pX1_measure_J87 x1 x2 Q (fun v x3 x4 x5 => pX1_measure_L9 x1 x2 Q n9 v x3 x4 x5) v x3 x4 x5)) ∧ (¬ (r9 - r10) ≤ x4 → (pX1_measure_J80 x1 x2 Q (fun v x3 x4 x5 => pX1_measure_L9 x1 x2 Q n9 v x3 x4 x5) v x5 r6 (r9 - r10))))))))))) ∧ (r7 = (-5 : Int32) → (pX1_measure_J87 x1 x2 Q (fun v x3 x4 x5 => pX1_measure_L9 x1 x2 Q n9 v x3 x4 x5) v x3 x4 x5))))))))))
def pX1_measure (v : Lf) (x1 : Int32) (x2 : Int32) (Q : Lf → Prop) : Prop := (∃ n9, pX1_measure_L9 x1 x2 Q  n9 v (-5 : Int32) (0 : Int32) (0 : Int32))
abbrev rmX1_measure : Room := { frames := 2, cells := 0, slots := 0, locals := 45 }
abbrev wdX1_measure : List Cond := Cond.code yX1_measure cX1_measure 9 none :: TB
theorem hdSX1_measure : (yX1_measure).cls ≠ "java/lang/invoke/MethodHandle" ∧ (yX1_measure).cls ≠ "java/lang/invoke/VarHandle" ∧ (parseMethodDescriptor (yX1_measure).desc).map (fun d => d.parameters.length) = some 2 := by decide +kernel
theorem hdX1_measure : (yX1_measure).cls = RX1 ∧ (yX1_measure).cls ≠ "java/lang/invoke/MethodHandle" ∧ (yX1_measure).cls ≠ "java/lang/invoke/VarHandle" ∧ (parseMethodDescriptor (yX1_measure).desc).map (fun d => d.parameters.length) = some 2 := ⟨rfl, hdSX1_measure⟩
set_option maxHeartbeats 4000000 in
set_option maxRecDepth 100000 in
theorem kX1_measure {l : Launch} {D : va_G} {cI cJ cT : ClassId} (d : Nat → Nat)  (v : Lf) (x1 : Int32) (x2 : Int32) {Q : Lf → Prop} (sz : Nat) (h : pX1_measure v x1 x2 Q) : Met l yX1_measure wdX1_measure rmX1_measure (Pz D (tyL cI cJ cT) [.ref (d 0), .int x1, .int x2] (wX1 cI d v) sz) (va_Qv (fun (u : Lf) => Q u) (Bz D (tyL cI cJ cT) (wX1 cI d v) sz (fun (u : Lf) => (wX1 cI d u))) (va_A (wX1 cI d v) sz)) 0 0 (va_A (wX1 cI d v) sz) := by
  refine z_metv (cc := cX1_measure) (maxL := 9) (own := RX1) (lv0 := [(0, .ref (d 0)), (1, .int x1), (2, .int x2)]) (by decide) rfl rfl (Nat.le_of_ble_eq_true rfl) rfl ?_
  intro p e s m args below meth c A QQ C hin hret
  have J87 : ∀ (K9 : Lf → Int32 → Int32 → Int32 → Prop), (∀ (v : Lf) (x3 : Int32) (x4 : Int32) (x5 : Int32), K9 v x3 x4 x5 → ZZ p l e rmX1_measure s m args below meth c D A 9 0 0 QQ 9 (wX1 cI d v) [(0, .ref (d 0)), (1, .int x1), (2, .int x2), (3, .int x3), (4, .int x4), (5, .int x5)] []) → ∀ (v : Lf) (x3 : Int32) (x4 : Int32) (x5 : Int32), pX1_measure_J87 x1 x2 Q K9 v x3 x4 x5 → ZZ p l e rmX1_measure s m args below meth c D A 9 0 0 QQ 87 (wX1 cI d v) [(0, .ref (d 0)), (1, .int x1), (2, .int x2), (3, .int x3), (4, .int x4), (5, .int x5)] [] := by
    intro K9 hK9 v x3 x4 x5 h
    refine z_iinc (pc := 87) (v := (x5 + 1)) (lv' := [(5, .int (x5 + 1)), (0, .ref (d 0)), (1, .int x1), (2, .int x2), (3, .int x3), (4, .int x4)]) C 5 dX1_measure_87 rfl rfl (by decide) rfl ?_
    refine z_goto (pc := 90) (tgt := 9) C dX1_measure_90 (by decide) ?_
    refine z_sub (lv' := [(0, .ref (d 0)), (1, .int x1), (2, .int x2), (3, .int x3), (4, .int x4), (5, .int (x5 + 1))]) [1, 2, 3, 4, 5, 0] rfl ?_
    exact hK9 v x3 x4 (x5 + 1) h
  have J80 : ∀ (K9 : Lf → Int32 → Int32 → Int32 → Prop), (∀ (v : Lf) (x3 : Int32) (x4 : Int32) (x5 : Int32), K9 v x3 x4 x5 → ZZ p l e rmX1_measure s m args below meth c D A 9 0 0 QQ 9 (wX1 cI d v) [(0, .ref (d 0)), (1, .int x1), (2, .int x2), (3, .int x3), (4, .int x4), (5, .int x5)] []) → ∀ (v : Lf) (x5 : Int32) (x6 : Int32) (x8 : Int32), pX1_measure_J80 x1 x2 Q K9 v x5 x6 x8 → ZZ p l e rmX1_measure s m args below meth c D A 9 0 0 QQ 80 (wX1 cI d v) [(0, .ref (d 0)), (1, .int x1), (2, .int x2), (5, .int x5), (6, .int x6), (8, .int x8)] [] := by
    intro K9 hK9 v x5 x6 x8 h
    refine z_iload (pc := 80) C 4 dX1_measure_80 rfl ?_
    refine z_istore_n (pc := 82) (lv' := [(3, .int x6), (0, .ref (d 0)), (1, .int x1), (2, .int x2), (5, .int x5), (6, .int x6), (8, .int x8)]) C dX1_measure_82 (by decide) rfl ?_
    refine z_iload (pc := 83) C 6 dX1_measure_83 rfl ?_
    refine z_istore (pc := 85) (lv' := [(4, .int x8), (3, .int x6), (0, .ref (d 0)), (1, .int x1), (2, .int x2), (5, .int x5), (6, .int x6), (8, .int x8)]) C dX1_measure_85 (by decide) rfl ?_
    refine z_sub (lv' := [(0, .ref (d 0)), (1, .int x1), (2, .int x2), (3, .int x6), (4, .int x8), (5, .int x5)]) [2, 3, 4, 1, 0, 5] rfl ?_
    exact J87 K9 hK9 v x6 x8 x5 h
  have L9 : ∀ (n9 : Nat) (v : Lf) (x3 : Int32) (x4 : Int32) (x5 : Int32), pX1_measure_L9 x1 x2 Q n9 v x3 x4 x5 → ZZ p l e rmX1_measure s m args below meth c D A 9 0 0 QQ 9 (wX1 cI d v) [(0, .ref (d 0)), (1, .int x1), (2, .int x2), (3, .int x3), (4, .int x4), (5, .int x5)] [] := by
    intro n9
    induction n9 with
    | zero => intro v x3 x4 x5 h; exact False.elim h
    | succ n9 ih9 =>
      intro v x3 x4 x5 h
      refine z_iload (pc := 9) C 5 dX1_measure_9 rfl ?_
      refine z_aload_n (pc := 11) C 0 dX1_measure_11 rfl ?_
      refine z_get (pc := 12) C uw1 0 rfl rfl 3 (by decide) wq7 rfl dX1_measure_12 ?_
      refine z_iload_n (pc := 15) C 1 dX1_measure_15 rfl ?_
      obtain ⟨g1, h⟩ := h
      refine z_iald (pc := 16) C 2 0 rfl rfl g1 (v 2 x1.toNatClampNeg) rfl dX1_measure_16 ?_
      refine z_icmp_ge (pc := 17) (tgt := 93) C dX1_measure_17 (by decide) (fun c2 => ?_) (fun c2 => ?_)
      · have h := h.1 c2
        refine z_aload_n (pc := 93) C 0 dX1_measure_93 rfl ?_
        refine z_get (pc := 94) C uw1 0 rfl rfl 6 (by decide) wq10 rfl dX1_measure_94 ?_
        refine z_iload_n (pc := 97) C 1 dX1_measure_97 rfl ?_
        refine z_bipush (pc := 98) (v := 8) C dX1_measure_98 (by decide) ?_
        refine z_imul (pc := 100) C dX1_measure_100 ?_
        refine z_iload_n (pc := 101) C 2 dX1_measure_101 rfl ?_
        refine z_iadd (pc := 102) C dX1_measure_102 ?_
        refine z_iload_n (pc := 103) C 3 dX1_measure_103 rfl ?_
        obtain ⟨g3, h⟩ := h
        refine z_iast (pc := 104) (ws' := (wX1 cI d (st v 5 (((x1 * (8 : Int32)) + x2).toNatClampNeg) x3))) C 5 0 rfl rfl g3 dX1_measure_104 rfl sX1_a5 ?_
        refine z_aload_n (pc := 105) C 0 dX1_measure_105 rfl ?_
        refine z_get (pc := 106) C uw1 0 rfl rfl 5 (by decide) wq9 rfl dX1_measure_106 ?_
        refine z_iload_n (pc := 109) C 1 dX1_measure_109 rfl ?_
        refine z_bipush (pc := 110) (v := 8) C dX1_measure_110 (by decide) ?_
        refine z_imul (pc := 112) C dX1_measure_112 ?_
        refine z_iload_n (pc := 113) C 2 dX1_measure_113 rfl ?_
        refine z_iadd (pc := 114) C dX1_measure_114 ?_
        refine z_iload (pc := 115) C 4 dX1_measure_115 rfl ?_
        refine z_aload_n (pc := 117) C 0 dX1_measure_117 rfl ?_
        refine z_iload_n (pc := 118) C 1 dX1_measure_118 rfl ?_
        refine z_callRi (pc := 119) C (z_runV (pc := 119) (wc := (wX1 cI d (st v 5 (((x1 * (8 : Int32)) + x2).toNatClampNeg) x3))) (As := [.int x1]) C (fun sz => kX1_amber d (st v 5 (((x1 * (8 : Int32)) + x2).toNatClampNeg) x3) x1 sz h) [0, 1, 2, 3, 4, 5] rfl (by decide) (gdV wq265 wq322 wq268 wq269 wq36) rfl rfl rfl hdX1_amber 0 rfl rfl rfl ⟨Nat.le_of_ble_eq_true rfl, Nat.le_of_ble_eq_true rfl⟩ rfl (Nat.le_of_ble_eq_true rfl) ⟨Nat.zero_le _, Nat.zero_le _⟩ dX1_measure_119) [0, 1, 2, 3, 4, 5] rfl (by decide) (fun r4 u4 h => ?_)
        refine z_mmax (pc := 122) C wq323 wq302 wq78 wq303 (Nat.le_of_ble_eq_true rfl) (Nat.le_of_ble_eq_true rfl) (Nat.zero_le _) (Nat.zero_le _) dX1_measure_122 ?_
        obtain ⟨g5, h⟩ := h
        refine z_iast (pc := 125) (ws' := (wX1 cI d (st (st v 5 (((x1 * (8 : Int32)) + x2).toNatClampNeg) x3) 4 (((x1 * (8 : Int32)) + x2).toNatClampNeg) (if x4 < r4 then r4 else x4)))) C 4 0 rfl rfl g5 dX1_measure_125 rfl sX1_a4 ?_
        exact hret 126 _ _ (st (st v 5 (((x1 * (8 : Int32)) + x2).toNatClampNeg) x3) 4 (((x1 * (8 : Int32)) + x2).toNatClampNeg) (if x4 < r4 then r4 else x4)) rfl h dX1_measure_126
      · have h := h.2 c2
        refine z_aload_n (pc := 20) C 0 dX1_measure_20 rfl ?_
        refine z_iload_n (pc := 21) C 1 dX1_measure_21 rfl ?_
        refine z_iload (pc := 22) C 5 dX1_measure_22 rfl ?_
        refine z_callRi (pc := 24) C (z_runV (pc := 24) (wc := (wX1 cI d v)) (As := [.int x1, .int x5]) C (fun sz => kX1_cellAt d v x1 x5 sz h) [0, 1, 2, 3, 4, 5] rfl (by decide) (gdV wq304 wq306 wq307 wq308 wq36) rfl rfl rfl hdX1_cellAt 0 rfl rfl rfl ⟨Nat.le_of_ble_eq_true rfl, Nat.le_of_ble_eq_true rfl⟩ rfl (Nat.le_of_ble_eq_true rfl) ⟨Nat.zero_le _, Nat.zero_le _⟩ dX1_measure_24) [0, 1, 2, 3, 4, 5] rfl (by decide) (fun r6 u6 h => ?_)
        refine z_istore (pc := 27) (lv' := [(6, .int r6), (0, .ref (d 0)), (1, .int x1), (2, .int x2), (3, .int x3), (4, .int x4), (5, .int x5)]) C dX1_measure_27 (by decide) rfl ?_
        refine z_aload_n (pc := 29) C 1 dX1_measure_29 rfl ?_
        refine z_iload_n (pc := 30) C 3 dX1_measure_30 rfl ?_
        refine z_iload (pc := 31) C 0 dX1_measure_31 rfl ?_
        refine z_callRi (pc := 33) C (z_runV (pc := 33) (wc := (wX1 cI d v)) (As := [.int x2, .int r6]) C (fun sz => kX1_placeOf d v x2 r6 sz h) [0, 1, 2, 3, 4, 5] rfl (by decide) (gdV wq305 wq324 wq315 wq316 wq36) rfl rfl rfl hdX1_placeOf 0 rfl rfl rfl ⟨Nat.le_of_ble_eq_true rfl, Nat.le_of_ble_eq_true rfl⟩ rfl (Nat.le_of_ble_eq_true rfl) ⟨Nat.zero_le _, Nat.zero_le _⟩ dX1_measure_33) [0, 1, 2, 3, 4, 5] rfl (by decide) (fun r7 u7 h => ?_)
        refine z_istore (pc := 36) (lv' := [(7, .int r7), (6, .int r6), (0, .ref (d 0)), (1, .int x1), (2, .int x2), (3, .int x3), (4, .int x4), (5, .int x5)]) C dX1_measure_36 (by decide) rfl ?_
        refine z_iload (pc := 38) C 0 dX1_measure_38 rfl ?_
        refine z_bipush (pc := 40) (v := -5) C dX1_measure_40 (by decide) ?_
        refine z_icmp_ne (pc := 42) (tgt := 48) C dX1_measure_42 (by decide) (fun c8 => ?_) (fun c8 => ?_)
        · have h := h.1 c8
          refine z_aload_n (pc := 48) C 2 dX1_measure_48 rfl ?_
          refine z_iload_n (pc := 49) C 3 dX1_measure_49 rfl ?_
          refine z_iload (pc := 50) C 7 dX1_measure_50 rfl ?_
          refine z_iconst (pc := 52) (v := 0) C dX1_measure_52 (by decide) ?_
          refine z_callRi (pc := 53) C (z_runV (pc := 53) (wc := (wX1 cI d v)) (As := [.int x1, .int x5, .int (0 : Int32)]) C (fun sz => kX1_leaves d v x1 x5 (0 : Int32) sz h) [0, 1, 2, 3, 4, 5] rfl (by decide) (gdV wq321 wq325 wq326 wq327 wq36) rfl rfl rfl hdX1_leaves 0 rfl rfl rfl ⟨Nat.le_of_ble_eq_true rfl, Nat.le_of_ble_eq_true rfl⟩ rfl (Nat.le_of_ble_eq_true rfl) ⟨Nat.zero_le _, Nat.zero_le _⟩ dX1_measure_53) [0, 1, 2, 3, 4, 5] rfl (by decide) (fun r9 u9 h => ?_)
          refine z_aload_n (pc := 56) C 2 dX1_measure_56 rfl ?_
          refine z_iload_n (pc := 57) C 4 dX1_measure_57 rfl ?_
          refine z_iload (pc := 58) C 0 dX1_measure_58 rfl ?_
          refine z_iconst (pc := 60) (v := 0) C dX1_measure_60 (by decide) ?_
          refine z_callRi (pc := 61) C (z_runV (pc := 61) (wc := (wX1 cI d v)) (As := [.int x2, .int r7, .int (0 : Int32)]) C (fun sz => kX1_reaches d v x2 r7 (0 : Int32) sz h) [0, 1, 2, 3, 4, 5] rfl (by decide) (gdV wq310 wq328 wq318 wq319 wq36) rfl rfl rfl hdX1_reaches 0 rfl rfl rfl ⟨Nat.le_of_ble_eq_true rfl, Nat.le_of_ble_eq_true rfl⟩ rfl (Nat.le_of_ble_eq_true rfl) ⟨Nat.zero_le _, Nat.zero_le _⟩ dX1_measure_61) [0, 1, 2, 3, 4, 5] rfl (by decide) (fun r10 u10 h => ?_)
          refine z_isub (pc := 64) C dX1_measure_64 ?_
          refine z_istore (pc := 65) (lv' := [(8, .int (r9 - r10)), (7, .int r7), (6, .int r6), (0, .ref (d 0)), (1, .int x1), (2, .int x2), (3, .int x3), (4, .int x4), (5, .int x5)]) C dX1_measure_65 (by decide) rfl ?_
          refine z_iload_n (pc := 67) C 6 dX1_measure_67 rfl ?_
          refine z_bipush (pc := 68) (v := -5) C dX1_measure_68 (by decide) ?_
          refine z_icmp_eq (pc := 70) (tgt := 80) C dX1_measure_70 (by decide) (fun c11 => ?_) (fun c11 => ?_)
          · have h := h.1 c11
            refine z_sub (lv' := [(0, .ref (d 0)), (1, .int x1), (2, .int x2), (5, .int x5), (6, .int r6), (8, .int (r9 - r10))]) [3, 4, 5, 8, 2, 0] rfl ?_
            exact J80 (fun v x3 x4 x5 => pX1_measure_L9 x1 x2 Q n9 v x3 x4 x5) ih9 v x5 r6 (r9 - r10) h
          · have h := h.2 c11
            refine z_iload (pc := 73) C 0 dX1_measure_73 rfl ?_
            refine z_iload (pc := 75) C 7 dX1_measure_75 rfl ?_
            refine z_icmp_le (pc := 77) (tgt := 87) C dX1_measure_77 (by decide) (fun c12 => ?_) (fun c12 => ?_)
            · have h := h.1 c12
              refine z_sub (lv' := [(0, .ref (d 0)), (1, .int x1), (2, .int x2), (3, .int x3), (4, .int x4), (5, .int x5)]) [3, 4, 5, 6, 7, 8] rfl ?_
              exact J87 (fun v x3 x4 x5 => pX1_measure_L9 x1 x2 Q n9 v x3 x4 x5) ih9 v x3 x4 x5 h
            · have h := h.2 c12
              refine z_sub (lv' := [(0, .ref (d 0)), (1, .int x1), (2, .int x2), (5, .int x5), (6, .int r6), (8, .int (r9 - r10))]) [3, 4, 5, 8, 2, 0] rfl ?_
              exact J80 (fun v x3 x4 x5 => pX1_measure_L9 x1 x2 Q n9 v x3 x4 x5) ih9 v x5 r6 (r9 - r10) h
        · have h := h.2 c8
          refine z_goto (pc := 45) (tgt := 87) C dX1_measure_45 (by decide) ?_
          refine z_sub (lv' := [(0, .ref (d 0)), (1, .int x1), (2, .int x2), (3, .int x3), (4, .int x4), (5, .int x5)]) [2, 3, 4, 5, 6, 7] rfl ?_
          exact J87 (fun v x3 x4 x5 => pX1_measure_L9 x1 x2 Q n9 v x3 x4 x5) ih9 v x3 x4 x5 h
  refine z_bipush (pc := 0) (v := -5) C dX1_measure_0 (by decide) ?_
  refine z_istore_n (pc := 2) (lv' := [(3, .int (-5 : Int32)), (0, .ref (d 0)), (1, .int x1), (2, .int x2)]) C dX1_measure_2 (by decide) rfl ?_
  refine z_iconst (pc := 3) (v := 0) C dX1_measure_3 (by decide) ?_
  refine z_istore (pc := 4) (lv' := [(4, .int (0 : Int32)), (3, .int (-5 : Int32)), (0, .ref (d 0)), (1, .int x1), (2, .int x2)]) C dX1_measure_4 (by decide) rfl ?_
  refine z_iconst (pc := 6) (v := 0) C dX1_measure_6 (by decide) ?_
  refine z_istore (pc := 7) (lv' := [(5, .int (0 : Int32)), (4, .int (0 : Int32)), (3, .int (-5 : Int32)), (0, .ref (d 0)), (1, .int x1), (2, .int x2)]) C dX1_measure_7 (by decide) rfl ?_
  obtain ⟨n9, h⟩ := h
  refine z_sub (lv' := [(0, .ref (d 0)), (1, .int x1), (2, .int x2), (3, .int (-5 : Int32)), (4, .int (0 : Int32)), (5, .int (0 : Int32))]) [3, 4, 5, 2, 1, 0] rfl ?_
  exact L9  n9 v (-5 : Int32) (0 : Int32) (0 : Int32) h

def pX1_addCell_J54 (x1 : Int32) (x2 : Int32) (Q : Int32 → Lf → Prop) (K29 : Lf → Int32 → Prop) (v : Lf) (x3 : Int32) : Prop := (K29 v (x3 + 1))
def pX1_addCell_L29 (x1 : Int32) (x2 : Int32) (Q : Int32 → Lf → Prop) : Nat → Lf → Int32 → Prop
  | 0, _, _ => False
  | n29 + 1, v, x3 => (((v 0 0) ≤ x3 → (vp_in x1 8 ∧ (Q (v 2 x1.toNatClampNeg) v))) ∧ (¬ (v 0 0) ≤ x3 → ((x3 = x1 → (pX1_addCell_J54 x1 x2 Q (fun v x3 => pX1_addCell_L29 x1 x2 Q n29 v x3) v x3)) ∧ (¬ x3 = x1 → (pX1_measure v x1 x3 (fun v_8 => (pX1_measure v_8 x3 x1 (fun v_9 => (pX1_addCell_J54 x1 x2 Q (fun v x3 => pX1_addCell_L29 x1 x2 Q n29 v x3) v_9 x3)))))))))
def pX1_addCell (v : Lf) (x1 : Int32) (x2 : Int32) (Q : Int32 → Lf → Prop) : Prop := (vp_in x1 8 ∧ (vp_in ((x1 * (8 : Int32)) + (v 2 x1.toNatClampNeg)) 64 ∧ (vp_in x1 8 ∧ (vp_in x1 8 ∧ (∃ n29, pX1_addCell_L29 x1 x2 Q  n29 (st (st v 3 (((x1 * (8 : Int32)) + (v 2 x1.toNatClampNeg)).toNatClampNeg) x2) 2 x1.toNatClampNeg (((st v 3 (((x1 * (8 : Int32)) + (v 2 x1.toNatClampNeg)).toNatClampNeg) x2) 2 x1.toNatClampNeg) + (1 : Int32))) (0 : Int32))))))
abbrev rmX1_addCell : Room := { frames := 3, cells := 0, slots := 0, locals := 73 }
abbrev wdX1_addCell : List Cond := Cond.code yX1_addCell cX1_addCell 4 (some .int) :: TB
theorem hdSX1_addCell : (yX1_addCell).cls ≠ "java/lang/invoke/MethodHandle" ∧ (yX1_addCell).cls ≠ "java/lang/invoke/VarHandle" ∧ (parseMethodDescriptor (yX1_addCell).desc).map (fun d => d.parameters.length) = some 2 := by decide +kernel
theorem hdX1_addCell : (yX1_addCell).cls = RX1 ∧ (yX1_addCell).cls ≠ "java/lang/invoke/MethodHandle" ∧ (yX1_addCell).cls ≠ "java/lang/invoke/VarHandle" ∧ (parseMethodDescriptor (yX1_addCell).desc).map (fun d => d.parameters.length) = some 2 := ⟨rfl, hdSX1_addCell⟩
set_option maxHeartbeats 4000000 in
set_option maxRecDepth 100000 in
theorem kX1_addCell {l : Launch} {D : va_G} {cI cJ cT : ClassId} (d : Nat → Nat)  (v : Lf) (x1 : Int32) (x2 : Int32) {Q : Int32 → Lf → Prop} (sz : Nat) (h : pX1_addCell v x1 x2 Q) : Met l yX1_addCell wdX1_addCell rmX1_addCell (Pz D (tyL cI cJ cT) [.ref (d 0), .int x1, .int x2] (wX1 cI d v) sz) (va_Qi (fun (r : Int32) (u : Lf) => Q r u) (Bz D (tyL cI cJ cT) (wX1 cI d v) sz (fun (u : Lf) => (wX1 cI d u))) (va_A (wX1 cI d v) sz)) 0 0 (va_A (wX1 cI d v) sz) := by
  refine z_meti (cc := cX1_addCell) (maxL := 4) (own := RX1) (lv0 := [(0, .ref (d 0)), (1, .int x1), (2, .int x2)]) (by decide) rfl rfl (Nat.le_of_ble_eq_true rfl) rfl ?_
  intro p e s m args below meth c A QQ C hin hret
  have J54 : ∀ (K29 : Lf → Int32 → Prop), (∀ (v : Lf) (x3 : Int32), K29 v x3 → ZZ p l e rmX1_addCell s m args below meth c D A 4 0 0 QQ 29 (wX1 cI d v) [(0, .ref (d 0)), (1, .int x1), (3, .int x3)] []) → ∀ (v : Lf) (x3 : Int32), pX1_addCell_J54 x1 x2 Q K29 v x3 → ZZ p l e rmX1_addCell s m args below meth c D A 4 0 0 QQ 54 (wX1 cI d v) [(0, .ref (d 0)), (1, .int x1), (3, .int x3)] [] := by
    intro K29 hK29 v x3 h
    refine z_iinc (pc := 54) (v := (x3 + 1)) (lv' := [(3, .int (x3 + 1)), (0, .ref (d 0)), (1, .int x1)]) C 2 dX1_addCell_54 rfl rfl (by decide) rfl ?_
    refine z_goto (pc := 57) (tgt := 29) C dX1_addCell_57 (by decide) ?_
    refine z_sub (lv' := [(0, .ref (d 0)), (1, .int x1), (3, .int (x3 + 1))]) [1, 2, 0] rfl ?_
    exact hK29 v (x3 + 1) h
  have L29 : ∀ (n29 : Nat) (v : Lf) (x3 : Int32), pX1_addCell_L29 x1 x2 Q n29 v x3 → ZZ p l e rmX1_addCell s m args below meth c D A 4 0 0 QQ 29 (wX1 cI d v) [(0, .ref (d 0)), (1, .int x1), (3, .int x3)] [] := by
    intro n29
    induction n29 with
    | zero => intro v x3 h; exact False.elim h
    | succ n29 ih29 =>
      intro v x3 h
      refine z_iload_n (pc := 29) C 2 dX1_addCell_29 rfl ?_
      refine z_aload_n (pc := 30) C 0 dX1_addCell_30 rfl ?_
      refine z_get (pc := 31) C uw1 0 rfl rfl 0 (by decide) wq63 rfl dX1_addCell_31 ?_
      refine z_icmp_ge (pc := 34) (tgt := 60) C dX1_addCell_34 (by decide) (fun c5 => ?_) (fun c5 => ?_)
      · have h := h.1 c5
        refine z_aload_n (pc := 60) C 0 dX1_addCell_60 rfl ?_
        refine z_get (pc := 61) C uw1 0 rfl rfl 3 (by decide) wq7 rfl dX1_addCell_61 ?_
        refine z_iload_n (pc := 64) C 1 dX1_addCell_64 rfl ?_
        obtain ⟨g6, h⟩ := h
        refine z_iald (pc := 65) C 2 0 rfl rfl g6 (v 2 x1.toNatClampNeg) rfl dX1_addCell_65 ?_
        exact hret 66 _ _ (v 2 x1.toNatClampNeg) v rfl h dX1_addCell_66
      · have h := h.2 c5
        refine z_iload_n (pc := 37) C 2 dX1_addCell_37 rfl ?_
        refine z_iload_n (pc := 38) C 1 dX1_addCell_38 rfl ?_
        refine z_icmp_eq (pc := 39) (tgt := 54) C dX1_addCell_39 (by decide) (fun c7 => ?_) (fun c7 => ?_)
        · have h := h.1 c7
          exact J54 (fun v x3 => pX1_addCell_L29 x1 x2 Q n29 v x3) ih29 v x3 h
        · have h := h.2 c7
          refine z_aload_n (pc := 42) C 0 dX1_addCell_42 rfl ?_
          refine z_iload_n (pc := 43) C 1 dX1_addCell_43 rfl ?_
          refine z_iload_n (pc := 44) C 2 dX1_addCell_44 rfl ?_
          refine z_callv (pc := 45) (wr := ([] : va_W)) (w1 := fun (u : Lf) => (wX1 cI d u)) (w2 := fun (u : Lf) => (wX1 cI d u)) C (z_runV (pc := 45) (wc := (wX1 cI d v)) (As := [.int x1, .int x3]) C (fun sz => kX1_measure d v x1 x3 sz h) [0, 1, 2, 3, 4, 5] rfl (by decide) (gdV wq329 wq330 wq331 wq332 wq36) rfl rfl rfl hdX1_measure 0 rfl rfl rfl ⟨Nat.le_of_ble_eq_true rfl, Nat.le_of_ble_eq_true rfl⟩ rfl (Nat.le_of_ble_eq_true rfl) ⟨Nat.zero_le _, Nat.zero_le _⟩ dX1_addCell_45) [0, 1, 2, 3, 4, 5] [] [0, 1, 2, 3, 4, 5] rfl rfl (by decide) (by decide) (fun _ => rfl) (by decide) (fun u8 h => ?_)
          obtain ⟨v_8, hu8⟩ : ∃ z, z = u8 := ⟨_, rfl⟩
          subst hu8
          refine z_aload_n (pc := 48) C 0 dX1_addCell_48 rfl ?_
          refine z_iload_n (pc := 49) C 2 dX1_addCell_49 rfl ?_
          refine z_iload_n (pc := 50) C 1 dX1_addCell_50 rfl ?_
          refine z_callv (pc := 51) (wr := ([] : va_W)) (w1 := fun (u : Lf) => (wX1 cI d u)) (w2 := fun (u : Lf) => (wX1 cI d u)) C (z_runV (pc := 51) (wc := (wX1 cI d v_8)) (As := [.int x3, .int x1]) C (fun sz => kX1_measure d v_8 x3 x1 sz h) [0, 1, 2, 3, 4, 5] rfl (by decide) (gdV wq329 wq330 wq331 wq332 wq36) rfl rfl rfl hdX1_measure 0 rfl rfl rfl ⟨Nat.le_of_ble_eq_true rfl, Nat.le_of_ble_eq_true rfl⟩ rfl (Nat.le_of_ble_eq_true rfl) ⟨Nat.zero_le _, Nat.zero_le _⟩ dX1_addCell_51) [0, 1, 2, 3, 4, 5] [] [0, 1, 2, 3, 4, 5] rfl rfl (by decide) (by decide) (fun _ => rfl) (by decide) (fun u9 h => ?_)
          obtain ⟨v_9, hu9⟩ : ∃ z, z = u9 := ⟨_, rfl⟩
          subst hu9
          exact J54 (fun v x3 => pX1_addCell_L29 x1 x2 Q n29 v x3) ih29 v_9 x3 h
  refine z_aload_n (pc := 0) C 0 dX1_addCell_0 rfl ?_
  refine z_get (pc := 1) C uw1 0 rfl rfl 4 (by decide) wq8 rfl dX1_addCell_1 ?_
  refine z_iload_n (pc := 4) C 1 dX1_addCell_4 rfl ?_
  refine z_bipush (pc := 5) (v := 8) C dX1_addCell_5 (by decide) ?_
  refine z_imul (pc := 7) C dX1_addCell_7 ?_
  refine z_aload_n (pc := 8) C 0 dX1_addCell_8 rfl ?_
  refine z_get (pc := 9) C uw1 0 rfl rfl 3 (by decide) wq7 rfl dX1_addCell_9 ?_
  refine z_iload_n (pc := 12) C 1 dX1_addCell_12 rfl ?_
  obtain ⟨g1, h⟩ := h
  refine z_iald (pc := 13) C 2 0 rfl rfl g1 (v 2 x1.toNatClampNeg) rfl dX1_addCell_13 ?_
  refine z_iadd (pc := 14) C dX1_addCell_14 ?_
  refine z_iload_n (pc := 15) C 2 dX1_addCell_15 rfl ?_
  obtain ⟨g2, h⟩ := h
  refine z_iast (pc := 16) (ws' := (wX1 cI d (st v 3 (((x1 * (8 : Int32)) + (v 2 x1.toNatClampNeg)).toNatClampNeg) x2))) C 3 0 rfl rfl g2 dX1_addCell_16 rfl sX1_a3 ?_
  refine z_aload_n (pc := 17) C 0 dX1_addCell_17 rfl ?_
  refine z_get (pc := 18) C uw1 0 rfl rfl 3 (by decide) wq7 rfl dX1_addCell_18 ?_
  refine z_iload_n (pc := 21) C 1 dX1_addCell_21 rfl ?_
  refine z_dup2 (pc := 22) C dX1_addCell_22 rfl rfl ?_
  obtain ⟨g3, h⟩ := h
  refine z_iald (pc := 23) C 2 0 rfl rfl g3 ((st v 3 (((x1 * (8 : Int32)) + (v 2 x1.toNatClampNeg)).toNatClampNeg) x2) 2 x1.toNatClampNeg) rfl dX1_addCell_23 ?_
  refine z_iconst (pc := 24) (v := 1) C dX1_addCell_24 (by decide) ?_
  refine z_iadd (pc := 25) C dX1_addCell_25 ?_
  obtain ⟨g4, h⟩ := h
  refine z_iast (pc := 26) (ws' := (wX1 cI d (st (st v 3 (((x1 * (8 : Int32)) + (v 2 x1.toNatClampNeg)).toNatClampNeg) x2) 2 x1.toNatClampNeg (((st v 3 (((x1 * (8 : Int32)) + (v 2 x1.toNatClampNeg)).toNatClampNeg) x2) 2 x1.toNatClampNeg) + (1 : Int32))))) C 2 0 rfl rfl g4 dX1_addCell_26 rfl sX1_a2 ?_
  refine z_iconst (pc := 27) (v := 0) C dX1_addCell_27 (by decide) ?_
  refine z_istore_n (pc := 28) (lv' := [(3, .int (0 : Int32)), (0, .ref (d 0)), (1, .int x1), (2, .int x2)]) C dX1_addCell_28 (by decide) rfl ?_
  obtain ⟨n29, h⟩ := h
  refine z_sub (lv' := [(0, .ref (d 0)), (1, .int x1), (3, .int (0 : Int32))]) [1, 2, 0] rfl ?_
  exact L29  n29 (st (st v 3 (((x1 * (8 : Int32)) + (v 2 x1.toNatClampNeg)).toNatClampNeg) x2) 2 x1.toNatClampNeg (((st v 3 (((x1 * (8 : Int32)) + (v 2 x1.toNatClampNeg)).toNatClampNeg) x2) 2 x1.toNatClampNeg) + (1 : Int32))) (0 : Int32) h

def pX1_addSignal (v : Lf) (x1 : Int32) (x2 : Int32) (Q : Int32 → Lf → Prop) : Prop := (vp_in (v 0 0) 8 ∧ (pX1_addCell (st (st v 0 0 ((v 0 0) + (1 : Int32))) 1 ((v 0 0).toNatClampNeg) x1) (v 0 0) x2 (fun r2 v_2 => (Q (v 0 0) v_2))))
abbrev rmX1_addSignal : Room := { frames := 4, cells := 0, slots := 0, locals := 96 }
abbrev wdX1_addSignal : List Cond := Cond.code yX1_addSignal cX1_addSignal 4 (some .int) :: TB
theorem hdSX1_addSignal : (yX1_addSignal).cls ≠ "java/lang/invoke/MethodHandle" ∧ (yX1_addSignal).cls ≠ "java/lang/invoke/VarHandle" ∧ (parseMethodDescriptor (yX1_addSignal).desc).map (fun d => d.parameters.length) = some 2 := by decide +kernel
theorem hdX1_addSignal : (yX1_addSignal).cls = RX1 ∧ (yX1_addSignal).cls ≠ "java/lang/invoke/MethodHandle" ∧ (yX1_addSignal).cls ≠ "java/lang/invoke/VarHandle" ∧ (parseMethodDescriptor (yX1_addSignal).desc).map (fun d => d.parameters.length) = some 2 := ⟨rfl, hdSX1_addSignal⟩
set_option maxHeartbeats 4000000 in
set_option maxRecDepth 100000 in
theorem kX1_addSignal {l : Launch} {D : va_G} {cI cJ cT : ClassId} (d : Nat → Nat)  (v : Lf) (x1 : Int32) (x2 : Int32) {Q : Int32 → Lf → Prop} (sz : Nat) (h : pX1_addSignal v x1 x2 Q) : Met l yX1_addSignal wdX1_addSignal rmX1_addSignal (Pz D (tyL cI cJ cT) [.ref (d 0), .int x1, .int x2] (wX1 cI d v) sz) (va_Qi (fun (r : Int32) (u : Lf) => Q r u) (Bz D (tyL cI cJ cT) (wX1 cI d v) sz (fun (u : Lf) => (wX1 cI d u))) (va_A (wX1 cI d v) sz)) 0 0 (va_A (wX1 cI d v) sz) := by
  refine z_meti (cc := cX1_addSignal) (maxL := 4) (own := RX1) (lv0 := [(0, .ref (d 0)), (1, .int x1), (2, .int x2)]) (by decide) rfl rfl (Nat.le_of_ble_eq_true rfl) rfl ?_
  intro p e s m args below meth c A QQ C hin hret
  refine z_aload_n (pc := 0) C 0 dX1_addSignal_0 rfl ?_
  refine z_get (pc := 1) C uw1 0 rfl rfl 0 (by decide) wq63 rfl dX1_addSignal_1 ?_
  refine z_istore_n (pc := 4) (lv' := [(3, .int (v 0 0)), (0, .ref (d 0)), (1, .int x1), (2, .int x2)]) C dX1_addSignal_4 (by decide) rfl ?_
  refine z_aload_n (pc := 5) C 1 dX1_addSignal_5 rfl ?_
  refine z_dup (pc := 6) C dX1_addSignal_6 rfl ?_
  refine z_get (pc := 7) C uw1 0 rfl rfl 0 (by decide) wq63 rfl dX1_addSignal_7 ?_
  refine z_iconst (pc := 10) (v := 1) C dX1_addSignal_10 (by decide) ?_
  refine z_iadd (pc := 11) C dX1_addSignal_11 ?_
  refine z_put (pc := 12) (ws' := (wX1 cI d (st v 0 0 ((v 0 0) + (1 : Int32))))) C uw1 tyX1 tyX1_ok nmX1 0 rfl rfl 0 (by decide) wq63 rfl rfl rfl (Nat.le_of_ble_eq_true rfl) dX1_addSignal_12 sX1_f0 ?_
  refine z_aload_n (pc := 15) C 1 dX1_addSignal_15 rfl ?_
  refine z_get (pc := 16) C uw1 0 rfl rfl 2 (by decide) wq6 rfl dX1_addSignal_16 ?_
  refine z_iload_n (pc := 19) C 0 dX1_addSignal_19 rfl ?_
  refine z_iload_n (pc := 20) C 2 dX1_addSignal_20 rfl ?_
  obtain ⟨g1, h⟩ := h
  refine z_iast (pc := 21) (ws' := (wX1 cI d (st (st v 0 0 ((v 0 0) + (1 : Int32))) 1 ((v 0 0).toNatClampNeg) x1))) C 1 0 rfl rfl g1 dX1_addSignal_21 rfl sX1_a1 ?_
  refine z_aload_n (pc := 22) C 1 dX1_addSignal_22 rfl ?_
  refine z_iload_n (pc := 23) C 0 dX1_addSignal_23 rfl ?_
  refine z_iload_n (pc := 24) C 3 dX1_addSignal_24 rfl ?_
  refine z_calli (pc := 25) (wr := ([] : va_W)) (w1 := fun (u : Lf) => (wX1 cI d u)) (w2 := fun (u : Lf) => (wX1 cI d u)) C (z_runV (pc := 25) (wc := (wX1 cI d (st (st v 0 0 ((v 0 0) + (1 : Int32))) 1 ((v 0 0).toNatClampNeg) x1))) (As := [.int (v 0 0), .int x2]) C (fun sz => kX1_addCell d (st (st v 0 0 ((v 0 0) + (1 : Int32))) 1 ((v 0 0).toNatClampNeg) x1) (v 0 0) x2 sz h) [0, 1, 2, 3, 4, 5] rfl (by decide) (gdV wq333 wq334 wq335 wq336 wq36) rfl rfl rfl hdX1_addCell 0 rfl rfl rfl ⟨Nat.le_of_ble_eq_true rfl, Nat.le_of_ble_eq_true rfl⟩ rfl (Nat.le_of_ble_eq_true rfl) ⟨Nat.zero_le _, Nat.zero_le _⟩ dX1_addSignal_25) [0, 1, 2, 3, 4, 5] [] [0, 1, 2, 3, 4, 5] rfl rfl (by decide) (by decide) (fun _ => rfl) (by decide) (fun r2 u2 h => ?_)
  obtain ⟨v_2, hu2⟩ : ∃ z, z = u2 := ⟨_, rfl⟩
  subst hu2
  refine z_pop (pc := 28) C dX1_addSignal_28 rfl ?_
  refine z_iload_n (pc := 29) C 0 dX1_addSignal_29 rfl ?_
  exact hret 30 _ _ (v 0 0) v_2 rfl h dX1_addSignal_30

def pX1_twoMeetIn_J30 (v : Lf) (x1 : Int32) (Q : Int32 → Prop) (K2 : Int32 → Prop) (x2 : Int32) : Prop := (K2 (x2 + 1))
def pX1_twoMeetIn_L2 (v : Lf) (x1 : Int32) (Q : Int32 → Prop) : Nat → Int32 → Prop
  | 0, _ => False
  | n2 + 1, x2 => (((v 0 0) ≤ x2 → (Q (0 : Int32) )) ∧ (¬ (v 0 0) ≤ x2 → (pX9_isIn x1 x2 (fun r2 => ((r2 = 0 → (pX1_twoMeetIn_J30 v x1 Q (fun x2 => pX1_twoMeetIn_L2 v x1 Q n2 x2) x2)) ∧ (¬ r2 = 0 → (pX1_meetersOf v x2 (fun r4 => (((r4 &&& x1) = 0 → (pX1_twoMeetIn_J30 v x1 Q (fun x2 => pX1_twoMeetIn_L2 v x1 Q n2 x2) x2)) ∧ (¬ (r4 &&& x1) = 0 → (Q (1 : Int32) )))))))))))
def pX1_twoMeetIn (v : Lf) (x1 : Int32) (Q : Int32 → Prop) : Prop := (∃ n2, pX1_twoMeetIn_L2 v x1 Q  n2 (0 : Int32))
abbrev rmX1_twoMeetIn : Room := { frames := 2, cells := 0, slots := 0, locals := 45 }
abbrev wdX1_twoMeetIn : List Cond := Cond.code yX1_twoMeetIn cX1_twoMeetIn 3 (some .boolean) :: TB
theorem hdSX1_twoMeetIn : (yX1_twoMeetIn).cls ≠ "java/lang/invoke/MethodHandle" ∧ (yX1_twoMeetIn).cls ≠ "java/lang/invoke/VarHandle" ∧ (parseMethodDescriptor (yX1_twoMeetIn).desc).map (fun d => d.parameters.length) = some 1 := by decide +kernel
theorem hdX1_twoMeetIn : (yX1_twoMeetIn).cls = RX1 ∧ (yX1_twoMeetIn).cls ≠ "java/lang/invoke/MethodHandle" ∧ (yX1_twoMeetIn).cls ≠ "java/lang/invoke/VarHandle" ∧ (parseMethodDescriptor (yX1_twoMeetIn).desc).map (fun d => d.parameters.length) = some 1 := ⟨rfl, hdSX1_twoMeetIn⟩
set_option maxHeartbeats 4000000 in
set_option maxRecDepth 100000 in
theorem kX1_twoMeetIn {l : Launch} {D : va_G} {cI cJ cT : ClassId} (d : Nat → Nat)  (v : Lf) (x1 : Int32) {Q : Int32 → Prop} (sz : Nat) (h : pX1_twoMeetIn v x1 Q) : Met l yX1_twoMeetIn wdX1_twoMeetIn rmX1_twoMeetIn (Pz D (tyL cI cJ cT) [.ref (d 0), .int x1] (wX1 cI d v) sz) (va_Qi (fun (r : Int32) (u : Unit) => Q r) (Bz D (tyL cI cJ cT) (wX1 cI d v) sz (fun (u : Unit) => (wX1 cI d v))) (va_A (wX1 cI d v) sz)) 0 0 (va_A (wX1 cI d v) sz) := by
  refine z_metz (cc := cX1_twoMeetIn) (maxL := 3) (own := RX1) (lv0 := [(0, .ref (d 0)), (1, .int x1)]) (by decide) rfl rfl (Nat.le_of_ble_eq_true rfl) rfl ?_
  intro p e s m args below meth c A QQ C hin hret
  have J30 : ∀ (K2 : Int32 → Prop), (∀ (x2 : Int32), K2 x2 → ZZ p l e rmX1_twoMeetIn s m args below meth c D A 3 0 0 QQ 2 (wX1 cI d v) [(0, .ref (d 0)), (1, .int x1), (2, .int x2)] []) → ∀ (x2 : Int32), pX1_twoMeetIn_J30 v x1 Q K2 x2 → ZZ p l e rmX1_twoMeetIn s m args below meth c D A 3 0 0 QQ 30 (wX1 cI d v) [(0, .ref (d 0)), (1, .int x1), (2, .int x2)] [] := by
    intro K2 hK2 x2 h
    refine z_iinc (pc := 30) (v := (x2 + 1)) (lv' := [(2, .int (x2 + 1)), (0, .ref (d 0)), (1, .int x1)]) C 2 dX1_twoMeetIn_30 rfl rfl (by decide) rfl ?_
    refine z_goto (pc := 33) (tgt := 2) C dX1_twoMeetIn_33 (by decide) ?_
    refine z_sub (lv' := [(0, .ref (d 0)), (1, .int x1), (2, .int (x2 + 1))]) [1, 2, 0] rfl ?_
    exact hK2 (x2 + 1) h
  have L2 : ∀ (n2 : Nat) (x2 : Int32), pX1_twoMeetIn_L2 v x1 Q n2 x2 → ZZ p l e rmX1_twoMeetIn s m args below meth c D A 3 0 0 QQ 2 (wX1 cI d v) [(0, .ref (d 0)), (1, .int x1), (2, .int x2)] [] := by
    intro n2
    induction n2 with
    | zero => intro x2 h; exact False.elim h
    | succ n2 ih2 =>
      intro x2 h
      refine z_iload_n (pc := 2) C 2 dX1_twoMeetIn_2 rfl ?_
      refine z_aload_n (pc := 3) C 0 dX1_twoMeetIn_3 rfl ?_
      refine z_get (pc := 4) C uw1 0 rfl rfl 0 (by decide) wq63 rfl dX1_twoMeetIn_4 ?_
      refine z_icmp_ge (pc := 7) (tgt := 36) C dX1_twoMeetIn_7 (by decide) (fun c1 => ?_) (fun c1 => ?_)
      · have h := h.1 c1
        refine z_iconst (pc := 36) (v := 0) C dX1_twoMeetIn_36 (by decide) ?_
        exact hret 37 _ _ (0 : Int32) rfl () rfl h dX1_twoMeetIn_37
      · have h := h.2 c1
        refine z_iload_n (pc := 10) C 1 dX1_twoMeetIn_10 rfl ?_
        refine z_iload_n (pc := 11) C 2 dX1_twoMeetIn_11 rfl ?_
        refine z_call0i (pc := 12) C (z_runSN (pc := 12) (wc := ([] : va_W)) (As := [.int x1, .int x2]) (host := "SafeClears") C (fun sz => kX9_isIn x1 x2 sz h) [] rfl (by decide) (gdC wq109) (by decide +kernel) rfl rfl rfl wq111 wq112 hdSX9_isIn ⟨Nat.le_of_ble_eq_true rfl, Nat.le_of_ble_eq_true rfl⟩ rfl (Nat.le_of_ble_eq_true rfl) ⟨Nat.zero_le _, Nat.zero_le _⟩ dX1_twoMeetIn_12) (fun r2 u2 h => ?_)
        refine z_if_eq (pc := 15) (tgt := 30) C dX1_twoMeetIn_15 (by decide) (fun c3 => ?_) (fun c3 => ?_)
        · have h := h.1 c3
          exact J30 (fun x2 => pX1_twoMeetIn_L2 v x1 Q n2 x2) ih2 x2 h
        · have h := h.2 c3
          refine z_aload_n (pc := 18) C 0 dX1_twoMeetIn_18 rfl ?_
          refine z_iload_n (pc := 19) C 2 dX1_twoMeetIn_19 rfl ?_
          refine z_callRi (pc := 20) C (z_runV (pc := 20) (wc := (wX1 cI d v)) (As := [.int x2]) C (fun sz => kX1_meetersOf d v x2 sz h) [0, 1, 2, 3, 4, 5] rfl (by decide) (gdV wq280 wq339 wq285 wq286 wq36) rfl rfl rfl hdX1_meetersOf 0 rfl rfl rfl ⟨Nat.le_of_ble_eq_true rfl, Nat.le_of_ble_eq_true rfl⟩ rfl (Nat.le_of_ble_eq_true rfl) ⟨Nat.zero_le _, Nat.zero_le _⟩ dX1_twoMeetIn_20) [0, 1, 2, 3, 4, 5] rfl (by decide) (fun r4 u4 h => ?_)
          refine z_iload_n (pc := 23) C 1 dX1_twoMeetIn_23 rfl ?_
          refine z_iand (pc := 24) C dX1_twoMeetIn_24 ?_
          refine z_if_eq (pc := 25) (tgt := 30) C dX1_twoMeetIn_25 (by decide) (fun c5 => ?_) (fun c5 => ?_)
          · have h := h.1 c5
            exact J30 (fun x2 => pX1_twoMeetIn_L2 v x1 Q n2 x2) ih2 x2 h
          · have h := h.2 c5
            refine z_iconst (pc := 28) (v := 1) C dX1_twoMeetIn_28 (by decide) ?_
            exact hret 29 _ _ (1 : Int32) rfl () rfl h dX1_twoMeetIn_29
  refine z_iconst (pc := 0) (v := 0) C dX1_twoMeetIn_0 (by decide) ?_
  refine z_istore_n (pc := 1) (lv' := [(2, .int (0 : Int32)), (0, .ref (d 0)), (1, .int x1)]) C dX1_twoMeetIn_1 (by decide) rfl ?_
  obtain ⟨n2, h⟩ := h
  refine z_sub (lv' := [(0, .ref (d 0)), (1, .int x1), (2, .int (0 : Int32))]) [1, 2, 0] rfl ?_
  exact L2  n2 (0 : Int32) h

def pX1_meetings_L4 (v : Lf) (Q : Int32 → Prop) : Nat → Int32 → Int32 → Prop
  | 0, _, _ => False
  | n4 + 1, x1, x2 => (((v 0 0) ≤ x2 → (Q (x1 / (2 : Int32)) )) ∧ (¬ (v 0 0) ≤ x2 → (pX1_meetersOf v x2 (fun r2 => (pJ6_bitCount_0f7a4 r2 (fun r3 => (pX1_meetings_L4 v Q n4 (x1 + r3) (x2 + 1))))))))
def pX1_meetings (v : Lf)  (Q : Int32 → Prop) : Prop := (∃ n4, pX1_meetings_L4 v Q  n4 (0 : Int32) (0 : Int32))
abbrev rmX1_meetings : Room := { frames := 2, cells := 0, slots := 0, locals := 45 }
abbrev wdX1_meetings : List Cond := Cond.code yX1_meetings cX1_meetings 3 (some .int) :: TB
theorem hdSX1_meetings : (yX1_meetings).cls ≠ "java/lang/invoke/MethodHandle" ∧ (yX1_meetings).cls ≠ "java/lang/invoke/VarHandle" ∧ (parseMethodDescriptor (yX1_meetings).desc).map (fun d => d.parameters.length) = some 0 := by decide +kernel
theorem hdX1_meetings : (yX1_meetings).cls = RX1 ∧ (yX1_meetings).cls ≠ "java/lang/invoke/MethodHandle" ∧ (yX1_meetings).cls ≠ "java/lang/invoke/VarHandle" ∧ (parseMethodDescriptor (yX1_meetings).desc).map (fun d => d.parameters.length) = some 0 := ⟨rfl, hdSX1_meetings⟩
set_option maxHeartbeats 4000000 in
set_option maxRecDepth 100000 in
theorem kX1_meetings {l : Launch} {D : va_G} {cI cJ cT : ClassId} (d : Nat → Nat)  (v : Lf)  {Q : Int32 → Prop} (sz : Nat) (h : pX1_meetings v Q) : Met l yX1_meetings wdX1_meetings rmX1_meetings (Pz D (tyL cI cJ cT) [.ref (d 0)] (wX1 cI d v) sz) (va_Qi (fun (r : Int32) (u : Unit) => Q r) (Bz D (tyL cI cJ cT) (wX1 cI d v) sz (fun (u : Unit) => (wX1 cI d v))) (va_A (wX1 cI d v) sz)) 0 0 (va_A (wX1 cI d v) sz) := by
  refine z_meti (cc := cX1_meetings) (maxL := 3) (own := RX1) (lv0 := [(0, .ref (d 0))]) (by decide) rfl rfl (Nat.le_of_ble_eq_true rfl) rfl ?_
  intro p e s m args below meth c A QQ C hin hret
  have L4 : ∀ (n4 : Nat) (x1 : Int32) (x2 : Int32), pX1_meetings_L4 v Q n4 x1 x2 → ZZ p l e rmX1_meetings s m args below meth c D A 3 0 0 QQ 4 (wX1 cI d v) [(0, .ref (d 0)), (1, .int x1), (2, .int x2)] [] := by
    intro n4
    induction n4 with
    | zero => intro x1 x2 h; exact False.elim h
    | succ n4 ih4 =>
      intro x1 x2 h
      refine z_iload_n (pc := 4) C 2 dX1_meetings_4 rfl ?_
      refine z_aload_n (pc := 5) C 0 dX1_meetings_5 rfl ?_
      refine z_get (pc := 6) C uw1 0 rfl rfl 0 (by decide) wq63 rfl dX1_meetings_6 ?_
      refine z_icmp_ge (pc := 9) (tgt := 29) C dX1_meetings_9 (by decide) (fun c1 => ?_) (fun c1 => ?_)
      · have h := h.1 c1
        refine z_iload_n (pc := 29) C 1 dX1_meetings_29 rfl ?_
        refine z_iconst (pc := 30) (v := 2) C dX1_meetings_30 (by decide) ?_
        refine z_idiv (pc := 31) C dX1_meetings_31 (by decide) ?_
        exact hret 32 _ _ (x1 / (2 : Int32)) () rfl h dX1_meetings_32
      · have h := h.2 c1
        refine z_iload_n (pc := 12) C 1 dX1_meetings_12 rfl ?_
        refine z_aload_n (pc := 13) C 0 dX1_meetings_13 rfl ?_
        refine z_iload_n (pc := 14) C 2 dX1_meetings_14 rfl ?_
        refine z_callRi (pc := 15) C (z_runV (pc := 15) (wc := (wX1 cI d v)) (As := [.int x2]) C (fun sz => kX1_meetersOf d v x2 sz h) [0, 1, 2, 3, 4, 5] rfl (by decide) (gdV wq280 wq339 wq285 wq286 wq36) rfl rfl rfl hdX1_meetersOf 0 rfl rfl rfl ⟨Nat.le_of_ble_eq_true rfl, Nat.le_of_ble_eq_true rfl⟩ rfl (Nat.le_of_ble_eq_true rfl) ⟨Nat.zero_le _, Nat.zero_le _⟩ dX1_meetings_15) [0, 1, 2, 3, 4, 5] rfl (by decide) (fun r2 u2 h => ?_)
        refine z_call0i (pc := 18) C (z_runS (pc := 18) (wc := ([] : va_W)) (As := [.int r2]) C (fun sz => kJ6_bitCount_0f7a4 r2 sz h) [] rfl (by decide) (gdS wq340 wq345 wq346 wq347) rfl rfl rfl hdSJ6_bitCount_0f7a4 ⟨Nat.le_of_ble_eq_true rfl, Nat.le_of_ble_eq_true rfl⟩ rfl (Nat.le_of_ble_eq_true rfl) ⟨Nat.zero_le _, Nat.zero_le _⟩ dX1_meetings_18) (fun r3 u3 h => ?_)
        refine z_iadd (pc := 21) C dX1_meetings_21 ?_
        refine z_istore_n (pc := 22) (lv' := [(1, .int (x1 + r3)), (0, .ref (d 0)), (2, .int x2)]) C dX1_meetings_22 (by decide) rfl ?_
        refine z_iinc (pc := 23) (v := (x2 + 1)) (lv' := [(2, .int (x2 + 1)), (1, .int (x1 + r3)), (0, .ref (d 0))]) C 2 dX1_meetings_23 rfl rfl (by decide) rfl ?_
        refine z_goto (pc := 26) (tgt := 4) C dX1_meetings_26 (by decide) ?_
        refine z_sub (lv' := [(0, .ref (d 0)), (1, .int (x1 + r3)), (2, .int (x2 + 1))]) [2, 1, 0] rfl ?_
        exact ih4 (x1 + r3) (x2 + 1) h
  refine z_iconst (pc := 0) (v := 0) C dX1_meetings_0 (by decide) ?_
  refine z_istore_n (pc := 1) (lv' := [(1, .int (0 : Int32)), (0, .ref (d 0))]) C dX1_meetings_1 (by decide) rfl ?_
  refine z_iconst (pc := 2) (v := 0) C dX1_meetings_2 (by decide) ?_
  refine z_istore_n (pc := 3) (lv' := [(2, .int (0 : Int32)), (1, .int (0 : Int32)), (0, .ref (d 0))]) C dX1_meetings_3 (by decide) rfl ?_
  obtain ⟨n4, h⟩ := h
  refine z_sub (lv' := [(0, .ref (d 0)), (1, .int (0 : Int32)), (2, .int (0 : Int32))]) [2, 1, 0] rfl ?_
  exact L4  n4 (0 : Int32) (0 : Int32) h

def pX1_greatestClear_J42 (v : Lf) (Q : Int32 → Prop) (K4 : Int32 → Int32 → Prop) (K14 : Int32 → Int32 → Int32 → Prop) (x1 : Int32) (x2 : Int32) (x3 : Int32) : Prop := (K14 x1 x2 (x3 + 1))
def pX1_greatestClear_L14 (v : Lf) (Q : Int32 → Prop) (K4 : Int32 → Int32 → Prop) : Nat → Int32 → Int32 → Int32 → Prop
  | 0, _, _, _ => False
  | n14 + 1, x1, x2, x3 => (((v 0 0) ≤ x3 → (K4 x1 (x2 + 1))) ∧ (¬ (v 0 0) ≤ x3 → (pX1_meet v x2 x3 (fun r3 => ((r3 = 0 → (pX1_greatestClear_J42 v Q K4 (fun x1 x2 x3 => pX1_greatestClear_L14 v Q K4 n14 x1 x2 x3) x1 x2 x3)) ∧ (¬ r3 = 0 → (pX1_clearOf v x2 x3 (fun r5 => (pX1_greatestClear_J42 v Q K4 (fun x1 x2 x3 => pX1_greatestClear_L14 v Q K4 n14 x1 x2 x3) (if x1 < r5 then r5 else x1) x2 x3)))))))))
def pX1_greatestClear_L4 (v : Lf) (Q : Int32 → Prop) : Nat → Int32 → Int32 → Prop
  | 0, _, _ => False
  | n4 + 1, x1, x2 => (((v 0 0) ≤ x2 → (Q x1 )) ∧ (¬ (v 0 0) ≤ x2 → (∃ n14, pX1_greatestClear_L14 v Q (fun x1 x2 => pX1_greatestClear_L4 v Q n4 x1 x2) n14 x1 x2 (0 : Int32))))
def pX1_greatestClear (v : Lf)  (Q : Int32 → Prop) : Prop := (∃ n4, pX1_greatestClear_L4 v Q  n4 (0 : Int32) (0 : Int32))
abbrev rmX1_greatestClear : Room := { frames := 1, cells := 0, slots := 0, locals := 40 }
abbrev wdX1_greatestClear : List Cond := Cond.code yX1_greatestClear cX1_greatestClear 4 (some .int) :: TB
theorem hdSX1_greatestClear : (yX1_greatestClear).cls ≠ "java/lang/invoke/MethodHandle" ∧ (yX1_greatestClear).cls ≠ "java/lang/invoke/VarHandle" ∧ (parseMethodDescriptor (yX1_greatestClear).desc).map (fun d => d.parameters.length) = some 0 := by decide +kernel
theorem hdX1_greatestClear : (yX1_greatestClear).cls = RX1 ∧ (yX1_greatestClear).cls ≠ "java/lang/invoke/MethodHandle" ∧ (yX1_greatestClear).cls ≠ "java/lang/invoke/VarHandle" ∧ (parseMethodDescriptor (yX1_greatestClear).desc).map (fun d => d.parameters.length) = some 0 := ⟨rfl, hdSX1_greatestClear⟩
set_option maxHeartbeats 4000000 in
set_option maxRecDepth 100000 in
theorem kX1_greatestClear {l : Launch} {D : va_G} {cI cJ cT : ClassId} (d : Nat → Nat)  (v : Lf)  {Q : Int32 → Prop} (sz : Nat) (h : pX1_greatestClear v Q) : Met l yX1_greatestClear wdX1_greatestClear rmX1_greatestClear (Pz D (tyL cI cJ cT) [.ref (d 0)] (wX1 cI d v) sz) (va_Qi (fun (r : Int32) (u : Unit) => Q r) (Bz D (tyL cI cJ cT) (wX1 cI d v) sz (fun (u : Unit) => (wX1 cI d v))) (va_A (wX1 cI d v) sz)) 0 0 (va_A (wX1 cI d v) sz) := by
  refine z_meti (cc := cX1_greatestClear) (maxL := 4) (own := RX1) (lv0 := [(0, .ref (d 0))]) (by decide) rfl rfl (Nat.le_of_ble_eq_true rfl) rfl ?_
  intro p e s m args below meth c A QQ C hin hret
  have J42 : ∀ (K4 : Int32 → Int32 → Prop), (∀ (x1 : Int32) (x2 : Int32), K4 x1 x2 → ZZ p l e rmX1_greatestClear s m args below meth c D A 4 0 0 QQ 4 (wX1 cI d v) [(0, .ref (d 0)), (1, .int x1), (2, .int x2)] []) → ∀ (K14 : Int32 → Int32 → Int32 → Prop), (∀ (x1 : Int32) (x2 : Int32) (x3 : Int32), K14 x1 x2 x3 → ZZ p l e rmX1_greatestClear s m args below meth c D A 4 0 0 QQ 14 (wX1 cI d v) [(0, .ref (d 0)), (1, .int x1), (2, .int x2), (3, .int x3)] []) → ∀ (x1 : Int32) (x2 : Int32) (x3 : Int32), pX1_greatestClear_J42 v Q K4 K14 x1 x2 x3 → ZZ p l e rmX1_greatestClear s m args below meth c D A 4 0 0 QQ 42 (wX1 cI d v) [(0, .ref (d 0)), (1, .int x1), (2, .int x2), (3, .int x3)] [] := by
    intro K4 hK4 K14 hK14 x1 x2 x3 h
    refine z_iinc (pc := 42) (v := (x3 + 1)) (lv' := [(3, .int (x3 + 1)), (0, .ref (d 0)), (1, .int x1), (2, .int x2)]) C 3 dX1_greatestClear_42 rfl rfl (by decide) rfl ?_
    refine z_goto (pc := 45) (tgt := 14) C dX1_greatestClear_45 (by decide) ?_
    refine z_sub (lv' := [(0, .ref (d 0)), (1, .int x1), (2, .int x2), (3, .int (x3 + 1))]) [1, 2, 3, 0] rfl ?_
    exact hK14 x1 x2 (x3 + 1) h
  have L14 : ∀ (K4 : Int32 → Int32 → Prop), (∀ (x1 : Int32) (x2 : Int32), K4 x1 x2 → ZZ p l e rmX1_greatestClear s m args below meth c D A 4 0 0 QQ 4 (wX1 cI d v) [(0, .ref (d 0)), (1, .int x1), (2, .int x2)] []) → ∀ (n14 : Nat) (x1 : Int32) (x2 : Int32) (x3 : Int32), pX1_greatestClear_L14 v Q K4 n14 x1 x2 x3 → ZZ p l e rmX1_greatestClear s m args below meth c D A 4 0 0 QQ 14 (wX1 cI d v) [(0, .ref (d 0)), (1, .int x1), (2, .int x2), (3, .int x3)] [] := by
    intro K4 hK4
    intro n14
    induction n14 with
    | zero => intro x1 x2 x3 h; exact False.elim h
    | succ n14 ih14 =>
      intro x1 x2 x3 h
      refine z_iload_n (pc := 14) C 3 dX1_greatestClear_14 rfl ?_
      refine z_aload_n (pc := 15) C 0 dX1_greatestClear_15 rfl ?_
      refine z_get (pc := 16) C uw1 0 rfl rfl 0 (by decide) wq63 rfl dX1_greatestClear_16 ?_
      refine z_icmp_ge (pc := 19) (tgt := 48) C dX1_greatestClear_19 (by decide) (fun c2 => ?_) (fun c2 => ?_)
      · have h := h.1 c2
        refine z_iinc (pc := 48) (v := (x2 + 1)) (lv' := [(2, .int (x2 + 1)), (0, .ref (d 0)), (1, .int x1), (3, .int x3)]) C 2 dX1_greatestClear_48 rfl rfl (by decide) rfl ?_
        refine z_goto (pc := 51) (tgt := 4) C dX1_greatestClear_51 (by decide) ?_
        refine z_sub (lv' := [(0, .ref (d 0)), (1, .int x1), (2, .int (x2 + 1))]) [1, 2, 0] rfl ?_
        exact hK4 x1 (x2 + 1) h
      · have h := h.2 c2
        refine z_aload_n (pc := 22) C 0 dX1_greatestClear_22 rfl ?_
        refine z_iload_n (pc := 23) C 2 dX1_greatestClear_23 rfl ?_
        refine z_iload_n (pc := 24) C 3 dX1_greatestClear_24 rfl ?_
        refine z_callRi (pc := 25) C (z_runV (pc := 25) (wc := (wX1 cI d v)) (As := [.int x2, .int x3]) C (fun sz => kX1_meet d v x2 x3 sz h) [0, 1, 2, 3, 4, 5] rfl (by decide) (gdV wq213 wq281 wq218 wq219 wq36) rfl rfl rfl hdX1_meet 0 rfl rfl rfl ⟨Nat.le_of_ble_eq_true rfl, Nat.le_of_ble_eq_true rfl⟩ rfl (Nat.le_of_ble_eq_true rfl) ⟨Nat.zero_le _, Nat.zero_le _⟩ dX1_greatestClear_25) [0, 1, 2, 3, 4, 5] rfl (by decide) (fun r3 u3 h => ?_)
        refine z_if_eq (pc := 28) (tgt := 42) C dX1_greatestClear_28 (by decide) (fun c4 => ?_) (fun c4 => ?_)
        · have h := h.1 c4
          exact J42 K4 hK4 (fun x1 x2 x3 => pX1_greatestClear_L14 v Q K4 n14 x1 x2 x3) ih14 x1 x2 x3 h
        · have h := h.2 c4
          refine z_iload_n (pc := 31) C 1 dX1_greatestClear_31 rfl ?_
          refine z_aload_n (pc := 32) C 0 dX1_greatestClear_32 rfl ?_
          refine z_iload_n (pc := 33) C 2 dX1_greatestClear_33 rfl ?_
          refine z_iload_n (pc := 34) C 3 dX1_greatestClear_34 rfl ?_
          refine z_callRi (pc := 35) C (z_runV (pc := 35) (wc := (wX1 cI d v)) (As := [.int x2, .int x3]) C (fun sz => kX1_clearOf d v x2 x3 sz h) [0, 1, 2, 3, 4, 5] rfl (by decide) (gdV wq214 wq349 wq221 wq222 wq36) rfl rfl rfl hdX1_clearOf 0 rfl rfl rfl ⟨Nat.le_of_ble_eq_true rfl, Nat.le_of_ble_eq_true rfl⟩ rfl (Nat.le_of_ble_eq_true rfl) ⟨Nat.zero_le _, Nat.zero_le _⟩ dX1_greatestClear_35) [0, 1, 2, 3, 4, 5] rfl (by decide) (fun r5 u5 h => ?_)
          refine z_mmax (pc := 38) C wq323 wq302 wq78 wq303 (Nat.le_of_ble_eq_true rfl) (Nat.le_of_ble_eq_true rfl) (Nat.zero_le _) (Nat.zero_le _) dX1_greatestClear_38 ?_
          refine z_istore_n (pc := 41) (lv' := [(1, .int (if x1 < r5 then r5 else x1)), (0, .ref (d 0)), (2, .int x2), (3, .int x3)]) C dX1_greatestClear_41 (by decide) rfl ?_
          refine z_sub (lv' := [(0, .ref (d 0)), (1, .int (if x1 < r5 then r5 else x1)), (2, .int x2), (3, .int x3)]) [1, 0, 2, 3] rfl ?_
          exact J42 K4 hK4 (fun x1 x2 x3 => pX1_greatestClear_L14 v Q K4 n14 x1 x2 x3) ih14 (if x1 < r5 then r5 else x1) x2 x3 h
  have L4 : ∀ (n4 : Nat) (x1 : Int32) (x2 : Int32), pX1_greatestClear_L4 v Q n4 x1 x2 → ZZ p l e rmX1_greatestClear s m args below meth c D A 4 0 0 QQ 4 (wX1 cI d v) [(0, .ref (d 0)), (1, .int x1), (2, .int x2)] [] := by
    intro n4
    induction n4 with
    | zero => intro x1 x2 h; exact False.elim h
    | succ n4 ih4 =>
      intro x1 x2 h
      refine z_iload_n (pc := 4) C 2 dX1_greatestClear_4 rfl ?_
      refine z_aload_n (pc := 5) C 0 dX1_greatestClear_5 rfl ?_
      refine z_get (pc := 6) C uw1 0 rfl rfl 0 (by decide) wq63 rfl dX1_greatestClear_6 ?_
      refine z_icmp_ge (pc := 9) (tgt := 54) C dX1_greatestClear_9 (by decide) (fun c1 => ?_) (fun c1 => ?_)
      · have h := h.1 c1
        refine z_iload_n (pc := 54) C 1 dX1_greatestClear_54 rfl ?_
        exact hret 55 _ _ x1 () rfl h dX1_greatestClear_55
      · have h := h.2 c1
        refine z_iconst (pc := 12) (v := 0) C dX1_greatestClear_12 (by decide) ?_
        refine z_istore_n (pc := 13) (lv' := [(3, .int (0 : Int32)), (0, .ref (d 0)), (1, .int x1), (2, .int x2)]) C dX1_greatestClear_13 (by decide) rfl ?_
        obtain ⟨n14, h⟩ := h
        refine z_sub (lv' := [(0, .ref (d 0)), (1, .int x1), (2, .int x2), (3, .int (0 : Int32))]) [1, 2, 3, 0] rfl ?_
        exact L14 (fun x1 x2 => pX1_greatestClear_L4 v Q n4 x1 x2) ih4 n14 x1 x2 (0 : Int32) h
  refine z_iconst (pc := 0) (v := 0) C dX1_greatestClear_0 (by decide) ?_
  refine z_istore_n (pc := 1) (lv' := [(1, .int (0 : Int32)), (0, .ref (d 0))]) C dX1_greatestClear_1 (by decide) rfl ?_
  refine z_iconst (pc := 2) (v := 0) C dX1_greatestClear_2 (by decide) ?_
  refine z_istore_n (pc := 3) (lv' := [(2, .int (0 : Int32)), (1, .int (0 : Int32)), (0, .ref (d 0))]) C dX1_greatestClear_3 (by decide) rfl ?_
  obtain ⟨n4, h⟩ := h
  refine z_sub (lv' := [(0, .ref (d 0)), (1, .int (0 : Int32)), (2, .int (0 : Int32))]) [2, 1, 0] rfl ?_
  exact L4  n4 (0 : Int32) (0 : Int32) h

def pX1_allClears_J40 (v : Lf) (Q : Int32 → Prop) (K4 : Int32 → Int32 → Prop) (K14 : Int32 → Int32 → Int32 → Prop) (x1 : Int32) (x2 : Int32) (x3 : Int32) : Prop := (K14 x1 x2 (x3 + 1))
def pX1_allClears_L14 (v : Lf) (Q : Int32 → Prop) (K4 : Int32 → Int32 → Prop) : Nat → Int32 → Int32 → Int32 → Prop
  | 0, _, _, _ => False
  | n14 + 1, x1, x2, x3 => (((v 0 0) ≤ x3 → (K4 x1 (x2 + 1))) ∧ (¬ (v 0 0) ≤ x3 → (pX1_meet v x2 x3 (fun r3 => ((r3 = 0 → (pX1_allClears_J40 v Q K4 (fun x1 x2 x3 => pX1_allClears_L14 v Q K4 n14 x1 x2 x3) x1 x2 x3)) ∧ (¬ r3 = 0 → (pX1_clearOf v x2 x3 (fun r5 => (pX1_allClears_J40 v Q K4 (fun x1 x2 x3 => pX1_allClears_L14 v Q K4 n14 x1 x2 x3) (x1 + r5) x2 x3)))))))))
def pX1_allClears_L4 (v : Lf) (Q : Int32 → Prop) : Nat → Int32 → Int32 → Prop
  | 0, _, _ => False
  | n4 + 1, x1, x2 => (((v 0 0) ≤ x2 → (Q x1 )) ∧ (¬ (v 0 0) ≤ x2 → (∃ n14, pX1_allClears_L14 v Q (fun x1 x2 => pX1_allClears_L4 v Q n4 x1 x2) n14 x1 x2 (0 : Int32))))
def pX1_allClears (v : Lf)  (Q : Int32 → Prop) : Prop := (∃ n4, pX1_allClears_L4 v Q  n4 (0 : Int32) (0 : Int32))
abbrev rmX1_allClears : Room := { frames := 1, cells := 0, slots := 0, locals := 22 }
abbrev wdX1_allClears : List Cond := Cond.code yX1_allClears cX1_allClears 4 (some .int) :: TB
theorem hdSX1_allClears : (yX1_allClears).cls ≠ "java/lang/invoke/MethodHandle" ∧ (yX1_allClears).cls ≠ "java/lang/invoke/VarHandle" ∧ (parseMethodDescriptor (yX1_allClears).desc).map (fun d => d.parameters.length) = some 0 := by decide +kernel
theorem hdX1_allClears : (yX1_allClears).cls = RX1 ∧ (yX1_allClears).cls ≠ "java/lang/invoke/MethodHandle" ∧ (yX1_allClears).cls ≠ "java/lang/invoke/VarHandle" ∧ (parseMethodDescriptor (yX1_allClears).desc).map (fun d => d.parameters.length) = some 0 := ⟨rfl, hdSX1_allClears⟩
set_option maxHeartbeats 4000000 in
set_option maxRecDepth 100000 in
theorem kX1_allClears {l : Launch} {D : va_G} {cI cJ cT : ClassId} (d : Nat → Nat)  (v : Lf)  {Q : Int32 → Prop} (sz : Nat) (h : pX1_allClears v Q) : Met l yX1_allClears wdX1_allClears rmX1_allClears (Pz D (tyL cI cJ cT) [.ref (d 0)] (wX1 cI d v) sz) (va_Qi (fun (r : Int32) (u : Unit) => Q r) (Bz D (tyL cI cJ cT) (wX1 cI d v) sz (fun (u : Unit) => (wX1 cI d v))) (va_A (wX1 cI d v) sz)) 0 0 (va_A (wX1 cI d v) sz) := by
  refine z_meti (cc := cX1_allClears) (maxL := 4) (own := RX1) (lv0 := [(0, .ref (d 0))]) (by decide) rfl rfl (Nat.le_of_ble_eq_true rfl) rfl ?_
  intro p e s m args below meth c A QQ C hin hret
  have J40 : ∀ (K4 : Int32 → Int32 → Prop), (∀ (x1 : Int32) (x2 : Int32), K4 x1 x2 → ZZ p l e rmX1_allClears s m args below meth c D A 4 0 0 QQ 4 (wX1 cI d v) [(0, .ref (d 0)), (1, .int x1), (2, .int x2)] []) → ∀ (K14 : Int32 → Int32 → Int32 → Prop), (∀ (x1 : Int32) (x2 : Int32) (x3 : Int32), K14 x1 x2 x3 → ZZ p l e rmX1_allClears s m args below meth c D A 4 0 0 QQ 14 (wX1 cI d v) [(0, .ref (d 0)), (1, .int x1), (2, .int x2), (3, .int x3)] []) → ∀ (x1 : Int32) (x2 : Int32) (x3 : Int32), pX1_allClears_J40 v Q K4 K14 x1 x2 x3 → ZZ p l e rmX1_allClears s m args below meth c D A 4 0 0 QQ 40 (wX1 cI d v) [(0, .ref (d 0)), (1, .int x1), (2, .int x2), (3, .int x3)] [] := by
    intro K4 hK4 K14 hK14 x1 x2 x3 h
    refine z_iinc (pc := 40) (v := (x3 + 1)) (lv' := [(3, .int (x3 + 1)), (0, .ref (d 0)), (1, .int x1), (2, .int x2)]) C 3 dX1_allClears_40 rfl rfl (by decide) rfl ?_
    refine z_goto (pc := 43) (tgt := 14) C dX1_allClears_43 (by decide) ?_
    refine z_sub (lv' := [(0, .ref (d 0)), (1, .int x1), (2, .int x2), (3, .int (x3 + 1))]) [1, 2, 3, 0] rfl ?_
    exact hK14 x1 x2 (x3 + 1) h
  have L14 : ∀ (K4 : Int32 → Int32 → Prop), (∀ (x1 : Int32) (x2 : Int32), K4 x1 x2 → ZZ p l e rmX1_allClears s m args below meth c D A 4 0 0 QQ 4 (wX1 cI d v) [(0, .ref (d 0)), (1, .int x1), (2, .int x2)] []) → ∀ (n14 : Nat) (x1 : Int32) (x2 : Int32) (x3 : Int32), pX1_allClears_L14 v Q K4 n14 x1 x2 x3 → ZZ p l e rmX1_allClears s m args below meth c D A 4 0 0 QQ 14 (wX1 cI d v) [(0, .ref (d 0)), (1, .int x1), (2, .int x2), (3, .int x3)] [] := by
    intro K4 hK4
    intro n14
    induction n14 with
    | zero => intro x1 x2 x3 h; exact False.elim h
    | succ n14 ih14 =>
      intro x1 x2 x3 h
      refine z_iload_n (pc := 14) C 3 dX1_allClears_14 rfl ?_
      refine z_aload_n (pc := 15) C 0 dX1_allClears_15 rfl ?_
      refine z_get (pc := 16) C uw1 0 rfl rfl 0 (by decide) wq63 rfl dX1_allClears_16 ?_
      refine z_icmp_ge (pc := 19) (tgt := 46) C dX1_allClears_19 (by decide) (fun c2 => ?_) (fun c2 => ?_)
      · have h := h.1 c2
        refine z_iinc (pc := 46) (v := (x2 + 1)) (lv' := [(2, .int (x2 + 1)), (0, .ref (d 0)), (1, .int x1), (3, .int x3)]) C 2 dX1_allClears_46 rfl rfl (by decide) rfl ?_
        refine z_goto (pc := 49) (tgt := 4) C dX1_allClears_49 (by decide) ?_
        refine z_sub (lv' := [(0, .ref (d 0)), (1, .int x1), (2, .int (x2 + 1))]) [1, 2, 0] rfl ?_
        exact hK4 x1 (x2 + 1) h
      · have h := h.2 c2
        refine z_aload_n (pc := 22) C 0 dX1_allClears_22 rfl ?_
        refine z_iload_n (pc := 23) C 2 dX1_allClears_23 rfl ?_
        refine z_iload_n (pc := 24) C 3 dX1_allClears_24 rfl ?_
        refine z_callRi (pc := 25) C (z_runV (pc := 25) (wc := (wX1 cI d v)) (As := [.int x2, .int x3]) C (fun sz => kX1_meet d v x2 x3 sz h) [0, 1, 2, 3, 4, 5] rfl (by decide) (gdV wq213 wq281 wq218 wq219 wq36) rfl rfl rfl hdX1_meet 0 rfl rfl rfl ⟨Nat.le_of_ble_eq_true rfl, Nat.le_of_ble_eq_true rfl⟩ rfl (Nat.le_of_ble_eq_true rfl) ⟨Nat.zero_le _, Nat.zero_le _⟩ dX1_allClears_25) [0, 1, 2, 3, 4, 5] rfl (by decide) (fun r3 u3 h => ?_)
        refine z_if_eq (pc := 28) (tgt := 40) C dX1_allClears_28 (by decide) (fun c4 => ?_) (fun c4 => ?_)
        · have h := h.1 c4
          exact J40 K4 hK4 (fun x1 x2 x3 => pX1_allClears_L14 v Q K4 n14 x1 x2 x3) ih14 x1 x2 x3 h
        · have h := h.2 c4
          refine z_iload_n (pc := 31) C 1 dX1_allClears_31 rfl ?_
          refine z_aload_n (pc := 32) C 0 dX1_allClears_32 rfl ?_
          refine z_iload_n (pc := 33) C 2 dX1_allClears_33 rfl ?_
          refine z_iload_n (pc := 34) C 3 dX1_allClears_34 rfl ?_
          refine z_callRi (pc := 35) C (z_runV (pc := 35) (wc := (wX1 cI d v)) (As := [.int x2, .int x3]) C (fun sz => kX1_clearOf d v x2 x3 sz h) [0, 1, 2, 3, 4, 5] rfl (by decide) (gdV wq214 wq349 wq221 wq222 wq36) rfl rfl rfl hdX1_clearOf 0 rfl rfl rfl ⟨Nat.le_of_ble_eq_true rfl, Nat.le_of_ble_eq_true rfl⟩ rfl (Nat.le_of_ble_eq_true rfl) ⟨Nat.zero_le _, Nat.zero_le _⟩ dX1_allClears_35) [0, 1, 2, 3, 4, 5] rfl (by decide) (fun r5 u5 h => ?_)
          refine z_iadd (pc := 38) C dX1_allClears_38 ?_
          refine z_istore_n (pc := 39) (lv' := [(1, .int (x1 + r5)), (0, .ref (d 0)), (2, .int x2), (3, .int x3)]) C dX1_allClears_39 (by decide) rfl ?_
          refine z_sub (lv' := [(0, .ref (d 0)), (1, .int (x1 + r5)), (2, .int x2), (3, .int x3)]) [1, 0, 2, 3] rfl ?_
          exact J40 K4 hK4 (fun x1 x2 x3 => pX1_allClears_L14 v Q K4 n14 x1 x2 x3) ih14 (x1 + r5) x2 x3 h
  have L4 : ∀ (n4 : Nat) (x1 : Int32) (x2 : Int32), pX1_allClears_L4 v Q n4 x1 x2 → ZZ p l e rmX1_allClears s m args below meth c D A 4 0 0 QQ 4 (wX1 cI d v) [(0, .ref (d 0)), (1, .int x1), (2, .int x2)] [] := by
    intro n4
    induction n4 with
    | zero => intro x1 x2 h; exact False.elim h
    | succ n4 ih4 =>
      intro x1 x2 h
      refine z_iload_n (pc := 4) C 2 dX1_allClears_4 rfl ?_
      refine z_aload_n (pc := 5) C 0 dX1_allClears_5 rfl ?_
      refine z_get (pc := 6) C uw1 0 rfl rfl 0 (by decide) wq63 rfl dX1_allClears_6 ?_
      refine z_icmp_ge (pc := 9) (tgt := 52) C dX1_allClears_9 (by decide) (fun c1 => ?_) (fun c1 => ?_)
      · have h := h.1 c1
        refine z_iload_n (pc := 52) C 1 dX1_allClears_52 rfl ?_
        exact hret 53 _ _ x1 () rfl h dX1_allClears_53
      · have h := h.2 c1
        refine z_iconst (pc := 12) (v := 0) C dX1_allClears_12 (by decide) ?_
        refine z_istore_n (pc := 13) (lv' := [(3, .int (0 : Int32)), (0, .ref (d 0)), (1, .int x1), (2, .int x2)]) C dX1_allClears_13 (by decide) rfl ?_
        obtain ⟨n14, h⟩ := h
        refine z_sub (lv' := [(0, .ref (d 0)), (1, .int x1), (2, .int x2), (3, .int (0 : Int32))]) [1, 2, 3, 0] rfl ?_
        exact L14 (fun x1 x2 => pX1_allClears_L4 v Q n4 x1 x2) ih4 n14 x1 x2 (0 : Int32) h
  refine z_iconst (pc := 0) (v := 0) C dX1_allClears_0 (by decide) ?_
  refine z_istore_n (pc := 1) (lv' := [(1, .int (0 : Int32)), (0, .ref (d 0))]) C dX1_allClears_1 (by decide) rfl ?_
  refine z_iconst (pc := 2) (v := 0) C dX1_allClears_2 (by decide) ?_
  refine z_istore_n (pc := 3) (lv' := [(2, .int (0 : Int32)), (1, .int (0 : Int32)), (0, .ref (d 0))]) C dX1_allClears_3 (by decide) rfl ?_
  obtain ⟨n4, h⟩ := h
  refine z_sub (lv' := [(0, .ref (d 0)), (1, .int (0 : Int32)), (2, .int (0 : Int32))]) [2, 1, 0] rfl ?_
  exact L4  n4 (0 : Int32) (0 : Int32) h

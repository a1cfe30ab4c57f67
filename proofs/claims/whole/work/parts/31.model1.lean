def pX10_comesOn (v : Lf) (x1 : Int32) (Q : Lf → Prop) : Prop := (vp_in (((216 : Int32) + ((3 : Int32) * x1)) + (2 : Int32)) 372 ∧ (vp_in (((216 : Int32) + ((3 : Int32) * x1)) + (2 : Int32)) 372 ∧ (Q (st (st v 1 4 x1) 1 ((((216 : Int32) + ((3 : Int32) * x1)) + (2 : Int32)).toNatClampNeg) (((st v 1 4 x1) 1 (((216 : Int32) + ((3 : Int32) * x1)) + (2 : Int32)).toNatClampNeg) + (1 : Int32))))))
abbrev rmX10_comesOn : Room := { frames := 0, cells := 0, slots := 0, locals := 0 }
abbrev wdX10_comesOn : List Cond := Cond.code yX10_comesOn cX10_comesOn 2 none :: TB
theorem hdSX10_comesOn : (yX10_comesOn).cls ≠ "java/lang/invoke/MethodHandle" ∧ (yX10_comesOn).cls ≠ "java/lang/invoke/VarHandle" ∧ (parseMethodDescriptor (yX10_comesOn).desc).map (fun d => d.parameters.length) = some 1 := by decide +kernel
theorem hdX10_comesOn : (yX10_comesOn).cls = RX10 ∧ (yX10_comesOn).cls ≠ "java/lang/invoke/MethodHandle" ∧ (yX10_comesOn).cls ≠ "java/lang/invoke/VarHandle" ∧ (parseMethodDescriptor (yX10_comesOn).desc).map (fun d => d.parameters.length) = some 1 := ⟨rfl, hdSX10_comesOn⟩
set_option maxHeartbeats 4000000 in
set_option maxRecDepth 100000 in
theorem kX10_comesOn {l : Launch} {D : va_G} {cI cJ cT : ClassId} (d : Nat → Nat)  (v : Lf) (g : Lg) (x1 : Int32) {Q : Lf → Prop} (sz : Nat) (h : pX10_comesOn v x1 Q) : Met l yX10_comesOn wdX10_comesOn rmX10_comesOn (Pz D (tyL cI cJ cT) [.ref (d 0), .int x1] (wX10 cI cJ d v g) sz) (va_Qv (fun (u : Lf) => Q u) (Bz D (tyL cI cJ cT) (wX10 cI cJ d v g) sz (fun (u : Lf) => (wX10 cI cJ d u g))) (va_A (wX10 cI cJ d v g) sz)) 0 0 (va_A (wX10 cI cJ d v g) sz) := by
  refine z_metv (cc := cX10_comesOn) (maxL := 2) (own := RX10) (lv0 := [(0, .ref (d 0)), (1, .int x1)]) (by decide) rfl rfl (Nat.le_of_ble_eq_true rfl) rfl ?_
  intro p e s m args below meth c A QQ C hin hret
  refine z_aload_n (pc := 0) C 0 dX10_comesOn_0 rfl ?_
  refine z_get (pc := 1) C uw10 0 rfl rfl 0 (by decide) wq809 rfl dX10_comesOn_1 ?_
  refine z_iconst (pc := 4) (v := 4) C dX10_comesOn_4 (by decide) ?_
  refine z_iload_n (pc := 5) C 1 dX10_comesOn_5 rfl ?_
  refine z_iast (pc := 6) (ws' := (wX10 cI cJ d (st v 1 4 x1) g)) C 1 0 rfl rfl vi_4_372 dX10_comesOn_6 cl_4 sX10_a1 ?_
  refine z_aload_n (pc := 7) C 0 dX10_comesOn_7 rfl ?_
  refine z_get (pc := 8) C uw10 0 rfl rfl 0 (by decide) wq809 rfl dX10_comesOn_8 ?_
  refine z_sipush (pc := 11) (v := 216) C dX10_comesOn_11 (by decide) ?_
  refine z_iconst (pc := 14) (v := 3) C dX10_comesOn_14 (by decide) ?_
  refine z_iload_n (pc := 15) C 1 dX10_comesOn_15 rfl ?_
  refine z_imul (pc := 16) C dX10_comesOn_16 ?_
  refine z_iadd (pc := 17) C dX10_comesOn_17 ?_
  refine z_iconst (pc := 18) (v := 2) C dX10_comesOn_18 (by decide) ?_
  refine z_iadd (pc := 19) C dX10_comesOn_19 ?_
  refine z_dup2 (pc := 20) C dX10_comesOn_20 rfl rfl ?_
  obtain ⟨g2, h⟩ := h
  refine z_iald (pc := 21) C 1 0 rfl rfl g2 ((st v 1 4 x1) 1 (((216 : Int32) + ((3 : Int32) * x1)) + (2 : Int32)).toNatClampNeg) rfl dX10_comesOn_21 ?_
  refine z_iconst (pc := 22) (v := 1) C dX10_comesOn_22 (by decide) ?_
  refine z_iadd (pc := 23) C dX10_comesOn_23 ?_
  obtain ⟨g3, h⟩ := h
  refine z_iast (pc := 24) (ws' := (wX10 cI cJ d (st (st v 1 4 x1) 1 ((((216 : Int32) + ((3 : Int32) * x1)) + (2 : Int32)).toNatClampNeg) (((st v 1 4 x1) 1 (((216 : Int32) + ((3 : Int32) * x1)) + (2 : Int32)).toNatClampNeg) + (1 : Int32))) g)) C 1 0 rfl rfl g3 dX10_comesOn_24 rfl sX10_a1 ?_
  exact hret 25 _ _ (st (st v 1 4 x1) 1 ((((216 : Int32) + ((3 : Int32) * x1)) + (2 : Int32)).toNatClampNeg) (((st v 1 4 x1) 1 (((216 : Int32) + ((3 : Int32) * x1)) + (2 : Int32)).toNatClampNeg) + (1 : Int32))) rfl h dX10_comesOn_25

def pX10_start (v : Lf)  (Q : Int32 → Lf → Prop) : Prop := (((v 1 2) = (1 : Int32) → (Q (-3 : Int32) v)) ∧ (¬ (v 1 2) = (1 : Int32) → ((¬ (v 1 14) = 0 → (pX10_comesOn (st v 1 2 (1 : Int32)) (0 : Int32) (fun v_6 => (Q (v_6 1 14) v_6)))) ∧ ((v 1 14) = 0 → (Q (-3 : Int32) v)))))
abbrev rmX10_start : Room := { frames := 1, cells := 0, slots := 0, locals := 21 }
abbrev wdX10_start : List Cond := Cond.code yX10_start cX10_start 1 (some .int) :: TB
theorem hdSX10_start : (yX10_start).cls ≠ "java/lang/invoke/MethodHandle" ∧ (yX10_start).cls ≠ "java/lang/invoke/VarHandle" ∧ (parseMethodDescriptor (yX10_start).desc).map (fun d => d.parameters.length) = some 0 := by decide +kernel
theorem hdX10_start : (yX10_start).cls = RX10 ∧ (yX10_start).cls ≠ "java/lang/invoke/MethodHandle" ∧ (yX10_start).cls ≠ "java/lang/invoke/VarHandle" ∧ (parseMethodDescriptor (yX10_start).desc).map (fun d => d.parameters.length) = some 0 := ⟨rfl, hdSX10_start⟩
set_option maxHeartbeats 4000000 in
set_option maxRecDepth 100000 in
theorem kX10_start {l : Launch} {D : va_G} {cI cJ cT : ClassId} (d : Nat → Nat)  (v : Lf) (g : Lg)  {Q : Int32 → Lf → Prop} (sz : Nat) (h : pX10_start v Q) : Met l yX10_start wdX10_start rmX10_start (Pz D (tyL cI cJ cT) [.ref (d 0)] (wX10 cI cJ d v g) sz) (va_Qi (fun (r : Int32) (u : Lf) => Q r u) (Bz D (tyL cI cJ cT) (wX10 cI cJ d v g) sz (fun (u : Lf) => (wX10 cI cJ d u g))) (va_A (wX10 cI cJ d v g) sz)) 0 0 (va_A (wX10 cI cJ d v g) sz) := by
  refine z_meti (cc := cX10_start) (maxL := 1) (own := RX10) (lv0 := [(0, .ref (d 0))]) (by decide) rfl rfl (Nat.le_of_ble_eq_true rfl) rfl ?_
  intro p e s m args below meth c A QQ C hin hret
  refine z_aload_n (pc := 0) C 0 dX10_start_0 rfl ?_
  refine z_get (pc := 1) C uw10 0 rfl rfl 0 (by decide) wq809 rfl dX10_start_1 ?_
  refine z_iconst (pc := 4) (v := 2) C dX10_start_4 (by decide) ?_
  refine z_iald (pc := 5) C 1 0 rfl rfl vi_2_372 (v 1 2) (congrArg _ cl_2) dX10_start_5 ?_
  refine z_iconst (pc := 6) (v := 1) C dX10_start_6 (by decide) ?_
  refine z_icmp_eq (pc := 7) (tgt := 20) C dX10_start_7 (by decide) (fun c2 => ?_) (fun c2 => ?_)
  · have h := h.1 c2
    refine z_bipush (pc := 20) (v := -3) C dX10_start_20 (by decide) ?_
    exact hret 22 _ _ (-3 : Int32) v rfl h dX10_start_22
  · have h := h.2 c2
    refine z_aload_n (pc := 10) C 0 dX10_start_10 rfl ?_
    refine z_get (pc := 11) C uw10 0 rfl rfl 0 (by decide) wq809 rfl dX10_start_11 ?_
    refine z_bipush (pc := 14) (v := 14) C dX10_start_14 (by decide) ?_
    refine z_iald (pc := 16) C 1 0 rfl rfl vi_14_372 (v 1 14) (congrArg _ cl_14) dX10_start_16 ?_
    refine z_if_ne (pc := 17) (tgt := 23) C dX10_start_17 (by decide) (fun c4 => ?_) (fun c4 => ?_)
    · have h := h.1 c4
      refine z_aload_n (pc := 23) C 0 dX10_start_23 rfl ?_
      refine z_get (pc := 24) C uw10 0 rfl rfl 0 (by decide) wq809 rfl dX10_start_24 ?_
      refine z_iconst (pc := 27) (v := 2) C dX10_start_27 (by decide) ?_
      refine z_iconst (pc := 28) (v := 1) C dX10_start_28 (by decide) ?_
      refine z_iast (pc := 29) (ws' := (wX10 cI cJ d (st v 1 2 (1 : Int32)) g)) C 1 0 rfl rfl vi_2_372 dX10_start_29 cl_2 sX10_a1 ?_
      refine z_aload_n (pc := 30) C 0 dX10_start_30 rfl ?_
      refine z_iconst (pc := 31) (v := 0) C dX10_start_31 (by decide) ?_
      refine z_callv (pc := 32) (wr := ([] : va_W)) (w1 := fun (u : Lf) => (wX10 cI cJ d u g)) (w2 := fun (u : Lf) => (wX10 cI cJ d u g)) C (z_runV (pc := 32) (wc := (wX10 cI cJ d (st v 1 2 (1 : Int32)) g)) (As := [.int (0 : Int32)]) C (fun sz => kX10_comesOn d (st v 1 2 (1 : Int32)) g (0 : Int32) sz h) [0, 1, 2, 3, 4, 5, 6, 7, 8, 9, 10, 11] rfl (by decide) (gdV wq920 wq922 wq923 wq924 wq814) rfl rfl rfl hdX10_comesOn 0 rfl rfl rfl ⟨Nat.le_of_ble_eq_true rfl, Nat.le_of_ble_eq_true rfl⟩ rfl (Nat.le_of_ble_eq_true rfl) ⟨Nat.zero_le _, Nat.zero_le _⟩ dX10_start_32) [0, 1, 2, 3, 4, 5, 6, 7, 8, 9, 10, 11] [] [0, 1, 2, 3, 4, 5, 6, 7, 8, 9, 10, 11] rfl rfl (by decide) (by decide) (fun _ => rfl) (by decide) (fun u6 h => ?_)
      obtain ⟨v_6, hu6⟩ : ∃ z, z = u6 := ⟨_, rfl⟩
      subst hu6
      refine z_aload_n (pc := 35) C 0 dX10_start_35 rfl ?_
      refine z_get (pc := 36) C uw10 0 rfl rfl 0 (by decide) wq809 rfl dX10_start_36 ?_
      refine z_bipush (pc := 39) (v := 14) C dX10_start_39 (by decide) ?_
      refine z_iald (pc := 41) C 1 0 rfl rfl vi_14_372 (v_6 1 14) (congrArg _ cl_14) dX10_start_41 ?_
      exact hret 42 _ _ (v_6 1 14) v_6 rfl h dX10_start_42
    · have h := h.2 c4
      refine z_bipush (pc := 20) (v := -3) C dX10_start_20 (by decide) ?_
      exact hret 22 _ _ (-3 : Int32) v rfl h dX10_start_22

def pX10_draws (v : Lf) (x1 : Int32) (Q : Int32 → Lf → Prop) : Prop := (¬ x1 = 0 ∧ (Q ((((((st v 1 0 (((v 1 0) * (1103515245 : Int32)) + (12345 : Int32))) 1 0)).toUInt32 >>> (((9 : Int32)).toUInt32 &&& Int32.toUInt32 31)).toInt32) - (((((st v 1 0 (((v 1 0) * (1103515245 : Int32)) + (12345 : Int32))) 1 0)).toUInt32 >>> (((9 : Int32)).toUInt32 &&& Int32.toUInt32 31)).toInt32) / x1 * x1) (st v 1 0 (((v 1 0) * (1103515245 : Int32)) + (12345 : Int32)))))
abbrev rmX10_draws : Room := { frames := 0, cells := 0, slots := 0, locals := 0 }
abbrev wdX10_draws : List Cond := Cond.code yX10_draws cX10_draws 2 (some .int) :: TB
theorem hdSX10_draws : (yX10_draws).cls ≠ "java/lang/invoke/MethodHandle" ∧ (yX10_draws).cls ≠ "java/lang/invoke/VarHandle" ∧ (parseMethodDescriptor (yX10_draws).desc).map (fun d => d.parameters.length) = some 1 := by decide +kernel
theorem hdX10_draws : (yX10_draws).cls = RX10 ∧ (yX10_draws).cls ≠ "java/lang/invoke/MethodHandle" ∧ (yX10_draws).cls ≠ "java/lang/invoke/VarHandle" ∧ (parseMethodDescriptor (yX10_draws).desc).map (fun d => d.parameters.length) = some 1 := ⟨rfl, hdSX10_draws⟩
set_option maxHeartbeats 4000000 in
set_option maxRecDepth 100000 in
theorem kX10_draws {l : Launch} {D : va_G} {cI cJ cT : ClassId} (d : Nat → Nat)  (v : Lf) (g : Lg) (x1 : Int32) {Q : Int32 → Lf → Prop} (sz : Nat) (h : pX10_draws v x1 Q) : Met l yX10_draws wdX10_draws rmX10_draws (Pz D (tyL cI cJ cT) [.ref (d 0), .int x1] (wX10 cI cJ d v g) sz) (va_Qi (fun (r : Int32) (u : Lf) => Q r u) (Bz D (tyL cI cJ cT) (wX10 cI cJ d v g) sz (fun (u : Lf) => (wX10 cI cJ d u g))) (va_A (wX10 cI cJ d v g) sz)) 0 0 (va_A (wX10 cI cJ d v g) sz) := by
  refine z_meti (cc := cX10_draws) (maxL := 2) (own := RX10) (lv0 := [(0, .ref (d 0)), (1, .int x1)]) (by decide) rfl rfl (Nat.le_of_ble_eq_true rfl) rfl ?_
  intro p e s m args below meth c A QQ C hin hret
  refine z_aload_n (pc := 0) C 0 dX10_draws_0 rfl ?_
  refine z_get (pc := 1) C uw10 0 rfl rfl 0 (by decide) wq809 rfl dX10_draws_1 ?_
  refine z_iconst (pc := 4) (v := 0) C dX10_draws_4 (by decide) ?_
  refine z_aload_n (pc := 5) C 0 dX10_draws_5 rfl ?_
  refine z_get (pc := 6) C uw10 0 rfl rfl 0 (by decide) wq809 rfl dX10_draws_6 ?_
  refine z_iconst (pc := 9) (v := 0) C dX10_draws_9 (by decide) ?_
  refine z_iald (pc := 10) C 1 0 rfl rfl vi_0_372 (v 1 0) (congrArg _ cl_0) dX10_draws_10 ?_
  refine z_ldc (pc := 11) C wq926 dX10_draws_11 ?_
  refine z_imul (pc := 13) C dX10_draws_13 ?_
  refine z_sipush (pc := 14) (v := 12345) C dX10_draws_14 (by decide) ?_
  refine z_iadd (pc := 17) C dX10_draws_17 ?_
  refine z_iast (pc := 18) (ws' := (wX10 cI cJ d (st v 1 0 (((v 1 0) * (1103515245 : Int32)) + (12345 : Int32))) g)) C 1 0 rfl rfl vi_0_372 dX10_draws_18 cl_0 sX10_a1 ?_
  refine z_aload_n (pc := 19) C 0 dX10_draws_19 rfl ?_
  refine z_get (pc := 20) C uw10 0 rfl rfl 0 (by decide) wq809 rfl dX10_draws_20 ?_
  refine z_iconst (pc := 23) (v := 0) C dX10_draws_23 (by decide) ?_
  refine z_iald (pc := 24) C 1 0 rfl rfl vi_0_372 ((st v 1 0 (((v 1 0) * (1103515245 : Int32)) + (12345 : Int32))) 1 0) (congrArg _ cl_0) dX10_draws_24 ?_
  refine z_bipush (pc := 25) (v := 9) C dX10_draws_25 (by decide) ?_
  refine z_iushr (pc := 27) C dX10_draws_27 ?_
  refine z_iload_n (pc := 28) C 1 dX10_draws_28 rfl ?_
  obtain ⟨g4, h⟩ := h
  refine z_irem (pc := 29) C dX10_draws_29 g4 ?_
  exact hret 30 _ _ ((((((st v 1 0 (((v 1 0) * (1103515245 : Int32)) + (12345 : Int32))) 1 0)).toUInt32 >>> (((9 : Int32)).toUInt32 &&& Int32.toUInt32 31)).toInt32) - (((((st v 1 0 (((v 1 0) * (1103515245 : Int32)) + (12345 : Int32))) 1 0)).toUInt32 >>> (((9 : Int32)).toUInt32 &&& Int32.toUInt32 31)).toInt32) / x1 * x1) (st v 1 0 (((v 1 0) * (1103515245 : Int32)) + (12345 : Int32))) rfl h dX10_draws_30

def pX10_joins (v : Lf) (x1 : Int32) (x2 : Int32) (Q : Int32 → Lf → Prop) : Prop := (pX10_at v x1 (5 : Int32) (fun r1 => (pX10_puts v x1 (5 : Int32) (if (r1 + x2) < (99 : Int32) then (r1 + x2) else (99 : Int32)) (fun v_2 => (pX10_at (st v_2 1 9 ((v_2 1 9) + (if (0 : Int32) < ((r1 + x2) - (99 : Int32)) then ((r1 + x2) - (99 : Int32)) else (0 : Int32)))) x1 (5 : Int32) (fun r5 => (Q r5 (st v_2 1 9 ((v_2 1 9) + (if (0 : Int32) < ((r1 + x2) - (99 : Int32)) then ((r1 + x2) - (99 : Int32)) else (0 : Int32)))))))))))
abbrev rmX10_joins : Room := { frames := 1, cells := 0, slots := 0, locals := 40 }
abbrev wdX10_joins : List Cond := Cond.code yX10_joins cX10_joins 4 (some .int) :: TB
theorem hdSX10_joins : (yX10_joins).cls ≠ "java/lang/invoke/MethodHandle" ∧ (yX10_joins).cls ≠ "java/lang/invoke/VarHandle" ∧ (parseMethodDescriptor (yX10_joins).desc).map (fun d => d.parameters.length) = some 2 := by decide +kernel
theorem hdX10_joins : (yX10_joins).cls = RX10 ∧ (yX10_joins).cls ≠ "java/lang/invoke/MethodHandle" ∧ (yX10_joins).cls ≠ "java/lang/invoke/VarHandle" ∧ (parseMethodDescriptor (yX10_joins).desc).map (fun d => d.parameters.length) = some 2 := ⟨rfl, hdSX10_joins⟩
set_option maxHeartbeats 4000000 in
set_option maxRecDepth 100000 in
theorem kX10_joins {l : Launch} {D : va_G} {cI cJ cT : ClassId} (d : Nat → Nat)  (v : Lf) (g : Lg) (x1 : Int32) (x2 : Int32) {Q : Int32 → Lf → Prop} (sz : Nat) (h : pX10_joins v x1 x2 Q) : Met l yX10_joins wdX10_joins rmX10_joins (Pz D (tyL cI cJ cT) [.ref (d 0), .int x1, .int x2] (wX10 cI cJ d v g) sz) (va_Qi (fun (r : Int32) (u : Lf) => Q r u) (Bz D (tyL cI cJ cT) (wX10 cI cJ d v g) sz (fun (u : Lf) => (wX10 cI cJ d u g))) (va_A (wX10 cI cJ d v g) sz)) 0 0 (va_A (wX10 cI cJ d v g) sz) := by
  refine z_meti (cc := cX10_joins) (maxL := 4) (own := RX10) (lv0 := [(0, .ref (d 0)), (1, .int x1), (2, .int x2)]) (by decide) rfl rfl (Nat.le_of_ble_eq_true rfl) rfl ?_
  intro p e s m args below meth c A QQ C hin hret
  refine z_aload_n (pc := 0) C 0 dX10_joins_0 rfl ?_
  refine z_iload_n (pc := 1) C 1 dX10_joins_1 rfl ?_
  refine z_iconst (pc := 2) (v := 5) C dX10_joins_2 (by decide) ?_
  refine z_callRi (pc := 3) C (z_runV (pc := 3) (wc := (wX10 cI cJ d v g)) (As := [.int x1, .int (5 : Int32)]) C (fun sz => kX10_at d v g x1 (5 : Int32) sz h) [0, 1, 2, 3, 4, 5, 6, 7, 8, 9, 10, 11] rfl (by decide) (gdV wq808 wq811 wq812 wq813 wq814) rfl rfl rfl hdX10_at 0 rfl rfl rfl ⟨Nat.le_of_ble_eq_true rfl, Nat.le_of_ble_eq_true rfl⟩ rfl (Nat.le_of_ble_eq_true rfl) ⟨Nat.zero_le _, Nat.zero_le _⟩ dX10_joins_3) [0, 1, 2, 3, 4, 5, 6, 7, 8, 9, 10, 11] rfl (by decide) (fun r1 u1 h => ?_)
  refine z_iload_n (pc := 6) C 2 dX10_joins_6 rfl ?_
  refine z_iadd (pc := 7) C dX10_joins_7 ?_
  refine z_istore_n (pc := 8) (lv' := [(3, .int (r1 + x2)), (0, .ref (d 0)), (1, .int x1), (2, .int x2)]) C dX10_joins_8 (by decide) rfl ?_
  refine z_aload_n (pc := 9) C 1 dX10_joins_9 rfl ?_
  refine z_iload_n (pc := 10) C 2 dX10_joins_10 rfl ?_
  refine z_iconst (pc := 11) (v := 5) C dX10_joins_11 (by decide) ?_
  refine z_bipush (pc := 12) (v := 99) C dX10_joins_12 (by decide) ?_
  refine z_iload_n (pc := 14) C 0 dX10_joins_14 rfl ?_
  refine z_mmin (pc := 15) C wq880 wq77 wq78 wq79 (Nat.le_of_ble_eq_true rfl) (Nat.le_of_ble_eq_true rfl) (Nat.zero_le _) (Nat.zero_le _) dX10_joins_15 ?_
  refine z_callv (pc := 18) (wr := ([] : va_W)) (w1 := fun (u : Lf) => (wX10 cI cJ d u g)) (w2 := fun (u : Lf) => (wX10 cI cJ d u g)) C (z_runV (pc := 18) (wc := (wX10 cI cJ d v g)) (As := [.int x1, .int (5 : Int32), .int (if (r1 + x2) < (99 : Int32) then (r1 + x2) else (99 : Int32))]) C (fun sz => kX10_puts d v g x1 (5 : Int32) (if (r1 + x2) < (99 : Int32) then (r1 + x2) else (99 : Int32)) sz h) [0, 1, 2, 3, 4, 5, 6, 7, 8, 9, 10, 11] rfl (by decide) (gdV wq855 wq864 wq865 wq866 wq814) rfl rfl rfl hdX10_puts 0 rfl rfl rfl ⟨Nat.le_of_ble_eq_true rfl, Nat.le_of_ble_eq_true rfl⟩ rfl (Nat.le_of_ble_eq_true rfl) ⟨Nat.zero_le _, Nat.zero_le _⟩ dX10_joins_18) [0, 1, 2, 3, 4, 5, 6, 7, 8, 9, 10, 11] [] [0, 1, 2, 3, 4, 5, 6, 7, 8, 9, 10, 11] rfl rfl (by decide) (by decide) (fun _ => rfl) (by decide) (fun u2 h => ?_)
  obtain ⟨v_2, hu2⟩ : ∃ z, z = u2 := ⟨_, rfl⟩
  subst hu2
  refine z_aload_n (pc := 21) C 1 dX10_joins_21 rfl ?_
  refine z_get (pc := 22) C uw10 0 rfl rfl 0 (by decide) wq809 rfl dX10_joins_22 ?_
  refine z_bipush (pc := 25) (v := 9) C dX10_joins_25 (by decide) ?_
  refine z_dup2 (pc := 27) C dX10_joins_27 rfl rfl ?_
  refine z_iald (pc := 28) C 1 0 rfl rfl vi_9_372 (v_2 1 9) (congrArg _ cl_9) dX10_joins_28 ?_
  refine z_iconst (pc := 29) (v := 0) C dX10_joins_29 (by decide) ?_
  refine z_iload_n (pc := 30) C 0 dX10_joins_30 rfl ?_
  refine z_bipush (pc := 31) (v := 99) C dX10_joins_31 (by decide) ?_
  refine z_isub (pc := 33) C dX10_joins_33 ?_
  refine z_mmax (pc := 34) C wq821 wq302 wq78 wq303 (Nat.le_of_ble_eq_true rfl) (Nat.le_of_ble_eq_true rfl) (Nat.zero_le _) (Nat.zero_le _) dX10_joins_34 ?_
  refine z_iadd (pc := 37) C dX10_joins_37 ?_
  refine z_iast (pc := 38) (ws' := (wX10 cI cJ d (st v_2 1 9 ((v_2 1 9) + (if (0 : Int32) < ((r1 + x2) - (99 : Int32)) then ((r1 + x2) - (99 : Int32)) else (0 : Int32)))) g)) C 1 0 rfl rfl vi_9_372 dX10_joins_38 cl_9 sX10_a1 ?_
  refine z_aload_n (pc := 39) C 1 dX10_joins_39 rfl ?_
  refine z_iload_n (pc := 40) C 2 dX10_joins_40 rfl ?_
  refine z_iconst (pc := 41) (v := 5) C dX10_joins_41 (by decide) ?_
  refine z_callRi (pc := 42) C (z_runV (pc := 42) (wc := (wX10 cI cJ d (st v_2 1 9 ((v_2 1 9) + (if (0 : Int32) < ((r1 + x2) - (99 : Int32)) then ((r1 + x2) - (99 : Int32)) else (0 : Int32)))) g)) (As := [.int x1, .int (5 : Int32)]) C (fun sz => kX10_at d (st v_2 1 9 ((v_2 1 9) + (if (0 : Int32) < ((r1 + x2) - (99 : Int32)) then ((r1 + x2) - (99 : Int32)) else (0 : Int32)))) g x1 (5 : Int32) sz h) [0, 1, 2, 3, 4, 5, 6, 7, 8, 9, 10, 11] rfl (by decide) (gdV wq808 wq811 wq812 wq813 wq814) rfl rfl rfl hdX10_at 0 rfl rfl rfl ⟨Nat.le_of_ble_eq_true rfl, Nat.le_of_ble_eq_true rfl⟩ rfl (Nat.le_of_ble_eq_true rfl) ⟨Nat.zero_le _, Nat.zero_le _⟩ dX10_joins_42) [0, 1, 2, 3, 4, 5, 6, 7, 8, 9, 10, 11] rfl (by decide) (fun r5 u5 h => ?_)
  exact hret 45 _ _ r5 (st v_2 1 9 ((v_2 1 9) + (if (0 : Int32) < ((r1 + x2) - (99 : Int32)) then ((r1 + x2) - (99 : Int32)) else (0 : Int32)))) rfl h dX10_joins_45

def pX10_coming_J85 (Q : Lf → Prop) (K52 : Lf → Int32 → Prop) (v : Lf) (x1 : Int32) : Prop := (K52 v (x1 + 1))
def pX10_coming_L52 (Q : Lf → Prop) : Nat → Lf → Int32 → Prop
  | 0, _, _ => False
  | n52 + 1, v, x1 => (((v 1 13) ≤ x1 → (Q v)) ∧ (¬ (v 1 13) ≤ x1 → (pX10_at v x1 (5 : Int32) (fun r5 => ((r5 ≤ 0 → (pX10_coming_J85  Q (fun v x1 => pX10_coming_L52 Q n52 v x1) v x1)) ∧ (¬ r5 ≤ 0 → (pX10_puts v x1 (9 : Int32) (v 1 3) (fun v_8 => (pX10_coming_J85  Q (fun v x1 => pX10_coming_L52 Q n52 v x1) v_8 x1)))))))))
def pX10_coming_J44 (Q : Lf → Prop) (K2 : Lf → Int32 → Prop) (v : Lf) (x1 : Int32) : Prop := (K2 v (x1 + 1))
def pX10_coming_L2 (Q : Lf → Prop) : Nat → Lf → Int32 → Prop
  | 0, _, _ => False
  | n2 + 1, v, x1 => (((v 1 13) ≤ x1 → (∃ n52, pX10_coming_L52  Q  n52 v (0 : Int32))) ∧ (¬ (v 1 13) ≤ x1 → (pX10_at v x1 (4 : Int32) (fun r9 => ((r9 ≤ 0 → (pX10_coming_J44  Q (fun v x1 => pX10_coming_L2 Q n2 v x1) v x1)) ∧ (¬ r9 ≤ 0 → (pX10_draws v (60 : Int32) (fun r11 v_11 => (pX10_at v_11 x1 (4 : Int32) (fun r12 => ((r12 ≤ r11 → (pX10_coming_J44  Q (fun v x1 => pX10_coming_L2 Q n2 v x1) v_11 x1)) ∧ (¬ r12 ≤ r11 → (pX10_joins v_11 x1 (1 : Int32) (fun r14 v_14 => (pX10_coming_J44  Q (fun v x1 => pX10_coming_L2 Q n2 v x1) v_14 x1)))))))))))))))
def pX10_coming (v : Lf)  (Q : Lf → Prop) : Prop := (∃ n2, pX10_coming_L2  Q  n2 v (0 : Int32))
abbrev rmX10_coming : Room := { frames := 2, cells := 0, slots := 0, locals := 63 }
abbrev wdX10_coming : List Cond := Cond.code yX10_coming cX10_coming 2 none :: TB
theorem hdSX10_coming : (yX10_coming).cls ≠ "java/lang/invoke/MethodHandle" ∧ (yX10_coming).cls ≠ "java/lang/invoke/VarHandle" ∧ (parseMethodDescriptor (yX10_coming).desc).map (fun d => d.parameters.length) = some 0 := by decide +kernel
theorem hdX10_coming : (yX10_coming).cls = RX10 ∧ (yX10_coming).cls ≠ "java/lang/invoke/MethodHandle" ∧ (yX10_coming).cls ≠ "java/lang/invoke/VarHandle" ∧ (parseMethodDescriptor (yX10_coming).desc).map (fun d => d.parameters.length) = some 0 := ⟨rfl, hdSX10_coming⟩
set_option maxHeartbeats 4000000 in
set_option maxRecDepth 100000 in
theorem kX10_coming {l : Launch} {D : va_G} {cI cJ cT : ClassId} (d : Nat → Nat)  (v : Lf) (g : Lg)  {Q : Lf → Prop} (sz : Nat) (h : pX10_coming v Q) : Met l yX10_coming wdX10_coming rmX10_coming (Pz D (tyL cI cJ cT) [.ref (d 0)] (wX10 cI cJ d v g) sz) (va_Qv (fun (u : Lf) => Q u) (Bz D (tyL cI cJ cT) (wX10 cI cJ d v g) sz (fun (u : Lf) => (wX10 cI cJ d u g))) (va_A (wX10 cI cJ d v g) sz)) 0 0 (va_A (wX10 cI cJ d v g) sz) := by
  refine z_metv (cc := cX10_coming) (maxL := 2) (own := RX10) (lv0 := [(0, .ref (d 0))]) (by decide) rfl rfl (Nat.le_of_ble_eq_true rfl) rfl ?_
  intro p e s m args below meth c A QQ C hin hret
  have J85 : ∀ (K52 : Lf → Int32 → Prop), (∀ (v : Lf) (x1 : Int32), K52 v x1 → ZZ p l e rmX10_coming s m args below meth c D A 2 0 0 QQ 52 (wX10 cI cJ d v g) [(0, .ref (d 0)), (1, .int x1)] []) → ∀ (v : Lf) (x1 : Int32), pX10_coming_J85 Q K52 v x1 → ZZ p l e rmX10_coming s m args below meth c D A 2 0 0 QQ 85 (wX10 cI cJ d v g) [(0, .ref (d 0)), (1, .int x1)] [] := by
    intro K52 hK52 v x1 h
    refine z_iinc (pc := 85) (v := (x1 + 1)) (lv' := [(1, .int (x1 + 1)), (0, .ref (d 0))]) C 1 dX10_coming_85 rfl rfl (by decide) rfl ?_
    refine z_goto (pc := 88) (tgt := 52) C dX10_coming_88 (by decide) ?_
    refine z_sub (lv' := [(0, .ref (d 0)), (1, .int (x1 + 1))]) [1, 0] rfl ?_
    exact hK52 v (x1 + 1) h
  have L52 : ∀ (n52 : Nat) (v : Lf) (x1 : Int32), pX10_coming_L52 Q n52 v x1 → ZZ p l e rmX10_coming s m args below meth c D A 2 0 0 QQ 52 (wX10 cI cJ d v g) [(0, .ref (d 0)), (1, .int x1)] [] := by
    intro n52
    induction n52 with
    | zero => intro v x1 h; exact False.elim h
    | succ n52 ih52 =>
      intro v x1 h
      refine z_iload_n (pc := 52) C 1 dX10_coming_52 rfl ?_
      refine z_aload_n (pc := 53) C 0 dX10_coming_53 rfl ?_
      refine z_get (pc := 54) C uw10 0 rfl rfl 0 (by decide) wq809 rfl dX10_coming_54 ?_
      refine z_bipush (pc := 57) (v := 13) C dX10_coming_57 (by decide) ?_
      refine z_iald (pc := 59) C 1 0 rfl rfl vi_13_372 (v 1 13) (congrArg _ cl_13) dX10_coming_59 ?_
      refine z_icmp_ge (pc := 60) (tgt := 91) C dX10_coming_60 (by decide) (fun c4 => ?_) (fun c4 => ?_)
      · have h := h.1 c4
        exact hret 91 _ _ v rfl h dX10_coming_91
      · have h := h.2 c4
        refine z_aload_n (pc := 63) C 0 dX10_coming_63 rfl ?_
        refine z_iload_n (pc := 64) C 1 dX10_coming_64 rfl ?_
        refine z_iconst (pc := 65) (v := 5) C dX10_coming_65 (by decide) ?_
        refine z_callRi (pc := 66) C (z_runV (pc := 66) (wc := (wX10 cI cJ d v g)) (As := [.int x1, .int (5 : Int32)]) C (fun sz => kX10_at d v g x1 (5 : Int32) sz h) [0, 1, 2, 3, 4, 5, 6, 7, 8, 9, 10, 11] rfl (by decide) (gdV wq808 wq811 wq812 wq813 wq814) rfl rfl rfl hdX10_at 0 rfl rfl rfl ⟨Nat.le_of_ble_eq_true rfl, Nat.le_of_ble_eq_true rfl⟩ rfl (Nat.le_of_ble_eq_true rfl) ⟨Nat.zero_le _, Nat.zero_le _⟩ dX10_coming_66) [0, 1, 2, 3, 4, 5, 6, 7, 8, 9, 10, 11] rfl (by decide) (fun r5 u5 h => ?_)
        refine z_if_le (pc := 69) (tgt := 85) C dX10_coming_69 (by decide) (fun c6 => ?_) (fun c6 => ?_)
        · have h := h.1 c6
          exact J85 (fun v x1 => pX10_coming_L52 Q n52 v x1) ih52 v x1 h
        · have h := h.2 c6
          refine z_aload_n (pc := 72) C 0 dX10_coming_72 rfl ?_
          refine z_iload_n (pc := 73) C 1 dX10_coming_73 rfl ?_
          refine z_bipush (pc := 74) (v := 9) C dX10_coming_74 (by decide) ?_
          refine z_aload_n (pc := 76) C 0 dX10_coming_76 rfl ?_
          refine z_get (pc := 77) C uw10 0 rfl rfl 0 (by decide) wq809 rfl dX10_coming_77 ?_
          refine z_iconst (pc := 80) (v := 3) C dX10_coming_80 (by decide) ?_
          refine z_iald (pc := 81) C 1 0 rfl rfl vi_3_372 (v 1 3) (congrArg _ cl_3) dX10_coming_81 ?_
          refine z_callv (pc := 82) (wr := ([] : va_W)) (w1 := fun (u : Lf) => (wX10 cI cJ d u g)) (w2 := fun (u : Lf) => (wX10 cI cJ d u g)) C (z_runV (pc := 82) (wc := (wX10 cI cJ d v g)) (As := [.int x1, .int (9 : Int32), .int (v 1 3)]) C (fun sz => kX10_puts d v g x1 (9 : Int32) (v 1 3) sz h) [0, 1, 2, 3, 4, 5, 6, 7, 8, 9, 10, 11] rfl (by decide) (gdV wq855 wq864 wq865 wq866 wq814) rfl rfl rfl hdX10_puts 0 rfl rfl rfl ⟨Nat.le_of_ble_eq_true rfl, Nat.le_of_ble_eq_true rfl⟩ rfl (Nat.le_of_ble_eq_true rfl) ⟨Nat.zero_le _, Nat.zero_le _⟩ dX10_coming_82) [0, 1, 2, 3, 4, 5, 6, 7, 8, 9, 10, 11] [] [0, 1, 2, 3, 4, 5, 6, 7, 8, 9, 10, 11] rfl rfl (by decide) (by decide) (fun _ => rfl) (by decide) (fun u8 h => ?_)
          obtain ⟨v_8, hu8⟩ : ∃ z, z = u8 := ⟨_, rfl⟩
          subst hu8
          exact J85 (fun v x1 => pX10_coming_L52 Q n52 v x1) ih52 v_8 x1 h
  have J44 : ∀ (K2 : Lf → Int32 → Prop), (∀ (v : Lf) (x1 : Int32), K2 v x1 → ZZ p l e rmX10_coming s m args below meth c D A 2 0 0 QQ 2 (wX10 cI cJ d v g) [(0, .ref (d 0)), (1, .int x1)] []) → ∀ (v : Lf) (x1 : Int32), pX10_coming_J44 Q K2 v x1 → ZZ p l e rmX10_coming s m args below meth c D A 2 0 0 QQ 44 (wX10 cI cJ d v g) [(0, .ref (d 0)), (1, .int x1)] [] := by
    intro K2 hK2 v x1 h
    refine z_iinc (pc := 44) (v := (x1 + 1)) (lv' := [(1, .int (x1 + 1)), (0, .ref (d 0))]) C 1 dX10_coming_44 rfl rfl (by decide) rfl ?_
    refine z_goto (pc := 47) (tgt := 2) C dX10_coming_47 (by decide) ?_
    refine z_sub (lv' := [(0, .ref (d 0)), (1, .int (x1 + 1))]) [1, 0] rfl ?_
    exact hK2 v (x1 + 1) h
  have L2 : ∀ (n2 : Nat) (v : Lf) (x1 : Int32), pX10_coming_L2 Q n2 v x1 → ZZ p l e rmX10_coming s m args below meth c D A 2 0 0 QQ 2 (wX10 cI cJ d v g) [(0, .ref (d 0)), (1, .int x1)] [] := by
    intro n2
    induction n2 with
    | zero => intro v x1 h; exact False.elim h
    | succ n2 ih2 =>
      intro v x1 h
      refine z_iload_n (pc := 2) C 1 dX10_coming_2 rfl ?_
      refine z_aload_n (pc := 3) C 0 dX10_coming_3 rfl ?_
      refine z_get (pc := 4) C uw10 0 rfl rfl 0 (by decide) wq809 rfl dX10_coming_4 ?_
      refine z_bipush (pc := 7) (v := 13) C dX10_coming_7 (by decide) ?_
      refine z_iald (pc := 9) C 1 0 rfl rfl vi_13_372 (v 1 13) (congrArg _ cl_13) dX10_coming_9 ?_
      refine z_icmp_ge (pc := 10) (tgt := 50) C dX10_coming_10 (by decide) (fun c2 => ?_) (fun c2 => ?_)
      · have h := h.1 c2
        refine z_iconst (pc := 50) (v := 0) C dX10_coming_50 (by decide) ?_
        refine z_istore_n (pc := 51) (lv' := [(1, .int (0 : Int32)), (0, .ref (d 0))]) C dX10_coming_51 (by decide) rfl ?_
        obtain ⟨n52, h⟩ := h
        refine z_sub (lv' := [(0, .ref (d 0)), (1, .int (0 : Int32))]) [1, 0] rfl ?_
        exact L52  n52 v (0 : Int32) h
      · have h := h.2 c2
        refine z_aload_n (pc := 13) C 0 dX10_coming_13 rfl ?_
        refine z_iload_n (pc := 14) C 1 dX10_coming_14 rfl ?_
        refine z_iconst (pc := 15) (v := 4) C dX10_coming_15 (by decide) ?_
        refine z_callRi (pc := 16) C (z_runV (pc := 16) (wc := (wX10 cI cJ d v g)) (As := [.int x1, .int (4 : Int32)]) C (fun sz => kX10_at d v g x1 (4 : Int32) sz h) [0, 1, 2, 3, 4, 5, 6, 7, 8, 9, 10, 11] rfl (by decide) (gdV wq808 wq811 wq812 wq813 wq814) rfl rfl rfl hdX10_at 0 rfl rfl rfl ⟨Nat.le_of_ble_eq_true rfl, Nat.le_of_ble_eq_true rfl⟩ rfl (Nat.le_of_ble_eq_true rfl) ⟨Nat.zero_le _, Nat.zero_le _⟩ dX10_coming_16) [0, 1, 2, 3, 4, 5, 6, 7, 8, 9, 10, 11] rfl (by decide) (fun r9 u9 h => ?_)
        refine z_if_le (pc := 19) (tgt := 44) C dX10_coming_19 (by decide) (fun c10 => ?_) (fun c10 => ?_)
        · have h := h.1 c10
          exact J44 (fun v x1 => pX10_coming_L2 Q n2 v x1) ih2 v x1 h
        · have h := h.2 c10
          refine z_aload_n (pc := 22) C 0 dX10_coming_22 rfl ?_
          refine z_bipush (pc := 23) (v := 60) C dX10_coming_23 (by decide) ?_
          refine z_calli (pc := 25) (wr := ([] : va_W)) (w1 := fun (u : Lf) => (wX10 cI cJ d u g)) (w2 := fun (u : Lf) => (wX10 cI cJ d u g)) C (z_runV (pc := 25) (wc := (wX10 cI cJ d v g)) (As := [.int (60 : Int32)]) C (fun sz => kX10_draws d v g (60 : Int32) sz h) [0, 1, 2, 3, 4, 5, 6, 7, 8, 9, 10, 11] rfl (by decide) (gdV wq925 wq928 wq929 wq930 wq814) rfl rfl rfl hdX10_draws 0 rfl rfl rfl ⟨Nat.le_of_ble_eq_true rfl, Nat.le_of_ble_eq_true rfl⟩ rfl (Nat.le_of_ble_eq_true rfl) ⟨Nat.zero_le _, Nat.zero_le _⟩ dX10_coming_25) [0, 1, 2, 3, 4, 5, 6, 7, 8, 9, 10, 11] [] [0, 1, 2, 3, 4, 5, 6, 7, 8, 9, 10, 11] rfl rfl (by decide) (by decide) (fun _ => rfl) (by decide) (fun r11 u11 h => ?_)
          obtain ⟨v_11, hu11⟩ : ∃ z, z = u11 := ⟨_, rfl⟩
          subst hu11
          refine z_aload_n (pc := 28) C 0 dX10_coming_28 rfl ?_
          refine z_iload_n (pc := 29) C 1 dX10_coming_29 rfl ?_
          refine z_iconst (pc := 30) (v := 4) C dX10_coming_30 (by decide) ?_
          refine z_callRi (pc := 31) C (z_runV (pc := 31) (wc := (wX10 cI cJ d v_11 g)) (As := [.int x1, .int (4 : Int32)]) C (fun sz => kX10_at d v_11 g x1 (4 : Int32) sz h) [0, 1, 2, 3, 4, 5, 6, 7, 8, 9, 10, 11] rfl (by decide) (gdV wq808 wq811 wq812 wq813 wq814) rfl rfl rfl hdX10_at 0 rfl rfl rfl ⟨Nat.le_of_ble_eq_true rfl, Nat.le_of_ble_eq_true rfl⟩ rfl (Nat.le_of_ble_eq_true rfl) ⟨Nat.zero_le _, Nat.zero_le _⟩ dX10_coming_31) [0, 1, 2, 3, 4, 5, 6, 7, 8, 9, 10, 11] rfl (by decide) (fun r12 u12 h => ?_)
          refine z_icmp_ge (pc := 34) (tgt := 44) C dX10_coming_34 (by decide) (fun c13 => ?_) (fun c13 => ?_)
          · have h := h.1 c13
            exact J44 (fun v x1 => pX10_coming_L2 Q n2 v x1) ih2 v_11 x1 h
          · have h := h.2 c13
            refine z_aload_n (pc := 37) C 0 dX10_coming_37 rfl ?_
            refine z_iload_n (pc := 38) C 1 dX10_coming_38 rfl ?_
            refine z_iconst (pc := 39) (v := 1) C dX10_coming_39 (by decide) ?_
            refine z_calli (pc := 40) (wr := ([] : va_W)) (w1 := fun (u : Lf) => (wX10 cI cJ d u g)) (w2 := fun (u : Lf) => (wX10 cI cJ d u g)) C (z_runV (pc := 40) (wc := (wX10 cI cJ d v_11 g)) (As := [.int x1, .int (1 : Int32)]) C (fun sz => kX10_joins d v_11 g x1 (1 : Int32) sz h) [0, 1, 2, 3, 4, 5, 6, 7, 8, 9, 10, 11] rfl (by decide) (gdV wq927 wq931 wq932 wq933 wq814) rfl rfl rfl hdX10_joins 0 rfl rfl rfl ⟨Nat.le_of_ble_eq_true rfl, Nat.le_of_ble_eq_true rfl⟩ rfl (Nat.le_of_ble_eq_true rfl) ⟨Nat.zero_le _, Nat.zero_le _⟩ dX10_coming_40) [0, 1, 2, 3, 4, 5, 6, 7, 8, 9, 10, 11] [] [0, 1, 2, 3, 4, 5, 6, 7, 8, 9, 10, 11] rfl rfl (by decide) (by decide) (fun _ => rfl) (by decide) (fun r14 u14 h => ?_)
            obtain ⟨v_14, hu14⟩ : ∃ z, z = u14 := ⟨_, rfl⟩
            subst hu14
            refine z_pop (pc := 43) C dX10_coming_43 rfl ?_
            exact J44 (fun v x1 => pX10_coming_L2 Q n2 v x1) ih2 v_14 x1 h
  refine z_iconst (pc := 0) (v := 0) C dX10_coming_0 (by decide) ?_
  refine z_istore_n (pc := 1) (lv' := [(1, .int (0 : Int32)), (0, .ref (d 0))]) C dX10_coming_1 (by decide) rfl ?_
  obtain ⟨n2, h⟩ := h
  refine z_sub (lv' := [(0, .ref (d 0)), (1, .int (0 : Int32))]) [1, 0] rfl ?_
  exact L2  n2 v (0 : Int32) h

def pX10_local (v : Lf)  (Q : Int32 → Prop) : Prop := (¬ (v 1 10) = 0 ∧ ((0 ≤ (((v 1 3) - (v 1 11)) - ((v 1 3) - (v 1 11)) / (v 1 10) * (v 1 10)) → (Q (((v 1 3) - (v 1 11)) - ((v 1 3) - (v 1 11)) / (v 1 10) * (v 1 10)) )) ∧ (¬ 0 ≤ (((v 1 3) - (v 1 11)) - ((v 1 3) - (v 1 11)) / (v 1 10) * (v 1 10)) → (Q ((((v 1 3) - (v 1 11)) - ((v 1 3) - (v 1 11)) / (v 1 10) * (v 1 10)) + (v 1 10)) ))))
abbrev rmX10_local : Room := { frames := 0, cells := 0, slots := 0, locals := 0 }
abbrev wdX10_local : List Cond := Cond.code yX10_local cX10_local 2 (some .int) :: TB
theorem hdSX10_local : (yX10_local).cls ≠ "java/lang/invoke/MethodHandle" ∧ (yX10_local).cls ≠ "java/lang/invoke/VarHandle" ∧ (parseMethodDescriptor (yX10_local).desc).map (fun d => d.parameters.length) = some 0 := by decide +kernel
theorem hdX10_local : (yX10_local).cls = RX10 ∧ (yX10_local).cls ≠ "java/lang/invoke/MethodHandle" ∧ (yX10_local).cls ≠ "java/lang/invoke/VarHandle" ∧ (parseMethodDescriptor (yX10_local).desc).map (fun d => d.parameters.length) = some 0 := ⟨rfl, hdSX10_local⟩
set_option maxHeartbeats 4000000 in
set_option maxRecDepth 100000 in
theorem kX10_local {l : Launch} {D : va_G} {cI cJ cT : ClassId} (d : Nat → Nat)  (v : Lf) (g : Lg)  {Q : Int32 → Prop} (sz : Nat) (h : pX10_local v Q) : Met l yX10_local wdX10_local rmX10_local (Pz D (tyL cI cJ cT) [.ref (d 0)] (wX10 cI cJ d v g) sz) (va_Qi (fun (r : Int32) (u : Unit) => Q r) (Bz D (tyL cI cJ cT) (wX10 cI cJ d v g) sz (fun (u : Unit) => (wX10 cI cJ d v g))) (va_A (wX10 cI cJ d v g) sz)) 0 0 (va_A (wX10 cI cJ d v g) sz) := by
  refine z_meti (cc := cX10_local) (maxL := 2) (own := RX10) (lv0 := [(0, .ref (d 0))]) (by decide) rfl rfl (Nat.le_of_ble_eq_true rfl) rfl ?_
  intro p e s m args below meth c A QQ C hin hret
  refine z_aload_n (pc := 0) C 0 dX10_local_0 rfl ?_
  refine z_get (pc := 1) C uw10 0 rfl rfl 0 (by decide) wq809 rfl dX10_local_1 ?_
  refine z_iconst (pc := 4) (v := 3) C dX10_local_4 (by decide) ?_
  refine z_iald (pc := 5) C 1 0 rfl rfl vi_3_372 (v 1 3) (congrArg _ cl_3) dX10_local_5 ?_
  refine z_aload_n (pc := 6) C 0 dX10_local_6 rfl ?_
  refine z_get (pc := 7) C uw10 0 rfl rfl 0 (by decide) wq809 rfl dX10_local_7 ?_
  refine z_bipush (pc := 10) (v := 11) C dX10_local_10 (by decide) ?_
  refine z_iald (pc := 12) C 1 0 rfl rfl vi_11_372 (v 1 11) (congrArg _ cl_11) dX10_local_12 ?_
  refine z_isub (pc := 13) C dX10_local_13 ?_
  refine z_aload_n (pc := 14) C 0 dX10_local_14 rfl ?_
  refine z_get (pc := 15) C uw10 0 rfl rfl 0 (by decide) wq809 rfl dX10_local_15 ?_
  refine z_bipush (pc := 18) (v := 10) C dX10_local_18 (by decide) ?_
  refine z_iald (pc := 20) C 1 0 rfl rfl vi_10_372 (v 1 10) (congrArg _ cl_10) dX10_local_20 ?_
  obtain ⟨g4, h⟩ := h
  refine z_irem (pc := 21) C dX10_local_21 g4 ?_
  refine z_istore_n (pc := 22) (lv' := [(1, .int (((v 1 3) - (v 1 11)) - ((v 1 3) - (v 1 11)) / (v 1 10) * (v 1 10))), (0, .ref (d 0))]) C dX10_local_22 (by decide) rfl ?_
  refine z_iload_n (pc := 23) C 0 dX10_local_23 rfl ?_
  refine z_if_ge (pc := 24) (tgt := 39) C dX10_local_24 (by decide) (fun c5 => ?_) (fun c5 => ?_)
  · have h := h.1 c5
    refine z_iload_n (pc := 39) C 0 dX10_local_39 rfl ?_
    exact hret 40 _ _ (((v 1 3) - (v 1 11)) - ((v 1 3) - (v 1 11)) / (v 1 10) * (v 1 10)) () rfl h dX10_local_40
  · have h := h.2 c5
    refine z_iload_n (pc := 27) C 0 dX10_local_27 rfl ?_
    refine z_aload_n (pc := 28) C 1 dX10_local_28 rfl ?_
    refine z_get (pc := 29) C uw10 0 rfl rfl 0 (by decide) wq809 rfl dX10_local_29 ?_
    refine z_bipush (pc := 32) (v := 10) C dX10_local_32 (by decide) ?_
    refine z_iald (pc := 34) C 1 0 rfl rfl vi_10_372 (v 1 10) (congrArg _ cl_10) dX10_local_34 ?_
    refine z_iadd (pc := 35) C dX10_local_35 ?_
    refine z_goto (pc := 36) (tgt := 40) C dX10_local_36 (by decide) ?_
    exact hret 40 _ _ ((((v 1 3) - (v 1 11)) - ((v 1 3) - (v 1 11)) / (v 1 10) * (v 1 10)) + (v 1 10)) () rfl h dX10_local_40

def pX10_isCalled_J91 (v : Lf) (x1 : Int32) (Q : Int32 → Prop) (K43 : Int32 → Int32 → Prop) (x3 : Int32) (t0 : Int32) (t1 : Int32) : Prop := (K43 (t0 ||| t1) (x3 + 1))
def pX10_isCalled_J90 (v : Lf) (x1 : Int32) (Q : Int32 → Prop) (K43 : Int32 → Int32 → Prop) (x3 : Int32) (t0 : Int32) : Prop := (pX10_isCalled_J91 v x1 Q K43 x3 t0 (0 : Int32))
def pX10_isCalled_L43 (v : Lf) (x1 : Int32) (Q : Int32 → Prop) : Nat → Int32 → Int32 → Prop
  | 0, _, _ => False
  | n43 + 1, x2, x3 => (((v 1 13) ≤ x3 → (narrow .boolean (.int x2) = .int x2 ∧ (Q x2 ))) ∧ (¬ (v 1 13) ≤ x3 → (pX10_setOf v x1 (fun r9 => (pX10_has r9 x3 (fun r10 => ((r10 = 0 → (pX10_isCalled_J90 v x1 Q (fun x2 x3 => pX10_isCalled_L43 v x1 Q n43 x2 x3) x3 x2)) ∧ (¬ r10 = 0 → (pX10_at v x3 (5 : Int32) (fun r12 => ((r12 ≤ 0 → (pX10_isCalled_J90 v x1 Q (fun x2 x3 => pX10_isCalled_L43 v x1 Q n43 x2 x3) x3 x2)) ∧ (¬ r12 ≤ 0 → (pX10_at v x3 (6 : Int32) (fun r14 => ((¬ r14 = 0 → (pX10_isCalled_J90 v x1 Q (fun x2 x3 => pX10_isCalled_L43 v x1 Q n43 x2 x3) x3 x2)) ∧ (r14 = 0 → (pX10_isCalled_J91 v x1 Q (fun x2 x3 => pX10_isCalled_L43 v x1 Q n43 x2 x3) x3 x2 (1 : Int32))))))))))))))))))
def pX10_isCalled_J40 (v : Lf) (x1 : Int32) (Q : Int32 → Prop) (t0 : Int32) : Prop := (∃ n43, pX10_isCalled_L43 v x1 Q  n43 t0 (0 : Int32))
def pX10_isCalled_J39 (v : Lf) (x1 : Int32) (Q : Int32 → Prop)  : Prop := (pX10_isCalled_J40 v x1 Q  (0 : Int32))
def pX10_isCalled (v : Lf) (x1 : Int32) (Q : Int32 → Prop) : Prop := (((v 1 2) = 0 → (Q (0 : Int32) )) ∧ (¬ (v 1 2) = 0 → ((¬ x1 = (v 1 4) → ((¬ x1 = 0 → (pX10_isCalled_J39 v x1 Q  )) ∧ (x1 = 0 → (((v 1 10) ≤ 0 → (pX10_isCalled_J39 v x1 Q  )) ∧ (¬ (v 1 10) ≤ 0 → (pX10_isCalled_J40 v x1 Q  (1 : Int32))))))) ∧ (x1 = (v 1 4) → (Q (0 : Int32) )))))
abbrev rmX10_isCalled : Room := { frames := 1, cells := 0, slots := 0, locals := 22 }
abbrev wdX10_isCalled : List Cond := Cond.code yX10_isCalled cX10_isCalled 4 (some .boolean) :: TB
theorem hdSX10_isCalled : (yX10_isCalled).cls ≠ "java/lang/invoke/MethodHandle" ∧ (yX10_isCalled).cls ≠ "java/lang/invoke/VarHandle" ∧ (parseMethodDescriptor (yX10_isCalled).desc).map (fun d => d.parameters.length) = some 1 := by decide +kernel
theorem hdX10_isCalled : (yX10_isCalled).cls = RX10 ∧ (yX10_isCalled).cls ≠ "java/lang/invoke/MethodHandle" ∧ (yX10_isCalled).cls ≠ "java/lang/invoke/VarHandle" ∧ (parseMethodDescriptor (yX10_isCalled).desc).map (fun d => d.parameters.length) = some 1 := ⟨rfl, hdSX10_isCalled⟩
set_option maxHeartbeats 4000000 in
set_option maxRecDepth 100000 in
theorem kX10_isCalled {l : Launch} {D : va_G} {cI cJ cT : ClassId} (d : Nat → Nat)  (v : Lf) (g : Lg) (x1 : Int32) {Q : Int32 → Prop} (sz : Nat) (h : pX10_isCalled v x1 Q) : Met l yX10_isCalled wdX10_isCalled rmX10_isCalled (Pz D (tyL cI cJ cT) [.ref (d 0), .int x1] (wX10 cI cJ d v g) sz) (va_Qi (fun (r : Int32) (u : Unit) => Q r) (Bz D (tyL cI cJ cT) (wX10 cI cJ d v g) sz (fun (u : Unit) => (wX10 cI cJ d v g))) (va_A (wX10 cI cJ d v g) sz)) 0 0 (va_A (wX10 cI cJ d v g) sz) := by
  refine z_metz (cc := cX10_isCalled) (maxL := 4) (own := RX10) (lv0 := [(0, .ref (d 0)), (1, .int x1)]) (by decide) rfl rfl (Nat.le_of_ble_eq_true rfl) rfl ?_
  intro p e s m args below meth c A QQ C hin hret
  have J91 : ∀ (K43 : Int32 → Int32 → Prop), (∀ (x2 : Int32) (x3 : Int32), K43 x2 x3 → ZZ p l e rmX10_isCalled s m args below meth c D A 4 0 0 QQ 43 (wX10 cI cJ d v g) [(0, .ref (d 0)), (1, .int x1), (2, .int x2), (3, .int x3)] []) → ∀ (x3 : Int32) (t0 : Int32) (t1 : Int32), pX10_isCalled_J91 v x1 Q K43 x3 t0 t1 → ZZ p l e rmX10_isCalled s m args below meth c D A 4 0 0 QQ 91 (wX10 cI cJ d v g) [(0, .ref (d 0)), (1, .int x1), (3, .int x3)] [.int t1, .int t0] := by
    intro K43 hK43 x3 t0 t1 h
    refine z_ior (pc := 91) C dX10_isCalled_91 ?_
    refine z_istore_n (pc := 92) (lv' := [(2, .int (t0 ||| t1)), (0, .ref (d 0)), (1, .int x1), (3, .int x3)]) C dX10_isCalled_92 (by decide) rfl ?_
    refine z_iinc (pc := 93) (v := (x3 + 1)) (lv' := [(3, .int (x3 + 1)), (2, .int (t0 ||| t1)), (0, .ref (d 0)), (1, .int x1)]) C 3 dX10_isCalled_93 rfl rfl (by decide) rfl ?_
    refine z_goto (pc := 96) (tgt := 43) C dX10_isCalled_96 (by decide) ?_
    refine z_sub (lv' := [(0, .ref (d 0)), (1, .int x1), (2, .int (t0 ||| t1)), (3, .int (x3 + 1))]) [2, 3, 1, 0] rfl ?_
    exact hK43 (t0 ||| t1) (x3 + 1) h
  have J90 : ∀ (K43 : Int32 → Int32 → Prop), (∀ (x2 : Int32) (x3 : Int32), K43 x2 x3 → ZZ p l e rmX10_isCalled s m args below meth c D A 4 0 0 QQ 43 (wX10 cI cJ d v g) [(0, .ref (d 0)), (1, .int x1), (2, .int x2), (3, .int x3)] []) → ∀ (x3 : Int32) (t0 : Int32), pX10_isCalled_J90 v x1 Q K43 x3 t0 → ZZ p l e rmX10_isCalled s m args below meth c D A 4 0 0 QQ 90 (wX10 cI cJ d v g) [(0, .ref (d 0)), (1, .int x1), (3, .int x3)] [.int t0] := by
    intro K43 hK43 x3 t0 h
    refine z_iconst (pc := 90) (v := 0) C dX10_isCalled_90 (by decide) ?_
    exact J91 K43 hK43 x3 t0 (0 : Int32) h
  have L43 : ∀ (n43 : Nat) (x2 : Int32) (x3 : Int32), pX10_isCalled_L43 v x1 Q n43 x2 x3 → ZZ p l e rmX10_isCalled s m args below meth c D A 4 0 0 QQ 43 (wX10 cI cJ d v g) [(0, .ref (d 0)), (1, .int x1), (2, .int x2), (3, .int x3)] [] := by
    intro n43
    induction n43 with
    | zero => intro x2 x3 h; exact False.elim h
    | succ n43 ih43 =>
      intro x2 x3 h
      refine z_iload_n (pc := 43) C 3 dX10_isCalled_43 rfl ?_
      refine z_aload_n (pc := 44) C 0 dX10_isCalled_44 rfl ?_
      refine z_get (pc := 45) C uw10 0 rfl rfl 0 (by decide) wq809 rfl dX10_isCalled_45 ?_
      refine z_bipush (pc := 48) (v := 13) C dX10_isCalled_48 (by decide) ?_
      refine z_iald (pc := 50) C 1 0 rfl rfl vi_13_372 (v 1 13) (congrArg _ cl_13) dX10_isCalled_50 ?_
      refine z_icmp_ge (pc := 51) (tgt := 99) C dX10_isCalled_51 (by decide) (fun c7 => ?_) (fun c7 => ?_)
      · have h := h.1 c7
        refine z_iload_n (pc := 99) C 2 dX10_isCalled_99 rfl ?_
        obtain ⟨g8, h⟩ := h
        exact hret 100 _ _ x2 g8 () rfl h dX10_isCalled_100
      · have h := h.2 c7
        refine z_iload_n (pc := 54) C 2 dX10_isCalled_54 rfl ?_
        refine z_aload_n (pc := 55) C 0 dX10_isCalled_55 rfl ?_
        refine z_iload_n (pc := 56) C 1 dX10_isCalled_56 rfl ?_
        refine z_callRi (pc := 57) C (z_runV (pc := 57) (wc := (wX10 cI cJ d v g)) (As := [.int x1]) C (fun sz => kX10_setOf d v g x1 sz h) [0, 1, 2, 3, 4, 5, 6, 7, 8, 9, 10, 11] rfl (by decide) (gdV wq856 wq937 wq938 wq939 wq814) rfl rfl rfl hdX10_setOf 0 rfl rfl rfl ⟨Nat.le_of_ble_eq_true rfl, Nat.le_of_ble_eq_true rfl⟩ rfl (Nat.le_of_ble_eq_true rfl) ⟨Nat.zero_le _, Nat.zero_le _⟩ dX10_isCalled_57) [0, 1, 2, 3, 4, 5, 6, 7, 8, 9, 10, 11] rfl (by decide) (fun r9 u9 h => ?_)
        refine z_iload_n (pc := 60) C 3 dX10_isCalled_60 rfl ?_
        refine z_call0i (pc := 61) C (z_runS (pc := 61) (wc := ([] : va_W)) (As := [.int r9, .int x3]) C (fun sz => kX10_has r9 x3 sz h) [] rfl (by decide) (gdS wq850 wq911 wq912 wq814) rfl rfl rfl hdSX10_has ⟨Nat.le_of_ble_eq_true rfl, Nat.le_of_ble_eq_true rfl⟩ rfl (Nat.le_of_ble_eq_true rfl) ⟨Nat.zero_le _, Nat.zero_le _⟩ dX10_isCalled_61) (fun r10 u10 h => ?_)
        refine z_if_eq (pc := 64) (tgt := 90) C dX10_isCalled_64 (by decide) (fun c11 => ?_) (fun c11 => ?_)
        · have h := h.1 c11
          refine z_sub (lv' := [(0, .ref (d 0)), (1, .int x1), (3, .int x3)]) [0, 1, 3] rfl ?_
          exact J90 (fun x2 x3 => pX10_isCalled_L43 v x1 Q n43 x2 x3) ih43 x3 x2 h
        · have h := h.2 c11
          refine z_aload_n (pc := 67) C 0 dX10_isCalled_67 rfl ?_
          refine z_iload_n (pc := 68) C 3 dX10_isCalled_68 rfl ?_
          refine z_iconst (pc := 69) (v := 5) C dX10_isCalled_69 (by decide) ?_
          refine z_callRi (pc := 70) C (z_runV (pc := 70) (wc := (wX10 cI cJ d v g)) (As := [.int x3, .int (5 : Int32)]) C (fun sz => kX10_at d v g x3 (5 : Int32) sz h) [0, 1, 2, 3, 4, 5, 6, 7, 8, 9, 10, 11] rfl (by decide) (gdV wq808 wq811 wq812 wq813 wq814) rfl rfl rfl hdX10_at 0 rfl rfl rfl ⟨Nat.le_of_ble_eq_true rfl, Nat.le_of_ble_eq_true rfl⟩ rfl (Nat.le_of_ble_eq_true rfl) ⟨Nat.zero_le _, Nat.zero_le _⟩ dX10_isCalled_70) [0, 1, 2, 3, 4, 5, 6, 7, 8, 9, 10, 11] rfl (by decide) (fun r12 u12 h => ?_)
          refine z_if_le (pc := 73) (tgt := 90) C dX10_isCalled_73 (by decide) (fun c13 => ?_) (fun c13 => ?_)
          · have h := h.1 c13
            refine z_sub (lv' := [(0, .ref (d 0)), (1, .int x1), (3, .int x3)]) [0, 1, 3] rfl ?_
            exact J90 (fun x2 x3 => pX10_isCalled_L43 v x1 Q n43 x2 x3) ih43 x3 x2 h
          · have h := h.2 c13
            refine z_aload_n (pc := 76) C 0 dX10_isCalled_76 rfl ?_
            refine z_iload_n (pc := 77) C 3 dX10_isCalled_77 rfl ?_
            refine z_bipush (pc := 78) (v := 6) C dX10_isCalled_78 (by decide) ?_
            refine z_callRi (pc := 80) C (z_runV (pc := 80) (wc := (wX10 cI cJ d v g)) (As := [.int x3, .int (6 : Int32)]) C (fun sz => kX10_at d v g x3 (6 : Int32) sz h) [0, 1, 2, 3, 4, 5, 6, 7, 8, 9, 10, 11] rfl (by decide) (gdV wq808 wq811 wq812 wq813 wq814) rfl rfl rfl hdX10_at 0 rfl rfl rfl ⟨Nat.le_of_ble_eq_true rfl, Nat.le_of_ble_eq_true rfl⟩ rfl (Nat.le_of_ble_eq_true rfl) ⟨Nat.zero_le _, Nat.zero_le _⟩ dX10_isCalled_80) [0, 1, 2, 3, 4, 5, 6, 7, 8, 9, 10, 11] rfl (by decide) (fun r14 u14 h => ?_)
            refine z_if_ne (pc := 83) (tgt := 90) C dX10_isCalled_83 (by decide) (fun c15 => ?_) (fun c15 => ?_)
            · have h := h.1 c15
              refine z_sub (lv' := [(0, .ref (d 0)), (1, .int x1), (3, .int x3)]) [0, 1, 3] rfl ?_
              exact J90 (fun x2 x3 => pX10_isCalled_L43 v x1 Q n43 x2 x3) ih43 x3 x2 h
            · have h := h.2 c15
              refine z_iconst (pc := 86) (v := 1) C dX10_isCalled_86 (by decide) ?_
              refine z_goto (pc := 87) (tgt := 91) C dX10_isCalled_87 (by decide) ?_
              refine z_sub (lv' := [(0, .ref (d 0)), (1, .int x1), (3, .int x3)]) [0, 1, 3] rfl ?_
              exact J91 (fun x2 x3 => pX10_isCalled_L43 v x1 Q n43 x2 x3) ih43 x3 x2 (1 : Int32) h
  have J40 : ∀ (t0 : Int32), pX10_isCalled_J40 v x1 Q t0 → ZZ p l e rmX10_isCalled s m args below meth c D A 4 0 0 QQ 40 (wX10 cI cJ d v g) [(0, .ref (d 0)), (1, .int x1)] [.int t0] := by
    intro  t0 h
    refine z_istore_n (pc := 40) (lv' := [(2, .int t0), (0, .ref (d 0)), (1, .int x1)]) C dX10_isCalled_40 (by decide) rfl ?_
    refine z_iconst (pc := 41) (v := 0) C dX10_isCalled_41 (by decide) ?_
    refine z_istore_n (pc := 42) (lv' := [(3, .int (0 : Int32)), (2, .int t0), (0, .ref (d 0)), (1, .int x1)]) C dX10_isCalled_42 (by decide) rfl ?_
    obtain ⟨n43, h⟩ := h
    refine z_sub (lv' := [(0, .ref (d 0)), (1, .int x1), (2, .int t0), (3, .int (0 : Int32))]) [2, 3, 1, 0] rfl ?_
    exact L43  n43 t0 (0 : Int32) h
  have J39 :  pX10_isCalled_J39 v x1 Q  → ZZ p l e rmX10_isCalled s m args below meth c D A 4 0 0 QQ 39 (wX10 cI cJ d v g) [(0, .ref (d 0)), (1, .int x1)] [] := by
    intro   h
    refine z_iconst (pc := 39) (v := 0) C dX10_isCalled_39 (by decide) ?_
    exact J40  (0 : Int32) h
  refine z_aload_n (pc := 0) C 0 dX10_isCalled_0 rfl ?_
  refine z_get (pc := 1) C uw10 0 rfl rfl 0 (by decide) wq809 rfl dX10_isCalled_1 ?_
  refine z_iconst (pc := 4) (v := 2) C dX10_isCalled_4 (by decide) ?_
  refine z_iald (pc := 5) C 1 0 rfl rfl vi_2_372 (v 1 2) (congrArg _ cl_2) dX10_isCalled_5 ?_
  refine z_if_eq (pc := 6) (tgt := 19) C dX10_isCalled_6 (by decide) (fun c2 => ?_) (fun c2 => ?_)
  · have h := h.1 c2
    refine z_iconst (pc := 19) (v := 0) C dX10_isCalled_19 (by decide) ?_
    exact hret 20 _ _ (0 : Int32) rfl () rfl h dX10_isCalled_20
  · have h := h.2 c2
    refine z_iload_n (pc := 9) C 1 dX10_isCalled_9 rfl ?_
    refine z_aload_n (pc := 10) C 0 dX10_isCalled_10 rfl ?_
    refine z_get (pc := 11) C uw10 0 rfl rfl 0 (by decide) wq809 rfl dX10_isCalled_11 ?_
    refine z_iconst (pc := 14) (v := 4) C dX10_isCalled_14 (by decide) ?_
    refine z_iald (pc := 15) C 1 0 rfl rfl vi_4_372 (v 1 4) (congrArg _ cl_4) dX10_isCalled_15 ?_
    refine z_icmp_ne (pc := 16) (tgt := 21) C dX10_isCalled_16 (by decide) (fun c4 => ?_) (fun c4 => ?_)
    · have h := h.1 c4
      refine z_iload_n (pc := 21) C 1 dX10_isCalled_21 rfl ?_
      refine z_if_ne (pc := 22) (tgt := 39) C dX10_isCalled_22 (by decide) (fun c5 => ?_) (fun c5 => ?_)
      · have h := h.1 c5
        exact J39   h
      · have h := h.2 c5
        refine z_aload_n (pc := 25) C 0 dX10_isCalled_25 rfl ?_
        refine z_get (pc := 26) C uw10 0 rfl rfl 0 (by decide) wq809 rfl dX10_isCalled_26 ?_
        refine z_bipush (pc := 29) (v := 10) C dX10_isCalled_29 (by decide) ?_
        refine z_iald (pc := 31) C 1 0 rfl rfl vi_10_372 (v 1 10) (congrArg _ cl_10) dX10_isCalled_31 ?_
        refine z_if_le (pc := 32) (tgt := 39) C dX10_isCalled_32 (by decide) (fun c17 => ?_) (fun c17 => ?_)
        · have h := h.1 c17
          exact J39   h
        · have h := h.2 c17
          refine z_iconst (pc := 35) (v := 1) C dX10_isCalled_35 (by decide) ?_
          refine z_goto (pc := 36) (tgt := 40) C dX10_isCalled_36 (by decide) ?_
          exact J40  (1 : Int32) h
    · have h := h.2 c4
      refine z_iconst (pc := 19) (v := 0) C dX10_isCalled_19 (by decide) ?_
      exact hret 20 _ _ (0 : Int32) rfl () rfl h dX10_isCalled_20

def pX10_called_J31 (v : Lf) (Q : Int32 → Prop) (K4 : Int32 → Int32 → Prop) (x2 : Int32) (t0 : Int32) (t1 : Int32) : Prop := (K4 (t0 ||| t1) (x2 + 1))
def pX10_called_L4 (v : Lf) (Q : Int32 → Prop) : Nat → Int32 → Int32 → Prop
  | 0, _, _ => False
  | n4 + 1, x1, x2 => (((v 1 14) ≤ x2 → (Q x1 )) ∧ (¬ (v 1 14) ≤ x2 → (pX10_isCalled v x2 (fun r3 => ((r3 = 0 → (pX10_called_J31 v Q (fun x1 x2 => pX10_called_L4 v Q n4 x1 x2) x2 x1 (0 : Int32))) ∧ (¬ r3 = 0 → (pX10_called_J31 v Q (fun x1 x2 => pX10_called_L4 v Q n4 x1 x2) x2 x1 ((1 : Int32) <<< (x2 &&& 31)))))))))
def pX10_called (v : Lf)  (Q : Int32 → Prop) : Prop := (∃ n4, pX10_called_L4 v Q  n4 (0 : Int32) (0 : Int32))
abbrev rmX10_called : Room := { frames := 2, cells := 0, slots := 0, locals := 45 }
abbrev wdX10_called : List Cond := Cond.code yX10_called cX10_called 3 (some .int) :: TB
theorem hdSX10_called : (yX10_called).cls ≠ "java/lang/invoke/MethodHandle" ∧ (yX10_called).cls ≠ "java/lang/invoke/VarHandle" ∧ (parseMethodDescriptor (yX10_called).desc).map (fun d => d.parameters.length) = some 0 := by decide +kernel
theorem hdX10_called : (yX10_called).cls = RX10 ∧ (yX10_called).cls ≠ "java/lang/invoke/MethodHandle" ∧ (yX10_called).cls ≠ "java/lang/invoke/VarHandle" ∧ (parseMethodDescriptor (yX10_called).desc).map (fun d => d.parameters.length) = some 0 := ⟨rfl, hdSX10_called⟩
set_option maxHeartbeats 4000000 in
set_option maxRecDepth 100000 in
theorem kX10_called {l : Launch} {D : va_G} {cI cJ cT : ClassId} (d : Nat → Nat)  (v : Lf) (g : Lg)  {Q : Int32 → Prop} (sz : Nat) (h : pX10_called v Q) : Met l yX10_called wdX10_called rmX10_called (Pz D (tyL cI cJ cT) [.ref (d 0)] (wX10 cI cJ d v g) sz) (va_Qi (fun (r : Int32) (u : Unit) => Q r) (Bz D (tyL cI cJ cT) (wX10 cI cJ d v g) sz (fun (u : Unit) => (wX10 cI cJ d v g))) (va_A (wX10 cI cJ d v g) sz)) 0 0 (va_A (wX10 cI cJ d v g) sz) := by
  refine z_meti (cc := cX10_called) (maxL := 3) (own := RX10) (lv0 := [(0, .ref (d 0))]) (by decide) rfl rfl (Nat.le_of_ble_eq_true rfl) rfl ?_
  intro p e s m args below meth c A QQ C hin hret
  have J31 : ∀ (K4 : Int32 → Int32 → Prop), (∀ (x1 : Int32) (x2 : Int32), K4 x1 x2 → ZZ p l e rmX10_called s m args below meth c D A 3 0 0 QQ 4 (wX10 cI cJ d v g) [(0, .ref (d 0)), (1, .int x1), (2, .int x2)] []) → ∀ (x2 : Int32) (t0 : Int32) (t1 : Int32), pX10_called_J31 v Q K4 x2 t0 t1 → ZZ p l e rmX10_called s m args below meth c D A 3 0 0 QQ 31 (wX10 cI cJ d v g) [(0, .ref (d 0)), (2, .int x2)] [.int t1, .int t0] := by
    intro K4 hK4 x2 t0 t1 h
    refine z_ior (pc := 31) C dX10_called_31 ?_
    refine z_istore_n (pc := 32) (lv' := [(1, .int (t0 ||| t1)), (0, .ref (d 0)), (2, .int x2)]) C dX10_called_32 (by decide) rfl ?_
    refine z_iinc (pc := 33) (v := (x2 + 1)) (lv' := [(2, .int (x2 + 1)), (1, .int (t0 ||| t1)), (0, .ref (d 0))]) C 2 dX10_called_33 rfl rfl (by decide) rfl ?_
    refine z_goto (pc := 36) (tgt := 4) C dX10_called_36 (by decide) ?_
    refine z_sub (lv' := [(0, .ref (d 0)), (1, .int (t0 ||| t1)), (2, .int (x2 + 1))]) [2, 1, 0] rfl ?_
    exact hK4 (t0 ||| t1) (x2 + 1) h
  have L4 : ∀ (n4 : Nat) (x1 : Int32) (x2 : Int32), pX10_called_L4 v Q n4 x1 x2 → ZZ p l e rmX10_called s m args below meth c D A 3 0 0 QQ 4 (wX10 cI cJ d v g) [(0, .ref (d 0)), (1, .int x1), (2, .int x2)] [] := by
    intro n4
    induction n4 with
    | zero => intro x1 x2 h; exact False.elim h
    | succ n4 ih4 =>
      intro x1 x2 h
      refine z_iload_n (pc := 4) C 2 dX10_called_4 rfl ?_
      refine z_aload_n (pc := 5) C 0 dX10_called_5 rfl ?_
      refine z_get (pc := 6) C uw10 0 rfl rfl 0 (by decide) wq809 rfl dX10_called_6 ?_
      refine z_bipush (pc := 9) (v := 14) C dX10_called_9 (by decide) ?_
      refine z_iald (pc := 11) C 1 0 rfl rfl vi_14_372 (v 1 14) (congrArg _ cl_14) dX10_called_11 ?_
      refine z_icmp_ge (pc := 12) (tgt := 39) C dX10_called_12 (by decide) (fun c2 => ?_) (fun c2 => ?_)
      · have h := h.1 c2
        refine z_iload_n (pc := 39) C 1 dX10_called_39 rfl ?_
        exact hret 40 _ _ x1 () rfl h dX10_called_40
      · have h := h.2 c2
        refine z_iload_n (pc := 15) C 1 dX10_called_15 rfl ?_
        refine z_aload_n (pc := 16) C 0 dX10_called_16 rfl ?_
        refine z_iload_n (pc := 17) C 2 dX10_called_17 rfl ?_
        refine z_callRi (pc := 18) C (z_runV (pc := 18) (wc := (wX10 cI cJ d v g)) (As := [.int x2]) C (fun sz => kX10_isCalled d v g x2 sz h) [0, 1, 2, 3, 4, 5, 6, 7, 8, 9, 10, 11] rfl (by decide) (gdV wq936 wq941 wq942 wq943 wq814) rfl rfl rfl hdX10_isCalled 0 rfl rfl rfl ⟨Nat.le_of_ble_eq_true rfl, Nat.le_of_ble_eq_true rfl⟩ rfl (Nat.le_of_ble_eq_true rfl) ⟨Nat.zero_le _, Nat.zero_le _⟩ dX10_called_18) [0, 1, 2, 3, 4, 5, 6, 7, 8, 9, 10, 11] rfl (by decide) (fun r3 u3 h => ?_)
        refine z_if_eq (pc := 21) (tgt := 30) C dX10_called_21 (by decide) (fun c4 => ?_) (fun c4 => ?_)
        · have h := h.1 c4
          refine z_iconst (pc := 30) (v := 0) C dX10_called_30 (by decide) ?_
          refine z_sub (lv' := [(0, .ref (d 0)), (2, .int x2)]) [0, 2] rfl ?_
          exact J31 (fun x1 x2 => pX10_called_L4 v Q n4 x1 x2) ih4 x2 x1 (0 : Int32) h
        · have h := h.2 c4
          refine z_iconst (pc := 24) (v := 1) C dX10_called_24 (by decide) ?_
          refine z_iload_n (pc := 25) C 2 dX10_called_25 rfl ?_
          refine z_ishl (pc := 26) C dX10_called_26 ?_
          refine z_goto (pc := 27) (tgt := 31) C dX10_called_27 (by decide) ?_
          refine z_sub (lv' := [(0, .ref (d 0)), (2, .int x2)]) [0, 2] rfl ?_
          exact J31 (fun x1 x2 => pX10_called_L4 v Q n4 x1 x2) ih4 x2 x1 ((1 : Int32) <<< (x2 &&& 31)) h
  refine z_iconst (pc := 0) (v := 0) C dX10_called_0 (by decide) ?_
  refine z_istore_n (pc := 1) (lv' := [(1, .int (0 : Int32)), (0, .ref (d 0))]) C dX10_called_1 (by decide) rfl ?_
  refine z_iconst (pc := 2) (v := 0) C dX10_called_2 (by decide) ?_
  refine z_istore_n (pc := 3) (lv' := [(2, .int (0 : Int32)), (1, .int (0 : Int32)), (0, .ref (d 0))]) C dX10_called_3 (by decide) rfl ?_
  obtain ⟨n4, h⟩ := h
  refine z_sub (lv' := [(0, .ref (d 0)), (1, .int (0 : Int32)), (2, .int (0 : Int32))]) [2, 1, 0] rfl ?_
  exact L4  n4 (0 : Int32) (0 : Int32) h

def pX10_firstWith_L2 (v : Lf) (x1 : Int32) (Q : Int32 → Prop) : Nat → Int32 → Prop
  | 0, _ => False
  | n2 + 1, x2 => (((v 1 14) ≤ x2 → (Q (-5 : Int32) )) ∧ (¬ (v 1 14) ≤ x2 → (pX10_setOf v x2 (fun r3 => (pX10_has r3 x1 (fun r4 => ((r4 = 0 → (pX10_firstWith_L2 v x1 Q n2 (x2 + 1))) ∧ (¬ r4 = 0 → (Q x2 )))))))))
def pX10_firstWith (v : Lf) (x1 : Int32) (Q : Int32 → Prop) : Prop := (∃ n2, pX10_firstWith_L2 v x1 Q  n2 (0 : Int32))
abbrev rmX10_firstWith : Room := { frames := 1, cells := 0, slots := 0, locals := 21 }
abbrev wdX10_firstWith : List Cond := Cond.code yX10_firstWith cX10_firstWith 3 (some .int) :: TB
theorem hdSX10_firstWith : (yX10_firstWith).cls ≠ "java/lang/invoke/MethodHandle" ∧ (yX10_firstWith).cls ≠ "java/lang/invoke/VarHandle" ∧ (parseMethodDescriptor (yX10_firstWith).desc).map (fun d => d.parameters.length) = some 1 := by decide +kernel
theorem hdX10_firstWith : (yX10_firstWith).cls = RX10 ∧ (yX10_firstWith).cls ≠ "java/lang/invoke/MethodHandle" ∧ (yX10_firstWith).cls ≠ "java/lang/invoke/VarHandle" ∧ (parseMethodDescriptor (yX10_firstWith).desc).map (fun d => d.parameters.length) = some 1 := ⟨rfl, hdSX10_firstWith⟩
set_option maxHeartbeats 4000000 in
set_option maxRecDepth 100000 in
theorem kX10_firstWith {l : Launch} {D : va_G} {cI cJ cT : ClassId} (d : Nat → Nat)  (v : Lf) (g : Lg) (x1 : Int32) {Q : Int32 → Prop} (sz : Nat) (h : pX10_firstWith v x1 Q) : Met l yX10_firstWith wdX10_firstWith rmX10_firstWith (Pz D (tyL cI cJ cT) [.ref (d 0), .int x1] (wX10 cI cJ d v g) sz) (va_Qi (fun (r : Int32) (u : Unit) => Q r) (Bz D (tyL cI cJ cT) (wX10 cI cJ d v g) sz (fun (u : Unit) => (wX10 cI cJ d v g))) (va_A (wX10 cI cJ d v g) sz)) 0 0 (va_A (wX10 cI cJ d v g) sz) := by
  refine z_meti (cc := cX10_firstWith) (maxL := 3) (own := RX10) (lv0 := [(0, .ref (d 0)), (1, .int x1)]) (by decide) rfl rfl (Nat.le_of_ble_eq_true rfl) rfl ?_
  intro p e s m args below meth c A QQ C hin hret
  have L2 : ∀ (n2 : Nat) (x2 : Int32), pX10_firstWith_L2 v x1 Q n2 x2 → ZZ p l e rmX10_firstWith s m args below meth c D A 3 0 0 QQ 2 (wX10 cI cJ d v g) [(0, .ref (d 0)), (1, .int x1), (2, .int x2)] [] := by
    intro n2
    induction n2 with
    | zero => intro x2 h; exact False.elim h
    | succ n2 ih2 =>
      intro x2 h
      refine z_iload_n (pc := 2) C 2 dX10_firstWith_2 rfl ?_
      refine z_aload_n (pc := 3) C 0 dX10_firstWith_3 rfl ?_
      refine z_get (pc := 4) C uw10 0 rfl rfl 0 (by decide) wq809 rfl dX10_firstWith_4 ?_
      refine z_bipush (pc := 7) (v := 14) C dX10_firstWith_7 (by decide) ?_
      refine z_iald (pc := 9) C 1 0 rfl rfl vi_14_372 (v 1 14) (congrArg _ cl_14) dX10_firstWith_9 ?_
      refine z_icmp_ge (pc := 10) (tgt := 33) C dX10_firstWith_10 (by decide) (fun c2 => ?_) (fun c2 => ?_)
      · have h := h.1 c2
        refine z_bipush (pc := 33) (v := -5) C dX10_firstWith_33 (by decide) ?_
        exact hret 35 _ _ (-5 : Int32) () rfl h dX10_firstWith_35
      · have h := h.2 c2
        refine z_aload_n (pc := 13) C 0 dX10_firstWith_13 rfl ?_
        refine z_iload_n (pc := 14) C 2 dX10_firstWith_14 rfl ?_
        refine z_callRi (pc := 15) C (z_runV (pc := 15) (wc := (wX10 cI cJ d v g)) (As := [.int x2]) C (fun sz => kX10_setOf d v g x2 sz h) [0, 1, 2, 3, 4, 5, 6, 7, 8, 9, 10, 11] rfl (by decide) (gdV wq856 wq937 wq938 wq939 wq814) rfl rfl rfl hdX10_setOf 0 rfl rfl rfl ⟨Nat.le_of_ble_eq_true rfl, Nat.le_of_ble_eq_true rfl⟩ rfl (Nat.le_of_ble_eq_true rfl) ⟨Nat.zero_le _, Nat.zero_le _⟩ dX10_firstWith_15) [0, 1, 2, 3, 4, 5, 6, 7, 8, 9, 10, 11] rfl (by decide) (fun r3 u3 h => ?_)
        refine z_iload_n (pc := 18) C 1 dX10_firstWith_18 rfl ?_
        refine z_call0i (pc := 19) C (z_runS (pc := 19) (wc := ([] : va_W)) (As := [.int r3, .int x1]) C (fun sz => kX10_has r3 x1 sz h) [] rfl (by decide) (gdS wq850 wq911 wq912 wq814) rfl rfl rfl hdSX10_has ⟨Nat.le_of_ble_eq_true rfl, Nat.le_of_ble_eq_true rfl⟩ rfl (Nat.le_of_ble_eq_true rfl) ⟨Nat.zero_le _, Nat.zero_le _⟩ dX10_firstWith_19) (fun r4 u4 h => ?_)
        refine z_if_eq (pc := 22) (tgt := 27) C dX10_firstWith_22 (by decide) (fun c5 => ?_) (fun c5 => ?_)
        · have h := h.1 c5
          refine z_iinc (pc := 27) (v := (x2 + 1)) (lv' := [(2, .int (x2 + 1)), (0, .ref (d 0)), (1, .int x1)]) C 2 dX10_firstWith_27 rfl rfl (by decide) rfl ?_
          refine z_goto (pc := 30) (tgt := 2) C dX10_firstWith_30 (by decide) ?_
          refine z_sub (lv' := [(0, .ref (d 0)), (1, .int x1), (2, .int (x2 + 1))]) [1, 2, 0] rfl ?_
          exact ih2 (x2 + 1) h
        · have h := h.2 c5
          refine z_iload_n (pc := 25) C 2 dX10_firstWith_25 rfl ?_
          exact hret 26 _ _ x2 () rfl h dX10_firstWith_26
  refine z_iconst (pc := 0) (v := 0) C dX10_firstWith_0 (by decide) ?_
  refine z_istore_n (pc := 1) (lv' := [(2, .int (0 : Int32)), (0, .ref (d 0)), (1, .int x1)]) C dX10_firstWith_1 (by decide) rfl ?_
  obtain ⟨n2, h⟩ := h
  refine z_sub (lv' := [(0, .ref (d 0)), (1, .int x1), (2, .int (0 : Int32))]) [1, 2, 0] rfl ?_
  exact L2  n2 (0 : Int32) h

def pX10_greenFor (v : Lf) (x1 : Int32) (Q : Int32 → Prop) : Prop := (pX10_at v x1 (7 : Int32) (fun r2 => (Q ((v 1 3) - r2) )))
abbrev rmX10_greenFor : Room := { frames := 1, cells := 0, slots := 0, locals := 22 }
abbrev wdX10_greenFor : List Cond := Cond.code yX10_greenFor cX10_greenFor 2 (some .int) :: TB
theorem hdSX10_greenFor : (yX10_greenFor).cls ≠ "java/lang/invoke/MethodHandle" ∧ (yX10_greenFor).cls ≠ "java/lang/invoke/VarHandle" ∧ (parseMethodDescriptor (yX10_greenFor).desc).map (fun d => d.parameters.length) = some 1 := by decide +kernel
theorem hdX10_greenFor : (yX10_greenFor).cls = RX10 ∧ (yX10_greenFor).cls ≠ "java/lang/invoke/MethodHandle" ∧ (yX10_greenFor).cls ≠ "java/lang/invoke/VarHandle" ∧ (parseMethodDescriptor (yX10_greenFor).desc).map (fun d => d.parameters.length) = some 1 := ⟨rfl, hdSX10_greenFor⟩
set_option maxHeartbeats 4000000 in
set_option maxRecDepth 100000 in
theorem kX10_greenFor {l : Launch} {D : va_G} {cI cJ cT : ClassId} (d : Nat → Nat)  (v : Lf) (g : Lg) (x1 : Int32) {Q : Int32 → Prop} (sz : Nat) (h : pX10_greenFor v x1 Q) : Met l yX10_greenFor wdX10_greenFor rmX10_greenFor (Pz D (tyL cI cJ cT) [.ref (d 0), .int x1] (wX10 cI cJ d v g) sz) (va_Qi (fun (r : Int32) (u : Unit) => Q r) (Bz D (tyL cI cJ cT) (wX10 cI cJ d v g) sz (fun (u : Unit) => (wX10 cI cJ d v g))) (va_A (wX10 cI cJ d v g) sz)) 0 0 (va_A (wX10 cI cJ d v g) sz) := by
  refine z_meti (cc := cX10_greenFor) (maxL := 2) (own := RX10) (lv0 := [(0, .ref (d 0)), (1, .int x1)]) (by decide) rfl rfl (Nat.le_of_ble_eq_true rfl) rfl ?_
  intro p e s m args below meth c A QQ C hin hret
  refine z_aload_n (pc := 0) C 0 dX10_greenFor_0 rfl ?_
  refine z_get (pc := 1) C uw10 0 rfl rfl 0 (by decide) wq809 rfl dX10_greenFor_1 ?_
  refine z_iconst (pc := 4) (v := 3) C dX10_greenFor_4 (by decide) ?_
  refine z_iald (pc := 5) C 1 0 rfl rfl vi_3_372 (v 1 3) (congrArg _ cl_3) dX10_greenFor_5 ?_
  refine z_aload_n (pc := 6) C 0 dX10_greenFor_6 rfl ?_
  refine z_iload_n (pc := 7) C 1 dX10_greenFor_7 rfl ?_
  refine z_bipush (pc := 8) (v := 7) C dX10_greenFor_8 (by decide) ?_
  refine z_callRi (pc := 10) C (z_runV (pc := 10) (wc := (wX10 cI cJ d v g)) (As := [.int x1, .int (7 : Int32)]) C (fun sz => kX10_at d v g x1 (7 : Int32) sz h) [0, 1, 2, 3, 4, 5, 6, 7, 8, 9, 10, 11] rfl (by decide) (gdV wq808 wq811 wq812 wq813 wq814) rfl rfl rfl hdX10_at 0 rfl rfl rfl ⟨Nat.le_of_ble_eq_true rfl, Nat.le_of_ble_eq_true rfl⟩ rfl (Nat.le_of_ble_eq_true rfl) ⟨Nat.zero_le _, Nat.zero_le _⟩ dX10_greenFor_10) [0, 1, 2, 3, 4, 5, 6, 7, 8, 9, 10, 11] rfl (by decide) (fun r2 u2 h => ?_)
  refine z_isub (pc := 13) C dX10_greenFor_13 ?_
  exact hret 14 _ _ ((v 1 3) - r2) () rfl h dX10_greenFor_14

def pX10_changes_J179 (x1 : Int32) (Q : Lf → Prop) (K2 : Lf → Int32 → Prop) (v : Lf) (x2 : Int32) : Prop := (K2 v (x2 + 1))
def pX10_changes_J118 (x1 : Int32) (Q : Lf → Prop) (K2 : Lf → Int32 → Prop) (v : Lf) (x2 : Int32) : Prop := (vp_in ((234 : Int32) + ((3 : Int32) * (v 1 15))) 372 ∧ (pX10_at (st v 1 (((234 : Int32) + ((3 : Int32) * (v 1 15))).toNatClampNeg) x2) x2 (7 : Int32) (fun r16 => (vp_in (((234 : Int32) + ((3 : Int32) * (v 1 15))) + (1 : Int32)) 372 ∧ (vp_in (((234 : Int32) + ((3 : Int32) * (v 1 15))) + (2 : Int32)) 372 ∧ (pX10_changes_J179 x1 Q K2 (st (st (st (st v 1 (((234 : Int32) + ((3 : Int32) * (v 1 15))).toNatClampNeg) x2) 1 ((((234 : Int32) + ((3 : Int32) * (v 1 15))) + (1 : Int32)).toNatClampNeg) r16) 1 ((((234 : Int32) + ((3 : Int32) * (v 1 15))) + (2 : Int32)).toNatClampNeg) ((st (st v 1 (((234 : Int32) + ((3 : Int32) * (v 1 15))).toNatClampNeg) x2) 1 ((((234 : Int32) + ((3 : Int32) * (v 1 15))) + (1 : Int32)).toNatClampNeg) r16) 1 3)) 1 15 (((st (st (st v 1 (((234 : Int32) + ((3 : Int32) * (v 1 15))).toNatClampNeg) x2) 1 ((((234 : Int32) + ((3 : Int32) * (v 1 15))) + (1 : Int32)).toNatClampNeg) r16) 1 ((((234 : Int32) + ((3 : Int32) * (v 1 15))) + (2 : Int32)).toNatClampNeg) ((st (st v 1 (((234 : Int32) + ((3 : Int32) * (v 1 15))).toNatClampNeg) x2) 1 ((((234 : Int32) + ((3 : Int32) * (v 1 15))) + (1 : Int32)).toNatClampNeg) r16) 1 3)) 1 15) + (1 : Int32))) x2))))))
def pX10_changes_L73 (x1 : Int32) (Q : Lf → Prop) (K2 : Lf → Int32 → Prop) : Nat → Lf → Int32 → Int32 → Prop
  | 0, _, _, _ => False
  | n73 + 1, v, x2, x3 => (((69 : Int32) ≤ x3 → (pX10_changes_J118 x1 Q K2 (st v 1 15 ((v 1 15) - (1 : Int32))) x2)) ∧ (¬ (69 : Int32) ≤ x3 → (vp_in (((234 : Int32) + x3) + (3 : Int32)) 372 ∧ (vp_in ((234 : Int32) + x3) 372 ∧ (pX10_changes_L73 x1 Q K2 n73 (st v 1 (((234 : Int32) + x3).toNatClampNeg) (v 1 (((234 : Int32) + x3) + (3 : Int32)).toNatClampNeg)) x2 (x3 + 1))))))
def pX10_changes_L2 (x1 : Int32) (Q : Lf → Prop) : Nat → Lf → Int32 → Prop
  | 0, _, _ => False
  | n2 + 1, v, x2 => (((v 1 13) ≤ x2 → (pX10_comesOn v x1 (fun v_3 => (Q v_3)))) ∧ (¬ (v 1 13) ≤ x2 → (pX10_at v x2 (6 : Int32) (fun r4 => ((r4 = 0 → (pX10_changes_J179 x1 Q (fun v x2 => pX10_changes_L2 x1 Q n2 v x2) v x2)) ∧ (¬ r4 = 0 → (pX10_setOf v x1 (fun r6 => (pX10_has r6 x2 (fun r7 => ((r7 = 0 → (pX10_puts v x2 (6 : Int32) (0 : Int32) (fun v_9 => (pX10_puts v_9 x2 (8 : Int32) (v_9 1 3) (fun v_11 => ((¬ (v_11 1 15) = (24 : Int32) → (pX10_changes_J118 x1 Q (fun v x2 => pX10_changes_L2 x1 Q n2 v x2) v_11 x2)) ∧ ((v_11 1 15) = (24 : Int32) → (∃ n73, pX10_changes_L73 x1 Q (fun v x2 => pX10_changes_L2 x1 Q n2 v x2) n73 v_11 x2 (0 : Int32))))))))) ∧ (¬ r7 = 0 → (pX10_changes_J179 x1 Q (fun v x2 => pX10_changes_L2 x1 Q n2 v x2) v x2)))))))))))))
def pX10_changes (v : Lf) (x1 : Int32) (Q : Lf → Prop) : Prop := (∃ n2, pX10_changes_L2 x1 Q  n2 v (0 : Int32))
abbrev rmX10_changes : Room := { frames := 1, cells := 0, slots := 0, locals := 23 }
abbrev wdX10_changes : List Cond := Cond.code yX10_changes cX10_changes 4 none :: TB
theorem hdSX10_changes : (yX10_changes).cls ≠ "java/lang/invoke/MethodHandle" ∧ (yX10_changes).cls ≠ "java/lang/invoke/VarHandle" ∧ (parseMethodDescriptor (yX10_changes).desc).map (fun d => d.parameters.length) = some 1 := by decide +kernel
theorem hdX10_changes : (yX10_changes).cls = RX10 ∧ (yX10_changes).cls ≠ "java/lang/invoke/MethodHandle" ∧ (yX10_changes).cls ≠ "java/lang/invoke/VarHandle" ∧ (parseMethodDescriptor (yX10_changes).desc).map (fun d => d.parameters.length) = some 1 := ⟨rfl, hdSX10_changes⟩
set_option maxHeartbeats 4000000 in
set_option maxRecDepth 100000 in
theorem kX10_changes {l : Launch} {D : va_G} {cI cJ cT : ClassId} (d : Nat → Nat)  (v : Lf) (g : Lg) (x1 : Int32) {Q : Lf → Prop} (sz : Nat) (h : pX10_changes v x1 Q) : Met l yX10_changes wdX10_changes rmX10_changes (Pz D (tyL cI cJ cT) [.ref (d 0), .int x1] (wX10 cI cJ d v g) sz) (va_Qv (fun (u : Lf) => Q u) (Bz D (tyL cI cJ cT) (wX10 cI cJ d v g) sz (fun (u : Lf) => (wX10 cI cJ d u g))) (va_A (wX10 cI cJ d v g) sz)) 0 0 (va_A (wX10 cI cJ d v g) sz) := by
  refine z_metv (cc := cX10_changes) (maxL := 4) (own := RX10) (lv0 := [(0, .ref (d 0)), (1, .int x1)]) (by decide) rfl rfl (Nat.le_of_ble_eq_true rfl) rfl ?_
  intro p e s m args below meth c A QQ C hin hret
  have J179 : ∀ (K2 : Lf → Int32 → Prop), (∀ (v : Lf) (x2 : Int32), K2 v x2 → ZZ p l e rmX10_changes s m args below meth c D A 4 0 0 QQ 2 (wX10 cI cJ d v g) [(0, .ref (d 0)), (1, .int x1), (2, .int x2)] []) → ∀ (v : Lf) (x2 : Int32), pX10_changes_J179 x1 Q K2 v x2 → ZZ p l e rmX10_changes s m args below meth c D A 4 0 0 QQ 179 (wX10 cI cJ d v g) [(0, .ref (d 0)), (1, .int x1), (2, .int x2)] [] := by
    intro K2 hK2 v x2 h
    refine z_iinc (pc := 179) (v := (x2 + 1)) (lv' := [(2, .int (x2 + 1)), (0, .ref (d 0)), (1, .int x1)]) C 2 dX10_changes_179 rfl rfl (by decide) rfl ?_
    refine z_goto (pc := 182) (tgt := 2) C dX10_changes_182 (by decide) ?_
    refine z_sub (lv' := [(0, .ref (d 0)), (1, .int x1), (2, .int (x2 + 1))]) [1, 2, 0] rfl ?_
    exact hK2 v (x2 + 1) h
  have J118 : ∀ (K2 : Lf → Int32 → Prop), (∀ (v : Lf) (x2 : Int32), K2 v x2 → ZZ p l e rmX10_changes s m args below meth c D A 4 0 0 QQ 2 (wX10 cI cJ d v g) [(0, .ref (d 0)), (1, .int x1), (2, .int x2)] []) → ∀ (v : Lf) (x2 : Int32), pX10_changes_J118 x1 Q K2 v x2 → ZZ p l e rmX10_changes s m args below meth c D A 4 0 0 QQ 118 (wX10 cI cJ d v g) [(0, .ref (d 0)), (1, .int x1), (2, .int x2)] [] := by
    intro K2 hK2 v x2 h
    refine z_sipush (pc := 118) (v := 234) C dX10_changes_118 (by decide) ?_
    refine z_iconst (pc := 121) (v := 3) C dX10_changes_121 (by decide) ?_
    refine z_aload_n (pc := 122) C 0 dX10_changes_122 rfl ?_
    refine z_get (pc := 123) C uw10 0 rfl rfl 0 (by decide) wq809 rfl dX10_changes_123 ?_
    refine z_bipush (pc := 126) (v := 15) C dX10_changes_126 (by decide) ?_
    refine z_iald (pc := 128) C 1 0 rfl rfl vi_15_372 (v 1 15) (congrArg _ cl_15) dX10_changes_128 ?_
    refine z_imul (pc := 129) C dX10_changes_129 ?_
    refine z_iadd (pc := 130) C dX10_changes_130 ?_
    refine z_istore_n (pc := 131) (lv' := [(3, .int ((234 : Int32) + ((3 : Int32) * (v 1 15)))), (0, .ref (d 0)), (1, .int x1), (2, .int x2)]) C dX10_changes_131 (by decide) rfl ?_
    refine z_aload_n (pc := 132) C 1 dX10_changes_132 rfl ?_
    refine z_get (pc := 133) C uw10 0 rfl rfl 0 (by decide) wq809 rfl dX10_changes_133 ?_
    refine z_iload_n (pc := 136) C 0 dX10_changes_136 rfl ?_
    refine z_iload_n (pc := 137) C 3 dX10_changes_137 rfl ?_
    obtain ⟨g15, h⟩ := h
    refine z_iast (pc := 138) (ws' := (wX10 cI cJ d (st v 1 (((234 : Int32) + ((3 : Int32) * (v 1 15))).toNatClampNeg) x2) g)) C 1 0 rfl rfl g15 dX10_changes_138 rfl sX10_a1 ?_
    refine z_aload_n (pc := 139) C 1 dX10_changes_139 rfl ?_
    refine z_get (pc := 140) C uw10 0 rfl rfl 0 (by decide) wq809 rfl dX10_changes_140 ?_
    refine z_iload_n (pc := 143) C 0 dX10_changes_143 rfl ?_
    refine z_iconst (pc := 144) (v := 1) C dX10_changes_144 (by decide) ?_
    refine z_iadd (pc := 145) C dX10_changes_145 ?_
    refine z_aload_n (pc := 146) C 1 dX10_changes_146 rfl ?_
    refine z_iload_n (pc := 147) C 3 dX10_changes_147 rfl ?_
    refine z_bipush (pc := 148) (v := 7) C dX10_changes_148 (by decide) ?_
    refine z_callRi (pc := 150) C (z_runV (pc := 150) (wc := (wX10 cI cJ d (st v 1 (((234 : Int32) + ((3 : Int32) * (v 1 15))).toNatClampNeg) x2) g)) (As := [.int x2, .int (7 : Int32)]) C (fun sz => kX10_at d (st v 1 (((234 : Int32) + ((3 : Int32) * (v 1 15))).toNatClampNeg) x2) g x2 (7 : Int32) sz h) [0, 1, 2, 3, 4, 5, 6, 7, 8, 9, 10, 11] rfl (by decide) (gdV wq808 wq811 wq812 wq813 wq814) rfl rfl rfl hdX10_at 0 rfl rfl rfl ⟨Nat.le_of_ble_eq_true rfl, Nat.le_of_ble_eq_true rfl⟩ rfl (Nat.le_of_ble_eq_true rfl) ⟨Nat.zero_le _, Nat.zero_le _⟩ dX10_changes_150) [0, 1, 2, 3, 4, 5, 6, 7, 8, 9, 10, 11] rfl (by decide) (fun r16 u16 h => ?_)
    obtain ⟨g17, h⟩ := h
    refine z_iast (pc := 153) (ws' := (wX10 cI cJ d (st (st v 1 (((234 : Int32) + ((3 : Int32) * (v 1 15))).toNatClampNeg) x2) 1 ((((234 : Int32) + ((3 : Int32) * (v 1 15))) + (1 : Int32)).toNatClampNeg) r16) g)) C 1 0 rfl rfl g17 dX10_changes_153 rfl sX10_a1 ?_
    refine z_aload_n (pc := 154) C 1 dX10_changes_154 rfl ?_
    refine z_get (pc := 155) C uw10 0 rfl rfl 0 (by decide) wq809 rfl dX10_changes_155 ?_
    refine z_iload_n (pc := 158) C 0 dX10_changes_158 rfl ?_
    refine z_iconst (pc := 159) (v := 2) C dX10_changes_159 (by decide) ?_
    refine z_iadd (pc := 160) C dX10_changes_160 ?_
    refine z_aload_n (pc := 161) C 1 dX10_changes_161 rfl ?_
    refine z_get (pc := 162) C uw10 0 rfl rfl 0 (by decide) wq809 rfl dX10_changes_162 ?_
    refine z_iconst (pc := 165) (v := 3) C dX10_changes_165 (by decide) ?_
    refine z_iald (pc := 166) C 1 0 rfl rfl vi_3_372 ((st (st v 1 (((234 : Int32) + ((3 : Int32) * (v 1 15))).toNatClampNeg) x2) 1 ((((234 : Int32) + ((3 : Int32) * (v 1 15))) + (1 : Int32)).toNatClampNeg) r16) 1 3) (congrArg _ cl_3) dX10_changes_166 ?_
    obtain ⟨g19, h⟩ := h
    refine z_iast (pc := 167) (ws' := (wX10 cI cJ d (st (st (st v 1 (((234 : Int32) + ((3 : Int32) * (v 1 15))).toNatClampNeg) x2) 1 ((((234 : Int32) + ((3 : Int32) * (v 1 15))) + (1 : Int32)).toNatClampNeg) r16) 1 ((((234 : Int32) + ((3 : Int32) * (v 1 15))) + (2 : Int32)).toNatClampNeg) ((st (st v 1 (((234 : Int32) + ((3 : Int32) * (v 1 15))).toNatClampNeg) x2) 1 ((((234 : Int32) + ((3 : Int32) * (v 1 15))) + (1 : Int32)).toNatClampNeg) r16) 1 3)) g)) C 1 0 rfl rfl g19 dX10_changes_167 rfl sX10_a1 ?_
    refine z_aload_n (pc := 168) C 1 dX10_changes_168 rfl ?_
    refine z_get (pc := 169) C uw10 0 rfl rfl 0 (by decide) wq809 rfl dX10_changes_169 ?_
    refine z_bipush (pc := 172) (v := 15) C dX10_changes_172 (by decide) ?_
    refine z_dup2 (pc := 174) C dX10_changes_174 rfl rfl ?_
    refine z_iald (pc := 175) C 1 0 rfl rfl vi_15_372 ((st (st (st v 1 (((234 : Int32) + ((3 : Int32) * (v 1 15))).toNatClampNeg) x2) 1 ((((234 : Int32) + ((3 : Int32) * (v 1 15))) + (1 : Int32)).toNatClampNeg) r16) 1 ((((234 : Int32) + ((3 : Int32) * (v 1 15))) + (2 : Int32)).toNatClampNeg) ((st (st v 1 (((234 : Int32) + ((3 : Int32) * (v 1 15))).toNatClampNeg) x2) 1 ((((234 : Int32) + ((3 : Int32) * (v 1 15))) + (1 : Int32)).toNatClampNeg) r16) 1 3)) 1 15) (congrArg _ cl_15) dX10_changes_175 ?_
    refine z_iconst (pc := 176) (v := 1) C dX10_changes_176 (by decide) ?_
    refine z_iadd (pc := 177) C dX10_changes_177 ?_
    refine z_iast (pc := 178) (ws' := (wX10 cI cJ d (st (st (st (st v 1 (((234 : Int32) + ((3 : Int32) * (v 1 15))).toNatClampNeg) x2) 1 ((((234 : Int32) + ((3 : Int32) * (v 1 15))) + (1 : Int32)).toNatClampNeg) r16) 1 ((((234 : Int32) + ((3 : Int32) * (v 1 15))) + (2 : Int32)).toNatClampNeg) ((st (st v 1 (((234 : Int32) + ((3 : Int32) * (v 1 15))).toNatClampNeg) x2) 1 ((((234 : Int32) + ((3 : Int32) * (v 1 15))) + (1 : Int32)).toNatClampNeg) r16) 1 3)) 1 15 (((st (st (st v 1 (((234 : Int32) + ((3 : Int32) * (v 1 15))).toNatClampNeg) x2) 1 ((((234 : Int32) + ((3 : Int32) * (v 1 15))) + (1 : Int32)).toNatClampNeg) r16) 1 ((((234 : Int32) + ((3 : Int32) * (v 1 15))) + (2 : Int32)).toNatClampNeg) ((st (st v 1 (((234 : Int32) + ((3 : Int32) * (v 1 15))).toNatClampNeg) x2) 1 ((((234 : Int32) + ((3 : Int32) * (v 1 15))) + (1 : Int32)).toNatClampNeg) r16) 1 3)) 1 15) + (1 : Int32))) g)) C 1 0 rfl rfl vi_15_372 dX10_changes_178 cl_15 sX10_a1 ?_
    refine z_sub (lv' := [(0, .ref (d 0)), (1, .int x1), (2, .int x2)]) [1, 2, 3] rfl ?_
    exact J179 K2 hK2 (st (st (st (st v 1 (((234 : Int32) + ((3 : Int32) * (v 1 15))).toNatClampNeg) x2) 1 ((((234 : Int32) + ((3 : Int32) * (v 1 15))) + (1 : Int32)).toNatClampNeg) r16) 1 ((((234 : Int32) + ((3 : Int32) * (v 1 15))) + (2 : Int32)).toNatClampNeg) ((st (st v 1 (((234 : Int32) + ((3 : Int32) * (v 1 15))).toNatClampNeg) x2) 1 ((((234 : Int32) + ((3 : Int32) * (v 1 15))) + (1 : Int32)).toNatClampNeg) r16) 1 3)) 1 15 (((st (st (st v 1 (((234 : Int32) + ((3 : Int32) * (v 1 15))).toNatClampNeg) x2) 1 ((((234 : Int32) + ((3 : Int32) * (v 1 15))) + (1 : Int32)).toNatClampNeg) r16) 1 ((((234 : Int32) + ((3 : Int32) * (v 1 15))) + (2 : Int32)).toNatClampNeg) ((st (st v 1 (((234 : Int32) + ((3 : Int32) * (v 1 15))).toNatClampNeg) x2) 1 ((((234 : Int32) + ((3 : Int32) * (v 1 15))) + (1 : Int32)).toNatClampNeg) r16) 1 3)) 1 15) + (1 : Int32))) x2 h
  have L73 : ∀ (K2 : Lf → Int32 → Prop), (∀ (v : Lf) (x2 : Int32), K2 v x2 → ZZ p l e rmX10_changes s m args below meth c D A 4 0 0 QQ 2 (wX10 cI cJ d v g) [(0, .ref (d 0)), (1, .int x1), (2, .int x2)] []) → ∀ (n73 : Nat) (v : Lf) (x2 : Int32) (x3 : Int32), pX10_changes_L73 x1 Q K2 n73 v x2 x3 → ZZ p l e rmX10_changes s m args below meth c D A 4 0 0 QQ 73 (wX10 cI cJ d v g) [(0, .ref (d 0)), (1, .int x1), (2, .int x2), (3, .int x3)] [] := by
    intro K2 hK2
    intro n73
    induction n73 with
    | zero => intro v x2 x3 h; exact False.elim h
    | succ n73 ih73 =>
      intro v x2 x3 h
      refine z_iload_n (pc := 73) C 3 dX10_changes_73 rfl ?_
      refine z_bipush (pc := 74) (v := 69) C dX10_changes_74 (by decide) ?_
      refine z_icmp_ge (pc := 76) (tgt := 107) C dX10_changes_76 (by decide) (fun c22 => ?_) (fun c22 => ?_)
      · have h := h.1 c22
        refine z_aload_n (pc := 107) C 0 dX10_changes_107 rfl ?_
        refine z_get (pc := 108) C uw10 0 rfl rfl 0 (by decide) wq809 rfl dX10_changes_108 ?_
        refine z_bipush (pc := 111) (v := 15) C dX10_changes_111 (by decide) ?_
        refine z_dup2 (pc := 113) C dX10_changes_113 rfl rfl ?_
        refine z_iald (pc := 114) C 1 0 rfl rfl vi_15_372 (v 1 15) (congrArg _ cl_15) dX10_changes_114 ?_
        refine z_iconst (pc := 115) (v := 1) C dX10_changes_115 (by decide) ?_
        refine z_isub (pc := 116) C dX10_changes_116 ?_
        refine z_iast (pc := 117) (ws' := (wX10 cI cJ d (st v 1 15 ((v 1 15) - (1 : Int32))) g)) C 1 0 rfl rfl vi_15_372 dX10_changes_117 cl_15 sX10_a1 ?_
        refine z_sub (lv' := [(0, .ref (d 0)), (1, .int x1), (2, .int x2)]) [0, 1, 2] rfl ?_
        exact J118 K2 hK2 (st v 1 15 ((v 1 15) - (1 : Int32))) x2 h
      · have h := h.2 c22
        refine z_aload_n (pc := 79) C 0 dX10_changes_79 rfl ?_
        refine z_get (pc := 80) C uw10 0 rfl rfl 0 (by decide) wq809 rfl dX10_changes_80 ?_
        refine z_sipush (pc := 83) (v := 234) C dX10_changes_83 (by decide) ?_
        refine z_iload_n (pc := 86) C 3 dX10_changes_86 rfl ?_
        refine z_iadd (pc := 87) C dX10_changes_87 ?_
        refine z_aload_n (pc := 88) C 0 dX10_changes_88 rfl ?_
        refine z_get (pc := 89) C uw10 0 rfl rfl 0 (by decide) wq809 rfl dX10_changes_89 ?_
        refine z_sipush (pc := 92) (v := 234) C dX10_changes_92 (by decide) ?_
        refine z_iload_n (pc := 95) C 3 dX10_changes_95 rfl ?_
        refine z_iadd (pc := 96) C dX10_changes_96 ?_
        refine z_iconst (pc := 97) (v := 3) C dX10_changes_97 (by decide) ?_
        refine z_iadd (pc := 98) C dX10_changes_98 ?_
        obtain ⟨g25, h⟩ := h
        refine z_iald (pc := 99) C 1 0 rfl rfl g25 (v 1 (((234 : Int32) + x3) + (3 : Int32)).toNatClampNeg) rfl dX10_changes_99 ?_
        obtain ⟨g26, h⟩ := h
        refine z_iast (pc := 100) (ws' := (wX10 cI cJ d (st v 1 (((234 : Int32) + x3).toNatClampNeg) (v 1 (((234 : Int32) + x3) + (3 : Int32)).toNatClampNeg)) g)) C 1 0 rfl rfl g26 dX10_changes_100 rfl sX10_a1 ?_
        refine z_iinc (pc := 101) (v := (x3 + 1)) (lv' := [(3, .int (x3 + 1)), (0, .ref (d 0)), (1, .int x1), (2, .int x2)]) C 3 dX10_changes_101 rfl rfl (by decide) rfl ?_
        refine z_goto (pc := 104) (tgt := 73) C dX10_changes_104 (by decide) ?_
        refine z_sub (lv' := [(0, .ref (d 0)), (1, .int x1), (2, .int x2), (3, .int (x3 + 1))]) [1, 2, 3, 0] rfl ?_
        exact ih73 (st v 1 (((234 : Int32) + x3).toNatClampNeg) (v 1 (((234 : Int32) + x3) + (3 : Int32)).toNatClampNeg)) x2 (x3 + 1) h
  have L2 : ∀ (n2 : Nat) (v : Lf) (x2 : Int32), pX10_changes_L2 x1 Q n2 v x2 → ZZ p l e rmX10_changes s m args below meth c D A 4 0 0 QQ 2 (wX10 cI cJ d v g) [(0, .ref (d 0)), (1, .int x1), (2, .int x2)] [] := by
    intro n2
    induction n2 with
    | zero => intro v x2 h; exact False.elim h
    | succ n2 ih2 =>
      intro v x2 h
      refine z_iload_n (pc := 2) C 2 dX10_changes_2 rfl ?_
      refine z_aload_n (pc := 3) C 0 dX10_changes_3 rfl ?_
      refine z_get (pc := 4) C uw10 0 rfl rfl 0 (by decide) wq809 rfl dX10_changes_4 ?_
      refine z_bipush (pc := 7) (v := 13) C dX10_changes_7 (by decide) ?_
      refine z_iald (pc := 9) C 1 0 rfl rfl vi_13_372 (v 1 13) (congrArg _ cl_13) dX10_changes_9 ?_
      refine z_icmp_ge (pc := 10) (tgt := 185) C dX10_changes_10 (by decide) (fun c2 => ?_) (fun c2 => ?_)
      · have h := h.1 c2
        refine z_aload_n (pc := 185) C 0 dX10_changes_185 rfl ?_
        refine z_iload_n (pc := 186) C 1 dX10_changes_186 rfl ?_
        refine z_callv (pc := 187) (wr := ([] : va_W)) (w1 := fun (u : Lf) => (wX10 cI cJ d u g)) (w2 := fun (u : Lf) => (wX10 cI cJ d u g)) C (z_runV (pc := 187) (wc := (wX10 cI cJ d v g)) (As := [.int x1]) C (fun sz => kX10_comesOn d v g x1 sz h) [0, 1, 2, 3, 4, 5, 6, 7, 8, 9, 10, 11] rfl (by decide) (gdV wq920 wq922 wq923 wq924 wq814) rfl rfl rfl hdX10_comesOn 0 rfl rfl rfl ⟨Nat.le_of_ble_eq_true rfl, Nat.le_of_ble_eq_true rfl⟩ rfl (Nat.le_of_ble_eq_true rfl) ⟨Nat.zero_le _, Nat.zero_le _⟩ dX10_changes_187) [0, 1, 2, 3, 4, 5, 6, 7, 8, 9, 10, 11] [] [0, 1, 2, 3, 4, 5, 6, 7, 8, 9, 10, 11] rfl rfl (by decide) (by decide) (fun _ => rfl) (by decide) (fun u3 h => ?_)
        obtain ⟨v_3, hu3⟩ : ∃ z, z = u3 := ⟨_, rfl⟩
        subst hu3
        exact hret 190 _ _ v_3 rfl h dX10_changes_190
      · have h := h.2 c2
        refine z_aload_n (pc := 13) C 0 dX10_changes_13 rfl ?_
        refine z_iload_n (pc := 14) C 2 dX10_changes_14 rfl ?_
        refine z_bipush (pc := 15) (v := 6) C dX10_changes_15 (by decide) ?_
        refine z_callRi (pc := 17) C (z_runV (pc := 17) (wc := (wX10 cI cJ d v g)) (As := [.int x2, .int (6 : Int32)]) C (fun sz => kX10_at d v g x2 (6 : Int32) sz h) [0, 1, 2, 3, 4, 5, 6, 7, 8, 9, 10, 11] rfl (by decide) (gdV wq808 wq811 wq812 wq813 wq814) rfl rfl rfl hdX10_at 0 rfl rfl rfl ⟨Nat.le_of_ble_eq_true rfl, Nat.le_of_ble_eq_true rfl⟩ rfl (Nat.le_of_ble_eq_true rfl) ⟨Nat.zero_le _, Nat.zero_le _⟩ dX10_changes_17) [0, 1, 2, 3, 4, 5, 6, 7, 8, 9, 10, 11] rfl (by decide) (fun r4 u4 h => ?_)
        refine z_if_eq (pc := 20) (tgt := 179) C dX10_changes_20 (by decide) (fun c5 => ?_) (fun c5 => ?_)
        · have h := h.1 c5
          exact J179 (fun v x2 => pX10_changes_L2 x1 Q n2 v x2) ih2 v x2 h
        · have h := h.2 c5
          refine z_aload_n (pc := 23) C 0 dX10_changes_23 rfl ?_
          refine z_iload_n (pc := 24) C 1 dX10_changes_24 rfl ?_
          refine z_callRi (pc := 25) C (z_runV (pc := 25) (wc := (wX10 cI cJ d v g)) (As := [.int x1]) C (fun sz => kX10_setOf d v g x1 sz h) [0, 1, 2, 3, 4, 5, 6, 7, 8, 9, 10, 11] rfl (by decide) (gdV wq856 wq937 wq938 wq939 wq814) rfl rfl rfl hdX10_setOf 0 rfl rfl rfl ⟨Nat.le_of_ble_eq_true rfl, Nat.le_of_ble_eq_true rfl⟩ rfl (Nat.le_of_ble_eq_true rfl) ⟨Nat.zero_le _, Nat.zero_le _⟩ dX10_changes_25) [0, 1, 2, 3, 4, 5, 6, 7, 8, 9, 10, 11] rfl (by decide) (fun r6 u6 h => ?_)
          refine z_iload_n (pc := 28) C 2 dX10_changes_28 rfl ?_
          refine z_call0i (pc := 29) C (z_runS (pc := 29) (wc := ([] : va_W)) (As := [.int r6, .int x2]) C (fun sz => kX10_has r6 x2 sz h) [] rfl (by decide) (gdS wq850 wq911 wq912 wq814) rfl rfl rfl hdSX10_has ⟨Nat.le_of_ble_eq_true rfl, Nat.le_of_ble_eq_true rfl⟩ rfl (Nat.le_of_ble_eq_true rfl) ⟨Nat.zero_le _, Nat.zero_le _⟩ dX10_changes_29) (fun r7 u7 h => ?_)
          refine z_if_eq (pc := 32) (tgt := 38) C dX10_changes_32 (by decide) (fun c8 => ?_) (fun c8 => ?_)
          · have h := h.1 c8
            refine z_aload_n (pc := 38) C 0 dX10_changes_38 rfl ?_
            refine z_iload_n (pc := 39) C 2 dX10_changes_39 rfl ?_
            refine z_bipush (pc := 40) (v := 6) C dX10_changes_40 (by decide) ?_
            refine z_iconst (pc := 42) (v := 0) C dX10_changes_42 (by decide) ?_
            refine z_callv (pc := 43) (wr := ([] : va_W)) (w1 := fun (u : Lf) => (wX10 cI cJ d u g)) (w2 := fun (u : Lf) => (wX10 cI cJ d u g)) C (z_runV (pc := 43) (wc := (wX10 cI cJ d v g)) (As := [.int x2, .int (6 : Int32), .int (0 : Int32)]) C (fun sz => kX10_puts d v g x2 (6 : Int32) (0 : Int32) sz h) [0, 1, 2, 3, 4, 5, 6, 7, 8, 9, 10, 11] rfl (by decide) (gdV wq855 wq864 wq865 wq866 wq814) rfl rfl rfl hdX10_puts 0 rfl rfl rfl ⟨Nat.le_of_ble_eq_true rfl, Nat.le_of_ble_eq_true rfl⟩ rfl (Nat.le_of_ble_eq_true rfl) ⟨Nat.zero_le _, Nat.zero_le _⟩ dX10_changes_43) [0, 1, 2, 3, 4, 5, 6, 7, 8, 9, 10, 11] [] [0, 1, 2, 3, 4, 5, 6, 7, 8, 9, 10, 11] rfl rfl (by decide) (by decide) (fun _ => rfl) (by decide) (fun u9 h => ?_)
            obtain ⟨v_9, hu9⟩ : ∃ z, z = u9 := ⟨_, rfl⟩
            subst hu9
            refine z_aload_n (pc := 46) C 0 dX10_changes_46 rfl ?_
            refine z_iload_n (pc := 47) C 2 dX10_changes_47 rfl ?_
            refine z_bipush (pc := 48) (v := 8) C dX10_changes_48 (by decide) ?_
            refine z_aload_n (pc := 50) C 0 dX10_changes_50 rfl ?_
            refine z_get (pc := 51) C uw10 0 rfl rfl 0 (by decide) wq809 rfl dX10_changes_51 ?_
            refine z_iconst (pc := 54) (v := 3) C dX10_changes_54 (by decide) ?_
            refine z_iald (pc := 55) C 1 0 rfl rfl vi_3_372 (v_9 1 3) (congrArg _ cl_3) dX10_changes_55 ?_
            refine z_callv (pc := 56) (wr := ([] : va_W)) (w1 := fun (u : Lf) => (wX10 cI cJ d u g)) (w2 := fun (u : Lf) => (wX10 cI cJ d u g)) C (z_runV (pc := 56) (wc := (wX10 cI cJ d v_9 g)) (As := [.int x2, .int (8 : Int32), .int (v_9 1 3)]) C (fun sz => kX10_puts d v_9 g x2 (8 : Int32) (v_9 1 3) sz h) [0, 1, 2, 3, 4, 5, 6, 7, 8, 9, 10, 11] rfl (by decide) (gdV wq855 wq864 wq865 wq866 wq814) rfl rfl rfl hdX10_puts 0 rfl rfl rfl ⟨Nat.le_of_ble_eq_true rfl, Nat.le_of_ble_eq_true rfl⟩ rfl (Nat.le_of_ble_eq_true rfl) ⟨Nat.zero_le _, Nat.zero_le _⟩ dX10_changes_56) [0, 1, 2, 3, 4, 5, 6, 7, 8, 9, 10, 11] [] [0, 1, 2, 3, 4, 5, 6, 7, 8, 9, 10, 11] rfl rfl (by decide) (by decide) (fun _ => rfl) (by decide) (fun u11 h => ?_)
            obtain ⟨v_11, hu11⟩ : ∃ z, z = u11 := ⟨_, rfl⟩
            subst hu11
            refine z_aload_n (pc := 59) C 0 dX10_changes_59 rfl ?_
            refine z_get (pc := 60) C uw10 0 rfl rfl 0 (by decide) wq809 rfl dX10_changes_60 ?_
            refine z_bipush (pc := 63) (v := 15) C dX10_changes_63 (by decide) ?_
            refine z_iald (pc := 65) C 1 0 rfl rfl vi_15_372 (v_11 1 15) (congrArg _ cl_15) dX10_changes_65 ?_
            refine z_bipush (pc := 66) (v := 24) C dX10_changes_66 (by decide) ?_
            refine z_icmp_ne (pc := 68) (tgt := 118) C dX10_changes_68 (by decide) (fun c13 => ?_) (fun c13 => ?_)
            · have h := h.1 c13
              exact J118 (fun v x2 => pX10_changes_L2 x1 Q n2 v x2) ih2 v_11 x2 h
            · have h := h.2 c13
              refine z_iconst (pc := 71) (v := 0) C dX10_changes_71 (by decide) ?_
              refine z_istore_n (pc := 72) (lv' := [(3, .int (0 : Int32)), (0, .ref (d 0)), (1, .int x1), (2, .int x2)]) C dX10_changes_72 (by decide) rfl ?_
              obtain ⟨n73, h⟩ := h
              refine z_sub (lv' := [(0, .ref (d 0)), (1, .int x1), (2, .int x2), (3, .int (0 : Int32))]) [1, 2, 3, 0] rfl ?_
              exact L73 (fun v x2 => pX10_changes_L2 x1 Q n2 v x2) ih2 n73 v_11 x2 (0 : Int32) h
          · have h := h.2 c8
            refine z_goto (pc := 35) (tgt := 179) C dX10_changes_35 (by decide) ?_
            exact J179 (fun v x2 => pX10_changes_L2 x1 Q n2 v x2) ih2 v x2 h
  refine z_iconst (pc := 0) (v := 0) C dX10_changes_0 (by decide) ?_
  refine z_istore_n (pc := 1) (lv' := [(2, .int (0 : Int32)), (0, .ref (d 0)), (1, .int x1)]) C dX10_changes_1 (by decide) rfl ?_
  obtain ⟨n2, h⟩ := h
  refine z_sub (lv' := [(0, .ref (d 0)), (1, .int x1), (2, .int (0 : Int32))]) [1, 2, 0] rfl ?_
  exact L2  n2 v (0 : Int32) h

def pX10_changesByEmergency_J120 (Q : Lf → Prop) (v : Lf) : Prop := (pX10_firstWith v (v 1 6) (fun r12 => (pX10_changes v r12 (fun v_13 => (Q v_13)))))
def pX10_changesByEmergency_J86 (Q : Lf → Prop) (K33 : Lf → Int32 → Int32 → Int32 → Prop) (v : Lf) (x1 : Int32) (x3 : Int32) (t0 : Int32) (t1 : Int32) : Prop := (K33 v x1 (t0 &&& t1) (x3 + 1))
def pX10_changesByEmergency_J81 (Q : Lf → Prop) (K33 : Lf → Int32 → Int32 → Int32 → Prop) (v : Lf) (x1 : Int32) (x3 : Int32) (t0 : Int32) : Prop := (pX10_changesByEmergency_J86  Q K33 v x1 x3 t0 (1 : Int32))
def pX10_changesByEmergency_L33 (Q : Lf → Prop) : Nat → Lf → Int32 → Int32 → Int32 → Prop
  | 0, _, _, _, _ => False
  | n33 + 1, v, x1, x2, x3 => (((v 1 13) ≤ x3 → ((¬ x2 = 0 → ((0 ≤ (v 1 5) → (pX10_changesByEmergency_J120  Q  v)) ∧ (¬ 0 ≤ (v 1 5) → (pX10_changesByEmergency_J120  Q  (st v 1 5 (v 1 4)))))) ∧ (x2 = 0 → (Q v)))) ∧ (¬ (v 1 13) ≤ x3 → (pX10_has x1 x3 (fun r16 => ((r16 = 0 → (pX10_changesByEmergency_J81  Q (fun v x1 x2 x3 => pX10_changesByEmergency_L33 Q n33 v x1 x2 x3) v x1 x3 x2)) ∧ (¬ r16 = 0 → (pX10_at v x3 (6 : Int32) (fun r18 => ((r18 = 0 → (pX10_changesByEmergency_J81  Q (fun v x1 x2 x3 => pX10_changesByEmergency_L33 Q n33 v x1 x2 x3) v x1 x3 x2)) ∧ (¬ r18 = 0 → (pX10_greenFor v x3 (fun r20 => (pX10_at v x3 (1 : Int32) (fun r21 => ((r20 < ((r21 + (1 : Int32)) / (2 : Int32)) → (pX10_changesByEmergency_J86  Q (fun v x1 x2 x3 => pX10_changesByEmergency_L33 Q n33 v x1 x2 x3) v x1 x3 x2 (0 : Int32))) ∧ (¬ r20 < ((r21 + (1 : Int32)) / (2 : Int32)) → (pX10_changesByEmergency_J81  Q (fun v x1 x2 x3 => pX10_changesByEmergency_L33 Q n33 v x1 x2 x3) v x1 x3 x2)))))))))))))))))
def pX10_changesByEmergency_J30 (Q : Lf → Prop) (v : Lf) (x1 : Int32) (t0 : Int32) : Prop := (∃ n33, pX10_changesByEmergency_L33  Q  n33 v x1 t0 (0 : Int32))
def pX10_changesByEmergency (v : Lf)  (Q : Lf → Prop) : Prop := (pX10_setOf v (v 1 4) (fun r2 => (pX10_has r2 (v 1 6) (fun r4 => ((¬ r4 = 0 → (pX10_changesByEmergency_J30  Q  v r2 (0 : Int32))) ∧ (r4 = 0 → (pX10_changesByEmergency_J30  Q  v r2 (1 : Int32))))))))
abbrev rmX10_changesByEmergency : Room := { frames := 2, cells := 0, slots := 0, locals := 46 }
abbrev wdX10_changesByEmergency : List Cond := Cond.code yX10_changesByEmergency cX10_changesByEmergency 4 none :: TB
theorem hdSX10_changesByEmergency : (yX10_changesByEmergency).cls ≠ "java/lang/invoke/MethodHandle" ∧ (yX10_changesByEmergency).cls ≠ "java/lang/invoke/VarHandle" ∧ (parseMethodDescriptor (yX10_changesByEmergency).desc).map (fun d => d.parameters.length) = some 0 := by decide +kernel
theorem hdX10_changesByEmergency : (yX10_changesByEmergency).cls = RX10 ∧ (yX10_changesByEmergency).cls ≠ "java/lang/invoke/MethodHandle" ∧ (yX10_changesByEmergency).cls ≠ "java/lang/invoke/VarHandle" ∧ (parseMethodDescriptor (yX10_changesByEmergency).desc).map (fun d => d.parameters.length) = some 0 := ⟨rfl, hdSX10_changesByEmergency⟩
set_option maxHeartbeats 4000000 in
set_option maxRecDepth 100000 in
theorem kX10_changesByEmergency {l : Launch} {D : va_G} {cI cJ cT : ClassId} (d : Nat → Nat)  (v : Lf) (g : Lg)  {Q : Lf → Prop} (sz : Nat) (h : pX10_changesByEmergency v Q) : Met l yX10_changesByEmergency wdX10_changesByEmergency rmX10_changesByEmergency (Pz D (tyL cI cJ cT) [.ref (d 0)] (wX10 cI cJ d v g) sz) (va_Qv (fun (u : Lf) => Q u) (Bz D (tyL cI cJ cT) (wX10 cI cJ d v g) sz (fun (u : Lf) => (wX10 cI cJ d u g))) (va_A (wX10 cI cJ d v g) sz)) 0 0 (va_A (wX10 cI cJ d v g) sz) := by
  refine z_metv (cc := cX10_changesByEmergency) (maxL := 4) (own := RX10) (lv0 := [(0, .ref (d 0))]) (by decide) rfl rfl (Nat.le_of_ble_eq_true rfl) rfl ?_
  intro p e s m args below meth c A QQ C hin hret
  have J120 : ∀ (v : Lf), pX10_changesByEmergency_J120 Q v → ZZ p l e rmX10_changesByEmergency s m args below meth c D A 4 0 0 QQ 120 (wX10 cI cJ d v g) [(0, .ref (d 0))] [] := by
    intro  v h
    refine z_aload_n (pc := 120) C 0 dX10_changesByEmergency_120 rfl ?_
    refine z_aload_n (pc := 121) C 0 dX10_changesByEmergency_121 rfl ?_
    refine z_aload_n (pc := 122) C 0 dX10_changesByEmergency_122 rfl ?_
    refine z_get (pc := 123) C uw10 0 rfl rfl 0 (by decide) wq809 rfl dX10_changesByEmergency_123 ?_
    refine z_bipush (pc := 126) (v := 6) C dX10_changesByEmergency_126 (by decide) ?_
    refine z_iald (pc := 128) C 1 0 rfl rfl vi_6_372 (v 1 6) (congrArg _ cl_6) dX10_changesByEmergency_128 ?_
    refine z_callRi (pc := 129) C (z_runV (pc := 129) (wc := (wX10 cI cJ d v g)) (As := [.int (v 1 6)]) C (fun sz => kX10_firstWith d v g (v 1 6) sz h) [0, 1, 2, 3, 4, 5, 6, 7, 8, 9, 10, 11] rfl (by decide) (gdV wq944 wq950 wq951 wq952 wq814) rfl rfl rfl hdX10_firstWith 0 rfl rfl rfl ⟨Nat.le_of_ble_eq_true rfl, Nat.le_of_ble_eq_true rfl⟩ rfl (Nat.le_of_ble_eq_true rfl) ⟨Nat.zero_le _, Nat.zero_le _⟩ dX10_changesByEmergency_129) [0, 1, 2, 3, 4, 5, 6, 7, 8, 9, 10, 11] rfl (by decide) (fun r12 u12 h => ?_)
    refine z_callv (pc := 132) (wr := ([] : va_W)) (w1 := fun (u : Lf) => (wX10 cI cJ d u g)) (w2 := fun (u : Lf) => (wX10 cI cJ d u g)) C (z_runV (pc := 132) (wc := (wX10 cI cJ d v g)) (As := [.int r12]) C (fun sz => kX10_changes d v g r12 sz h) [0, 1, 2, 3, 4, 5, 6, 7, 8, 9, 10, 11] rfl (by decide) (gdV wq946 wq953 wq954 wq955 wq814) rfl rfl rfl hdX10_changes 0 rfl rfl rfl ⟨Nat.le_of_ble_eq_true rfl, Nat.le_of_ble_eq_true rfl⟩ rfl (Nat.le_of_ble_eq_true rfl) ⟨Nat.zero_le _, Nat.zero_le _⟩ dX10_changesByEmergency_132) [0, 1, 2, 3, 4, 5, 6, 7, 8, 9, 10, 11] [] [0, 1, 2, 3, 4, 5, 6, 7, 8, 9, 10, 11] rfl rfl (by decide) (by decide) (fun _ => rfl) (by decide) (fun u13 h => ?_)
    obtain ⟨v_13, hu13⟩ : ∃ z, z = u13 := ⟨_, rfl⟩
    subst hu13
    exact hret 135 _ _ v_13 rfl h dX10_changesByEmergency_135
  have J86 : ∀ (K33 : Lf → Int32 → Int32 → Int32 → Prop), (∀ (v : Lf) (x1 : Int32) (x2 : Int32) (x3 : Int32), K33 v x1 x2 x3 → ZZ p l e rmX10_changesByEmergency s m args below meth c D A 4 0 0 QQ 33 (wX10 cI cJ d v g) [(0, .ref (d 0)), (1, .int x1), (2, .int x2), (3, .int x3)] []) → ∀ (v : Lf) (x1 : Int32) (x3 : Int32) (t0 : Int32) (t1 : Int32), pX10_changesByEmergency_J86 Q K33 v x1 x3 t0 t1 → ZZ p l e rmX10_changesByEmergency s m args below meth c D A 4 0 0 QQ 86 (wX10 cI cJ d v g) [(0, .ref (d 0)), (1, .int x1), (3, .int x3)] [.int t1, .int t0] := by
    intro K33 hK33 v x1 x3 t0 t1 h
    refine z_iand (pc := 86) C dX10_changesByEmergency_86 ?_
    refine z_istore_n (pc := 87) (lv' := [(2, .int (t0 &&& t1)), (0, .ref (d 0)), (1, .int x1), (3, .int x3)]) C dX10_changesByEmergency_87 (by decide) rfl ?_
    refine z_iinc (pc := 88) (v := (x3 + 1)) (lv' := [(3, .int (x3 + 1)), (2, .int (t0 &&& t1)), (0, .ref (d 0)), (1, .int x1)]) C 3 dX10_changesByEmergency_88 rfl rfl (by decide) rfl ?_
    refine z_goto (pc := 91) (tgt := 33) C dX10_changesByEmergency_91 (by decide) ?_
    refine z_sub (lv' := [(0, .ref (d 0)), (1, .int x1), (2, .int (t0 &&& t1)), (3, .int (x3 + 1))]) [2, 3, 1, 0] rfl ?_
    exact hK33 v x1 (t0 &&& t1) (x3 + 1) h
  have J81 : ∀ (K33 : Lf → Int32 → Int32 → Int32 → Prop), (∀ (v : Lf) (x1 : Int32) (x2 : Int32) (x3 : Int32), K33 v x1 x2 x3 → ZZ p l e rmX10_changesByEmergency s m args below meth c D A 4 0 0 QQ 33 (wX10 cI cJ d v g) [(0, .ref (d 0)), (1, .int x1), (2, .int x2), (3, .int x3)] []) → ∀ (v : Lf) (x1 : Int32) (x3 : Int32) (t0 : Int32), pX10_changesByEmergency_J81 Q K33 v x1 x3 t0 → ZZ p l e rmX10_changesByEmergency s m args below meth c D A 4 0 0 QQ 81 (wX10 cI cJ d v g) [(0, .ref (d 0)), (1, .int x1), (3, .int x3)] [.int t0] := by
    intro K33 hK33 v x1 x3 t0 h
    refine z_iconst (pc := 81) (v := 1) C dX10_changesByEmergency_81 (by decide) ?_
    refine z_goto (pc := 82) (tgt := 86) C dX10_changesByEmergency_82 (by decide) ?_
    exact J86 K33 hK33 v x1 x3 t0 (1 : Int32) h
  have L33 : ∀ (n33 : Nat) (v : Lf) (x1 : Int32) (x2 : Int32) (x3 : Int32), pX10_changesByEmergency_L33 Q n33 v x1 x2 x3 → ZZ p l e rmX10_changesByEmergency s m args below meth c D A 4 0 0 QQ 33 (wX10 cI cJ d v g) [(0, .ref (d 0)), (1, .int x1), (2, .int x2), (3, .int x3)] [] := by
    intro n33
    induction n33 with
    | zero => intro v x1 x2 x3 h; exact False.elim h
    | succ n33 ih33 =>
      intro v x1 x2 x3 h
      refine z_iload_n (pc := 33) C 3 dX10_changesByEmergency_33 rfl ?_
      refine z_aload_n (pc := 34) C 0 dX10_changesByEmergency_34 rfl ?_
      refine z_get (pc := 35) C uw10 0 rfl rfl 0 (by decide) wq809 rfl dX10_changesByEmergency_35 ?_
      refine z_bipush (pc := 38) (v := 13) C dX10_changesByEmergency_38 (by decide) ?_
      refine z_iald (pc := 40) C 1 0 rfl rfl vi_13_372 (v 1 13) (congrArg _ cl_13) dX10_changesByEmergency_40 ?_
      refine z_icmp_ge (pc := 41) (tgt := 94) C dX10_changesByEmergency_41 (by decide) (fun c7 => ?_) (fun c7 => ?_)
      · have h := h.1 c7
        refine z_iload_n (pc := 94) C 2 dX10_changesByEmergency_94 rfl ?_
        refine z_if_ne (pc := 95) (tgt := 99) C dX10_changesByEmergency_95 (by decide) (fun c8 => ?_) (fun c8 => ?_)
        · have h := h.1 c8
          refine z_aload_n (pc := 99) C 0 dX10_changesByEmergency_99 rfl ?_
          refine z_get (pc := 100) C uw10 0 rfl rfl 0 (by decide) wq809 rfl dX10_changesByEmergency_100 ?_
          refine z_iconst (pc := 103) (v := 5) C dX10_changesByEmergency_103 (by decide) ?_
          refine z_iald (pc := 104) C 1 0 rfl rfl vi_5_372 (v 1 5) (congrArg _ cl_5) dX10_changesByEmergency_104 ?_
          refine z_if_ge (pc := 105) (tgt := 120) C dX10_changesByEmergency_105 (by decide) (fun c10 => ?_) (fun c10 => ?_)
          · have h := h.1 c10
            refine z_sub (lv' := [(0, .ref (d 0))]) [0] rfl ?_
            exact J120  v h
          · have h := h.2 c10
            refine z_aload_n (pc := 108) C 0 dX10_changesByEmergency_108 rfl ?_
            refine z_get (pc := 109) C uw10 0 rfl rfl 0 (by decide) wq809 rfl dX10_changesByEmergency_109 ?_
            refine z_iconst (pc := 112) (v := 5) C dX10_changesByEmergency_112 (by decide) ?_
            refine z_aload_n (pc := 113) C 0 dX10_changesByEmergency_113 rfl ?_
            refine z_get (pc := 114) C uw10 0 rfl rfl 0 (by decide) wq809 rfl dX10_changesByEmergency_114 ?_
            refine z_iconst (pc := 117) (v := 4) C dX10_changesByEmergency_117 (by decide) ?_
            refine z_iald (pc := 118) C 1 0 rfl rfl vi_4_372 (v 1 4) (congrArg _ cl_4) dX10_changesByEmergency_118 ?_
            refine z_iast (pc := 119) (ws' := (wX10 cI cJ d (st v 1 5 (v 1 4)) g)) C 1 0 rfl rfl vi_5_372 dX10_changesByEmergency_119 cl_5 sX10_a1 ?_
            refine z_sub (lv' := [(0, .ref (d 0))]) [0] rfl ?_
            exact J120  (st v 1 5 (v 1 4)) h
        · have h := h.2 c8
          exact hret 98 _ _ v rfl h dX10_changesByEmergency_98
      · have h := h.2 c7
        refine z_iload_n (pc := 44) C 2 dX10_changesByEmergency_44 rfl ?_
        refine z_iload_n (pc := 45) C 1 dX10_changesByEmergency_45 rfl ?_
        refine z_iload_n (pc := 46) C 3 dX10_changesByEmergency_46 rfl ?_
        refine z_call0i (pc := 47) C (z_runS (pc := 47) (wc := ([] : va_W)) (As := [.int x1, .int x3]) C (fun sz => kX10_has x1 x3 sz h) [] rfl (by decide) (gdS wq850 wq911 wq912 wq814) rfl rfl rfl hdSX10_has ⟨Nat.le_of_ble_eq_true rfl, Nat.le_of_ble_eq_true rfl⟩ rfl (Nat.le_of_ble_eq_true rfl) ⟨Nat.zero_le _, Nat.zero_le _⟩ dX10_changesByEmergency_47) (fun r16 u16 h => ?_)
        refine z_if_eq (pc := 50) (tgt := 81) C dX10_changesByEmergency_50 (by decide) (fun c17 => ?_) (fun c17 => ?_)
        · have h := h.1 c17
          refine z_sub (lv' := [(0, .ref (d 0)), (1, .int x1), (3, .int x3)]) [0, 1, 3] rfl ?_
          exact J81 (fun v x1 x2 x3 => pX10_changesByEmergency_L33 Q n33 v x1 x2 x3) ih33 v x1 x3 x2 h
        · have h := h.2 c17
          refine z_aload_n (pc := 53) C 0 dX10_changesByEmergency_53 rfl ?_
          refine z_iload_n (pc := 54) C 3 dX10_changesByEmergency_54 rfl ?_
          refine z_bipush (pc := 55) (v := 6) C dX10_changesByEmergency_55 (by decide) ?_
          refine z_callRi (pc := 57) C (z_runV (pc := 57) (wc := (wX10 cI cJ d v g)) (As := [.int x3, .int (6 : Int32)]) C (fun sz => kX10_at d v g x3 (6 : Int32) sz h) [0, 1, 2, 3, 4, 5, 6, 7, 8, 9, 10, 11] rfl (by decide) (gdV wq808 wq811 wq812 wq813 wq814) rfl rfl rfl hdX10_at 0 rfl rfl rfl ⟨Nat.le_of_ble_eq_true rfl, Nat.le_of_ble_eq_true rfl⟩ rfl (Nat.le_of_ble_eq_true rfl) ⟨Nat.zero_le _, Nat.zero_le _⟩ dX10_changesByEmergency_57) [0, 1, 2, 3, 4, 5, 6, 7, 8, 9, 10, 11] rfl (by decide) (fun r18 u18 h => ?_)
          refine z_if_eq (pc := 60) (tgt := 81) C dX10_changesByEmergency_60 (by decide) (fun c19 => ?_) (fun c19 => ?_)
          · have h := h.1 c19
            refine z_sub (lv' := [(0, .ref (d 0)), (1, .int x1), (3, .int x3)]) [0, 1, 3] rfl ?_
            exact J81 (fun v x1 x2 x3 => pX10_changesByEmergency_L33 Q n33 v x1 x2 x3) ih33 v x1 x3 x2 h
          · have h := h.2 c19
            refine z_aload_n (pc := 63) C 0 dX10_changesByEmergency_63 rfl ?_
            refine z_iload_n (pc := 64) C 3 dX10_changesByEmergency_64 rfl ?_
            refine z_callRi (pc := 65) C (z_runV (pc := 65) (wc := (wX10 cI cJ d v g)) (As := [.int x3]) C (fun sz => kX10_greenFor d v g x3 sz h) [0, 1, 2, 3, 4, 5, 6, 7, 8, 9, 10, 11] rfl (by decide) (gdV wq945 wq947 wq948 wq949 wq814) rfl rfl rfl hdX10_greenFor 0 rfl rfl rfl ⟨Nat.le_of_ble_eq_true rfl, Nat.le_of_ble_eq_true rfl⟩ rfl (Nat.le_of_ble_eq_true rfl) ⟨Nat.zero_le _, Nat.zero_le _⟩ dX10_changesByEmergency_65) [0, 1, 2, 3, 4, 5, 6, 7, 8, 9, 10, 11] rfl (by decide) (fun r20 u20 h => ?_)
            refine z_aload_n (pc := 68) C 0 dX10_changesByEmergency_68 rfl ?_
            refine z_iload_n (pc := 69) C 3 dX10_changesByEmergency_69 rfl ?_
            refine z_iconst (pc := 70) (v := 1) C dX10_changesByEmergency_70 (by decide) ?_
            refine z_callRi (pc := 71) C (z_runV (pc := 71) (wc := (wX10 cI cJ d v g)) (As := [.int x3, .int (1 : Int32)]) C (fun sz => kX10_at d v g x3 (1 : Int32) sz h) [0, 1, 2, 3, 4, 5, 6, 7, 8, 9, 10, 11] rfl (by decide) (gdV wq808 wq811 wq812 wq813 wq814) rfl rfl rfl hdX10_at 0 rfl rfl rfl ⟨Nat.le_of_ble_eq_true rfl, Nat.le_of_ble_eq_true rfl⟩ rfl (Nat.le_of_ble_eq_true rfl) ⟨Nat.zero_le _, Nat.zero_le _⟩ dX10_changesByEmergency_71) [0, 1, 2, 3, 4, 5, 6, 7, 8, 9, 10, 11] rfl (by decide) (fun r21 u21 h => ?_)
            refine z_iconst (pc := 74) (v := 1) C dX10_changesByEmergency_74 (by decide) ?_
            refine z_iadd (pc := 75) C dX10_changesByEmergency_75 ?_
            refine z_iconst (pc := 76) (v := 2) C dX10_changesByEmergency_76 (by decide) ?_
            refine z_idiv (pc := 77) C dX10_changesByEmergency_77 (by decide) ?_
            refine z_icmp_lt (pc := 78) (tgt := 85) C dX10_changesByEmergency_78 (by decide) (fun c22 => ?_) (fun c22 => ?_)
            · have h := h.1 c22
              refine z_iconst (pc := 85) (v := 0) C dX10_changesByEmergency_85 (by decide) ?_
              refine z_sub (lv' := [(0, .ref (d 0)), (1, .int x1), (3, .int x3)]) [0, 1, 3] rfl ?_
              exact J86 (fun v x1 x2 x3 => pX10_changesByEmergency_L33 Q n33 v x1 x2 x3) ih33 v x1 x3 x2 (0 : Int32) h
            · have h := h.2 c22
              refine z_sub (lv' := [(0, .ref (d 0)), (1, .int x1), (3, .int x3)]) [0, 1, 3] rfl ?_
              exact J81 (fun v x1 x2 x3 => pX10_changesByEmergency_L33 Q n33 v x1 x2 x3) ih33 v x1 x3 x2 h
  have J30 : ∀ (v : Lf) (x1 : Int32) (t0 : Int32), pX10_changesByEmergency_J30 Q v x1 t0 → ZZ p l e rmX10_changesByEmergency s m args below meth c D A 4 0 0 QQ 30 (wX10 cI cJ d v g) [(0, .ref (d 0)), (1, .int x1)] [.int t0] := by
    intro  v x1 t0 h
    refine z_istore_n (pc := 30) (lv' := [(2, .int t0), (0, .ref (d 0)), (1, .int x1)]) C dX10_changesByEmergency_30 (by decide) rfl ?_
    refine z_iconst (pc := 31) (v := 0) C dX10_changesByEmergency_31 (by decide) ?_
    refine z_istore_n (pc := 32) (lv' := [(3, .int (0 : Int32)), (2, .int t0), (0, .ref (d 0)), (1, .int x1)]) C dX10_changesByEmergency_32 (by decide) rfl ?_
    obtain ⟨n33, h⟩ := h
    refine z_sub (lv' := [(0, .ref (d 0)), (1, .int x1), (2, .int t0), (3, .int (0 : Int32))]) [2, 3, 1, 0] rfl ?_
    exact L33  n33 v x1 t0 (0 : Int32) h
  refine z_aload_n (pc := 0) C 0 dX10_changesByEmergency_0 rfl ?_
  refine z_aload_n (pc := 1) C 0 dX10_changesByEmergency_1 rfl ?_
  refine z_get (pc := 2) C uw10 0 rfl rfl 0 (by decide) wq809 rfl dX10_changesByEmergency_2 ?_
  refine z_iconst (pc := 5) (v := 4) C dX10_changesByEmergency_5 (by decide) ?_
  refine z_iald (pc := 6) C 1 0 rfl rfl vi_4_372 (v 1 4) (congrArg _ cl_4) dX10_changesByEmergency_6 ?_
  refine z_callRi (pc := 7) C (z_runV (pc := 7) (wc := (wX10 cI cJ d v g)) (As := [.int (v 1 4)]) C (fun sz => kX10_setOf d v g (v 1 4) sz h) [0, 1, 2, 3, 4, 5, 6, 7, 8, 9, 10, 11] rfl (by decide) (gdV wq856 wq937 wq938 wq939 wq814) rfl rfl rfl hdX10_setOf 0 rfl rfl rfl ⟨Nat.le_of_ble_eq_true rfl, Nat.le_of_ble_eq_true rfl⟩ rfl (Nat.le_of_ble_eq_true rfl) ⟨Nat.zero_le _, Nat.zero_le _⟩ dX10_changesByEmergency_7) [0, 1, 2, 3, 4, 5, 6, 7, 8, 9, 10, 11] rfl (by decide) (fun r2 u2 h => ?_)
  refine z_istore_n (pc := 10) (lv' := [(1, .int r2), (0, .ref (d 0))]) C dX10_changesByEmergency_10 (by decide) rfl ?_
  refine z_iload_n (pc := 11) C 0 dX10_changesByEmergency_11 rfl ?_
  refine z_aload_n (pc := 12) C 1 dX10_changesByEmergency_12 rfl ?_
  refine z_get (pc := 13) C uw10 0 rfl rfl 0 (by decide) wq809 rfl dX10_changesByEmergency_13 ?_
  refine z_bipush (pc := 16) (v := 6) C dX10_changesByEmergency_16 (by decide) ?_
  refine z_iald (pc := 18) C 1 0 rfl rfl vi_6_372 (v 1 6) (congrArg _ cl_6) dX10_changesByEmergency_18 ?_
  refine z_call0i (pc := 19) C (z_runS (pc := 19) (wc := ([] : va_W)) (As := [.int r2, .int (v 1 6)]) C (fun sz => kX10_has r2 (v 1 6) sz h) [] rfl (by decide) (gdS wq850 wq911 wq912 wq814) rfl rfl rfl hdSX10_has ⟨Nat.le_of_ble_eq_true rfl, Nat.le_of_ble_eq_true rfl⟩ rfl (Nat.le_of_ble_eq_true rfl) ⟨Nat.zero_le _, Nat.zero_le _⟩ dX10_changesByEmergency_19) (fun r4 u4 h => ?_)
  refine z_if_ne (pc := 22) (tgt := 29) C dX10_changesByEmergency_22 (by decide) (fun c5 => ?_) (fun c5 => ?_)
  · have h := h.1 c5
    refine z_iconst (pc := 29) (v := 0) C dX10_changesByEmergency_29 (by decide) ?_
    refine z_sub (lv' := [(0, .ref (d 0)), (1, .int r2)]) [1, 0] rfl ?_
    exact J30  v r2 (0 : Int32) h
  · have h := h.2 c5
    refine z_iconst (pc := 25) (v := 1) C dX10_changesByEmergency_25 (by decide) ?_
    refine z_goto (pc := 26) (tgt := 30) C dX10_changesByEmergency_26 (by decide) ?_
    refine z_sub (lv' := [(0, .ref (d 0)), (1, .int r2)]) [1, 0] rfl ?_
    exact J30  v r2 (1 : Int32) h

def pX10_changesByCalls_J351 (Q : Lf → Prop) (v : Lf) (x7 : Int32) : Prop := (pX10_changes (st v 1 5 (-5 : Int32)) x7 (fun v_19 => (Q v_19)))
def pX10_changesByCalls_L325 (Q : Lf → Prop) : Nat → Lf → Int32 → Int32 → Prop
  | 0, _, _, _ => False
  | n325 + 1, v, x2, x7 => (pX10_has x2 x7 (fun r16 => ((¬ r16 = 0 → (pX10_changesByCalls_J351  Q  v x7)) ∧ (r16 = 0 → (¬ (v 1 14) = 0 ∧ (pX10_changesByCalls_L325 Q n325 v x2 ((x7 + (1 : Int32)) - (x7 + (1 : Int32)) / (v 1 14) * (v 1 14))))))))
def pX10_changesByCalls_J307 (Q : Lf → Prop) (v : Lf) (x2 : Int32) : Prop := (¬ (v 1 14) = 0 ∧ (∃ n325, pX10_changesByCalls_L325  Q  n325 v x2 (((v 1 4) + (1 : Int32)) - ((v 1 4) + (1 : Int32)) / (v 1 14) * (v 1 14))))
def pX10_changesByCalls_J285 (Q : Lf → Prop) (v : Lf) (x2 : Int32) : Prop := (((v 1 5) < 0 → (pX10_changesByCalls_J307  Q  v x2)) ∧ (¬ (v 1 5) < 0 → (pX10_has x2 (v 1 5) (fun r22 => ((¬ r22 = 0 → (pX10_changesByCalls_J351  Q  v (v 1 5))) ∧ (r22 = 0 → (pX10_changesByCalls_J307  Q  v x2)))))))
def pX10_changesByCalls_J265 (Q : Lf → Prop) (v : Lf) (x2 : Int32) (x3 : Int32) (x4 : Int32) (x5 : Int32) (x6 : Int32) : Prop := ((x3 = 0 → (Q v)) ∧ (¬ x3 = 0 → ((¬ x6 = 0 → (pX10_changesByCalls_J285  Q  v x2)) ∧ (x6 = 0 → ((¬ x4 = 0 → (pX10_changesByCalls_J285  Q  v x2)) ∧ (x4 = 0 → ((¬ x5 = 0 → (pX10_changesByCalls_J285  Q  v x2)) ∧ (x5 = 0 → (Q v)))))))))
def pX10_changesByCalls_J263 (Q : Lf → Prop) (v : Lf) (x2 : Int32) (x3 : Int32) (x4 : Int32) (x5 : Int32) (t0 : Int32) : Prop := (pX10_changesByCalls_J265  Q  v x2 x3 x4 x5 t0)
def pX10_changesByCalls_J227 (Q : Lf → Prop) (v : Lf) (x2 : Int32) (x4 : Int32) (x5 : Int32) (x6 : Int32) (t0 : Int32) (t1 : Int32) : Prop := (pX10_changesByCalls_J265  Q  v x2 (t0 &&& t1) x4 x5 x6)
def pX10_changesByCalls_J179 (Q : Lf → Prop) (K35 : Lf → Int32 → Int32 → Int32 → Int32 → Int32 → Int32 → Prop) (v : Lf) (x1 : Int32) (x2 : Int32) (x3 : Int32) (x4 : Int32) (x5 : Int32) (x6 : Int32) : Prop := (K35 v x1 x2 x3 x4 x5 (x6 + 1))
def pX10_changesByCalls_J176 (Q : Lf → Prop) (K35 : Lf → Int32 → Int32 → Int32 → Int32 → Int32 → Int32 → Prop) (v : Lf) (x1 : Int32) (x2 : Int32) (x3 : Int32) (x4 : Int32) (x6 : Int32) (t0 : Int32) (t1 : Int32) : Prop := (pX10_changesByCalls_J179  Q K35 v x1 x2 x3 x4 (t0 &&& t1) x6)
def pX10_changesByCalls_J171 (Q : Lf → Prop) (K35 : Lf → Int32 → Int32 → Int32 → Int32 → Int32 → Int32 → Prop) (v : Lf) (x1 : Int32) (x2 : Int32) (x3 : Int32) (x4 : Int32) (x6 : Int32) (t0 : Int32) : Prop := (pX10_changesByCalls_J176  Q K35 v x1 x2 x3 x4 x6 t0 (1 : Int32))
def pX10_changesByCalls_J130 (Q : Lf → Prop) (K35 : Lf → Int32 → Int32 → Int32 → Int32 → Int32 → Int32 → Prop) (v : Lf) (x1 : Int32) (x2 : Int32) (x3 : Int32) (x5 : Int32) (x6 : Int32) (t0 : Int32) (t1 : Int32) : Prop := (pX10_at v x6 (9 : Int32) (fun r41 => ((r41 < 0 → (pX10_changesByCalls_J171  Q K35 v x1 x2 x3 (t0 ||| t1) x6 x5)) ∧ (¬ r41 < 0 → (pX10_at v x6 (9 : Int32) (fun r44 => (pX10_at v x6 (3 : Int32) (fun r45 => ((((v 1 3) - r44) < r45 → (pX10_changesByCalls_J176  Q K35 v x1 x2 x3 (t0 ||| t1) x6 x5 (0 : Int32))) ∧ (¬ ((v 1 3) - r44) < r45 → (pX10_changesByCalls_J171  Q K35 v x1 x2 x3 (t0 ||| t1) x6 x5)))))))))))
def pX10_changesByCalls_J129 (Q : Lf → Prop) (K35 : Lf → Int32 → Int32 → Int32 → Int32 → Int32 → Int32 → Prop) (v : Lf) (x1 : Int32) (x2 : Int32) (x3 : Int32) (x5 : Int32) (x6 : Int32) (t0 : Int32) : Prop := (pX10_changesByCalls_J130  Q K35 v x1 x2 x3 x5 x6 t0 (0 : Int32))
def pX10_changesByCalls_J93 (Q : Lf → Prop) (K35 : Lf → Int32 → Int32 → Int32 → Int32 → Int32 → Int32 → Prop) (v : Lf) (x1 : Int32) (x2 : Int32) (x4 : Int32) (x5 : Int32) (x6 : Int32) (t0 : Int32) (t1 : Int32) : Prop := (pX10_at v x6 (6 : Int32) (fun r39 => ((¬ r39 = (1 : Int32) → (pX10_changesByCalls_J129  Q K35 v x1 x2 (t0 &&& t1) x5 x6 x4)) ∧ (r39 = (1 : Int32) → (pX10_greenFor v x6 (fun r47 => (pX10_at v x6 (2 : Int32) (fun r48 => ((r47 < r48 → (pX10_changesByCalls_J129  Q K35 v x1 x2 (t0 &&& t1) x5 x6 x4)) ∧ (¬ r47 < r48 → (pX10_changesByCalls_J130  Q K35 v x1 x2 (t0 &&& t1) x5 x6 x4 (1 : Int32))))))))))))
def pX10_changesByCalls_J92 (Q : Lf → Prop) (K35 : Lf → Int32 → Int32 → Int32 → Int32 → Int32 → Int32 → Prop) (v : Lf) (x1 : Int32) (x2 : Int32) (x4 : Int32) (x5 : Int32) (x6 : Int32) (t0 : Int32) : Prop := (pX10_changesByCalls_J93  Q K35 v x1 x2 x4 x5 x6 t0 (0 : Int32))
def pX10_changesByCalls_L35 (Q : Lf → Prop) : Nat → Lf → Int32 → Int32 → Int32 → Int32 → Int32 → Int32 → Prop
  | 0, _, _, _, _, _, _, _ => False
  | n35 + 1, v, x1, x2, x3, x4, x5, x6 => (((v 1 13) ≤ x6 → (((v 1 10) ≤ 0 → (pX10_changesByCalls_J265  Q  v x2 x3 x4 x5 (0 : Int32))) ∧ (¬ (v 1 10) ≤ 0 → ((¬ (v 1 4) = 0 → (pX10_local v (fun r28 => (vp_in (((216 : Int32) + ((3 : Int32) * (v 1 4))) + (1 : Int32)) 372 ∧ ((r28 < (v 1 (((216 : Int32) + ((3 : Int32) * (v 1 4))) + (1 : Int32)).toNatClampNeg) → (pX10_changesByCalls_J263  Q  v x2 x3 x4 x5 (0 : Int32))) ∧ (¬ r28 < (v 1 (((216 : Int32) + ((3 : Int32) * (v 1 4))) + (1 : Int32)).toNatClampNeg) → (pX10_changesByCalls_J263  Q  v x2 x3 x4 x5 (1 : Int32)))))))) ∧ ((v 1 4) = 0 → (pX10_local v (fun r32 => ((r32 < (v 1 12) → (pX10_changesByCalls_J227  Q  v x2 x4 x5 (0 : Int32) x3 (0 : Int32))) ∧ (¬ r32 < (v 1 12) → (pX10_changesByCalls_J227  Q  v x2 x4 x5 (0 : Int32) x3 (1 : Int32))))))))))) ∧ (¬ (v 1 13) ≤ x6 → (pX10_has x1 x6 (fun r35 => ((¬ r35 = 0 → (pX10_at v x6 (6 : Int32) (fun r37 => ((¬ r37 = (1 : Int32) → (pX10_changesByCalls_J92  Q (fun v x1 x2 x3 x4 x5 x6 => pX10_changesByCalls_L35 Q n35 v x1 x2 x3 x4 x5 x6) v x1 x2 x4 x5 x6 x3)) ∧ (r37 = (1 : Int32) → (pX10_greenFor v x6 (fun r50 => (pX10_at v x6 (1 : Int32) (fun r51 => ((r50 < r51 → (pX10_changesByCalls_J92  Q (fun v x1 x2 x3 x4 x5 x6 => pX10_changesByCalls_L35 Q n35 v x1 x2 x3 x4 x5 x6) v x1 x2 x4 x5 x6 x3)) ∧ (¬ r50 < r51 → (pX10_changesByCalls_J93  Q (fun v x1 x2 x3 x4 x5 x6 => pX10_changesByCalls_L35 Q n35 v x1 x2 x3 x4 x5 x6) v x1 x2 x4 x5 x6 x3 (1 : Int32))))))))))))) ∧ (r35 = 0 → (pX10_changesByCalls_J179  Q (fun v x1 x2 x3 x4 x5 x6 => pX10_changesByCalls_L35 Q n35 v x1 x2 x3 x4 x5 x6) v x1 x2 x3 x4 x5 x6)))))))
def pX10_changesByCalls_J25 (Q : Lf → Prop) (v : Lf) (x1 : Int32) (x2 : Int32) (t0 : Int32) : Prop := (∃ n35, pX10_changesByCalls_L35  Q  n35 v x1 x2 t0 (0 : Int32) (1 : Int32) (0 : Int32))
def pX10_changesByCalls (v : Lf)  (Q : Lf → Prop) : Prop := (pX10_setOf v (v 1 4) (fun r2 => (pX10_called v (fun r3 => ((r3 = 0 → (pX10_changesByCalls_J25  Q  v r2 r3 (0 : Int32))) ∧ (¬ r3 = 0 → (pX10_changesByCalls_J25  Q  v r2 r3 (1 : Int32))))))))
abbrev rmX10_changesByCalls : Room := { frames := 3, cells := 0, slots := 0, locals := 67 }
abbrev wdX10_changesByCalls : List Cond := Cond.code yX10_changesByCalls cX10_changesByCalls 8 none :: TB
theorem hdSX10_changesByCalls : (yX10_changesByCalls).cls ≠ "java/lang/invoke/MethodHandle" ∧ (yX10_changesByCalls).cls ≠ "java/lang/invoke/VarHandle" ∧ (parseMethodDescriptor (yX10_changesByCalls).desc).map (fun d => d.parameters.length) = some 0 := by decide +kernel
theorem hdX10_changesByCalls : (yX10_changesByCalls).cls = RX10 ∧ (yX10_changesByCalls).cls ≠ "java/lang/invoke/MethodHandle" ∧ (yX10_changesByCalls).cls ≠ "java/lang/invoke/VarHandle" ∧ (parseMethodDescriptor (yX10_changesByCalls).desc).map (fun d => d.parameters.length) = some 0 := ⟨rfl, hdSX10_changesByCalls⟩
set_option maxHeartbeats 4000000 in
set_option maxRecDepth 100000 in
theorem kX10_changesByCalls {l : Launch} {D : va_G} {cI cJ cT : ClassId} (d : Nat → Nat)  (v : Lf) (g : Lg)  {Q : Lf → Prop} (sz : Nat) (h : pX10_changesByCalls v Q) : Met l yX10_changesByCalls wdX10_changesByCalls rmX10_changesByCalls (Pz D (tyL cI cJ cT) [.ref (d 0)] (wX10 cI cJ d v g) sz) (va_Qv (fun (u : Lf) => Q u) (Bz D (tyL cI cJ cT) (wX10 cI cJ d v g) sz (fun (u : Lf) => (wX10 cI cJ d u g))) (va_A (wX10 cI cJ d v g) sz)) 0 0 (va_A (wX10 cI cJ d v g) sz) := by
  refine z_metv (cc := cX10_changesByCalls) (maxL := 8) (own := RX10) (lv0 := [(0, .ref (d 0))]) (by decide) rfl rfl (Nat.le_of_ble_eq_true rfl) rfl ?_
  intro p e s m args below meth c A QQ C hin hret
  have J351 : ∀ (v : Lf) (x7 : Int32), pX10_changesByCalls_J351 Q v x7 → ZZ p l e rmX10_changesByCalls s m args below meth c D A 8 0 0 QQ 351 (wX10 cI cJ d v g) [(0, .ref (d 0)), (7, .int x7)] [] := by
    intro  v x7 h
    refine z_aload_n (pc := 351) C 0 dX10_changesByCalls_351 rfl ?_
    refine z_get (pc := 352) C uw10 0 rfl rfl 0 (by decide) wq809 rfl dX10_changesByCalls_352 ?_
    refine z_iconst (pc := 355) (v := 5) C dX10_changesByCalls_355 (by decide) ?_
    refine z_bipush (pc := 356) (v := -5) C dX10_changesByCalls_356 (by decide) ?_
    refine z_iast (pc := 358) (ws' := (wX10 cI cJ d (st v 1 5 (-5 : Int32)) g)) C 1 0 rfl rfl vi_5_372 dX10_changesByCalls_358 cl_5 sX10_a1 ?_
    refine z_aload_n (pc := 359) C 0 dX10_changesByCalls_359 rfl ?_
    refine z_iload (pc := 360) C 1 dX10_changesByCalls_360 rfl ?_
    refine z_callv (pc := 362) (wr := ([] : va_W)) (w1 := fun (u : Lf) => (wX10 cI cJ d u g)) (w2 := fun (u : Lf) => (wX10 cI cJ d u g)) C (z_runV (pc := 362) (wc := (wX10 cI cJ d (st v 1 5 (-5 : Int32)) g)) (As := [.int x7]) C (fun sz => kX10_changes d (st v 1 5 (-5 : Int32)) g x7 sz h) [0, 1, 2, 3, 4, 5, 6, 7, 8, 9, 10, 11] rfl (by decide) (gdV wq946 wq953 wq954 wq955 wq814) rfl rfl rfl hdX10_changes 0 rfl rfl rfl ⟨Nat.le_of_ble_eq_true rfl, Nat.le_of_ble_eq_true rfl⟩ rfl (Nat.le_of_ble_eq_true rfl) ⟨Nat.zero_le _, Nat.zero_le _⟩ dX10_changesByCalls_362) [0, 1, 2, 3, 4, 5, 6, 7, 8, 9, 10, 11] [] [0, 1, 2, 3, 4, 5, 6, 7, 8, 9, 10, 11] rfl rfl (by decide) (by decide) (fun _ => rfl) (by decide) (fun u19 h => ?_)
    obtain ⟨v_19, hu19⟩ : ∃ z, z = u19 := ⟨_, rfl⟩
    subst hu19
    exact hret 365 _ _ v_19 rfl h dX10_changesByCalls_365
  have L325 : ∀ (n325 : Nat) (v : Lf) (x2 : Int32) (x7 : Int32), pX10_changesByCalls_L325 Q n325 v x2 x7 → ZZ p l e rmX10_changesByCalls s m args below meth c D A 8 0 0 QQ 325 (wX10 cI cJ d v g) [(0, .ref (d 0)), (2, .int x2), (7, .int x7)] [] := by
    intro n325
    induction n325 with
    | zero => intro v x2 x7 h; exact False.elim h
    | succ n325 ih325 =>
      intro v x2 x7 h
      refine z_iload_n (pc := 325) C 1 dX10_changesByCalls_325 rfl ?_
      refine z_iload (pc := 326) C 2 dX10_changesByCalls_326 rfl ?_
      refine z_call0i (pc := 328) C (z_runS (pc := 328) (wc := ([] : va_W)) (As := [.int x2, .int x7]) C (fun sz => kX10_has x2 x7 sz h) [] rfl (by decide) (gdS wq850 wq911 wq912 wq814) rfl rfl rfl hdSX10_has ⟨Nat.le_of_ble_eq_true rfl, Nat.le_of_ble_eq_true rfl⟩ rfl (Nat.le_of_ble_eq_true rfl) ⟨Nat.zero_le _, Nat.zero_le _⟩ dX10_changesByCalls_328) (fun r16 u16 h => ?_)
      refine z_if_ne (pc := 331) (tgt := 351) C dX10_changesByCalls_331 (by decide) (fun c17 => ?_) (fun c17 => ?_)
      · have h := h.1 c17
        refine z_sub (lv' := [(0, .ref (d 0)), (7, .int x7)]) [0, 2] rfl ?_
        exact J351  v x7 h
      · have h := h.2 c17
        refine z_iload (pc := 334) C 2 dX10_changesByCalls_334 rfl ?_
        refine z_iconst (pc := 336) (v := 1) C dX10_changesByCalls_336 (by decide) ?_
        refine z_iadd (pc := 337) C dX10_changesByCalls_337 ?_
        refine z_aload_n (pc := 338) C 0 dX10_changesByCalls_338 rfl ?_
        refine z_get (pc := 339) C uw10 0 rfl rfl 0 (by decide) wq809 rfl dX10_changesByCalls_339 ?_
        refine z_bipush (pc := 342) (v := 14) C dX10_changesByCalls_342 (by decide) ?_
        refine z_iald (pc := 344) C 1 0 rfl rfl vi_14_372 (v 1 14) (congrArg _ cl_14) dX10_changesByCalls_344 ?_
        obtain ⟨g21, h⟩ := h
        refine z_irem (pc := 345) C dX10_changesByCalls_345 g21 ?_
        refine z_istore (pc := 346) (lv' := [(7, .int ((x7 + (1 : Int32)) - (x7 + (1 : Int32)) / (v 1 14) * (v 1 14))), (0, .ref (d 0)), (2, .int x2)]) C dX10_changesByCalls_346 (by decide) rfl ?_
        refine z_goto (pc := 348) (tgt := 325) C dX10_changesByCalls_348 (by decide) ?_
        refine z_sub (lv' := [(0, .ref (d 0)), (2, .int x2), (7, .int ((x7 + (1 : Int32)) - (x7 + (1 : Int32)) / (v 1 14) * (v 1 14)))]) [1, 2, 0] rfl ?_
        exact ih325 v x2 ((x7 + (1 : Int32)) - (x7 + (1 : Int32)) / (v 1 14) * (v 1 14)) h
  have J307 : ∀ (v : Lf) (x2 : Int32), pX10_changesByCalls_J307 Q v x2 → ZZ p l e rmX10_changesByCalls s m args below meth c D A 8 0 0 QQ 307 (wX10 cI cJ d v g) [(0, .ref (d 0)), (2, .int x2)] [] := by
    intro  v x2 h
    refine z_aload_n (pc := 307) C 0 dX10_changesByCalls_307 rfl ?_
    refine z_get (pc := 308) C uw10 0 rfl rfl 0 (by decide) wq809 rfl dX10_changesByCalls_308 ?_
    refine z_iconst (pc := 311) (v := 4) C dX10_changesByCalls_311 (by decide) ?_
    refine z_iald (pc := 312) C 1 0 rfl rfl vi_4_372 (v 1 4) (congrArg _ cl_4) dX10_changesByCalls_312 ?_
    refine z_iconst (pc := 313) (v := 1) C dX10_changesByCalls_313 (by decide) ?_
    refine z_iadd (pc := 314) C dX10_changesByCalls_314 ?_
    refine z_aload_n (pc := 315) C 0 dX10_changesByCalls_315 rfl ?_
    refine z_get (pc := 316) C uw10 0 rfl rfl 0 (by decide) wq809 rfl dX10_changesByCalls_316 ?_
    refine z_bipush (pc := 319) (v := 14) C dX10_changesByCalls_319 (by decide) ?_
    refine z_iald (pc := 321) C 1 0 rfl rfl vi_14_372 (v 1 14) (congrArg _ cl_14) dX10_changesByCalls_321 ?_
    obtain ⟨g15, h⟩ := h
    refine z_irem (pc := 322) C dX10_changesByCalls_322 g15 ?_
    refine z_istore (pc := 323) (lv' := [(7, .int (((v 1 4) + (1 : Int32)) - ((v 1 4) + (1 : Int32)) / (v 1 14) * (v 1 14))), (0, .ref (d 0)), (2, .int x2)]) C dX10_changesByCalls_323 (by decide) rfl ?_
    obtain ⟨n325, h⟩ := h
    refine z_sub (lv' := [(0, .ref (d 0)), (2, .int x2), (7, .int (((v 1 4) + (1 : Int32)) - ((v 1 4) + (1 : Int32)) / (v 1 14) * (v 1 14)))]) [1, 2, 0] rfl ?_
    exact L325  n325 v x2 (((v 1 4) + (1 : Int32)) - ((v 1 4) + (1 : Int32)) / (v 1 14) * (v 1 14)) h
  have J285 : ∀ (v : Lf) (x2 : Int32), pX10_changesByCalls_J285 Q v x2 → ZZ p l e rmX10_changesByCalls s m args below meth c D A 8 0 0 QQ 285 (wX10 cI cJ d v g) [(0, .ref (d 0)), (2, .int x2)] [] := by
    intro  v x2 h
    refine z_aload_n (pc := 285) C 0 dX10_changesByCalls_285 rfl ?_
    refine z_get (pc := 286) C uw10 0 rfl rfl 0 (by decide) wq809 rfl dX10_changesByCalls_286 ?_
    refine z_iconst (pc := 289) (v := 5) C dX10_changesByCalls_289 (by decide) ?_
    refine z_iald (pc := 290) C 1 0 rfl rfl vi_5_372 (v 1 5) (congrArg _ cl_5) dX10_changesByCalls_290 ?_
    refine z_istore (pc := 291) (lv' := [(7, .int (v 1 5)), (0, .ref (d 0)), (2, .int x2)]) C dX10_changesByCalls_291 (by decide) rfl ?_
    refine z_iload (pc := 293) C 0 dX10_changesByCalls_293 rfl ?_
    refine z_if_lt (pc := 295) (tgt := 307) C dX10_changesByCalls_295 (by decide) (fun c12 => ?_) (fun c12 => ?_)
    · have h := h.1 c12
      refine z_sub (lv' := [(0, .ref (d 0)), (2, .int x2)]) [1, 2] rfl ?_
      exact J307  v x2 h
    · have h := h.2 c12
      refine z_iload_n (pc := 298) C 2 dX10_changesByCalls_298 rfl ?_
      refine z_iload (pc := 299) C 0 dX10_changesByCalls_299 rfl ?_
      refine z_call0i (pc := 301) C (z_runS (pc := 301) (wc := ([] : va_W)) (As := [.int x2, .int (v 1 5)]) C (fun sz => kX10_has x2 (v 1 5) sz h) [] rfl (by decide) (gdS wq850 wq911 wq912 wq814) rfl rfl rfl hdSX10_has ⟨Nat.le_of_ble_eq_true rfl, Nat.le_of_ble_eq_true rfl⟩ rfl (Nat.le_of_ble_eq_true rfl) ⟨Nat.zero_le _, Nat.zero_le _⟩ dX10_changesByCalls_301) (fun r22 u22 h => ?_)
      refine z_if_ne (pc := 304) (tgt := 351) C dX10_changesByCalls_304 (by decide) (fun c23 => ?_) (fun c23 => ?_)
      · have h := h.1 c23
        refine z_sub (lv' := [(0, .ref (d 0)), (7, .int (v 1 5))]) [1, 0] rfl ?_
        exact J351  v (v 1 5) h
      · have h := h.2 c23
        refine z_sub (lv' := [(0, .ref (d 0)), (2, .int x2)]) [1, 2] rfl ?_
        exact J307  v x2 h
  have J265 : ∀ (v : Lf) (x2 : Int32) (x3 : Int32) (x4 : Int32) (x5 : Int32) (x6 : Int32), pX10_changesByCalls_J265 Q v x2 x3 x4 x5 x6 → ZZ p l e rmX10_changesByCalls s m args below meth c D A 8 0 0 QQ 265 (wX10 cI cJ d v g) [(0, .ref (d 0)), (2, .int x2), (3, .int x3), (4, .int x4), (5, .int x5), (6, .int x6)] [] := by
    intro  v x2 x3 x4 x5 x6 h
    refine z_iload_n (pc := 265) C 2 dX10_changesByCalls_265 rfl ?_
    refine z_if_eq (pc := 266) (tgt := 284) C dX10_changesByCalls_266 (by decide) (fun c9 => ?_) (fun c9 => ?_)
    · have h := h.1 c9
      exact hret 284 _ _ v rfl h dX10_changesByCalls_284
    · have h := h.2 c9
      refine z_iload (pc := 269) C 5 dX10_changesByCalls_269 rfl ?_
      refine z_if_ne (pc := 271) (tgt := 285) C dX10_changesByCalls_271 (by decide) (fun c10 => ?_) (fun c10 => ?_)
      · have h := h.1 c10
        refine z_sub (lv' := [(0, .ref (d 0)), (2, .int x2)]) [0, 1] rfl ?_
        exact J285  v x2 h
      · have h := h.2 c10
        refine z_iload (pc := 274) C 3 dX10_changesByCalls_274 rfl ?_
        refine z_if_ne (pc := 276) (tgt := 285) C dX10_changesByCalls_276 (by decide) (fun c24 => ?_) (fun c24 => ?_)
        · have h := h.1 c24
          refine z_sub (lv' := [(0, .ref (d 0)), (2, .int x2)]) [0, 1] rfl ?_
          exact J285  v x2 h
        · have h := h.2 c24
          refine z_iload (pc := 279) C 4 dX10_changesByCalls_279 rfl ?_
          refine z_if_ne (pc := 281) (tgt := 285) C dX10_changesByCalls_281 (by decide) (fun c25 => ?_) (fun c25 => ?_)
          · have h := h.1 c25
            refine z_sub (lv' := [(0, .ref (d 0)), (2, .int x2)]) [0, 1] rfl ?_
            exact J285  v x2 h
          · have h := h.2 c25
            exact hret 284 _ _ v rfl h dX10_changesByCalls_284
  have J263 : ∀ (v : Lf) (x2 : Int32) (x3 : Int32) (x4 : Int32) (x5 : Int32) (t0 : Int32), pX10_changesByCalls_J263 Q v x2 x3 x4 x5 t0 → ZZ p l e rmX10_changesByCalls s m args below meth c D A 8 0 0 QQ 263 (wX10 cI cJ d v g) [(0, .ref (d 0)), (2, .int x2), (3, .int x3), (4, .int x4), (5, .int x5)] [.int t0] := by
    intro  v x2 x3 x4 x5 t0 h
    refine z_istore (pc := 263) (lv' := [(6, .int t0), (0, .ref (d 0)), (2, .int x2), (3, .int x3), (4, .int x4), (5, .int x5)]) C dX10_changesByCalls_263 (by decide) rfl ?_
    refine z_sub (lv' := [(0, .ref (d 0)), (2, .int x2), (3, .int x3), (4, .int x4), (5, .int x5), (6, .int t0)]) [1, 2, 3, 4, 5, 0] rfl ?_
    exact J265  v x2 x3 x4 x5 t0 h
  have J227 : ∀ (v : Lf) (x2 : Int32) (x4 : Int32) (x5 : Int32) (x6 : Int32) (t0 : Int32) (t1 : Int32), pX10_changesByCalls_J227 Q v x2 x4 x5 x6 t0 t1 → ZZ p l e rmX10_changesByCalls s m args below meth c D A 8 0 0 QQ 227 (wX10 cI cJ d v g) [(0, .ref (d 0)), (2, .int x2), (4, .int x4), (5, .int x5), (6, .int x6)] [.int t1, .int t0] := by
    intro  v x2 x4 x5 x6 t0 t1 h
    refine z_iand (pc := 227) C dX10_changesByCalls_227 ?_
    refine z_istore_n (pc := 228) (lv' := [(3, .int (t0 &&& t1)), (0, .ref (d 0)), (2, .int x2), (4, .int x4), (5, .int x5), (6, .int x6)]) C dX10_changesByCalls_228 (by decide) rfl ?_
    refine z_goto (pc := 229) (tgt := 265) C dX10_changesByCalls_229 (by decide) ?_
    refine z_sub (lv' := [(0, .ref (d 0)), (2, .int x2), (3, .int (t0 &&& t1)), (4, .int x4), (5, .int x5), (6, .int x6)]) [1, 2, 0, 3, 4, 5] rfl ?_
    exact J265  v x2 (t0 &&& t1) x4 x5 x6 h
  have J179 : ∀ (K35 : Lf → Int32 → Int32 → Int32 → Int32 → Int32 → Int32 → Prop), (∀ (v : Lf) (x1 : Int32) (x2 : Int32) (x3 : Int32) (x4 : Int32) (x5 : Int32) (x6 : Int32), K35 v x1 x2 x3 x4 x5 x6 → ZZ p l e rmX10_changesByCalls s m args below meth c D A 8 0 0 QQ 35 (wX10 cI cJ d v g) [(0, .ref (d 0)), (1, .int x1), (2, .int x2), (3, .int x3), (4, .int x4), (5, .int x5), (6, .int x6)] []) → ∀ (v : Lf) (x1 : Int32) (x2 : Int32) (x3 : Int32) (x4 : Int32) (x5 : Int32) (x6 : Int32), pX10_changesByCalls_J179 Q K35 v x1 x2 x3 x4 x5 x6 → ZZ p l e rmX10_changesByCalls s m args below meth c D A 8 0 0 QQ 179 (wX10 cI cJ d v g) [(0, .ref (d 0)), (1, .int x1), (2, .int x2), (3, .int x3), (4, .int x4), (5, .int x5), (6, .int x6)] [] := by
    intro K35 hK35 v x1 x2 x3 x4 x5 x6 h
    refine z_iinc (pc := 179) (v := (x6 + 1)) (lv' := [(6, .int (x6 + 1)), (0, .ref (d 0)), (1, .int x1), (2, .int x2), (3, .int x3), (4, .int x4), (5, .int x5)]) C 6 dX10_changesByCalls_179 rfl rfl (by decide) rfl ?_
    refine z_goto (pc := 182) (tgt := 35) C dX10_changesByCalls_182 (by decide) ?_
    refine z_sub (lv' := [(0, .ref (d 0)), (1, .int x1), (2, .int x2), (3, .int x3), (4, .int x4), (5, .int x5), (6, .int (x6 + 1))]) [1, 2, 3, 4, 5, 6, 0] rfl ?_
    exact hK35 v x1 x2 x3 x4 x5 (x6 + 1) h
  have J176 : ∀ (K35 : Lf → Int32 → Int32 → Int32 → Int32 → Int32 → Int32 → Prop), (∀ (v : Lf) (x1 : Int32) (x2 : Int32) (x3 : Int32) (x4 : Int32) (x5 : Int32) (x6 : Int32), K35 v x1 x2 x3 x4 x5 x6 → ZZ p l e rmX10_changesByCalls s m args below meth c D A 8 0 0 QQ 35 (wX10 cI cJ d v g) [(0, .ref (d 0)), (1, .int x1), (2, .int x2), (3, .int x3), (4, .int x4), (5, .int x5), (6, .int x6)] []) → ∀ (v : Lf) (x1 : Int32) (x2 : Int32) (x3 : Int32) (x4 : Int32) (x6 : Int32) (t0 : Int32) (t1 : Int32), pX10_changesByCalls_J176 Q K35 v x1 x2 x3 x4 x6 t0 t1 → ZZ p l e rmX10_changesByCalls s m args below meth c D A 8 0 0 QQ 176 (wX10 cI cJ d v g) [(0, .ref (d 0)), (1, .int x1), (2, .int x2), (3, .int x3), (4, .int x4), (6, .int x6)] [.int t1, .int t0] := by
    intro K35 hK35 v x1 x2 x3 x4 x6 t0 t1 h
    refine z_iand (pc := 176) C dX10_changesByCalls_176 ?_
    refine z_istore (pc := 177) (lv' := [(5, .int (t0 &&& t1)), (0, .ref (d 0)), (1, .int x1), (2, .int x2), (3, .int x3), (4, .int x4), (6, .int x6)]) C dX10_changesByCalls_177 (by decide) rfl ?_
    refine z_sub (lv' := [(0, .ref (d 0)), (1, .int x1), (2, .int x2), (3, .int x3), (4, .int x4), (5, .int (t0 &&& t1)), (6, .int x6)]) [1, 2, 3, 4, 5, 0, 6] rfl ?_
    exact J179 K35 hK35 v x1 x2 x3 x4 (t0 &&& t1) x6 h
  have J171 : ∀ (K35 : Lf → Int32 → Int32 → Int32 → Int32 → Int32 → Int32 → Prop), (∀ (v : Lf) (x1 : Int32) (x2 : Int32) (x3 : Int32) (x4 : Int32) (x5 : Int32) (x6 : Int32), K35 v x1 x2 x3 x4 x5 x6 → ZZ p l e rmX10_changesByCalls s m args below meth c D A 8 0 0 QQ 35 (wX10 cI cJ d v g) [(0, .ref (d 0)), (1, .int x1), (2, .int x2), (3, .int x3), (4, .int x4), (5, .int x5), (6, .int x6)] []) → ∀ (v : Lf) (x1 : Int32) (x2 : Int32) (x3 : Int32) (x4 : Int32) (x6 : Int32) (t0 : Int32), pX10_changesByCalls_J171 Q K35 v x1 x2 x3 x4 x6 t0 → ZZ p l e rmX10_changesByCalls s m args below meth c D A 8 0 0 QQ 171 (wX10 cI cJ d v g) [(0, .ref (d 0)), (1, .int x1), (2, .int x2), (3, .int x3), (4, .int x4), (6, .int x6)] [.int t0] := by
    intro K35 hK35 v x1 x2 x3 x4 x6 t0 h
    refine z_iconst (pc := 171) (v := 1) C dX10_changesByCalls_171 (by decide) ?_
    refine z_goto (pc := 172) (tgt := 176) C dX10_changesByCalls_172 (by decide) ?_
    exact J176 K35 hK35 v x1 x2 x3 x4 x6 t0 (1 : Int32) h
  have J130 : ∀ (K35 : Lf → Int32 → Int32 → Int32 → Int32 → Int32 → Int32 → Prop), (∀ (v : Lf) (x1 : Int32) (x2 : Int32) (x3 : Int32) (x4 : Int32) (x5 : Int32) (x6 : Int32), K35 v x1 x2 x3 x4 x5 x6 → ZZ p l e rmX10_changesByCalls s m args below meth c D A 8 0 0 QQ 35 (wX10 cI cJ d v g) [(0, .ref (d 0)), (1, .int x1), (2, .int x2), (3, .int x3), (4, .int x4), (5, .int x5), (6, .int x6)] []) → ∀ (v : Lf) (x1 : Int32) (x2 : Int32) (x3 : Int32) (x5 : Int32) (x6 : Int32) (t0 : Int32) (t1 : Int32), pX10_changesByCalls_J130 Q K35 v x1 x2 x3 x5 x6 t0 t1 → ZZ p l e rmX10_changesByCalls s m args below meth c D A 8 0 0 QQ 130 (wX10 cI cJ d v g) [(0, .ref (d 0)), (1, .int x1), (2, .int x2), (3, .int x3), (5, .int x5), (6, .int x6)] [.int t1, .int t0] := by
    intro K35 hK35 v x1 x2 x3 x5 x6 t0 t1 h
    refine z_ior (pc := 130) C dX10_changesByCalls_130 ?_
    refine z_istore (pc := 131) (lv' := [(4, .int (t0 ||| t1)), (0, .ref (d 0)), (1, .int x1), (2, .int x2), (3, .int x3), (5, .int x5), (6, .int x6)]) C dX10_changesByCalls_131 (by decide) rfl ?_
    refine z_iload (pc := 133) C 5 dX10_changesByCalls_133 rfl ?_
    refine z_aload_n (pc := 135) C 1 dX10_changesByCalls_135 rfl ?_
    refine z_iload (pc := 136) C 6 dX10_changesByCalls_136 rfl ?_
    refine z_bipush (pc := 138) (v := 9) C dX10_changesByCalls_138 (by decide) ?_
    refine z_callRi (pc := 140) C (z_runV (pc := 140) (wc := (wX10 cI cJ d v g)) (As := [.int x6, .int (9 : Int32)]) C (fun sz => kX10_at d v g x6 (9 : Int32) sz h) [0, 1, 2, 3, 4, 5, 6, 7, 8, 9, 10, 11] rfl (by decide) (gdV wq808 wq811 wq812 wq813 wq814) rfl rfl rfl hdX10_at 0 rfl rfl rfl ⟨Nat.le_of_ble_eq_true rfl, Nat.le_of_ble_eq_true rfl⟩ rfl (Nat.le_of_ble_eq_true rfl) ⟨Nat.zero_le _, Nat.zero_le _⟩ dX10_changesByCalls_140) [0, 1, 2, 3, 4, 5, 6, 7, 8, 9, 10, 11] rfl (by decide) (fun r41 u41 h => ?_)
    refine z_if_lt (pc := 143) (tgt := 171) C dX10_changesByCalls_143 (by decide) (fun c42 => ?_) (fun c42 => ?_)
    · have h := h.1 c42
      refine z_sub (lv' := [(0, .ref (d 0)), (1, .int x1), (2, .int x2), (3, .int x3), (4, .int (t0 ||| t1)), (6, .int x6)]) [1, 2, 3, 4, 0, 6] rfl ?_
      exact J171 K35 hK35 v x1 x2 x3 (t0 ||| t1) x6 x5 h
    · have h := h.2 c42
      refine z_aload_n (pc := 146) C 1 dX10_changesByCalls_146 rfl ?_
      refine z_get (pc := 147) C uw10 0 rfl rfl 0 (by decide) wq809 rfl dX10_changesByCalls_147 ?_
      refine z_iconst (pc := 150) (v := 3) C dX10_changesByCalls_150 (by decide) ?_
      refine z_iald (pc := 151) C 1 0 rfl rfl vi_3_372 (v 1 3) (congrArg _ cl_3) dX10_changesByCalls_151 ?_
      refine z_aload_n (pc := 152) C 1 dX10_changesByCalls_152 rfl ?_
      refine z_iload (pc := 153) C 6 dX10_changesByCalls_153 rfl ?_
      refine z_bipush (pc := 155) (v := 9) C dX10_changesByCalls_155 (by decide) ?_
      refine z_callRi (pc := 157) C (z_runV (pc := 157) (wc := (wX10 cI cJ d v g)) (As := [.int x6, .int (9 : Int32)]) C (fun sz => kX10_at d v g x6 (9 : Int32) sz h) [0, 1, 2, 3, 4, 5, 6, 7, 8, 9, 10, 11] rfl (by decide) (gdV wq808 wq811 wq812 wq813 wq814) rfl rfl rfl hdX10_at 0 rfl rfl rfl ⟨Nat.le_of_ble_eq_true rfl, Nat.le_of_ble_eq_true rfl⟩ rfl (Nat.le_of_ble_eq_true rfl) ⟨Nat.zero_le _, Nat.zero_le _⟩ dX10_changesByCalls_157) [0, 1, 2, 3, 4, 5, 6, 7, 8, 9, 10, 11] rfl (by decide) (fun r44 u44 h => ?_)
      refine z_isub (pc := 160) C dX10_changesByCalls_160 ?_
      refine z_aload_n (pc := 161) C 1 dX10_changesByCalls_161 rfl ?_
      refine z_iload (pc := 162) C 6 dX10_changesByCalls_162 rfl ?_
      refine z_iconst (pc := 164) (v := 3) C dX10_changesByCalls_164 (by decide) ?_
      refine z_callRi (pc := 165) C (z_runV (pc := 165) (wc := (wX10 cI cJ d v g)) (As := [.int x6, .int (3 : Int32)]) C (fun sz => kX10_at d v g x6 (3 : Int32) sz h) [0, 1, 2, 3, 4, 5, 6, 7, 8, 9, 10, 11] rfl (by decide) (gdV wq808 wq811 wq812 wq813 wq814) rfl rfl rfl hdX10_at 0 rfl rfl rfl ⟨Nat.le_of_ble_eq_true rfl, Nat.le_of_ble_eq_true rfl⟩ rfl (Nat.le_of_ble_eq_true rfl) ⟨Nat.zero_le _, Nat.zero_le _⟩ dX10_changesByCalls_165) [0, 1, 2, 3, 4, 5, 6, 7, 8, 9, 10, 11] rfl (by decide) (fun r45 u45 h => ?_)
      refine z_icmp_lt (pc := 168) (tgt := 175) C dX10_changesByCalls_168 (by decide) (fun c46 => ?_) (fun c46 => ?_)
      · have h := h.1 c46
        refine z_iconst (pc := 175) (v := 0) C dX10_changesByCalls_175 (by decide) ?_
        refine z_sub (lv' := [(0, .ref (d 0)), (1, .int x1), (2, .int x2), (3, .int x3), (4, .int (t0 ||| t1)), (6, .int x6)]) [1, 2, 3, 4, 0, 6] rfl ?_
        exact J176 K35 hK35 v x1 x2 x3 (t0 ||| t1) x6 x5 (0 : Int32) h
      · have h := h.2 c46
        refine z_sub (lv' := [(0, .ref (d 0)), (1, .int x1), (2, .int x2), (3, .int x3), (4, .int (t0 ||| t1)), (6, .int x6)]) [1, 2, 3, 4, 0, 6] rfl ?_
        exact J171 K35 hK35 v x1 x2 x3 (t0 ||| t1) x6 x5 h
  have J129 : ∀ (K35 : Lf → Int32 → Int32 → Int32 → Int32 → Int32 → Int32 → Prop), (∀ (v : Lf) (x1 : Int32) (x2 : Int32) (x3 : Int32) (x4 : Int32) (x5 : Int32) (x6 : Int32), K35 v x1 x2 x3 x4 x5 x6 → ZZ p l e rmX10_changesByCalls s m args below meth c D A 8 0 0 QQ 35 (wX10 cI cJ d v g) [(0, .ref (d 0)), (1, .int x1), (2, .int x2), (3, .int x3), (4, .int x4), (5, .int x5), (6, .int x6)] []) → ∀ (v : Lf) (x1 : Int32) (x2 : Int32) (x3 : Int32) (x5 : Int32) (x6 : Int32) (t0 : Int32), pX10_changesByCalls_J129 Q K35 v x1 x2 x3 x5 x6 t0 → ZZ p l e rmX10_changesByCalls s m args below meth c D A 8 0 0 QQ 129 (wX10 cI cJ d v g) [(0, .ref (d 0)), (1, .int x1), (2, .int x2), (3, .int x3), (5, .int x5), (6, .int x6)] [.int t0] := by
    intro K35 hK35 v x1 x2 x3 x5 x6 t0 h
    refine z_iconst (pc := 129) (v := 0) C dX10_changesByCalls_129 (by decide) ?_
    exact J130 K35 hK35 v x1 x2 x3 x5 x6 t0 (0 : Int32) h
  have J93 : ∀ (K35 : Lf → Int32 → Int32 → Int32 → Int32 → Int32 → Int32 → Prop), (∀ (v : Lf) (x1 : Int32) (x2 : Int32) (x3 : Int32) (x4 : Int32) (x5 : Int32) (x6 : Int32), K35 v x1 x2 x3 x4 x5 x6 → ZZ p l e rmX10_changesByCalls s m args below meth c D A 8 0 0 QQ 35 (wX10 cI cJ d v g) [(0, .ref (d 0)), (1, .int x1), (2, .int x2), (3, .int x3), (4, .int x4), (5, .int x5), (6, .int x6)] []) → ∀ (v : Lf) (x1 : Int32) (x2 : Int32) (x4 : Int32) (x5 : Int32) (x6 : Int32) (t0 : Int32) (t1 : Int32), pX10_changesByCalls_J93 Q K35 v x1 x2 x4 x5 x6 t0 t1 → ZZ p l e rmX10_changesByCalls s m args below meth c D A 8 0 0 QQ 93 (wX10 cI cJ d v g) [(0, .ref (d 0)), (1, .int x1), (2, .int x2), (4, .int x4), (5, .int x5), (6, .int x6)] [.int t1, .int t0] := by
    intro K35 hK35 v x1 x2 x4 x5 x6 t0 t1 h
    refine z_iand (pc := 93) C dX10_changesByCalls_93 ?_
    refine z_istore_n (pc := 94) (lv' := [(3, .int (t0 &&& t1)), (0, .ref (d 0)), (1, .int x1), (2, .int x2), (4, .int x4), (5, .int x5), (6, .int x6)]) C dX10_changesByCalls_94 (by decide) rfl ?_
    refine z_iload (pc := 95) C 4 dX10_changesByCalls_95 rfl ?_
    refine z_aload_n (pc := 97) C 1 dX10_changesByCalls_97 rfl ?_
    refine z_iload (pc := 98) C 6 dX10_changesByCalls_98 rfl ?_
    refine z_bipush (pc := 100) (v := 6) C dX10_changesByCalls_100 (by decide) ?_
    refine z_callRi (pc := 102) C (z_runV (pc := 102) (wc := (wX10 cI cJ d v g)) (As := [.int x6, .int (6 : Int32)]) C (fun sz => kX10_at d v g x6 (6 : Int32) sz h) [0, 1, 2, 3, 4, 5, 6, 7, 8, 9, 10, 11] rfl (by decide) (gdV wq808 wq811 wq812 wq813 wq814) rfl rfl rfl hdX10_at 0 rfl rfl rfl ⟨Nat.le_of_ble_eq_true rfl, Nat.le_of_ble_eq_true rfl⟩ rfl (Nat.le_of_ble_eq_true rfl) ⟨Nat.zero_le _, Nat.zero_le _⟩ dX10_changesByCalls_102) [0, 1, 2, 3, 4, 5, 6, 7, 8, 9, 10, 11] rfl (by decide) (fun r39 u39 h => ?_)
    refine z_iconst (pc := 105) (v := 1) C dX10_changesByCalls_105 (by decide) ?_
    refine z_icmp_ne (pc := 106) (tgt := 129) C dX10_changesByCalls_106 (by decide) (fun c40 => ?_) (fun c40 => ?_)
    · have h := h.1 c40
      refine z_sub (lv' := [(0, .ref (d 0)), (1, .int x1), (2, .int x2), (3, .int (t0 &&& t1)), (5, .int x5), (6, .int x6)]) [1, 2, 3, 0, 5, 6] rfl ?_
      exact J129 K35 hK35 v x1 x2 (t0 &&& t1) x5 x6 x4 h
    · have h := h.2 c40
      refine z_aload_n (pc := 109) C 1 dX10_changesByCalls_109 rfl ?_
      refine z_iload (pc := 110) C 6 dX10_changesByCalls_110 rfl ?_
      refine z_callRi (pc := 112) C (z_runV (pc := 112) (wc := (wX10 cI cJ d v g)) (As := [.int x6]) C (fun sz => kX10_greenFor d v g x6 sz h) [0, 1, 2, 3, 4, 5, 6, 7, 8, 9, 10, 11] rfl (by decide) (gdV wq945 wq947 wq948 wq949 wq814) rfl rfl rfl hdX10_greenFor 0 rfl rfl rfl ⟨Nat.le_of_ble_eq_true rfl, Nat.le_of_ble_eq_true rfl⟩ rfl (Nat.le_of_ble_eq_true rfl) ⟨Nat.zero_le _, Nat.zero_le _⟩ dX10_changesByCalls_112) [0, 1, 2, 3, 4, 5, 6, 7, 8, 9, 10, 11] rfl (by decide) (fun r47 u47 h => ?_)
      refine z_aload_n (pc := 115) C 1 dX10_changesByCalls_115 rfl ?_
      refine z_iload (pc := 116) C 6 dX10_changesByCalls_116 rfl ?_
      refine z_iconst (pc := 118) (v := 2) C dX10_changesByCalls_118 (by decide) ?_
      refine z_callRi (pc := 119) C (z_runV (pc := 119) (wc := (wX10 cI cJ d v g)) (As := [.int x6, .int (2 : Int32)]) C (fun sz => kX10_at d v g x6 (2 : Int32) sz h) [0, 1, 2, 3, 4, 5, 6, 7, 8, 9, 10, 11] rfl (by decide) (gdV wq808 wq811 wq812 wq813 wq814) rfl rfl rfl hdX10_at 0 rfl rfl rfl ⟨Nat.le_of_ble_eq_true rfl, Nat.le_of_ble_eq_true rfl⟩ rfl (Nat.le_of_ble_eq_true rfl) ⟨Nat.zero_le _, Nat.zero_le _⟩ dX10_changesByCalls_119) [0, 1, 2, 3, 4, 5, 6, 7, 8, 9, 10, 11] rfl (by decide) (fun r48 u48 h => ?_)
      refine z_icmp_lt (pc := 122) (tgt := 129) C dX10_changesByCalls_122 (by decide) (fun c49 => ?_) (fun c49 => ?_)
      · have h := h.1 c49
        refine z_sub (lv' := [(0, .ref (d 0)), (1, .int x1), (2, .int x2), (3, .int (t0 &&& t1)), (5, .int x5), (6, .int x6)]) [1, 2, 3, 0, 5, 6] rfl ?_
        exact J129 K35 hK35 v x1 x2 (t0 &&& t1) x5 x6 x4 h
      · have h := h.2 c49
        refine z_iconst (pc := 125) (v := 1) C dX10_changesByCalls_125 (by decide) ?_
        refine z_goto (pc := 126) (tgt := 130) C dX10_changesByCalls_126 (by decide) ?_
        refine z_sub (lv' := [(0, .ref (d 0)), (1, .int x1), (2, .int x2), (3, .int (t0 &&& t1)), (5, .int x5), (6, .int x6)]) [1, 2, 3, 0, 5, 6] rfl ?_
        exact J130 K35 hK35 v x1 x2 (t0 &&& t1) x5 x6 x4 (1 : Int32) h
  have J92 : ∀ (K35 : Lf → Int32 → Int32 → Int32 → Int32 → Int32 → Int32 → Prop), (∀ (v : Lf) (x1 : Int32) (x2 : Int32) (x3 : Int32) (x4 : Int32) (x5 : Int32) (x6 : Int32), K35 v x1 x2 x3 x4 x5 x6 → ZZ p l e rmX10_changesByCalls s m args below meth c D A 8 0 0 QQ 35 (wX10 cI cJ d v g) [(0, .ref (d 0)), (1, .int x1), (2, .int x2), (3, .int x3), (4, .int x4), (5, .int x5), (6, .int x6)] []) → ∀ (v : Lf) (x1 : Int32) (x2 : Int32) (x4 : Int32) (x5 : Int32) (x6 : Int32) (t0 : Int32), pX10_changesByCalls_J92 Q K35 v x1 x2 x4 x5 x6 t0 → ZZ p l e rmX10_changesByCalls s m args below meth c D A 8 0 0 QQ 92 (wX10 cI cJ d v g) [(0, .ref (d 0)), (1, .int x1), (2, .int x2), (4, .int x4), (5, .int x5), (6, .int x6)] [.int t0] := by
    intro K35 hK35 v x1 x2 x4 x5 x6 t0 h
    refine z_iconst (pc := 92) (v := 0) C dX10_changesByCalls_92 (by decide) ?_
    exact J93 K35 hK35 v x1 x2 x4 x5 x6 t0 (0 : Int32) h
  have L35 : ∀ (n35 : Nat) (v : Lf) (x1 : Int32) (x2 : Int32) (x3 : Int32) (x4 : Int32) (x5 : Int32) (x6 : Int32), pX10_changesByCalls_L35 Q n35 v x1 x2 x3 x4 x5 x6 → ZZ p l e rmX10_changesByCalls s m args below meth c D A 8 0 0 QQ 35 (wX10 cI cJ d v g) [(0, .ref (d 0)), (1, .int x1), (2, .int x2), (3, .int x3), (4, .int x4), (5, .int x5), (6, .int x6)] [] := by
    intro n35
    induction n35 with
    | zero => intro v x1 x2 x3 x4 x5 x6 h; exact False.elim h
    | succ n35 ih35 =>
      intro v x1 x2 x3 x4 x5 x6 h
      refine z_iload (pc := 35) C 6 dX10_changesByCalls_35 rfl ?_
      refine z_aload_n (pc := 37) C 0 dX10_changesByCalls_37 rfl ?_
      refine z_get (pc := 38) C uw10 0 rfl rfl 0 (by decide) wq809 rfl dX10_changesByCalls_38 ?_
      refine z_bipush (pc := 41) (v := 13) C dX10_changesByCalls_41 (by decide) ?_
      refine z_iald (pc := 43) C 1 0 rfl rfl vi_13_372 (v 1 13) (congrArg _ cl_13) dX10_changesByCalls_43 ?_
      refine z_icmp_ge (pc := 44) (tgt := 185) C dX10_changesByCalls_44 (by decide) (fun c6 => ?_) (fun c6 => ?_)
      · have h := h.1 c6
        refine z_iconst (pc := 185) (v := 0) C dX10_changesByCalls_185 (by decide) ?_
        refine z_istore (pc := 186) (lv' := [(6, .int (0 : Int32)), (0, .ref (d 0)), (1, .int x1), (2, .int x2), (3, .int x3), (4, .int x4), (5, .int x5)]) C dX10_changesByCalls_186 (by decide) rfl ?_
        refine z_aload_n (pc := 188) C 1 dX10_changesByCalls_188 rfl ?_
        refine z_get (pc := 189) C uw10 0 rfl rfl 0 (by decide) wq809 rfl dX10_changesByCalls_189 ?_
        refine z_bipush (pc := 192) (v := 10) C dX10_changesByCalls_192 (by decide) ?_
        refine z_iald (pc := 194) C 1 0 rfl rfl vi_10_372 (v 1 10) (congrArg _ cl_10) dX10_changesByCalls_194 ?_
        refine z_if_le (pc := 195) (tgt := 265) C dX10_changesByCalls_195 (by decide) (fun c8 => ?_) (fun c8 => ?_)
        · have h := h.1 c8
          refine z_sub (lv' := [(0, .ref (d 0)), (2, .int x2), (3, .int x3), (4, .int x4), (5, .int x5), (6, .int (0 : Int32))]) [1, 3, 4, 5, 6, 0] rfl ?_
          exact J265  v x2 x3 x4 x5 (0 : Int32) h
        · have h := h.2 c8
          refine z_aload_n (pc := 198) C 1 dX10_changesByCalls_198 rfl ?_
          refine z_get (pc := 199) C uw10 0 rfl rfl 0 (by decide) wq809 rfl dX10_changesByCalls_199 ?_
          refine z_iconst (pc := 202) (v := 4) C dX10_changesByCalls_202 (by decide) ?_
          refine z_iald (pc := 203) C 1 0 rfl rfl vi_4_372 (v 1 4) (congrArg _ cl_4) dX10_changesByCalls_203 ?_
          refine z_if_ne (pc := 204) (tgt := 232) C dX10_changesByCalls_204 (by decide) (fun c27 => ?_) (fun c27 => ?_)
          · have h := h.1 c27
            refine z_aload_n (pc := 232) C 1 dX10_changesByCalls_232 rfl ?_
            refine z_callRi (pc := 233) C (z_runV (pc := 233) (wc := (wX10 cI cJ d v g)) (As := []) C (fun sz => kX10_local d v g sz h) [0, 1, 2, 3, 4, 5, 6, 7, 8, 9, 10, 11] rfl (by decide) (gdV wq935 wq960 wq961 wq962 wq814) rfl rfl rfl hdX10_local 0 rfl rfl rfl ⟨Nat.le_of_ble_eq_true rfl, Nat.le_of_ble_eq_true rfl⟩ rfl (Nat.le_of_ble_eq_true rfl) ⟨Nat.zero_le _, Nat.zero_le _⟩ dX10_changesByCalls_233) [0, 1, 2, 3, 4, 5, 6, 7, 8, 9, 10, 11] rfl (by decide) (fun r28 u28 h => ?_)
            refine z_aload_n (pc := 236) C 1 dX10_changesByCalls_236 rfl ?_
            refine z_get (pc := 237) C uw10 0 rfl rfl 0 (by decide) wq809 rfl dX10_changesByCalls_237 ?_
            refine z_sipush (pc := 240) (v := 216) C dX10_changesByCalls_240 (by decide) ?_
            refine z_iconst (pc := 243) (v := 3) C dX10_changesByCalls_243 (by decide) ?_
            refine z_aload_n (pc := 244) C 1 dX10_changesByCalls_244 rfl ?_
            refine z_get (pc := 245) C uw10 0 rfl rfl 0 (by decide) wq809 rfl dX10_changesByCalls_245 ?_
            refine z_iconst (pc := 248) (v := 4) C dX10_changesByCalls_248 (by decide) ?_
            refine z_iald (pc := 249) C 1 0 rfl rfl vi_4_372 (v 1 4) (congrArg _ cl_4) dX10_changesByCalls_249 ?_
            refine z_imul (pc := 250) C dX10_changesByCalls_250 ?_
            refine z_iadd (pc := 251) C dX10_changesByCalls_251 ?_
            refine z_iconst (pc := 252) (v := 1) C dX10_changesByCalls_252 (by decide) ?_
            refine z_iadd (pc := 253) C dX10_changesByCalls_253 ?_
            obtain ⟨g30, h⟩ := h
            refine z_iald (pc := 254) C 1 0 rfl rfl g30 (v 1 (((216 : Int32) + ((3 : Int32) * (v 1 4))) + (1 : Int32)).toNatClampNeg) rfl dX10_changesByCalls_254 ?_
            refine z_icmp_lt (pc := 255) (tgt := 262) C dX10_changesByCalls_255 (by decide) (fun c31 => ?_) (fun c31 => ?_)
            · have h := h.1 c31
              refine z_iconst (pc := 262) (v := 0) C dX10_changesByCalls_262 (by decide) ?_
              refine z_sub (lv' := [(0, .ref (d 0)), (2, .int x2), (3, .int x3), (4, .int x4), (5, .int x5)]) [1, 3, 4, 5, 6] rfl ?_
              exact J263  v x2 x3 x4 x5 (0 : Int32) h
            · have h := h.2 c31
              refine z_iconst (pc := 258) (v := 1) C dX10_changesByCalls_258 (by decide) ?_
              refine z_goto (pc := 259) (tgt := 263) C dX10_changesByCalls_259 (by decide) ?_
              refine z_sub (lv' := [(0, .ref (d 0)), (2, .int x2), (3, .int x3), (4, .int x4), (5, .int x5)]) [1, 3, 4, 5, 6] rfl ?_
              exact J263  v x2 x3 x4 x5 (1 : Int32) h
          · have h := h.2 c27
            refine z_iload_n (pc := 207) C 4 dX10_changesByCalls_207 rfl ?_
            refine z_aload_n (pc := 208) C 1 dX10_changesByCalls_208 rfl ?_
            refine z_callRi (pc := 209) C (z_runV (pc := 209) (wc := (wX10 cI cJ d v g)) (As := []) C (fun sz => kX10_local d v g sz h) [0, 1, 2, 3, 4, 5, 6, 7, 8, 9, 10, 11] rfl (by decide) (gdV wq935 wq960 wq961 wq962 wq814) rfl rfl rfl hdX10_local 0 rfl rfl rfl ⟨Nat.le_of_ble_eq_true rfl, Nat.le_of_ble_eq_true rfl⟩ rfl (Nat.le_of_ble_eq_true rfl) ⟨Nat.zero_le _, Nat.zero_le _⟩ dX10_changesByCalls_209) [0, 1, 2, 3, 4, 5, 6, 7, 8, 9, 10, 11] rfl (by decide) (fun r32 u32 h => ?_)
            refine z_aload_n (pc := 212) C 1 dX10_changesByCalls_212 rfl ?_
            refine z_get (pc := 213) C uw10 0 rfl rfl 0 (by decide) wq809 rfl dX10_changesByCalls_213 ?_
            refine z_bipush (pc := 216) (v := 12) C dX10_changesByCalls_216 (by decide) ?_
            refine z_iald (pc := 218) C 1 0 rfl rfl vi_12_372 (v 1 12) (congrArg _ cl_12) dX10_changesByCalls_218 ?_
            refine z_icmp_lt (pc := 219) (tgt := 226) C dX10_changesByCalls_219 (by decide) (fun c34 => ?_) (fun c34 => ?_)
            · have h := h.1 c34
              refine z_iconst (pc := 226) (v := 0) C dX10_changesByCalls_226 (by decide) ?_
              refine z_sub (lv' := [(0, .ref (d 0)), (2, .int x2), (4, .int x4), (5, .int x5), (6, .int (0 : Int32))]) [1, 3, 5, 6, 0] rfl ?_
              exact J227  v x2 x4 x5 (0 : Int32) x3 (0 : Int32) h
            · have h := h.2 c34
              refine z_iconst (pc := 222) (v := 1) C dX10_changesByCalls_222 (by decide) ?_
              refine z_goto (pc := 223) (tgt := 227) C dX10_changesByCalls_223 (by decide) ?_
              refine z_sub (lv' := [(0, .ref (d 0)), (2, .int x2), (4, .int x4), (5, .int x5), (6, .int (0 : Int32))]) [1, 3, 5, 6, 0] rfl ?_
              exact J227  v x2 x4 x5 (0 : Int32) x3 (1 : Int32) h
      · have h := h.2 c6
        refine z_iload_n (pc := 47) C 1 dX10_changesByCalls_47 rfl ?_
        refine z_iload (pc := 48) C 6 dX10_changesByCalls_48 rfl ?_
        refine z_call0i (pc := 50) C (z_runS (pc := 50) (wc := ([] : va_W)) (As := [.int x1, .int x6]) C (fun sz => kX10_has x1 x6 sz h) [] rfl (by decide) (gdS wq850 wq911 wq912 wq814) rfl rfl rfl hdSX10_has ⟨Nat.le_of_ble_eq_true rfl, Nat.le_of_ble_eq_true rfl⟩ rfl (Nat.le_of_ble_eq_true rfl) ⟨Nat.zero_le _, Nat.zero_le _⟩ dX10_changesByCalls_50) (fun r35 u35 h => ?_)
        refine z_if_ne (pc := 53) (tgt := 59) C dX10_changesByCalls_53 (by decide) (fun c36 => ?_) (fun c36 => ?_)
        · have h := h.1 c36
          refine z_iload_n (pc := 59) C 3 dX10_changesByCalls_59 rfl ?_
          refine z_aload_n (pc := 60) C 0 dX10_changesByCalls_60 rfl ?_
          refine z_iload (pc := 61) C 6 dX10_changesByCalls_61 rfl ?_
          refine z_bipush (pc := 63) (v := 6) C dX10_changesByCalls_63 (by decide) ?_
          refine z_callRi (pc := 65) C (z_runV (pc := 65) (wc := (wX10 cI cJ d v g)) (As := [.int x6, .int (6 : Int32)]) C (fun sz => kX10_at d v g x6 (6 : Int32) sz h) [0, 1, 2, 3, 4, 5, 6, 7, 8, 9, 10, 11] rfl (by decide) (gdV wq808 wq811 wq812 wq813 wq814) rfl rfl rfl hdX10_at 0 rfl rfl rfl ⟨Nat.le_of_ble_eq_true rfl, Nat.le_of_ble_eq_true rfl⟩ rfl (Nat.le_of_ble_eq_true rfl) ⟨Nat.zero_le _, Nat.zero_le _⟩ dX10_changesByCalls_65) [0, 1, 2, 3, 4, 5, 6, 7, 8, 9, 10, 11] rfl (by decide) (fun r37 u37 h => ?_)
          refine z_iconst (pc := 68) (v := 1) C dX10_changesByCalls_68 (by decide) ?_
          refine z_icmp_ne (pc := 69) (tgt := 92) C dX10_changesByCalls_69 (by decide) (fun c38 => ?_) (fun c38 => ?_)
          · have h := h.1 c38
            refine z_sub (lv' := [(0, .ref (d 0)), (1, .int x1), (2, .int x2), (4, .int x4), (5, .int x5), (6, .int x6)]) [0, 1, 2, 4, 5, 6] rfl ?_
            exact J92 (fun v x1 x2 x3 x4 x5 x6 => pX10_changesByCalls_L35 Q n35 v x1 x2 x3 x4 x5 x6) ih35 v x1 x2 x4 x5 x6 x3 h
          · have h := h.2 c38
            refine z_aload_n (pc := 72) C 0 dX10_changesByCalls_72 rfl ?_
            refine z_iload (pc := 73) C 6 dX10_changesByCalls_73 rfl ?_
            refine z_callRi (pc := 75) C (z_runV (pc := 75) (wc := (wX10 cI cJ d v g)) (As := [.int x6]) C (fun sz => kX10_greenFor d v g x6 sz h) [0, 1, 2, 3, 4, 5, 6, 7, 8, 9, 10, 11] rfl (by decide) (gdV wq945 wq947 wq948 wq949 wq814) rfl rfl rfl hdX10_greenFor 0 rfl rfl rfl ⟨Nat.le_of_ble_eq_true rfl, Nat.le_of_ble_eq_true rfl⟩ rfl (Nat.le_of_ble_eq_true rfl) ⟨Nat.zero_le _, Nat.zero_le _⟩ dX10_changesByCalls_75) [0, 1, 2, 3, 4, 5, 6, 7, 8, 9, 10, 11] rfl (by decide) (fun r50 u50 h => ?_)
            refine z_aload_n (pc := 78) C 0 dX10_changesByCalls_78 rfl ?_
            refine z_iload (pc := 79) C 6 dX10_changesByCalls_79 rfl ?_
            refine z_iconst (pc := 81) (v := 1) C dX10_changesByCalls_81 (by decide) ?_
            refine z_callRi (pc := 82) C (z_runV (pc := 82) (wc := (wX10 cI cJ d v g)) (As := [.int x6, .int (1 : Int32)]) C (fun sz => kX10_at d v g x6 (1 : Int32) sz h) [0, 1, 2, 3, 4, 5, 6, 7, 8, 9, 10, 11] rfl (by decide) (gdV wq808 wq811 wq812 wq813 wq814) rfl rfl rfl hdX10_at 0 rfl rfl rfl ⟨Nat.le_of_ble_eq_true rfl, Nat.le_of_ble_eq_true rfl⟩ rfl (Nat.le_of_ble_eq_true rfl) ⟨Nat.zero_le _, Nat.zero_le _⟩ dX10_changesByCalls_82) [0, 1, 2, 3, 4, 5, 6, 7, 8, 9, 10, 11] rfl (by decide) (fun r51 u51 h => ?_)
            refine z_icmp_lt (pc := 85) (tgt := 92) C dX10_changesByCalls_85 (by decide) (fun c52 => ?_) (fun c52 => ?_)
            · have h := h.1 c52
              refine z_sub (lv' := [(0, .ref (d 0)), (1, .int x1), (2, .int x2), (4, .int x4), (5, .int x5), (6, .int x6)]) [0, 1, 2, 4, 5, 6] rfl ?_
              exact J92 (fun v x1 x2 x3 x4 x5 x6 => pX10_changesByCalls_L35 Q n35 v x1 x2 x3 x4 x5 x6) ih35 v x1 x2 x4 x5 x6 x3 h
            · have h := h.2 c52
              refine z_iconst (pc := 88) (v := 1) C dX10_changesByCalls_88 (by decide) ?_
              refine z_goto (pc := 89) (tgt := 93) C dX10_changesByCalls_89 (by decide) ?_
              refine z_sub (lv' := [(0, .ref (d 0)), (1, .int x1), (2, .int x2), (4, .int x4), (5, .int x5), (6, .int x6)]) [0, 1, 2, 4, 5, 6] rfl ?_
              exact J93 (fun v x1 x2 x3 x4 x5 x6 => pX10_changesByCalls_L35 Q n35 v x1 x2 x3 x4 x5 x6) ih35 v x1 x2 x4 x5 x6 x3 (1 : Int32) h
        · have h := h.2 c36
          refine z_goto (pc := 56) (tgt := 179) C dX10_changesByCalls_56 (by decide) ?_
          exact J179 (fun v x1 x2 x3 x4 x5 x6 => pX10_changesByCalls_L35 Q n35 v x1 x2 x3 x4 x5 x6) ih35 v x1 x2 x3 x4 x5 x6 h
  have J25 : ∀ (v : Lf) (x1 : Int32) (x2 : Int32) (t0 : Int32), pX10_changesByCalls_J25 Q v x1 x2 t0 → ZZ p l e rmX10_changesByCalls s m args below meth c D A 8 0 0 QQ 25 (wX10 cI cJ d v g) [(0, .ref (d 0)), (1, .int x1), (2, .int x2)] [.int t0] := by
    intro  v x1 x2 t0 h
    refine z_istore_n (pc := 25) (lv' := [(3, .int t0), (0, .ref (d 0)), (1, .int x1), (2, .int x2)]) C dX10_changesByCalls_25 (by decide) rfl ?_
    refine z_iconst (pc := 26) (v := 0) C dX10_changesByCalls_26 (by decide) ?_
    refine z_istore (pc := 27) (lv' := [(4, .int (0 : Int32)), (3, .int t0), (0, .ref (d 0)), (1, .int x1), (2, .int x2)]) C dX10_changesByCalls_27 (by decide) rfl ?_
    refine z_iconst (pc := 29) (v := 1) C dX10_changesByCalls_29 (by decide) ?_
    refine z_istore (pc := 30) (lv' := [(5, .int (1 : Int32)), (4, .int (0 : Int32)), (3, .int t0), (0, .ref (d 0)), (1, .int x1), (2, .int x2)]) C dX10_changesByCalls_30 (by decide) rfl ?_
    refine z_iconst (pc := 32) (v := 0) C dX10_changesByCalls_32 (by decide) ?_
    refine z_istore (pc := 33) (lv' := [(6, .int (0 : Int32)), (5, .int (1 : Int32)), (4, .int (0 : Int32)), (3, .int t0), (0, .ref (d 0)), (1, .int x1), (2, .int x2)]) C dX10_changesByCalls_33 (by decide) rfl ?_
    obtain ⟨n35, h⟩ := h
    refine z_sub (lv' := [(0, .ref (d 0)), (1, .int x1), (2, .int x2), (3, .int t0), (4, .int (0 : Int32)), (5, .int (1 : Int32)), (6, .int (0 : Int32))]) [4, 5, 6, 3, 2, 1, 0] rfl ?_
    exact L35  n35 v x1 x2 t0 (0 : Int32) (1 : Int32) (0 : Int32) h
  refine z_aload_n (pc := 0) C 0 dX10_changesByCalls_0 rfl ?_
  refine z_aload_n (pc := 1) C 0 dX10_changesByCalls_1 rfl ?_
  refine z_get (pc := 2) C uw10 0 rfl rfl 0 (by decide) wq809 rfl dX10_changesByCalls_2 ?_
  refine z_iconst (pc := 5) (v := 4) C dX10_changesByCalls_5 (by decide) ?_
  refine z_iald (pc := 6) C 1 0 rfl rfl vi_4_372 (v 1 4) (congrArg _ cl_4) dX10_changesByCalls_6 ?_
  refine z_callRi (pc := 7) C (z_runV (pc := 7) (wc := (wX10 cI cJ d v g)) (As := [.int (v 1 4)]) C (fun sz => kX10_setOf d v g (v 1 4) sz h) [0, 1, 2, 3, 4, 5, 6, 7, 8, 9, 10, 11] rfl (by decide) (gdV wq856 wq937 wq938 wq939 wq814) rfl rfl rfl hdX10_setOf 0 rfl rfl rfl ⟨Nat.le_of_ble_eq_true rfl, Nat.le_of_ble_eq_true rfl⟩ rfl (Nat.le_of_ble_eq_true rfl) ⟨Nat.zero_le _, Nat.zero_le _⟩ dX10_changesByCalls_7) [0, 1, 2, 3, 4, 5, 6, 7, 8, 9, 10, 11] rfl (by decide) (fun r2 u2 h => ?_)
  refine z_istore_n (pc := 10) (lv' := [(1, .int r2), (0, .ref (d 0))]) C dX10_changesByCalls_10 (by decide) rfl ?_
  refine z_aload_n (pc := 11) C 1 dX10_changesByCalls_11 rfl ?_
  refine z_callRi (pc := 12) C (z_runV (pc := 12) (wc := (wX10 cI cJ d v g)) (As := []) C (fun sz => kX10_called d v g sz h) [0, 1, 2, 3, 4, 5, 6, 7, 8, 9, 10, 11] rfl (by decide) (gdV wq940 wq957 wq958 wq959 wq814) rfl rfl rfl hdX10_called 0 rfl rfl rfl ⟨Nat.le_of_ble_eq_true rfl, Nat.le_of_ble_eq_true rfl⟩ rfl (Nat.le_of_ble_eq_true rfl) ⟨Nat.zero_le _, Nat.zero_le _⟩ dX10_changesByCalls_12) [0, 1, 2, 3, 4, 5, 6, 7, 8, 9, 10, 11] rfl (by decide) (fun r3 u3 h => ?_)
  refine z_istore_n (pc := 15) (lv' := [(2, .int r3), (1, .int r2), (0, .ref (d 0))]) C dX10_changesByCalls_15 (by decide) rfl ?_
  refine z_iload_n (pc := 16) C 0 dX10_changesByCalls_16 rfl ?_
  refine z_if_eq (pc := 17) (tgt := 24) C dX10_changesByCalls_17 (by decide) (fun c4 => ?_) (fun c4 => ?_)
  · have h := h.1 c4
    refine z_iconst (pc := 24) (v := 0) C dX10_changesByCalls_24 (by decide) ?_
    refine z_sub (lv' := [(0, .ref (d 0)), (1, .int r2), (2, .int r3)]) [2, 1, 0] rfl ?_
    exact J25  v r2 r3 (0 : Int32) h
  · have h := h.2 c4
    refine z_iconst (pc := 20) (v := 1) C dX10_changesByCalls_20 (by decide) ?_
    refine z_goto (pc := 21) (tgt := 25) C dX10_changesByCalls_21 (by decide) ?_
    refine z_sub (lv' := [(0, .ref (d 0)), (1, .int r2), (2, .int r3)]) [2, 1, 0] rfl ?_
    exact J25  v r2 r3 (1 : Int32) h

def pX10_mayTurn_J62 (v : Lf) (x1 : Int32) (Q : Int32 → Prop) (K2 : Int32 → Prop) (x2 : Int32) : Prop := (K2 (x2 + 1))
def pX10_mayTurn_L2 (v : Lf) (x1 : Int32) (Q : Int32 → Prop) : Nat → Int32 → Prop
  | 0, _ => False
  | n2 + 1, x2 => (((v 1 13) ≤ x2 → (Q (1 : Int32) )) ∧ (¬ (v 1 13) ≤ x2 → (pX10_meet v x1 x2 (fun r3 => ((r3 = 0 → (pX10_mayTurn_J62 v x1 Q (fun x2 => pX10_mayTurn_L2 v x1 Q n2 x2) x2)) ∧ (¬ r3 = 0 → (pX10_at v x2 (8 : Int32) (fun r5 => ((r5 < 0 → (pX10_mayTurn_J62 v x1 Q (fun x2 => pX10_mayTurn_L2 v x1 Q n2 x2) x2)) ∧ (¬ r5 < 0 → (pX10_at v x2 (8 : Int32) (fun r8 => (vp_in (((8 : Int32) * x2) + x1) 64 ∧ (((v 4 (((8 : Int32) * x2) + x1).toNatClampNeg) ≤ ((v 1 3) - r8) → (pX10_mayTurn_J62 v x1 Q (fun x2 => pX10_mayTurn_L2 v x1 Q n2 x2) x2)) ∧ (¬ (v 4 (((8 : Int32) * x2) + x1).toNatClampNeg) ≤ ((v 1 3) - r8) → (Q (0 : Int32) ))))))))))))))))
def pX10_mayTurn (v : Lf) (x1 : Int32) (Q : Int32 → Prop) : Prop := (∃ n2, pX10_mayTurn_L2 v x1 Q  n2 (0 : Int32))
abbrev rmX10_mayTurn : Room := { frames := 1, cells := 0, slots := 0, locals := 22 }
abbrev wdX10_mayTurn : List Cond := Cond.code yX10_mayTurn cX10_mayTurn 3 (some .boolean) :: TB
theorem hdSX10_mayTurn : (yX10_mayTurn).cls ≠ "java/lang/invoke/MethodHandle" ∧ (yX10_mayTurn).cls ≠ "java/lang/invoke/VarHandle" ∧ (parseMethodDescriptor (yX10_mayTurn).desc).map (fun d => d.parameters.length) = some 1 := by decide +kernel
theorem hdX10_mayTurn : (yX10_mayTurn).cls = RX10 ∧ (yX10_mayTurn).cls ≠ "java/lang/invoke/MethodHandle" ∧ (yX10_mayTurn).cls ≠ "java/lang/invoke/VarHandle" ∧ (parseMethodDescriptor (yX10_mayTurn).desc).map (fun d => d.parameters.length) = some 1 := ⟨rfl, hdSX10_mayTurn⟩
set_option maxHeartbeats 4000000 in
set_option maxRecDepth 100000 in
theorem kX10_mayTurn {l : Launch} {D : va_G} {cI cJ cT : ClassId} (d : Nat → Nat)  (v : Lf) (g : Lg) (x1 : Int32) {Q : Int32 → Prop} (sz : Nat) (h : pX10_mayTurn v x1 Q) : Met l yX10_mayTurn wdX10_mayTurn rmX10_mayTurn (Pz D (tyL cI cJ cT) [.ref (d 0), .int x1] (wX10 cI cJ d v g) sz) (va_Qi (fun (r : Int32) (u : Unit) => Q r) (Bz D (tyL cI cJ cT) (wX10 cI cJ d v g) sz (fun (u : Unit) => (wX10 cI cJ d v g))) (va_A (wX10 cI cJ d v g) sz)) 0 0 (va_A (wX10 cI cJ d v g) sz) := by
  refine z_metz (cc := cX10_mayTurn) (maxL := 3) (own := RX10) (lv0 := [(0, .ref (d 0)), (1, .int x1)]) (by decide) rfl rfl (Nat.le_of_ble_eq_true rfl) rfl ?_
  intro p e s m args below meth c A QQ C hin hret
  have J62 : ∀ (K2 : Int32 → Prop), (∀ (x2 : Int32), K2 x2 → ZZ p l e rmX10_mayTurn s m args below meth c D A 3 0 0 QQ 2 (wX10 cI cJ d v g) [(0, .ref (d 0)), (1, .int x1), (2, .int x2)] []) → ∀ (x2 : Int32), pX10_mayTurn_J62 v x1 Q K2 x2 → ZZ p l e rmX10_mayTurn s m args below meth c D A 3 0 0 QQ 62 (wX10 cI cJ d v g) [(0, .ref (d 0)), (1, .int x1), (2, .int x2)] [] := by
    intro K2 hK2 x2 h
    refine z_iinc (pc := 62) (v := (x2 + 1)) (lv' := [(2, .int (x2 + 1)), (0, .ref (d 0)), (1, .int x1)]) C 2 dX10_mayTurn_62 rfl rfl (by decide) rfl ?_
    refine z_goto (pc := 65) (tgt := 2) C dX10_mayTurn_65 (by decide) ?_
    refine z_sub (lv' := [(0, .ref (d 0)), (1, .int x1), (2, .int (x2 + 1))]) [1, 2, 0] rfl ?_
    exact hK2 (x2 + 1) h
  have L2 : ∀ (n2 : Nat) (x2 : Int32), pX10_mayTurn_L2 v x1 Q n2 x2 → ZZ p l e rmX10_mayTurn s m args below meth c D A 3 0 0 QQ 2 (wX10 cI cJ d v g) [(0, .ref (d 0)), (1, .int x1), (2, .int x2)] [] := by
    intro n2
    induction n2 with
    | zero => intro x2 h; exact False.elim h
    | succ n2 ih2 =>
      intro x2 h
      refine z_iload_n (pc := 2) C 2 dX10_mayTurn_2 rfl ?_
      refine z_aload_n (pc := 3) C 0 dX10_mayTurn_3 rfl ?_
      refine z_get (pc := 4) C uw10 0 rfl rfl 0 (by decide) wq809 rfl dX10_mayTurn_4 ?_
      refine z_bipush (pc := 7) (v := 13) C dX10_mayTurn_7 (by decide) ?_
      refine z_iald (pc := 9) C 1 0 rfl rfl vi_13_372 (v 1 13) (congrArg _ cl_13) dX10_mayTurn_9 ?_
      refine z_icmp_ge (pc := 10) (tgt := 68) C dX10_mayTurn_10 (by decide) (fun c2 => ?_) (fun c2 => ?_)
      · have h := h.1 c2
        refine z_iconst (pc := 68) (v := 1) C dX10_mayTurn_68 (by decide) ?_
        exact hret 69 _ _ (1 : Int32) rfl () rfl h dX10_mayTurn_69
      · have h := h.2 c2
        refine z_aload_n (pc := 13) C 0 dX10_mayTurn_13 rfl ?_
        refine z_iload_n (pc := 14) C 1 dX10_mayTurn_14 rfl ?_
        refine z_iload_n (pc := 15) C 2 dX10_mayTurn_15 rfl ?_
        refine z_callRi (pc := 16) C (z_runV (pc := 16) (wc := (wX10 cI cJ d v g)) (As := [.int x1, .int x2]) C (fun sz => kX10_meet d v g x1 x2 sz h) [0, 1, 2, 3, 4, 5, 6, 7, 8, 9, 10, 11] rfl (by decide) (gdV wq858 wq860 wq861 wq862 wq814) rfl rfl rfl hdX10_meet 0 rfl rfl rfl ⟨Nat.le_of_ble_eq_true rfl, Nat.le_of_ble_eq_true rfl⟩ rfl (Nat.le_of_ble_eq_true rfl) ⟨Nat.zero_le _, Nat.zero_le _⟩ dX10_mayTurn_16) [0, 1, 2, 3, 4, 5, 6, 7, 8, 9, 10, 11] rfl (by decide) (fun r3 u3 h => ?_)
        refine z_if_eq (pc := 19) (tgt := 62) C dX10_mayTurn_19 (by decide) (fun c4 => ?_) (fun c4 => ?_)
        · have h := h.1 c4
          exact J62 (fun x2 => pX10_mayTurn_L2 v x1 Q n2 x2) ih2 x2 h
        · have h := h.2 c4
          refine z_aload_n (pc := 22) C 0 dX10_mayTurn_22 rfl ?_
          refine z_iload_n (pc := 23) C 2 dX10_mayTurn_23 rfl ?_
          refine z_bipush (pc := 24) (v := 8) C dX10_mayTurn_24 (by decide) ?_
          refine z_callRi (pc := 26) C (z_runV (pc := 26) (wc := (wX10 cI cJ d v g)) (As := [.int x2, .int (8 : Int32)]) C (fun sz => kX10_at d v g x2 (8 : Int32) sz h) [0, 1, 2, 3, 4, 5, 6, 7, 8, 9, 10, 11] rfl (by decide) (gdV wq808 wq811 wq812 wq813 wq814) rfl rfl rfl hdX10_at 0 rfl rfl rfl ⟨Nat.le_of_ble_eq_true rfl, Nat.le_of_ble_eq_true rfl⟩ rfl (Nat.le_of_ble_eq_true rfl) ⟨Nat.zero_le _, Nat.zero_le _⟩ dX10_mayTurn_26) [0, 1, 2, 3, 4, 5, 6, 7, 8, 9, 10, 11] rfl (by decide) (fun r5 u5 h => ?_)
          refine z_if_lt (pc := 29) (tgt := 62) C dX10_mayTurn_29 (by decide) (fun c6 => ?_) (fun c6 => ?_)
          · have h := h.1 c6
            exact J62 (fun x2 => pX10_mayTurn_L2 v x1 Q n2 x2) ih2 x2 h
          · have h := h.2 c6
            refine z_aload_n (pc := 32) C 0 dX10_mayTurn_32 rfl ?_
            refine z_get (pc := 33) C uw10 0 rfl rfl 0 (by decide) wq809 rfl dX10_mayTurn_33 ?_
            refine z_iconst (pc := 36) (v := 3) C dX10_mayTurn_36 (by decide) ?_
            refine z_iald (pc := 37) C 1 0 rfl rfl vi_3_372 (v 1 3) (congrArg _ cl_3) dX10_mayTurn_37 ?_
            refine z_aload_n (pc := 38) C 0 dX10_mayTurn_38 rfl ?_
            refine z_iload_n (pc := 39) C 2 dX10_mayTurn_39 rfl ?_
            refine z_bipush (pc := 40) (v := 8) C dX10_mayTurn_40 (by decide) ?_
            refine z_callRi (pc := 42) C (z_runV (pc := 42) (wc := (wX10 cI cJ d v g)) (As := [.int x2, .int (8 : Int32)]) C (fun sz => kX10_at d v g x2 (8 : Int32) sz h) [0, 1, 2, 3, 4, 5, 6, 7, 8, 9, 10, 11] rfl (by decide) (gdV wq808 wq811 wq812 wq813 wq814) rfl rfl rfl hdX10_at 0 rfl rfl rfl ⟨Nat.le_of_ble_eq_true rfl, Nat.le_of_ble_eq_true rfl⟩ rfl (Nat.le_of_ble_eq_true rfl) ⟨Nat.zero_le _, Nat.zero_le _⟩ dX10_mayTurn_42) [0, 1, 2, 3, 4, 5, 6, 7, 8, 9, 10, 11] rfl (by decide) (fun r8 u8 h => ?_)
            refine z_isub (pc := 45) C dX10_mayTurn_45 ?_
            refine z_aload_n (pc := 46) C 0 dX10_mayTurn_46 rfl ?_
            refine z_get (pc := 47) C uw10 0 rfl rfl 5 (by decide) wq820 rfl dX10_mayTurn_47 ?_
            refine z_bipush (pc := 50) (v := 8) C dX10_mayTurn_50 (by decide) ?_
            refine z_iload_n (pc := 52) C 2 dX10_mayTurn_52 rfl ?_
            refine z_imul (pc := 53) C dX10_mayTurn_53 ?_
            refine z_iload_n (pc := 54) C 1 dX10_mayTurn_54 rfl ?_
            refine z_iadd (pc := 55) C dX10_mayTurn_55 ?_
            obtain ⟨g9, h⟩ := h
            refine z_iald (pc := 56) C 4 0 rfl rfl g9 (v 4 (((8 : Int32) * x2) + x1).toNatClampNeg) rfl dX10_mayTurn_56 ?_
            refine z_icmp_ge (pc := 57) (tgt := 62) C dX10_mayTurn_57 (by decide) (fun c10 => ?_) (fun c10 => ?_)
            · have h := h.1 c10
              exact J62 (fun x2 => pX10_mayTurn_L2 v x1 Q n2 x2) ih2 x2 h
            · have h := h.2 c10
              refine z_iconst (pc := 60) (v := 0) C dX10_mayTurn_60 (by decide) ?_
              exact hret 61 _ _ (0 : Int32) rfl () rfl h dX10_mayTurn_61
  refine z_iconst (pc := 0) (v := 0) C dX10_mayTurn_0 (by decide) ?_
  refine z_istore_n (pc := 1) (lv' := [(2, .int (0 : Int32)), (0, .ref (d 0)), (1, .int x1)]) C dX10_mayTurn_1 (by decide) rfl ?_
  obtain ⟨n2, h⟩ := h
  refine z_sub (lv' := [(0, .ref (d 0)), (1, .int x1), (2, .int (0 : Int32))]) [1, 2, 0] rfl ?_
  exact L2  n2 (0 : Int32) h

def pX10_turning_J89 (Q : Lf → Prop) (K2 : Lf → Int32 → Prop) (v : Lf) (x1 : Int32) : Prop := (K2 v (x1 + 1))
def pX10_turning_L2 (Q : Lf → Prop) : Nat → Lf → Int32 → Prop
  | 0, _, _ => False
  | n2 + 1, v, x1 => (((v 1 13) ≤ x1 → (Q v)) ∧ (¬ (v 1 13) ≤ x1 → (pX10_setOf v (v 1 4) (fun r4 => (pX10_has r4 x1 (fun r5 => ((r5 = 0 → (pX10_turning_J89  Q (fun v x1 => pX10_turning_L2 Q n2 v x1) v x1)) ∧ (¬ r5 = 0 → (pX10_at v x1 (6 : Int32) (fun r7 => ((r7 = (1 : Int32) → (pX10_turning_J89  Q (fun v x1 => pX10_turning_L2 Q n2 v x1) v x1)) ∧ (¬ r7 = (1 : Int32) → (pX10_mayTurn v x1 (fun r9 => ((¬ r9 = 0 → (pX10_puts v x1 (6 : Int32) (1 : Int32) (fun v_11 => (pX10_puts v_11 x1 (7 : Int32) (v_11 1 3) (fun v_13 => (pX10_at v_13 x1 (20 : Int32) (fun r14 => (pX10_puts v_13 x1 (20 : Int32) (r14 + (1 : Int32)) (fun v_15 => (pX10_turning_J89  Q (fun v x1 => pX10_turning_L2 Q n2 v x1) v_15 x1)))))))))) ∧ (r9 = 0 → (pX10_turning_J89  Q (fun v x1 => pX10_turning_L2 Q n2 v x1) v x1)))))))))))))))))
def pX10_turning (v : Lf)  (Q : Lf → Prop) : Prop := (∃ n2, pX10_turning_L2  Q  n2 v (0 : Int32))
abbrev rmX10_turning : Room := { frames := 2, cells := 0, slots := 0, locals := 44 }
abbrev wdX10_turning : List Cond := Cond.code yX10_turning cX10_turning 2 none :: TB
theorem hdSX10_turning : (yX10_turning).cls ≠ "java/lang/invoke/MethodHandle" ∧ (yX10_turning).cls ≠ "java/lang/invoke/VarHandle" ∧ (parseMethodDescriptor (yX10_turning).desc).map (fun d => d.parameters.length) = some 0 := by decide +kernel
theorem hdX10_turning : (yX10_turning).cls = RX10 ∧ (yX10_turning).cls ≠ "java/lang/invoke/MethodHandle" ∧ (yX10_turning).cls ≠ "java/lang/invoke/VarHandle" ∧ (parseMethodDescriptor (yX10_turning).desc).map (fun d => d.parameters.length) = some 0 := ⟨rfl, hdSX10_turning⟩
set_option maxHeartbeats 4000000 in
set_option maxRecDepth 100000 in
theorem kX10_turning {l : Launch} {D : va_G} {cI cJ cT : ClassId} (d : Nat → Nat)  (v : Lf) (g : Lg)  {Q : Lf → Prop} (sz : Nat) (h : pX10_turning v Q) : Met l yX10_turning wdX10_turning rmX10_turning (Pz D (tyL cI cJ cT) [.ref (d 0)] (wX10 cI cJ d v g) sz) (va_Qv (fun (u : Lf) => Q u) (Bz D (tyL cI cJ cT) (wX10 cI cJ d v g) sz (fun (u : Lf) => (wX10 cI cJ d u g))) (va_A (wX10 cI cJ d v g) sz)) 0 0 (va_A (wX10 cI cJ d v g) sz) := by
  refine z_metv (cc := cX10_turning) (maxL := 2) (own := RX10) (lv0 := [(0, .ref (d 0))]) (by decide) rfl rfl (Nat.le_of_ble_eq_true rfl) rfl ?_
  intro p e s m args below meth c A QQ C hin hret
  have J89 : ∀ (K2 : Lf → Int32 → Prop), (∀ (v : Lf) (x1 : Int32), K2 v x1 → ZZ p l e rmX10_turning s m args below meth c D A 2 0 0 QQ 2 (wX10 cI cJ d v g) [(0, .ref (d 0)), (1, .int x1)] []) → ∀ (v : Lf) (x1 : Int32), pX10_turning_J89 Q K2 v x1 → ZZ p l e rmX10_turning s m args below meth c D A 2 0 0 QQ 89 (wX10 cI cJ d v g) [(0, .ref (d 0)), (1, .int x1)] [] := by
    intro K2 hK2 v x1 h
    refine z_iinc (pc := 89) (v := (x1 + 1)) (lv' := [(1, .int (x1 + 1)), (0, .ref (d 0))]) C 1 dX10_turning_89 rfl rfl (by decide) rfl ?_
    refine z_goto (pc := 92) (tgt := 2) C dX10_turning_92 (by decide) ?_
    refine z_sub (lv' := [(0, .ref (d 0)), (1, .int (x1 + 1))]) [1, 0] rfl ?_
    exact hK2 v (x1 + 1) h
  have L2 : ∀ (n2 : Nat) (v : Lf) (x1 : Int32), pX10_turning_L2 Q n2 v x1 → ZZ p l e rmX10_turning s m args below meth c D A 2 0 0 QQ 2 (wX10 cI cJ d v g) [(0, .ref (d 0)), (1, .int x1)] [] := by
    intro n2
    induction n2 with
    | zero => intro v x1 h; exact False.elim h
    | succ n2 ih2 =>
      intro v x1 h
      refine z_iload_n (pc := 2) C 1 dX10_turning_2 rfl ?_
      refine z_aload_n (pc := 3) C 0 dX10_turning_3 rfl ?_
      refine z_get (pc := 4) C uw10 0 rfl rfl 0 (by decide) wq809 rfl dX10_turning_4 ?_
      refine z_bipush (pc := 7) (v := 13) C dX10_turning_7 (by decide) ?_
      refine z_iald (pc := 9) C 1 0 rfl rfl vi_13_372 (v 1 13) (congrArg _ cl_13) dX10_turning_9 ?_
      refine z_icmp_ge (pc := 10) (tgt := 95) C dX10_turning_10 (by decide) (fun c2 => ?_) (fun c2 => ?_)
      · have h := h.1 c2
        exact hret 95 _ _ v rfl h dX10_turning_95
      · have h := h.2 c2
        refine z_aload_n (pc := 13) C 0 dX10_turning_13 rfl ?_
        refine z_aload_n (pc := 14) C 0 dX10_turning_14 rfl ?_
        refine z_get (pc := 15) C uw10 0 rfl rfl 0 (by decide) wq809 rfl dX10_turning_15 ?_
        refine z_iconst (pc := 18) (v := 4) C dX10_turning_18 (by decide) ?_
        refine z_iald (pc := 19) C 1 0 rfl rfl vi_4_372 (v 1 4) (congrArg _ cl_4) dX10_turning_19 ?_
        refine z_callRi (pc := 20) C (z_runV (pc := 20) (wc := (wX10 cI cJ d v g)) (As := [.int (v 1 4)]) C (fun sz => kX10_setOf d v g (v 1 4) sz h) [0, 1, 2, 3, 4, 5, 6, 7, 8, 9, 10, 11] rfl (by decide) (gdV wq856 wq937 wq938 wq939 wq814) rfl rfl rfl hdX10_setOf 0 rfl rfl rfl ⟨Nat.le_of_ble_eq_true rfl, Nat.le_of_ble_eq_true rfl⟩ rfl (Nat.le_of_ble_eq_true rfl) ⟨Nat.zero_le _, Nat.zero_le _⟩ dX10_turning_20) [0, 1, 2, 3, 4, 5, 6, 7, 8, 9, 10, 11] rfl (by decide) (fun r4 u4 h => ?_)
        refine z_iload_n (pc := 23) C 1 dX10_turning_23 rfl ?_
        refine z_call0i (pc := 24) C (z_runS (pc := 24) (wc := ([] : va_W)) (As := [.int r4, .int x1]) C (fun sz => kX10_has r4 x1 sz h) [] rfl (by decide) (gdS wq850 wq911 wq912 wq814) rfl rfl rfl hdSX10_has ⟨Nat.le_of_ble_eq_true rfl, Nat.le_of_ble_eq_true rfl⟩ rfl (Nat.le_of_ble_eq_true rfl) ⟨Nat.zero_le _, Nat.zero_le _⟩ dX10_turning_24) (fun r5 u5 h => ?_)
        refine z_if_eq (pc := 27) (tgt := 89) C dX10_turning_27 (by decide) (fun c6 => ?_) (fun c6 => ?_)
        · have h := h.1 c6
          exact J89 (fun v x1 => pX10_turning_L2 Q n2 v x1) ih2 v x1 h
        · have h := h.2 c6
          refine z_aload_n (pc := 30) C 0 dX10_turning_30 rfl ?_
          refine z_iload_n (pc := 31) C 1 dX10_turning_31 rfl ?_
          refine z_bipush (pc := 32) (v := 6) C dX10_turning_32 (by decide) ?_
          refine z_callRi (pc := 34) C (z_runV (pc := 34) (wc := (wX10 cI cJ d v g)) (As := [.int x1, .int (6 : Int32)]) C (fun sz => kX10_at d v g x1 (6 : Int32) sz h) [0, 1, 2, 3, 4, 5, 6, 7, 8, 9, 10, 11] rfl (by decide) (gdV wq808 wq811 wq812 wq813 wq814) rfl rfl rfl hdX10_at 0 rfl rfl rfl ⟨Nat.le_of_ble_eq_true rfl, Nat.le_of_ble_eq_true rfl⟩ rfl (Nat.le_of_ble_eq_true rfl) ⟨Nat.zero_le _, Nat.zero_le _⟩ dX10_turning_34) [0, 1, 2, 3, 4, 5, 6, 7, 8, 9, 10, 11] rfl (by decide) (fun r7 u7 h => ?_)
          refine z_iconst (pc := 37) (v := 1) C dX10_turning_37 (by decide) ?_
          refine z_icmp_eq (pc := 38) (tgt := 89) C dX10_turning_38 (by decide) (fun c8 => ?_) (fun c8 => ?_)
          · have h := h.1 c8
            exact J89 (fun v x1 => pX10_turning_L2 Q n2 v x1) ih2 v x1 h
          · have h := h.2 c8
            refine z_aload_n (pc := 41) C 0 dX10_turning_41 rfl ?_
            refine z_iload_n (pc := 42) C 1 dX10_turning_42 rfl ?_
            refine z_callRi (pc := 43) C (z_runV (pc := 43) (wc := (wX10 cI cJ d v g)) (As := [.int x1]) C (fun sz => kX10_mayTurn d v g x1 sz h) [0, 1, 2, 3, 4, 5, 6, 7, 8, 9, 10, 11] rfl (by decide) (gdV wq964 wq965 wq966 wq967 wq814) rfl rfl rfl hdX10_mayTurn 0 rfl rfl rfl ⟨Nat.le_of_ble_eq_true rfl, Nat.le_of_ble_eq_true rfl⟩ rfl (Nat.le_of_ble_eq_true rfl) ⟨Nat.zero_le _, Nat.zero_le _⟩ dX10_turning_43) [0, 1, 2, 3, 4, 5, 6, 7, 8, 9, 10, 11] rfl (by decide) (fun r9 u9 h => ?_)
            refine z_if_ne (pc := 46) (tgt := 52) C dX10_turning_46 (by decide) (fun c10 => ?_) (fun c10 => ?_)
            · have h := h.1 c10
              refine z_aload_n (pc := 52) C 0 dX10_turning_52 rfl ?_
              refine z_iload_n (pc := 53) C 1 dX10_turning_53 rfl ?_
              refine z_bipush (pc := 54) (v := 6) C dX10_turning_54 (by decide) ?_
              refine z_iconst (pc := 56) (v := 1) C dX10_turning_56 (by decide) ?_
              refine z_callv (pc := 57) (wr := ([] : va_W)) (w1 := fun (u : Lf) => (wX10 cI cJ d u g)) (w2 := fun (u : Lf) => (wX10 cI cJ d u g)) C (z_runV (pc := 57) (wc := (wX10 cI cJ d v g)) (As := [.int x1, .int (6 : Int32), .int (1 : Int32)]) C (fun sz => kX10_puts d v g x1 (6 : Int32) (1 : Int32) sz h) [0, 1, 2, 3, 4, 5, 6, 7, 8, 9, 10, 11] rfl (by decide) (gdV wq855 wq864 wq865 wq866 wq814) rfl rfl rfl hdX10_puts 0 rfl rfl rfl ⟨Nat.le_of_ble_eq_true rfl, Nat.le_of_ble_eq_true rfl⟩ rfl (Nat.le_of_ble_eq_true rfl) ⟨Nat.zero_le _, Nat.zero_le _⟩ dX10_turning_57) [0, 1, 2, 3, 4, 5, 6, 7, 8, 9, 10, 11] [] [0, 1, 2, 3, 4, 5, 6, 7, 8, 9, 10, 11] rfl rfl (by decide) (by decide) (fun _ => rfl) (by decide) (fun u11 h => ?_)
              obtain ⟨v_11, hu11⟩ : ∃ z, z = u11 := ⟨_, rfl⟩
              subst hu11
              refine z_aload_n (pc := 60) C 0 dX10_turning_60 rfl ?_
              refine z_iload_n (pc := 61) C 1 dX10_turning_61 rfl ?_
              refine z_bipush (pc := 62) (v := 7) C dX10_turning_62 (by decide) ?_
              refine z_aload_n (pc := 64) C 0 dX10_turning_64 rfl ?_
              refine z_get (pc := 65) C uw10 0 rfl rfl 0 (by decide) wq809 rfl dX10_turning_65 ?_
              refine z_iconst (pc := 68) (v := 3) C dX10_turning_68 (by decide) ?_
              refine z_iald (pc := 69) C 1 0 rfl rfl vi_3_372 (v_11 1 3) (congrArg _ cl_3) dX10_turning_69 ?_
              refine z_callv (pc := 70) (wr := ([] : va_W)) (w1 := fun (u : Lf) => (wX10 cI cJ d u g)) (w2 := fun (u : Lf) => (wX10 cI cJ d u g)) C (z_runV (pc := 70) (wc := (wX10 cI cJ d v_11 g)) (As := [.int x1, .int (7 : Int32), .int (v_11 1 3)]) C (fun sz => kX10_puts d v_11 g x1 (7 : Int32) (v_11 1 3) sz h) [0, 1, 2, 3, 4, 5, 6, 7, 8, 9, 10, 11] rfl (by decide) (gdV wq855 wq864 wq865 wq866 wq814) rfl rfl rfl hdX10_puts 0 rfl rfl rfl ⟨Nat.le_of_ble_eq_true rfl, Nat.le_of_ble_eq_true rfl⟩ rfl (Nat.le_of_ble_eq_true rfl) ⟨Nat.zero_le _, Nat.zero_le _⟩ dX10_turning_70) [0, 1, 2, 3, 4, 5, 6, 7, 8, 9, 10, 11] [] [0, 1, 2, 3, 4, 5, 6, 7, 8, 9, 10, 11] rfl rfl (by decide) (by decide) (fun _ => rfl) (by decide) (fun u13 h => ?_)
              obtain ⟨v_13, hu13⟩ : ∃ z, z = u13 := ⟨_, rfl⟩
              subst hu13
              refine z_aload_n (pc := 73) C 0 dX10_turning_73 rfl ?_
              refine z_iload_n (pc := 74) C 1 dX10_turning_74 rfl ?_
              refine z_bipush (pc := 75) (v := 20) C dX10_turning_75 (by decide) ?_
              refine z_aload_n (pc := 77) C 0 dX10_turning_77 rfl ?_
              refine z_iload_n (pc := 78) C 1 dX10_turning_78 rfl ?_
              refine z_bipush (pc := 79) (v := 20) C dX10_turning_79 (by decide) ?_
              refine z_callRi (pc := 81) C (z_runV (pc := 81) (wc := (wX10 cI cJ d v_13 g)) (As := [.int x1, .int (20 : Int32)]) C (fun sz => kX10_at d v_13 g x1 (20 : Int32) sz h) [0, 1, 2, 3, 4, 5, 6, 7, 8, 9, 10, 11] rfl (by decide) (gdV wq808 wq811 wq812 wq813 wq814) rfl rfl rfl hdX10_at 0 rfl rfl rfl ⟨Nat.le_of_ble_eq_true rfl, Nat.le_of_ble_eq_true rfl⟩ rfl (Nat.le_of_ble_eq_true rfl) ⟨Nat.zero_le _, Nat.zero_le _⟩ dX10_turning_81) [0, 1, 2, 3, 4, 5, 6, 7, 8, 9, 10, 11] rfl (by decide) (fun r14 u14 h => ?_)
              refine z_iconst (pc := 84) (v := 1) C dX10_turning_84 (by decide) ?_
              refine z_iadd (pc := 85) C dX10_turning_85 ?_
              refine z_callv (pc := 86) (wr := ([] : va_W)) (w1 := fun (u : Lf) => (wX10 cI cJ d u g)) (w2 := fun (u : Lf) => (wX10 cI cJ d u g)) C (z_runV (pc := 86) (wc := (wX10 cI cJ d v_13 g)) (As := [.int x1, .int (20 : Int32), .int (r14 + (1 : Int32))]) C (fun sz => kX10_puts d v_13 g x1 (20 : Int32) (r14 + (1 : Int32)) sz h) [0, 1, 2, 3, 4, 5, 6, 7, 8, 9, 10, 11] rfl (by decide) (gdV wq855 wq864 wq865 wq866 wq814) rfl rfl rfl hdX10_puts 0 rfl rfl rfl ⟨Nat.le_of_ble_eq_true rfl, Nat.le_of_ble_eq_true rfl⟩ rfl (Nat.le_of_ble_eq_true rfl) ⟨Nat.zero_le _, Nat.zero_le _⟩ dX10_turning_86) [0, 1, 2, 3, 4, 5, 6, 7, 8, 9, 10, 11] [] [0, 1, 2, 3, 4, 5, 6, 7, 8, 9, 10, 11] rfl rfl (by decide) (by decide) (fun _ => rfl) (by decide) (fun u15 h => ?_)
              obtain ⟨v_15, hu15⟩ : ∃ z, z = u15 := ⟨_, rfl⟩
              subst hu15
              exact J89 (fun v x1 => pX10_turning_L2 Q n2 v x1) ih2 v_15 x1 h
            · have h := h.2 c10
              refine z_goto (pc := 49) (tgt := 89) C dX10_turning_49 (by decide) ?_
              exact J89 (fun v x1 => pX10_turning_L2 Q n2 v x1) ih2 v x1 h
  refine z_iconst (pc := 0) (v := 0) C dX10_turning_0 (by decide) ?_
  refine z_istore_n (pc := 1) (lv' := [(1, .int (0 : Int32)), (0, .ref (d 0))]) C dX10_turning_1 (by decide) rfl ?_
  obtain ⟨n2, h⟩ := h
  refine z_sub (lv' := [(0, .ref (d 0)), (1, .int (0 : Int32))]) [1, 0] rfl ?_
  exact L2  n2 v (0 : Int32) h

def pX10_going_J140 (Q : Lf → Prop) (K2 : Lf → Int32 → Prop) (v : Lf) (x1 : Int32) : Prop := (K2 v (x1 + 1))
def pX10_going_J81 (Q : Lf → Prop) (K2 : Lf → Int32 → Prop) (v : Lf) (x1 : Int32) (t0 : Int32) : Prop := (pX10_at v x1 (5 : Int32) (fun r10 => (pX10_at v x1 (5 : Int32) (fun r11 => (pX10_puts v x1 (5 : Int32) (r11 - (if r10 < t0 then r10 else t0)) (fun v_12 => (pX10_at v_12 x1 (10 : Int32) (fun r13 => (pX10_puts v_12 x1 (10 : Int32) (r13 + (if r10 < t0 then r10 else t0)) (fun v_14 => (pX10_going_J140  Q K2 (st v_14 1 8 ((v_14 1 8) + (if r10 < t0 then r10 else t0))) x1)))))))))))
def pX10_going_L2 (Q : Lf → Prop) : Nat → Lf → Int32 → Prop
  | 0, _, _ => False
  | n2 + 1, v, x1 => (((v 1 13) ≤ x1 → (Q v)) ∧ (¬ (v 1 13) ≤ x1 → (pX10_at v x1 (6 : Int32) (fun r3 => ((¬ r3 = 0 → (pX10_at v x1 (0 : Int32) (fun r5 => (pX10_greenFor v x1 (fun r6 => ((¬ r5 = 0 → ((¬ r5 = (1 : Int32) → ((¬ r5 = (2 : Int32) → (pX10_going_J81  Q (fun v x1 => pX10_going_L2 Q n2 v x1) v x1 (1 : Int32))) ∧ (r5 = (2 : Int32) → ((¬ (r6 - r6 / (4 : Int32) * (4 : Int32)) = 0 → (pX10_going_J81  Q (fun v x1 => pX10_going_L2 Q n2 v x1) v x1 (0 : Int32))) ∧ ((r6 - r6 / (4 : Int32) * (4 : Int32)) = 0 → (pX10_going_J81  Q (fun v x1 => pX10_going_L2 Q n2 v x1) v x1 (1 : Int32))))))) ∧ (r5 = (1 : Int32) → (pX10_going_J81  Q (fun v x1 => pX10_going_L2 Q n2 v x1) v x1 (99 : Int32))))) ∧ (r5 = 0 → (pX10_going_J81  Q (fun v x1 => pX10_going_L2 Q n2 v x1) v x1 ((1 : Int32) - (r6 - r6 / (2 : Int32) * (2 : Int32))))))))))) ∧ (r3 = 0 → (pX10_going_J140  Q (fun v x1 => pX10_going_L2 Q n2 v x1) v x1)))))))
def pX10_going (v : Lf)  (Q : Lf → Prop) : Prop := (∃ n2, pX10_going_L2  Q  n2 v (0 : Int32))
abbrev rmX10_going : Room := { frames := 2, cells := 0, slots := 0, locals := 43 }
abbrev wdX10_going : List Cond := Cond.code yX10_going cX10_going 6 none :: TB
theorem hdSX10_going : (yX10_going).cls ≠ "java/lang/invoke/MethodHandle" ∧ (yX10_going).cls ≠ "java/lang/invoke/VarHandle" ∧ (parseMethodDescriptor (yX10_going).desc).map (fun d => d.parameters.length) = some 0 := by decide +kernel
theorem hdX10_going : (yX10_going).cls = RX10 ∧ (yX10_going).cls ≠ "java/lang/invoke/MethodHandle" ∧ (yX10_going).cls ≠ "java/lang/invoke/VarHandle" ∧ (parseMethodDescriptor (yX10_going).desc).map (fun d => d.parameters.length) = some 0 := ⟨rfl, hdSX10_going⟩
set_option maxHeartbeats 4000000 in
set_option maxRecDepth 100000 in
theorem kX10_going {l : Launch} {D : va_G} {cI cJ cT : ClassId} (d : Nat → Nat)  (v : Lf) (g : Lg)  {Q : Lf → Prop} (sz : Nat) (h : pX10_going v Q) : Met l yX10_going wdX10_going rmX10_going (Pz D (tyL cI cJ cT) [.ref (d 0)] (wX10 cI cJ d v g) sz) (va_Qv (fun (u : Lf) => Q u) (Bz D (tyL cI cJ cT) (wX10 cI cJ d v g) sz (fun (u : Lf) => (wX10 cI cJ d u g))) (va_A (wX10 cI cJ d v g) sz)) 0 0 (va_A (wX10 cI cJ d v g) sz) := by
  refine z_metv (cc := cX10_going) (maxL := 6) (own := RX10) (lv0 := [(0, .ref (d 0))]) (by decide) rfl rfl (Nat.le_of_ble_eq_true rfl) rfl ?_
  intro p e s m args below meth c A QQ C hin hret
  have J140 : ∀ (K2 : Lf → Int32 → Prop), (∀ (v : Lf) (x1 : Int32), K2 v x1 → ZZ p l e rmX10_going s m args below meth c D A 6 0 0 QQ 2 (wX10 cI cJ d v g) [(0, .ref (d 0)), (1, .int x1)] []) → ∀ (v : Lf) (x1 : Int32), pX10_going_J140 Q K2 v x1 → ZZ p l e rmX10_going s m args below meth c D A 6 0 0 QQ 140 (wX10 cI cJ d v g) [(0, .ref (d 0)), (1, .int x1)] [] := by
    intro K2 hK2 v x1 h
    refine z_iinc (pc := 140) (v := (x1 + 1)) (lv' := [(1, .int (x1 + 1)), (0, .ref (d 0))]) C 1 dX10_going_140 rfl rfl (by decide) rfl ?_
    refine z_goto (pc := 143) (tgt := 2) C dX10_going_143 (by decide) ?_
    refine z_sub (lv' := [(0, .ref (d 0)), (1, .int (x1 + 1))]) [1, 0] rfl ?_
    exact hK2 v (x1 + 1) h
  have J81 : ∀ (K2 : Lf → Int32 → Prop), (∀ (v : Lf) (x1 : Int32), K2 v x1 → ZZ p l e rmX10_going s m args below meth c D A 6 0 0 QQ 2 (wX10 cI cJ d v g) [(0, .ref (d 0)), (1, .int x1)] []) → ∀ (v : Lf) (x1 : Int32) (t0 : Int32), pX10_going_J81 Q K2 v x1 t0 → ZZ p l e rmX10_going s m args below meth c D A 6 0 0 QQ 81 (wX10 cI cJ d v g) [(0, .ref (d 0)), (1, .int x1)] [.int t0] := by
    intro K2 hK2 v x1 t0 h
    refine z_istore (pc := 81) (lv' := [(4, .int t0), (0, .ref (d 0)), (1, .int x1)]) C dX10_going_81 (by decide) rfl ?_
    refine z_iload (pc := 83) C 0 dX10_going_83 rfl ?_
    refine z_aload_n (pc := 85) C 1 dX10_going_85 rfl ?_
    refine z_iload_n (pc := 86) C 2 dX10_going_86 rfl ?_
    refine z_iconst (pc := 87) (v := 5) C dX10_going_87 (by decide) ?_
    refine z_callRi (pc := 88) C (z_runV (pc := 88) (wc := (wX10 cI cJ d v g)) (As := [.int x1, .int (5 : Int32)]) C (fun sz => kX10_at d v g x1 (5 : Int32) sz h) [0, 1, 2, 3, 4, 5, 6, 7, 8, 9, 10, 11] rfl (by decide) (gdV wq808 wq811 wq812 wq813 wq814) rfl rfl rfl hdX10_at 0 rfl rfl rfl ⟨Nat.le_of_ble_eq_true rfl, Nat.le_of_ble_eq_true rfl⟩ rfl (Nat.le_of_ble_eq_true rfl) ⟨Nat.zero_le _, Nat.zero_le _⟩ dX10_going_88) [0, 1, 2, 3, 4, 5, 6, 7, 8, 9, 10, 11] rfl (by decide) (fun r10 u10 h => ?_)
    refine z_mmin (pc := 91) C wq880 wq77 wq78 wq79 (Nat.le_of_ble_eq_true rfl) (Nat.le_of_ble_eq_true rfl) (Nat.zero_le _) (Nat.zero_le _) dX10_going_91 ?_
    refine z_istore (pc := 94) (lv' := [(5, .int (if r10 < t0 then r10 else t0)), (4, .int t0), (0, .ref (d 0)), (1, .int x1)]) C dX10_going_94 (by decide) rfl ?_
    refine z_aload_n (pc := 96) C 2 dX10_going_96 rfl ?_
    refine z_iload_n (pc := 97) C 3 dX10_going_97 rfl ?_
    refine z_iconst (pc := 98) (v := 5) C dX10_going_98 (by decide) ?_
    refine z_aload_n (pc := 99) C 2 dX10_going_99 rfl ?_
    refine z_iload_n (pc := 100) C 3 dX10_going_100 rfl ?_
    refine z_iconst (pc := 101) (v := 5) C dX10_going_101 (by decide) ?_
    refine z_callRi (pc := 102) C (z_runV (pc := 102) (wc := (wX10 cI cJ d v g)) (As := [.int x1, .int (5 : Int32)]) C (fun sz => kX10_at d v g x1 (5 : Int32) sz h) [0, 1, 2, 3, 4, 5, 6, 7, 8, 9, 10, 11] rfl (by decide) (gdV wq808 wq811 wq812 wq813 wq814) rfl rfl rfl hdX10_at 0 rfl rfl rfl ⟨Nat.le_of_ble_eq_true rfl, Nat.le_of_ble_eq_true rfl⟩ rfl (Nat.le_of_ble_eq_true rfl) ⟨Nat.zero_le _, Nat.zero_le _⟩ dX10_going_102) [0, 1, 2, 3, 4, 5, 6, 7, 8, 9, 10, 11] rfl (by decide) (fun r11 u11 h => ?_)
    refine z_iload (pc := 105) C 0 dX10_going_105 rfl ?_
    refine z_isub (pc := 107) C dX10_going_107 ?_
    refine z_callv (pc := 108) (wr := ([] : va_W)) (w1 := fun (u : Lf) => (wX10 cI cJ d u g)) (w2 := fun (u : Lf) => (wX10 cI cJ d u g)) C (z_runV (pc := 108) (wc := (wX10 cI cJ d v g)) (As := [.int x1, .int (5 : Int32), .int (r11 - (if r10 < t0 then r10 else t0))]) C (fun sz => kX10_puts d v g x1 (5 : Int32) (r11 - (if r10 < t0 then r10 else t0)) sz h) [0, 1, 2, 3, 4, 5, 6, 7, 8, 9, 10, 11] rfl (by decide) (gdV wq855 wq864 wq865 wq866 wq814) rfl rfl rfl hdX10_puts 0 rfl rfl rfl ⟨Nat.le_of_ble_eq_true rfl, Nat.le_of_ble_eq_true rfl⟩ rfl (Nat.le_of_ble_eq_true rfl) ⟨Nat.zero_le _, Nat.zero_le _⟩ dX10_going_108) [0, 1, 2, 3, 4, 5, 6, 7, 8, 9, 10, 11] [] [0, 1, 2, 3, 4, 5, 6, 7, 8, 9, 10, 11] rfl rfl (by decide) (by decide) (fun _ => rfl) (by decide) (fun u12 h => ?_)
    obtain ⟨v_12, hu12⟩ : ∃ z, z = u12 := ⟨_, rfl⟩
    subst hu12
    refine z_aload_n (pc := 111) C 2 dX10_going_111 rfl ?_
    refine z_iload_n (pc := 112) C 3 dX10_going_112 rfl ?_
    refine z_bipush (pc := 113) (v := 10) C dX10_going_113 (by decide) ?_
    refine z_aload_n (pc := 115) C 2 dX10_going_115 rfl ?_
    refine z_iload_n (pc := 116) C 3 dX10_going_116 rfl ?_
    refine z_bipush (pc := 117) (v := 10) C dX10_going_117 (by decide) ?_
    refine z_callRi (pc := 119) C (z_runV (pc := 119) (wc := (wX10 cI cJ d v_12 g)) (As := [.int x1, .int (10 : Int32)]) C (fun sz => kX10_at d v_12 g x1 (10 : Int32) sz h) [0, 1, 2, 3, 4, 5, 6, 7, 8, 9, 10, 11] rfl (by decide) (gdV wq808 wq811 wq812 wq813 wq814) rfl rfl rfl hdX10_at 0 rfl rfl rfl ⟨Nat.le_of_ble_eq_true rfl, Nat.le_of_ble_eq_true rfl⟩ rfl (Nat.le_of_ble_eq_true rfl) ⟨Nat.zero_le _, Nat.zero_le _⟩ dX10_going_119) [0, 1, 2, 3, 4, 5, 6, 7, 8, 9, 10, 11] rfl (by decide) (fun r13 u13 h => ?_)
    refine z_iload (pc := 122) C 0 dX10_going_122 rfl ?_
    refine z_iadd (pc := 124) C dX10_going_124 ?_
    refine z_callv (pc := 125) (wr := ([] : va_W)) (w1 := fun (u : Lf) => (wX10 cI cJ d u g)) (w2 := fun (u : Lf) => (wX10 cI cJ d u g)) C (z_runV (pc := 125) (wc := (wX10 cI cJ d v_12 g)) (As := [.int x1, .int (10 : Int32), .int (r13 + (if r10 < t0 then r10 else t0))]) C (fun sz => kX10_puts d v_12 g x1 (10 : Int32) (r13 + (if r10 < t0 then r10 else t0)) sz h) [0, 1, 2, 3, 4, 5, 6, 7, 8, 9, 10, 11] rfl (by decide) (gdV wq855 wq864 wq865 wq866 wq814) rfl rfl rfl hdX10_puts 0 rfl rfl rfl ⟨Nat.le_of_ble_eq_true rfl, Nat.le_of_ble_eq_true rfl⟩ rfl (Nat.le_of_ble_eq_true rfl) ⟨Nat.zero_le _, Nat.zero_le _⟩ dX10_going_125) [0, 1, 2, 3, 4, 5, 6, 7, 8, 9, 10, 11] [] [0, 1, 2, 3, 4, 5, 6, 7, 8, 9, 10, 11] rfl rfl (by decide) (by decide) (fun _ => rfl) (by decide) (fun u14 h => ?_)
    obtain ⟨v_14, hu14⟩ : ∃ z, z = u14 := ⟨_, rfl⟩
    subst hu14
    refine z_aload_n (pc := 128) C 2 dX10_going_128 rfl ?_
    refine z_get (pc := 129) C uw10 0 rfl rfl 0 (by decide) wq809 rfl dX10_going_129 ?_
    refine z_bipush (pc := 132) (v := 8) C dX10_going_132 (by decide) ?_
    refine z_dup2 (pc := 134) C dX10_going_134 rfl rfl ?_
    refine z_iald (pc := 135) C 1 0 rfl rfl vi_8_372 (v_14 1 8) (congrArg _ cl_8) dX10_going_135 ?_
    refine z_iload (pc := 136) C 0 dX10_going_136 rfl ?_
    refine z_iadd (pc := 138) C dX10_going_138 ?_
    refine z_iast (pc := 139) (ws' := (wX10 cI cJ d (st v_14 1 8 ((v_14 1 8) + (if r10 < t0 then r10 else t0))) g)) C 1 0 rfl rfl vi_8_372 dX10_going_139 cl_8 sX10_a1 ?_
    refine z_sub (lv' := [(0, .ref (d 0)), (1, .int x1)]) [2, 3] rfl ?_
    exact J140 K2 hK2 (st v_14 1 8 ((v_14 1 8) + (if r10 < t0 then r10 else t0))) x1 h
  have L2 : ∀ (n2 : Nat) (v : Lf) (x1 : Int32), pX10_going_L2 Q n2 v x1 → ZZ p l e rmX10_going s m args below meth c D A 6 0 0 QQ 2 (wX10 cI cJ d v g) [(0, .ref (d 0)), (1, .int x1)] [] := by
    intro n2
    induction n2 with
    | zero => intro v x1 h; exact False.elim h
    | succ n2 ih2 =>
      intro v x1 h
      refine z_iload_n (pc := 2) C 1 dX10_going_2 rfl ?_
      refine z_aload_n (pc := 3) C 0 dX10_going_3 rfl ?_
      refine z_get (pc := 4) C uw10 0 rfl rfl 0 (by decide) wq809 rfl dX10_going_4 ?_
      refine z_bipush (pc := 7) (v := 13) C dX10_going_7 (by decide) ?_
      refine z_iald (pc := 9) C 1 0 rfl rfl vi_13_372 (v 1 13) (congrArg _ cl_13) dX10_going_9 ?_
      refine z_icmp_ge (pc := 10) (tgt := 146) C dX10_going_10 (by decide) (fun c2 => ?_) (fun c2 => ?_)
      · have h := h.1 c2
        exact hret 146 _ _ v rfl h dX10_going_146
      · have h := h.2 c2
        refine z_aload_n (pc := 13) C 0 dX10_going_13 rfl ?_
        refine z_iload_n (pc := 14) C 1 dX10_going_14 rfl ?_
        refine z_bipush (pc := 15) (v := 6) C dX10_going_15 (by decide) ?_
        refine z_callRi (pc := 17) C (z_runV (pc := 17) (wc := (wX10 cI cJ d v g)) (As := [.int x1, .int (6 : Int32)]) C (fun sz => kX10_at d v g x1 (6 : Int32) sz h) [0, 1, 2, 3, 4, 5, 6, 7, 8, 9, 10, 11] rfl (by decide) (gdV wq808 wq811 wq812 wq813 wq814) rfl rfl rfl hdX10_at 0 rfl rfl rfl ⟨Nat.le_of_ble_eq_true rfl, Nat.le_of_ble_eq_true rfl⟩ rfl (Nat.le_of_ble_eq_true rfl) ⟨Nat.zero_le _, Nat.zero_le _⟩ dX10_going_17) [0, 1, 2, 3, 4, 5, 6, 7, 8, 9, 10, 11] rfl (by decide) (fun r3 u3 h => ?_)
        refine z_if_ne (pc := 20) (tgt := 26) C dX10_going_20 (by decide) (fun c4 => ?_) (fun c4 => ?_)
        · have h := h.1 c4
          refine z_aload_n (pc := 26) C 0 dX10_going_26 rfl ?_
          refine z_iload_n (pc := 27) C 1 dX10_going_27 rfl ?_
          refine z_iconst (pc := 28) (v := 0) C dX10_going_28 (by decide) ?_
          refine z_callRi (pc := 29) C (z_runV (pc := 29) (wc := (wX10 cI cJ d v g)) (As := [.int x1, .int (0 : Int32)]) C (fun sz => kX10_at d v g x1 (0 : Int32) sz h) [0, 1, 2, 3, 4, 5, 6, 7, 8, 9, 10, 11] rfl (by decide) (gdV wq808 wq811 wq812 wq813 wq814) rfl rfl rfl hdX10_at 0 rfl rfl rfl ⟨Nat.le_of_ble_eq_true rfl, Nat.le_of_ble_eq_true rfl⟩ rfl (Nat.le_of_ble_eq_true rfl) ⟨Nat.zero_le _, Nat.zero_le _⟩ dX10_going_29) [0, 1, 2, 3, 4, 5, 6, 7, 8, 9, 10, 11] rfl (by decide) (fun r5 u5 h => ?_)
          refine z_istore_n (pc := 32) (lv' := [(2, .int r5), (0, .ref (d 0)), (1, .int x1)]) C dX10_going_32 (by decide) rfl ?_
          refine z_aload_n (pc := 33) C 1 dX10_going_33 rfl ?_
          refine z_iload_n (pc := 34) C 2 dX10_going_34 rfl ?_
          refine z_callRi (pc := 35) C (z_runV (pc := 35) (wc := (wX10 cI cJ d v g)) (As := [.int x1]) C (fun sz => kX10_greenFor d v g x1 sz h) [0, 1, 2, 3, 4, 5, 6, 7, 8, 9, 10, 11] rfl (by decide) (gdV wq945 wq947 wq948 wq949 wq814) rfl rfl rfl hdX10_greenFor 0 rfl rfl rfl ⟨Nat.le_of_ble_eq_true rfl, Nat.le_of_ble_eq_true rfl⟩ rfl (Nat.le_of_ble_eq_true rfl) ⟨Nat.zero_le _, Nat.zero_le _⟩ dX10_going_35) [0, 1, 2, 3, 4, 5, 6, 7, 8, 9, 10, 11] rfl (by decide) (fun r6 u6 h => ?_)
          refine z_istore_n (pc := 38) (lv' := [(3, .int r6), (2, .int r5), (0, .ref (d 0)), (1, .int x1)]) C dX10_going_38 (by decide) rfl ?_
          refine z_iload_n (pc := 39) C 1 dX10_going_39 rfl ?_
          refine z_if_ne (pc := 40) (tgt := 51) C dX10_going_40 (by decide) (fun c7 => ?_) (fun c7 => ?_)
          · have h := h.1 c7
            refine z_iload_n (pc := 51) C 1 dX10_going_51 rfl ?_
            refine z_iconst (pc := 52) (v := 1) C dX10_going_52 (by decide) ?_
            refine z_icmp_ne (pc := 53) (tgt := 61) C dX10_going_53 (by decide) (fun c8 => ?_) (fun c8 => ?_)
            · have h := h.1 c8
              refine z_iload_n (pc := 61) C 1 dX10_going_61 rfl ?_
              refine z_iconst (pc := 62) (v := 2) C dX10_going_62 (by decide) ?_
              refine z_icmp_ne (pc := 63) (tgt := 80) C dX10_going_63 (by decide) (fun c9 => ?_) (fun c9 => ?_)
              · have h := h.1 c9
                refine z_iconst (pc := 80) (v := 1) C dX10_going_80 (by decide) ?_
                refine z_sub (lv' := [(0, .ref (d 0)), (1, .int x1)]) [2, 3] rfl ?_
                exact J81 (fun v x1 => pX10_going_L2 Q n2 v x1) ih2 v x1 (1 : Int32) h
              · have h := h.2 c9
                refine z_iload_n (pc := 66) C 0 dX10_going_66 rfl ?_
                refine z_iconst (pc := 67) (v := 4) C dX10_going_67 (by decide) ?_
                refine z_irem (pc := 68) C dX10_going_68 (by decide) ?_
                refine z_if_ne (pc := 69) (tgt := 76) C dX10_going_69 (by decide) (fun c17 => ?_) (fun c17 => ?_)
                · have h := h.1 c17
                  refine z_iconst (pc := 76) (v := 0) C dX10_going_76 (by decide) ?_
                  refine z_goto (pc := 77) (tgt := 81) C dX10_going_77 (by decide) ?_
                  refine z_sub (lv' := [(0, .ref (d 0)), (1, .int x1)]) [2, 3] rfl ?_
                  exact J81 (fun v x1 => pX10_going_L2 Q n2 v x1) ih2 v x1 (0 : Int32) h
                · have h := h.2 c17
                  refine z_iconst (pc := 72) (v := 1) C dX10_going_72 (by decide) ?_
                  refine z_goto (pc := 73) (tgt := 81) C dX10_going_73 (by decide) ?_
                  refine z_sub (lv' := [(0, .ref (d 0)), (1, .int x1)]) [2, 3] rfl ?_
                  exact J81 (fun v x1 => pX10_going_L2 Q n2 v x1) ih2 v x1 (1 : Int32) h
            · have h := h.2 c8
              refine z_bipush (pc := 56) (v := 99) C dX10_going_56 (by decide) ?_
              refine z_goto (pc := 58) (tgt := 81) C dX10_going_58 (by decide) ?_
              refine z_sub (lv' := [(0, .ref (d 0)), (1, .int x1)]) [2, 3] rfl ?_
              exact J81 (fun v x1 => pX10_going_L2 Q n2 v x1) ih2 v x1 (99 : Int32) h
          · have h := h.2 c7
            refine z_iconst (pc := 43) (v := 1) C dX10_going_43 (by decide) ?_
            refine z_iload_n (pc := 44) C 0 dX10_going_44 rfl ?_
            refine z_iconst (pc := 45) (v := 2) C dX10_going_45 (by decide) ?_
            refine z_irem (pc := 46) C dX10_going_46 (by decide) ?_
            refine z_isub (pc := 47) C dX10_going_47 ?_
            refine z_goto (pc := 48) (tgt := 81) C dX10_going_48 (by decide) ?_
            refine z_sub (lv' := [(0, .ref (d 0)), (1, .int x1)]) [2, 3] rfl ?_
            exact J81 (fun v x1 => pX10_going_L2 Q n2 v x1) ih2 v x1 ((1 : Int32) - (r6 - r6 / (2 : Int32) * (2 : Int32))) h
        · have h := h.2 c4
          refine z_goto (pc := 23) (tgt := 140) C dX10_going_23 (by decide) ?_
          exact J140 (fun v x1 => pX10_going_L2 Q n2 v x1) ih2 v x1 h
  refine z_iconst (pc := 0) (v := 0) C dX10_going_0 (by decide) ?_
  refine z_istore_n (pc := 1) (lv' := [(1, .int (0 : Int32)), (0, .ref (d 0))]) C dX10_going_1 (by decide) rfl ?_
  obtain ⟨n2, h⟩ := h
  refine z_sub (lv' := [(0, .ref (d 0)), (1, .int (0 : Int32))]) [1, 0] rfl ?_
  exact L2  n2 v (0 : Int32) h

def pX10_queues_L4 (v : Lf) (Q : Int32 → Prop) : Nat → Int32 → Int32 → Prop
  | 0, _, _ => False
  | n4 + 1, x1, x2 => (((v 1 13) ≤ x2 → (Q x1 )) ∧ (¬ (v 1 13) ≤ x2 → (pX10_at v x2 (5 : Int32) (fun r3 => (pX10_queues_L4 v Q n4 (x1 + r3) (x2 + 1))))))
def pX10_queues (v : Lf)  (Q : Int32 → Prop) : Prop := (∃ n4, pX10_queues_L4 v Q  n4 (0 : Int32) (0 : Int32))
abbrev rmX10_queues : Room := { frames := 1, cells := 0, slots := 0, locals := 22 }
abbrev wdX10_queues : List Cond := Cond.code yX10_queues cX10_queues 3 (some .int) :: TB
theorem hdSX10_queues : (yX10_queues).cls ≠ "java/lang/invoke/MethodHandle" ∧ (yX10_queues).cls ≠ "java/lang/invoke/VarHandle" ∧ (parseMethodDescriptor (yX10_queues).desc).map (fun d => d.parameters.length) = some 0 := by decide +kernel
theorem hdX10_queues : (yX10_queues).cls = RX10 ∧ (yX10_queues).cls ≠ "java/lang/invoke/MethodHandle" ∧ (yX10_queues).cls ≠ "java/lang/invoke/VarHandle" ∧ (parseMethodDescriptor (yX10_queues).desc).map (fun d => d.parameters.length) = some 0 := ⟨rfl, hdSX10_queues⟩
set_option maxHeartbeats 4000000 in
set_option maxRecDepth 100000 in
theorem kX10_queues {l : Launch} {D : va_G} {cI cJ cT : ClassId} (d : Nat → Nat)  (v : Lf) (g : Lg)  {Q : Int32 → Prop} (sz : Nat) (h : pX10_queues v Q) : Met l yX10_queues wdX10_queues rmX10_queues (Pz D (tyL cI cJ cT) [.ref (d 0)] (wX10 cI cJ d v g) sz) (va_Qi (fun (r : Int32) (u : Unit) => Q r) (Bz D (tyL cI cJ cT) (wX10 cI cJ d v g) sz (fun (u : Unit) => (wX10 cI cJ d v g))) (va_A (wX10 cI cJ d v g) sz)) 0 0 (va_A (wX10 cI cJ d v g) sz) := by
  refine z_meti (cc := cX10_queues) (maxL := 3) (own := RX10) (lv0 := [(0, .ref (d 0))]) (by decide) rfl rfl (Nat.le_of_ble_eq_true rfl) rfl ?_
  intro p e s m args below meth c A QQ C hin hret
  have L4 : ∀ (n4 : Nat) (x1 : Int32) (x2 : Int32), pX10_queues_L4 v Q n4 x1 x2 → ZZ p l e rmX10_queues s m args below meth c D A 3 0 0 QQ 4 (wX10 cI cJ d v g) [(0, .ref (d 0)), (1, .int x1), (2, .int x2)] [] := by
    intro n4
    induction n4 with
    | zero => intro x1 x2 h; exact False.elim h
    | succ n4 ih4 =>
      intro x1 x2 h
      refine z_iload_n (pc := 4) C 2 dX10_queues_4 rfl ?_
      refine z_aload_n (pc := 5) C 0 dX10_queues_5 rfl ?_
      refine z_get (pc := 6) C uw10 0 rfl rfl 0 (by decide) wq809 rfl dX10_queues_6 ?_
      refine z_bipush (pc := 9) (v := 13) C dX10_queues_9 (by decide) ?_
      refine z_iald (pc := 11) C 1 0 rfl rfl vi_13_372 (v 1 13) (congrArg _ cl_13) dX10_queues_11 ?_
      refine z_icmp_ge (pc := 12) (tgt := 30) C dX10_queues_12 (by decide) (fun c2 => ?_) (fun c2 => ?_)
      · have h := h.1 c2
        refine z_iload_n (pc := 30) C 1 dX10_queues_30 rfl ?_
        exact hret 31 _ _ x1 () rfl h dX10_queues_31
      · have h := h.2 c2
        refine z_iload_n (pc := 15) C 1 dX10_queues_15 rfl ?_
        refine z_aload_n (pc := 16) C 0 dX10_queues_16 rfl ?_
        refine z_iload_n (pc := 17) C 2 dX10_queues_17 rfl ?_
        refine z_iconst (pc := 18) (v := 5) C dX10_queues_18 (by decide) ?_
        refine z_callRi (pc := 19) C (z_runV (pc := 19) (wc := (wX10 cI cJ d v g)) (As := [.int x2, .int (5 : Int32)]) C (fun sz => kX10_at d v g x2 (5 : Int32) sz h) [0, 1, 2, 3, 4, 5, 6, 7, 8, 9, 10, 11] rfl (by decide) (gdV wq808 wq811 wq812 wq813 wq814) rfl rfl rfl hdX10_at 0 rfl rfl rfl ⟨Nat.le_of_ble_eq_true rfl, Nat.le_of_ble_eq_true rfl⟩ rfl (Nat.le_of_ble_eq_true rfl) ⟨Nat.zero_le _, Nat.zero_le _⟩ dX10_queues_19) [0, 1, 2, 3, 4, 5, 6, 7, 8, 9, 10, 11] rfl (by decide) (fun r3 u3 h => ?_)
        refine z_iadd (pc := 22) C dX10_queues_22 ?_
        refine z_istore_n (pc := 23) (lv' := [(1, .int (x1 + r3)), (0, .ref (d 0)), (2, .int x2)]) C dX10_queues_23 (by decide) rfl ?_
        refine z_iinc (pc := 24) (v := (x2 + 1)) (lv' := [(2, .int (x2 + 1)), (1, .int (x1 + r3)), (0, .ref (d 0))]) C 2 dX10_queues_24 rfl rfl (by decide) rfl ?_
        refine z_goto (pc := 27) (tgt := 4) C dX10_queues_27 (by decide) ?_
        refine z_sub (lv' := [(0, .ref (d 0)), (1, .int (x1 + r3)), (2, .int (x2 + 1))]) [2, 1, 0] rfl ?_
        exact ih4 (x1 + r3) (x2 + 1) h
  refine z_iconst (pc := 0) (v := 0) C dX10_queues_0 (by decide) ?_
  refine z_istore_n (pc := 1) (lv' := [(1, .int (0 : Int32)), (0, .ref (d 0))]) C dX10_queues_1 (by decide) rfl ?_
  refine z_iconst (pc := 2) (v := 0) C dX10_queues_2 (by decide) ?_
  refine z_istore_n (pc := 3) (lv' := [(2, .int (0 : Int32)), (1, .int (0 : Int32)), (0, .ref (d 0))]) C dX10_queues_3 (by decide) rfl ?_
  obtain ⟨n4, h⟩ := h
  refine z_sub (lv' := [(0, .ref (d 0)), (1, .int (0 : Int32)), (2, .int (0 : Int32))]) [2, 1, 0] rfl ?_
  exact L4  n4 (0 : Int32) (0 : Int32) h

def pX10_turns_J25 (Q : Lf → Prop) (v : Lf) : Prop := (pX10_turning v (fun v_5 => (Q v_5)))
def pX10_turns (v : Lf)  (Q : Lf → Prop) : Prop := (pX10_coming v (fun v_1 => (((v_1 1 6) < 0 → (pX10_changesByCalls v_1 (fun v_4 => (pX10_turns_J25  Q  v_4)))) ∧ (¬ (v_1 1 6) < 0 → (pX10_changesByEmergency v_1 (fun v_6 => (pX10_turns_J25  Q  v_6)))))))
abbrev rmX10_turns : Room := { frames := 4, cells := 0, slots := 0, locals := 94 }
abbrev wdX10_turns : List Cond := Cond.code yX10_turns cX10_turns 1 none :: TB
theorem hdSX10_turns : (yX10_turns).cls ≠ "java/lang/invoke/MethodHandle" ∧ (yX10_turns).cls ≠ "java/lang/invoke/VarHandle" ∧ (parseMethodDescriptor (yX10_turns).desc).map (fun d => d.parameters.length) = some 0 := by decide +kernel
theorem hdX10_turns : (yX10_turns).cls = RX10 ∧ (yX10_turns).cls ≠ "java/lang/invoke/MethodHandle" ∧ (yX10_turns).cls ≠ "java/lang/invoke/VarHandle" ∧ (parseMethodDescriptor (yX10_turns).desc).map (fun d => d.parameters.length) = some 0 := ⟨rfl, hdSX10_turns⟩
set_option maxHeartbeats 4000000 in
set_option maxRecDepth 100000 in
theorem kX10_turns {l : Launch} {D : va_G} {cI cJ cT : ClassId} (d : Nat → Nat)  (v : Lf) (g : Lg)  {Q : Lf → Prop} (sz : Nat) (h : pX10_turns v Q) : Met l yX10_turns wdX10_turns rmX10_turns (Pz D (tyL cI cJ cT) [.ref (d 0)] (wX10 cI cJ d v g) sz) (va_Qv (fun (u : Lf) => Q u) (Bz D (tyL cI cJ cT) (wX10 cI cJ d v g) sz (fun (u : Lf) => (wX10 cI cJ d u g))) (va_A (wX10 cI cJ d v g) sz)) 0 0 (va_A (wX10 cI cJ d v g) sz) := by
  refine z_metv (cc := cX10_turns) (maxL := 1) (own := RX10) (lv0 := [(0, .ref (d 0))]) (by decide) rfl rfl (Nat.le_of_ble_eq_true rfl) rfl ?_
  intro p e s m args below meth c A QQ C hin hret
  have J25 : ∀ (v : Lf), pX10_turns_J25 Q v → ZZ p l e rmX10_turns s m args below meth c D A 1 0 0 QQ 25 (wX10 cI cJ d v g) [(0, .ref (d 0))] [] := by
    intro  v h
    refine z_aload_n (pc := 25) C 0 dX10_turns_25 rfl ?_
    refine z_callv (pc := 26) (wr := ([] : va_W)) (w1 := fun (u : Lf) => (wX10 cI cJ d u g)) (w2 := fun (u : Lf) => (wX10 cI cJ d u g)) C (z_runV (pc := 26) (wc := (wX10 cI cJ d v g)) (As := []) C (fun sz => kX10_turning d v g sz h) [0, 1, 2, 3, 4, 5, 6, 7, 8, 9, 10, 11] rfl (by decide) (gdV wq968 wq980 wq981 wq982 wq814) rfl rfl rfl hdX10_turning 0 rfl rfl rfl ⟨Nat.le_of_ble_eq_true rfl, Nat.le_of_ble_eq_true rfl⟩ rfl (Nat.le_of_ble_eq_true rfl) ⟨Nat.zero_le _, Nat.zero_le _⟩ dX10_turns_26) [0, 1, 2, 3, 4, 5, 6, 7, 8, 9, 10, 11] [] [0, 1, 2, 3, 4, 5, 6, 7, 8, 9, 10, 11] rfl rfl (by decide) (by decide) (fun _ => rfl) (by decide) (fun u5 h => ?_)
    obtain ⟨v_5, hu5⟩ : ∃ z, z = u5 := ⟨_, rfl⟩
    subst hu5
    exact hret 29 _ _ v_5 rfl h dX10_turns_29
  refine z_aload_n (pc := 0) C 0 dX10_turns_0 rfl ?_
  refine z_callv (pc := 1) (wr := ([] : va_W)) (w1 := fun (u : Lf) => (wX10 cI cJ d u g)) (w2 := fun (u : Lf) => (wX10 cI cJ d u g)) C (z_runV (pc := 1) (wc := (wX10 cI cJ d v g)) (As := []) C (fun sz => kX10_coming d v g sz h) [0, 1, 2, 3, 4, 5, 6, 7, 8, 9, 10, 11] rfl (by decide) (gdV wq934 wq971 wq972 wq973 wq814) rfl rfl rfl hdX10_coming 0 rfl rfl rfl ⟨Nat.le_of_ble_eq_true rfl, Nat.le_of_ble_eq_true rfl⟩ rfl (Nat.le_of_ble_eq_true rfl) ⟨Nat.zero_le _, Nat.zero_le _⟩ dX10_turns_1) [0, 1, 2, 3, 4, 5, 6, 7, 8, 9, 10, 11] [] [0, 1, 2, 3, 4, 5, 6, 7, 8, 9, 10, 11] rfl rfl (by decide) (by decide) (fun _ => rfl) (by decide) (fun u1 h => ?_)
  obtain ⟨v_1, hu1⟩ : ∃ z, z = u1 := ⟨_, rfl⟩
  subst hu1
  refine z_aload_n (pc := 4) C 0 dX10_turns_4 rfl ?_
  refine z_get (pc := 5) C uw10 0 rfl rfl 0 (by decide) wq809 rfl dX10_turns_5 ?_
  refine z_bipush (pc := 8) (v := 6) C dX10_turns_8 (by decide) ?_
  refine z_iald (pc := 10) C 1 0 rfl rfl vi_6_372 (v_1 1 6) (congrArg _ cl_6) dX10_turns_10 ?_
  refine z_if_lt (pc := 11) (tgt := 21) C dX10_turns_11 (by decide) (fun c3 => ?_) (fun c3 => ?_)
  · have h := h.1 c3
    refine z_aload_n (pc := 21) C 0 dX10_turns_21 rfl ?_
    refine z_callv (pc := 22) (wr := ([] : va_W)) (w1 := fun (u : Lf) => (wX10 cI cJ d u g)) (w2 := fun (u : Lf) => (wX10 cI cJ d u g)) C (z_runV (pc := 22) (wc := (wX10 cI cJ d v_1 g)) (As := []) C (fun sz => kX10_changesByCalls d v_1 g sz h) [0, 1, 2, 3, 4, 5, 6, 7, 8, 9, 10, 11] rfl (by decide) (gdV wq963 wq977 wq978 wq979 wq814) rfl rfl rfl hdX10_changesByCalls 0 rfl rfl rfl ⟨Nat.le_of_ble_eq_true rfl, Nat.le_of_ble_eq_true rfl⟩ rfl (Nat.le_of_ble_eq_true rfl) ⟨Nat.zero_le _, Nat.zero_le _⟩ dX10_turns_22) [0, 1, 2, 3, 4, 5, 6, 7, 8, 9, 10, 11] [] [0, 1, 2, 3, 4, 5, 6, 7, 8, 9, 10, 11] rfl rfl (by decide) (by decide) (fun _ => rfl) (by decide) (fun u4 h => ?_)
    obtain ⟨v_4, hu4⟩ : ∃ z, z = u4 := ⟨_, rfl⟩
    subst hu4
    exact J25  v_4 h
  · have h := h.2 c3
    refine z_aload_n (pc := 14) C 0 dX10_turns_14 rfl ?_
    refine z_callv (pc := 15) (wr := ([] : va_W)) (w1 := fun (u : Lf) => (wX10 cI cJ d u g)) (w2 := fun (u : Lf) => (wX10 cI cJ d u g)) C (z_runV (pc := 15) (wc := (wX10 cI cJ d v_1 g)) (As := []) C (fun sz => kX10_changesByEmergency d v_1 g sz h) [0, 1, 2, 3, 4, 5, 6, 7, 8, 9, 10, 11] rfl (by decide) (gdV wq956 wq974 wq975 wq976 wq814) rfl rfl rfl hdX10_changesByEmergency 0 rfl rfl rfl ⟨Nat.le_of_ble_eq_true rfl, Nat.le_of_ble_eq_true rfl⟩ rfl (Nat.le_of_ble_eq_true rfl) ⟨Nat.zero_le _, Nat.zero_le _⟩ dX10_turns_15) [0, 1, 2, 3, 4, 5, 6, 7, 8, 9, 10, 11] [] [0, 1, 2, 3, 4, 5, 6, 7, 8, 9, 10, 11] rfl rfl (by decide) (by decide) (fun _ => rfl) (by decide) (fun u6 h => ?_)
    obtain ⟨v_6, hu6⟩ : ∃ z, z = u6 := ⟨_, rfl⟩
    subst hu6
    refine z_goto (pc := 18) (tgt := 25) C dX10_turns_18 (by decide) ?_
    exact J25  v_6 h

def pX10_ends (v : Lf)  (Q : Lf → Prop) : Prop := (pX10_going v (fun v_1 => (pX10_queues v_1 (fun r3 => (Q (st (st v_1 1 7 ((v_1 1 7) + r3)) 1 3 (((st v_1 1 7 ((v_1 1 7) + r3)) 1 3) + (1 : Int32))))))))
abbrev rmX10_ends : Room := { frames := 3, cells := 0, slots := 0, locals := 68 }
abbrev wdX10_ends : List Cond := Cond.code yX10_ends cX10_ends 1 none :: TB
theorem hdSX10_ends : (yX10_ends).cls ≠ "java/lang/invoke/MethodHandle" ∧ (yX10_ends).cls ≠ "java/lang/invoke/VarHandle" ∧ (parseMethodDescriptor (yX10_ends).desc).map (fun d => d.parameters.length) = some 0 := by decide +kernel
theorem hdX10_ends : (yX10_ends).cls = RX10 ∧ (yX10_ends).cls ≠ "java/lang/invoke/MethodHandle" ∧ (yX10_ends).cls ≠ "java/lang/invoke/VarHandle" ∧ (parseMethodDescriptor (yX10_ends).desc).map (fun d => d.parameters.length) = some 0 := ⟨rfl, hdSX10_ends⟩
set_option maxHeartbeats 4000000 in
set_option maxRecDepth 100000 in
theorem kX10_ends {l : Launch} {D : va_G} {cI cJ cT : ClassId} (d : Nat → Nat)  (v : Lf) (g : Lg)  {Q : Lf → Prop} (sz : Nat) (h : pX10_ends v Q) : Met l yX10_ends wdX10_ends rmX10_ends (Pz D (tyL cI cJ cT) [.ref (d 0)] (wX10 cI cJ d v g) sz) (va_Qv (fun (u : Lf) => Q u) (Bz D (tyL cI cJ cT) (wX10 cI cJ d v g) sz (fun (u : Lf) => (wX10 cI cJ d u g))) (va_A (wX10 cI cJ d v g) sz)) 0 0 (va_A (wX10 cI cJ d v g) sz) := by
  refine z_metv (cc := cX10_ends) (maxL := 1) (own := RX10) (lv0 := [(0, .ref (d 0))]) (by decide) rfl rfl (Nat.le_of_ble_eq_true rfl) rfl ?_
  intro p e s m args below meth c A QQ C hin hret
  refine z_aload_n (pc := 0) C 0 dX10_ends_0 rfl ?_
  refine z_callv (pc := 1) (wr := ([] : va_W)) (w1 := fun (u : Lf) => (wX10 cI cJ d u g)) (w2 := fun (u : Lf) => (wX10 cI cJ d u g)) C (z_runV (pc := 1) (wc := (wX10 cI cJ d v g)) (As := []) C (fun sz => kX10_going d v g sz h) [0, 1, 2, 3, 4, 5, 6, 7, 8, 9, 10, 11] rfl (by decide) (gdV wq969 wq984 wq985 wq986 wq814) rfl rfl rfl hdX10_going 0 rfl rfl rfl ⟨Nat.le_of_ble_eq_true rfl, Nat.le_of_ble_eq_true rfl⟩ rfl (Nat.le_of_ble_eq_true rfl) ⟨Nat.zero_le _, Nat.zero_le _⟩ dX10_ends_1) [0, 1, 2, 3, 4, 5, 6, 7, 8, 9, 10, 11] [] [0, 1, 2, 3, 4, 5, 6, 7, 8, 9, 10, 11] rfl rfl (by decide) (by decide) (fun _ => rfl) (by decide) (fun u1 h => ?_)
  obtain ⟨v_1, hu1⟩ : ∃ z, z = u1 := ⟨_, rfl⟩
  subst hu1
  refine z_aload_n (pc := 4) C 0 dX10_ends_4 rfl ?_
  refine z_get (pc := 5) C uw10 0 rfl rfl 0 (by decide) wq809 rfl dX10_ends_5 ?_
  refine z_bipush (pc := 8) (v := 7) C dX10_ends_8 (by decide) ?_
  refine z_dup2 (pc := 10) C dX10_ends_10 rfl rfl ?_
  refine z_iald (pc := 11) C 1 0 rfl rfl vi_7_372 (v_1 1 7) (congrArg _ cl_7) dX10_ends_11 ?_
  refine z_aload_n (pc := 12) C 0 dX10_ends_12 rfl ?_
  refine z_callRi (pc := 13) C (z_runV (pc := 13) (wc := (wX10 cI cJ d v_1 g)) (As := []) C (fun sz => kX10_queues d v_1 g sz h) [0, 1, 2, 3, 4, 5, 6, 7, 8, 9, 10, 11] rfl (by decide) (gdV wq970 wq987 wq988 wq989 wq814) rfl rfl rfl hdX10_queues 0 rfl rfl rfl ⟨Nat.le_of_ble_eq_true rfl, Nat.le_of_ble_eq_true rfl⟩ rfl (Nat.le_of_ble_eq_true rfl) ⟨Nat.zero_le _, Nat.zero_le _⟩ dX10_ends_13) [0, 1, 2, 3, 4, 5, 6, 7, 8, 9, 10, 11] rfl (by decide) (fun r3 u3 h => ?_)
  refine z_iadd (pc := 16) C dX10_ends_16 ?_
  refine z_iast (pc := 17) (ws' := (wX10 cI cJ d (st v_1 1 7 ((v_1 1 7) + r3)) g)) C 1 0 rfl rfl vi_7_372 dX10_ends_17 cl_7 sX10_a1 ?_
  refine z_aload_n (pc := 18) C 0 dX10_ends_18 rfl ?_
  refine z_get (pc := 19) C uw10 0 rfl rfl 0 (by decide) wq809 rfl dX10_ends_19 ?_
  refine z_iconst (pc := 22) (v := 3) C dX10_ends_22 (by decide) ?_
  refine z_dup2 (pc := 23) C dX10_ends_23 rfl rfl ?_
  refine z_iald (pc := 24) C 1 0 rfl rfl vi_3_372 ((st v_1 1 7 ((v_1 1 7) + r3)) 1 3) (congrArg _ cl_3) dX10_ends_24 ?_
  refine z_iconst (pc := 25) (v := 1) C dX10_ends_25 (by decide) ?_
  refine z_iadd (pc := 26) C dX10_ends_26 ?_
  refine z_iast (pc := 27) (ws' := (wX10 cI cJ d (st (st v_1 1 7 ((v_1 1 7) + r3)) 1 3 (((st v_1 1 7 ((v_1 1 7) + r3)) 1 3) + (1 : Int32))) g)) C 1 0 rfl rfl vi_3_372 dX10_ends_27 cl_3 sX10_a1 ?_
  exact hret 28 _ _ (st (st v_1 1 7 ((v_1 1 7) + r3)) 1 3 (((st v_1 1 7 ((v_1 1 7) + r3)) 1 3) + (1 : Int32))) rfl h dX10_ends_28

def pX10_passes_L2 (x1 : Int32) (Q : Lf → Prop) : Nat → Lf → Int32 → Prop
  | 0, _, _ => False
  | n2 + 1, v, x2 => ((x1 ≤ x2 → (Q v)) ∧ (¬ x1 ≤ x2 → (pX10_turns v (fun v_2 => (pX10_ends v_2 (fun v_3 => (pX10_passes_L2 x1 Q n2 v_3 (x2 + 1))))))))
def pX10_passes (v : Lf) (x1 : Int32) (Q : Lf → Prop) : Prop := (∃ n2, pX10_passes_L2 x1 Q  n2 v (0 : Int32))
abbrev rmX10_passes : Room := { frames := 5, cells := 0, slots := 0, locals := 114 }
abbrev wdX10_passes : List Cond := Cond.code yX10_passes cX10_passes 3 none :: TB
theorem hdSX10_passes : (yX10_passes).cls ≠ "java/lang/invoke/MethodHandle" ∧ (yX10_passes).cls ≠ "java/lang/invoke/VarHandle" ∧ (parseMethodDescriptor (yX10_passes).desc).map (fun d => d.parameters.length) = some 1 := by decide +kernel
theorem hdX10_passes : (yX10_passes).cls = RX10 ∧ (yX10_passes).cls ≠ "java/lang/invoke/MethodHandle" ∧ (yX10_passes).cls ≠ "java/lang/invoke/VarHandle" ∧ (parseMethodDescriptor (yX10_passes).desc).map (fun d => d.parameters.length) = some 1 := ⟨rfl, hdSX10_passes⟩
set_option maxHeartbeats 4000000 in
set_option maxRecDepth 100000 in
theorem kX10_passes {l : Launch} {D : va_G} {cI cJ cT : ClassId} (d : Nat → Nat)  (v : Lf) (g : Lg) (x1 : Int32) {Q : Lf → Prop} (sz : Nat) (h : pX10_passes v x1 Q) : Met l yX10_passes wdX10_passes rmX10_passes (Pz D (tyL cI cJ cT) [.ref (d 0), .int x1] (wX10 cI cJ d v g) sz) (va_Qv (fun (u : Lf) => Q u) (Bz D (tyL cI cJ cT) (wX10 cI cJ d v g) sz (fun (u : Lf) => (wX10 cI cJ d u g))) (va_A (wX10 cI cJ d v g) sz)) 0 0 (va_A (wX10 cI cJ d v g) sz) := by
  refine z_metv (cc := cX10_passes) (maxL := 3) (own := RX10) (lv0 := [(0, .ref (d 0)), (1, .int x1)]) (by decide) rfl rfl (Nat.le_of_ble_eq_true rfl) rfl ?_
  intro p e s m args below meth c A QQ C hin hret
  have L2 : ∀ (n2 : Nat) (v : Lf) (x2 : Int32), pX10_passes_L2 x1 Q n2 v x2 → ZZ p l e rmX10_passes s m args below meth c D A 3 0 0 QQ 2 (wX10 cI cJ d v g) [(0, .ref (d 0)), (1, .int x1), (2, .int x2)] [] := by
    intro n2
    induction n2 with
    | zero => intro v x2 h; exact False.elim h
    | succ n2 ih2 =>
      intro v x2 h
      refine z_iload_n (pc := 2) C 2 dX10_passes_2 rfl ?_
      refine z_iload_n (pc := 3) C 1 dX10_passes_3 rfl ?_
      refine z_icmp_ge (pc := 4) (tgt := 21) C dX10_passes_4 (by decide) (fun c1 => ?_) (fun c1 => ?_)
      · have h := h.1 c1
        exact hret 21 _ _ v rfl h dX10_passes_21
      · have h := h.2 c1
        refine z_aload_n (pc := 7) C 0 dX10_passes_7 rfl ?_
        refine z_callv (pc := 8) (wr := ([] : va_W)) (w1 := fun (u : Lf) => (wX10 cI cJ d u g)) (w2 := fun (u : Lf) => (wX10 cI cJ d u g)) C (z_runV (pc := 8) (wc := (wX10 cI cJ d v g)) (As := []) C (fun sz => kX10_turns d v g sz h) [0, 1, 2, 3, 4, 5, 6, 7, 8, 9, 10, 11] rfl (by decide) (gdV wq983 wq991 wq992 wq993 wq814) rfl rfl rfl hdX10_turns 0 rfl rfl rfl ⟨Nat.le_of_ble_eq_true rfl, Nat.le_of_ble_eq_true rfl⟩ rfl (Nat.le_of_ble_eq_true rfl) ⟨Nat.zero_le _, Nat.zero_le _⟩ dX10_passes_8) [0, 1, 2, 3, 4, 5, 6, 7, 8, 9, 10, 11] [] [0, 1, 2, 3, 4, 5, 6, 7, 8, 9, 10, 11] rfl rfl (by decide) (by decide) (fun _ => rfl) (by decide) (fun u2 h => ?_)
        obtain ⟨v_2, hu2⟩ : ∃ z, z = u2 := ⟨_, rfl⟩
        subst hu2
        refine z_aload_n (pc := 11) C 0 dX10_passes_11 rfl ?_
        refine z_callv (pc := 12) (wr := ([] : va_W)) (w1 := fun (u : Lf) => (wX10 cI cJ d u g)) (w2 := fun (u : Lf) => (wX10 cI cJ d u g)) C (z_runV (pc := 12) (wc := (wX10 cI cJ d v_2 g)) (As := []) C (fun sz => kX10_ends d v_2 g sz h) [0, 1, 2, 3, 4, 5, 6, 7, 8, 9, 10, 11] rfl (by decide) (gdV wq990 wq994 wq995 wq996 wq814) rfl rfl rfl hdX10_ends 0 rfl rfl rfl ⟨Nat.le_of_ble_eq_true rfl, Nat.le_of_ble_eq_true rfl⟩ rfl (Nat.le_of_ble_eq_true rfl) ⟨Nat.zero_le _, Nat.zero_le _⟩ dX10_passes_12) [0, 1, 2, 3, 4, 5, 6, 7, 8, 9, 10, 11] [] [0, 1, 2, 3, 4, 5, 6, 7, 8, 9, 10, 11] rfl rfl (by decide) (by decide) (fun _ => rfl) (by decide) (fun u3 h => ?_)
        obtain ⟨v_3, hu3⟩ : ∃ z, z = u3 := ⟨_, rfl⟩
        subst hu3
        refine z_iinc (pc := 15) (v := (x2 + 1)) (lv' := [(2, .int (x2 + 1)), (0, .ref (d 0)), (1, .int x1)]) C 2 dX10_passes_15 rfl rfl (by decide) rfl ?_
        refine z_goto (pc := 18) (tgt := 2) C dX10_passes_18 (by decide) ?_
        refine z_sub (lv' := [(0, .ref (d 0)), (1, .int x1), (2, .int (x2 + 1))]) [1, 2, 0] rfl ?_
        exact ih2 v_3 (x2 + 1) h
  refine z_iconst (pc := 0) (v := 0) C dX10_passes_0 (by decide) ?_
  refine z_istore_n (pc := 1) (lv' := [(2, .int (0 : Int32)), (0, .ref (d 0)), (1, .int x1)]) C dX10_passes_1 (by decide) rfl ?_
  obtain ⟨n2, h⟩ := h
  refine z_sub (lv' := [(0, .ref (d 0)), (1, .int x1), (2, .int (0 : Int32))]) [1, 2, 0] rfl ?_
  exact L2  n2 v (0 : Int32) h

def pX10_counts (v : Lf) (x1 : Int32) (Q : Int32 → Lf → Prop) : Prop := ((((v 0 4) + x1) ≤ (12000 : Int32) → (Q (1 : Int32) (st v 0 4 ((v 0 4) + x1)))) ∧ (¬ ((v 0 4) + x1) ≤ (12000 : Int32) → (Q (0 : Int32) v)))
abbrev rmX10_counts : Room := { frames := 0, cells := 0, slots := 0, locals := 0 }
abbrev wdX10_counts : List Cond := Cond.code yX10_counts cX10_counts 2 (some .boolean) :: TB
theorem hdSX10_counts : (yX10_counts).cls ≠ "java/lang/invoke/MethodHandle" ∧ (yX10_counts).cls ≠ "java/lang/invoke/VarHandle" ∧ (parseMethodDescriptor (yX10_counts).desc).map (fun d => d.parameters.length) = some 1 := by decide +kernel
theorem hdX10_counts : (yX10_counts).cls = RX10 ∧ (yX10_counts).cls ≠ "java/lang/invoke/MethodHandle" ∧ (yX10_counts).cls ≠ "java/lang/invoke/VarHandle" ∧ (parseMethodDescriptor (yX10_counts).desc).map (fun d => d.parameters.length) = some 1 := ⟨rfl, hdSX10_counts⟩
set_option maxHeartbeats 4000000 in
set_option maxRecDepth 100000 in
theorem kX10_counts {l : Launch} {D : va_G} {cI cJ cT : ClassId} (d : Nat → Nat)  (v : Lf) (g : Lg) (x1 : Int32) {Q : Int32 → Lf → Prop} (sz : Nat) (h : pX10_counts v x1 Q) : Met l yX10_counts wdX10_counts rmX10_counts (Pz D (tyL cI cJ cT) [.ref (d 0), .int x1] (wX10 cI cJ d v g) sz) (va_Qi (fun (r : Int32) (u : Lf) => Q r u) (Bz D (tyL cI cJ cT) (wX10 cI cJ d v g) sz (fun (u : Lf) => (wX10 cI cJ d u g))) (va_A (wX10 cI cJ d v g) sz)) 0 0 (va_A (wX10 cI cJ d v g) sz) := by
  refine z_metz (cc := cX10_counts) (maxL := 2) (own := RX10) (lv0 := [(0, .ref (d 0)), (1, .int x1)]) (by decide) rfl rfl (Nat.le_of_ble_eq_true rfl) rfl ?_
  intro p e s m args below meth c A QQ C hin hret
  refine z_aload_n (pc := 0) C 0 dX10_counts_0 rfl ?_
  refine z_get (pc := 1) C uw10 0 rfl rfl 4 (by decide) wq999 rfl dX10_counts_1 ?_
  refine z_iload_n (pc := 4) C 1 dX10_counts_4 rfl ?_
  refine z_iadd (pc := 5) C dX10_counts_5 ?_
  refine z_sipush (pc := 6) (v := 12000) C dX10_counts_6 (by decide) ?_
  refine z_icmp_le (pc := 9) (tgt := 14) C dX10_counts_9 (by decide) (fun c1 => ?_) (fun c1 => ?_)
  · have h := h.1 c1
    refine z_aload_n (pc := 14) C 0 dX10_counts_14 rfl ?_
    refine z_dup (pc := 15) C dX10_counts_15 rfl ?_
    refine z_get (pc := 16) C uw10 0 rfl rfl 4 (by decide) wq999 rfl dX10_counts_16 ?_
    refine z_iload_n (pc := 19) C 1 dX10_counts_19 rfl ?_
    refine z_iadd (pc := 20) C dX10_counts_20 ?_
    refine z_put (pc := 21) (ws' := (wX10 cI cJ d (st v 0 4 ((v 0 4) + x1)) g)) C uw10 tyX10 tyX10_ok nmX10 0 rfl rfl 4 (by decide) wq999 rfl rfl rfl (Nat.le_of_ble_eq_true rfl) dX10_counts_21 sX10_f4 ?_
    refine z_iconst (pc := 24) (v := 1) C dX10_counts_24 (by decide) ?_
    exact hret 25 _ _ (1 : Int32) rfl (st v 0 4 ((v 0 4) + x1)) rfl h dX10_counts_25
  · have h := h.2 c1
    refine z_iconst (pc := 12) (v := 0) C dX10_counts_12 (by decide) ?_
    exact hret 13 _ _ (0 : Int32) rfl v rfl h dX10_counts_13

def pX10_cycle_J87 (x1 : Int32) (x2 : Int32) (x3 : Int32) (Q : Int32 → Lf → Prop) (v : Lf) (x4 : Int32) (t1 : Int32) (t2 : Int32) : Prop := (vp_in t1 372 ∧ (Q x4 (st v 1 t1.toNatClampNeg t2)))
def pX10_cycle_J71 (x1 : Int32) (x2 : Int32) (x3 : Int32) (Q : Int32 → Lf → Prop) (v : Lf) (x4 : Int32) (t1 : Int32) (t2 : Int32) : Prop := (vp_in t1 372 ∧ ((¬ x1 = 0 → (pX10_cycle_J87 x1 x2 x3 Q  (st v 1 t1.toNatClampNeg t2) x4 (12 : Int32) x3)) ∧ (x1 = 0 → (pX10_cycle_J87 x1 x2 x3 Q  (st v 1 t1.toNatClampNeg t2) x4 (12 : Int32) (0 : Int32)))))
def pX10_cycle_J39 (x1 : Int32) (x2 : Int32) (x3 : Int32) (Q : Int32 → Lf → Prop) (v : Lf) : Prop := ((¬ x1 = 0 → (pX10_cycle_J71 x1 x2 x3 Q  (st v 1 10 x1) (v 1 10) (11 : Int32) x2)) ∧ (x1 = 0 → (pX10_cycle_J71 x1 x2 x3 Q  (st v 1 10 x1) (v 1 10) (11 : Int32) (0 : Int32))))
def pX10_cycle (v : Lf) (x1 : Int32) (x2 : Int32) (x3 : Int32) (Q : Int32 → Lf → Prop) : Prop := ((x1 = 0 → (pX10_cycle_J39 x1 x2 x3 Q  v)) ∧ (¬ x1 = 0 → (pX10_isIn x1 (20 : Int32) (240 : Int32) (fun r8 => ((r8 = 0 → (Q (-2 : Int32) v)) ∧ (¬ r8 = 0 → (pX10_isIn x2 (0 : Int32) (x1 - (1 : Int32)) (fun r10 => ((r10 = 0 → (Q (-2 : Int32) v)) ∧ (¬ r10 = 0 → (pX10_isIn x3 (1 : Int32) x1 (fun r12 => ((¬ r12 = 0 → (pX10_cycle_J39 x1 x2 x3 Q  v)) ∧ (r12 = 0 → (Q (-2 : Int32) v)))))))))))))))
abbrev rmX10_cycle : Room := { frames := 1, cells := 0, slots := 0, locals := 22 }
abbrev wdX10_cycle : List Cond := Cond.code yX10_cycle cX10_cycle 5 (some .int) :: TB
theorem hdSX10_cycle : (yX10_cycle).cls ≠ "java/lang/invoke/MethodHandle" ∧ (yX10_cycle).cls ≠ "java/lang/invoke/VarHandle" ∧ (parseMethodDescriptor (yX10_cycle).desc).map (fun d => d.parameters.length) = some 3 := by decide +kernel
theorem hdX10_cycle : (yX10_cycle).cls = RX10 ∧ (yX10_cycle).cls ≠ "java/lang/invoke/MethodHandle" ∧ (yX10_cycle).cls ≠ "java/lang/invoke/VarHandle" ∧ (parseMethodDescriptor (yX10_cycle).desc).map (fun d => d.parameters.length) = some 3 := ⟨rfl, hdSX10_cycle⟩
set_option maxHeartbeats 4000000 in
set_option maxRecDepth 100000 in
theorem kX10_cycle {l : Launch} {D : va_G} {cI cJ cT : ClassId} (d : Nat → Nat)  (v : Lf) (g : Lg) (x1 : Int32) (x2 : Int32) (x3 : Int32) {Q : Int32 → Lf → Prop} (sz : Nat) (h : pX10_cycle v x1 x2 x3 Q) : Met l yX10_cycle wdX10_cycle rmX10_cycle (Pz D (tyL cI cJ cT) [.ref (d 0), .int x1, .int x2, .int x3] (wX10 cI cJ d v g) sz) (va_Qi (fun (r : Int32) (u : Lf) => Q r u) (Bz D (tyL cI cJ cT) (wX10 cI cJ d v g) sz (fun (u : Lf) => (wX10 cI cJ d u g))) (va_A (wX10 cI cJ d v g) sz)) 0 0 (va_A (wX10 cI cJ d v g) sz) := by
  refine z_meti (cc := cX10_cycle) (maxL := 5) (own := RX10) (lv0 := [(0, .ref (d 0)), (1, .int x1), (2, .int x2), (3, .int x3)]) (by decide) rfl rfl (Nat.le_of_ble_eq_true rfl) rfl ?_
  intro p e s m args below meth c A QQ C hin hret
  have J87 : ∀ (v : Lf) (x4 : Int32) (t1 : Int32) (t2 : Int32), pX10_cycle_J87 x1 x2 x3 Q v x4 t1 t2 → ZZ p l e rmX10_cycle s m args below meth c D A 5 0 0 QQ 87 (wX10 cI cJ d v g) [(4, .int x4)] [.int t2, .int t1, .ref (d 1)] := by
    intro  v x4 t1 t2 h
    obtain ⟨g7, h⟩ := h
    refine z_iast (pc := 87) (ws' := (wX10 cI cJ d (st v 1 t1.toNatClampNeg t2) g)) C 1 0 rfl rfl g7 dX10_cycle_87 rfl sX10_a1 ?_
    refine z_iload (pc := 88) C 0 dX10_cycle_88 rfl ?_
    exact hret 90 _ _ x4 (st v 1 t1.toNatClampNeg t2) rfl h dX10_cycle_90
  have J71 : ∀ (v : Lf) (x4 : Int32) (t1 : Int32) (t2 : Int32), pX10_cycle_J71 x1 x2 x3 Q v x4 t1 t2 → ZZ p l e rmX10_cycle s m args below meth c D A 5 0 0 QQ 71 (wX10 cI cJ d v g) [(0, .ref (d 0)), (1, .int x1), (3, .int x3), (4, .int x4)] [.int t2, .int t1, .ref (d 1)] := by
    intro  v x4 t1 t2 h
    obtain ⟨g5, h⟩ := h
    refine z_iast (pc := 71) (ws' := (wX10 cI cJ d (st v 1 t1.toNatClampNeg t2) g)) C 1 0 rfl rfl g5 dX10_cycle_71 rfl sX10_a1 ?_
    refine z_aload_n (pc := 72) C 0 dX10_cycle_72 rfl ?_
    refine z_get (pc := 73) C uw10 0 rfl rfl 0 (by decide) wq809 rfl dX10_cycle_73 ?_
    refine z_bipush (pc := 76) (v := 12) C dX10_cycle_76 (by decide) ?_
    refine z_iload_n (pc := 78) C 1 dX10_cycle_78 rfl ?_
    refine z_if_ne (pc := 79) (tgt := 86) C dX10_cycle_79 (by decide) (fun c6 => ?_) (fun c6 => ?_)
    · have h := h.1 c6
      refine z_iload_n (pc := 86) C 2 dX10_cycle_86 rfl ?_
      refine z_sub (lv' := [(4, .int x4)]) [3] rfl ?_
      exact J87  (st v 1 t1.toNatClampNeg t2) x4 (12 : Int32) x3 h
    · have h := h.2 c6
      refine z_iconst (pc := 82) (v := 0) C dX10_cycle_82 (by decide) ?_
      refine z_goto (pc := 83) (tgt := 87) C dX10_cycle_83 (by decide) ?_
      refine z_sub (lv' := [(4, .int x4)]) [3] rfl ?_
      exact J87  (st v 1 t1.toNatClampNeg t2) x4 (12 : Int32) (0 : Int32) h
  have J39 : ∀ (v : Lf), pX10_cycle_J39 x1 x2 x3 Q v → ZZ p l e rmX10_cycle s m args below meth c D A 5 0 0 QQ 39 (wX10 cI cJ d v g) [(0, .ref (d 0)), (1, .int x1), (2, .int x2), (3, .int x3)] [] := by
    intro  v h
    refine z_aload_n (pc := 39) C 0 dX10_cycle_39 rfl ?_
    refine z_get (pc := 40) C uw10 0 rfl rfl 0 (by decide) wq809 rfl dX10_cycle_40 ?_
    refine z_bipush (pc := 43) (v := 10) C dX10_cycle_43 (by decide) ?_
    refine z_iald (pc := 45) C 1 0 rfl rfl vi_10_372 (v 1 10) (congrArg _ cl_10) dX10_cycle_45 ?_
    refine z_istore (pc := 46) (lv' := [(4, .int (v 1 10)), (0, .ref (d 0)), (1, .int x1), (2, .int x2), (3, .int x3)]) C dX10_cycle_46 (by decide) rfl ?_
    refine z_aload_n (pc := 48) C 1 dX10_cycle_48 rfl ?_
    refine z_get (pc := 49) C uw10 0 rfl rfl 0 (by decide) wq809 rfl dX10_cycle_49 ?_
    refine z_bipush (pc := 52) (v := 10) C dX10_cycle_52 (by decide) ?_
    refine z_iload_n (pc := 54) C 2 dX10_cycle_54 rfl ?_
    refine z_iast (pc := 55) (ws' := (wX10 cI cJ d (st v 1 10 x1) g)) C 1 0 rfl rfl vi_10_372 dX10_cycle_55 cl_10 sX10_a1 ?_
    refine z_aload_n (pc := 56) C 1 dX10_cycle_56 rfl ?_
    refine z_get (pc := 57) C uw10 0 rfl rfl 0 (by decide) wq809 rfl dX10_cycle_57 ?_
    refine z_bipush (pc := 60) (v := 11) C dX10_cycle_60 (by decide) ?_
    refine z_iload_n (pc := 62) C 2 dX10_cycle_62 rfl ?_
    refine z_if_ne (pc := 63) (tgt := 70) C dX10_cycle_63 (by decide) (fun c4 => ?_) (fun c4 => ?_)
    · have h := h.1 c4
      refine z_iload_n (pc := 70) C 3 dX10_cycle_70 rfl ?_
      refine z_sub (lv' := [(0, .ref (d 0)), (1, .int x1), (3, .int x3), (4, .int (v 1 10))]) [1, 2, 4, 0] rfl ?_
      exact J71  (st v 1 10 x1) (v 1 10) (11 : Int32) x2 h
    · have h := h.2 c4
      refine z_iconst (pc := 66) (v := 0) C dX10_cycle_66 (by decide) ?_
      refine z_goto (pc := 67) (tgt := 71) C dX10_cycle_67 (by decide) ?_
      refine z_sub (lv' := [(0, .ref (d 0)), (1, .int x1), (3, .int x3), (4, .int (v 1 10))]) [1, 2, 4, 0] rfl ?_
      exact J71  (st v 1 10 x1) (v 1 10) (11 : Int32) (0 : Int32) h
  refine z_iload_n (pc := 0) C 1 dX10_cycle_0 rfl ?_
  refine z_if_eq (pc := 1) (tgt := 39) C dX10_cycle_1 (by decide) (fun c1 => ?_) (fun c1 => ?_)
  · have h := h.1 c1
    exact J39  v h
  · have h := h.2 c1
    refine z_iload_n (pc := 4) C 1 dX10_cycle_4 rfl ?_
    refine z_bipush (pc := 5) (v := 20) C dX10_cycle_5 (by decide) ?_
    refine z_sipush (pc := 7) (v := 240) C dX10_cycle_7 (by decide) ?_
    refine z_call0i (pc := 10) C (z_runS (pc := 10) (wc := ([] : va_W)) (As := [.int x1, .int (20 : Int32), .int (240 : Int32)]) C (fun sz => kX10_isIn x1 (20 : Int32) (240 : Int32) sz h) [] rfl (by decide) (gdS wq849 wq852 wq853 wq814) rfl rfl rfl hdSX10_isIn ⟨Nat.le_of_ble_eq_true rfl, Nat.le_of_ble_eq_true rfl⟩ rfl (Nat.le_of_ble_eq_true rfl) ⟨Nat.zero_le _, Nat.zero_le _⟩ dX10_cycle_10) (fun r8 u8 h => ?_)
    refine z_if_eq (pc := 13) (tgt := 36) C dX10_cycle_13 (by decide) (fun c9 => ?_) (fun c9 => ?_)
    · have h := h.1 c9
      refine z_bipush (pc := 36) (v := -2) C dX10_cycle_36 (by decide) ?_
      exact hret 38 _ _ (-2 : Int32) v rfl h dX10_cycle_38
    · have h := h.2 c9
      refine z_iload_n (pc := 16) C 2 dX10_cycle_16 rfl ?_
      refine z_iconst (pc := 17) (v := 0) C dX10_cycle_17 (by decide) ?_
      refine z_iload_n (pc := 18) C 1 dX10_cycle_18 rfl ?_
      refine z_iconst (pc := 19) (v := 1) C dX10_cycle_19 (by decide) ?_
      refine z_isub (pc := 20) C dX10_cycle_20 ?_
      refine z_call0i (pc := 21) C (z_runS (pc := 21) (wc := ([] : va_W)) (As := [.int x2, .int (0 : Int32), .int (x1 - (1 : Int32))]) C (fun sz => kX10_isIn x2 (0 : Int32) (x1 - (1 : Int32)) sz h) [] rfl (by decide) (gdS wq849 wq852 wq853 wq814) rfl rfl rfl hdSX10_isIn ⟨Nat.le_of_ble_eq_true rfl, Nat.le_of_ble_eq_true rfl⟩ rfl (Nat.le_of_ble_eq_true rfl) ⟨Nat.zero_le _, Nat.zero_le _⟩ dX10_cycle_21) (fun r10 u10 h => ?_)
      refine z_if_eq (pc := 24) (tgt := 36) C dX10_cycle_24 (by decide) (fun c11 => ?_) (fun c11 => ?_)
      · have h := h.1 c11
        refine z_bipush (pc := 36) (v := -2) C dX10_cycle_36 (by decide) ?_
        exact hret 38 _ _ (-2 : Int32) v rfl h dX10_cycle_38
      · have h := h.2 c11
        refine z_iload_n (pc := 27) C 3 dX10_cycle_27 rfl ?_
        refine z_iconst (pc := 28) (v := 1) C dX10_cycle_28 (by decide) ?_
        refine z_iload_n (pc := 29) C 1 dX10_cycle_29 rfl ?_
        refine z_call0i (pc := 30) C (z_runS (pc := 30) (wc := ([] : va_W)) (As := [.int x3, .int (1 : Int32), .int x1]) C (fun sz => kX10_isIn x3 (1 : Int32) x1 sz h) [] rfl (by decide) (gdS wq849 wq852 wq853 wq814) rfl rfl rfl hdSX10_isIn ⟨Nat.le_of_ble_eq_true rfl, Nat.le_of_ble_eq_true rfl⟩ rfl (Nat.le_of_ble_eq_true rfl) ⟨Nat.zero_le _, Nat.zero_le _⟩ dX10_cycle_30) (fun r12 u12 h => ?_)
        refine z_if_ne (pc := 33) (tgt := 39) C dX10_cycle_33 (by decide) (fun c13 => ?_) (fun c13 => ?_)
        · have h := h.1 c13
          exact J39  v h
        · have h := h.2 c13
          refine z_bipush (pc := 36) (v := -2) C dX10_cycle_36 (by decide) ?_
          exact hret 38 _ _ (-2 : Int32) v rfl h dX10_cycle_38

def pX10_come (v : Lf) (x1 : Int32) (x2 : Int32) (Q : Int32 → Lf → Prop) : Prop := (pX10_isSignal v x1 (fun r1 => ((¬ r1 = 0 → (pX10_isIn x2 (1 : Int32) (20 : Int32) (fun r3 => ((r3 = 0 → (Q (-2 : Int32) v)) ∧ (¬ r3 = 0 → (pX10_joins v x1 x2 (fun r5 v_5 => (Q r5 v_5)))))))) ∧ (r1 = 0 → (Q (-1 : Int32) v)))))
abbrev rmX10_come : Room := { frames := 2, cells := 0, slots := 0, locals := 63 }
abbrev wdX10_come : List Cond := Cond.code yX10_come cX10_come 3 (some .int) :: TB
theorem hdSX10_come : (yX10_come).cls ≠ "java/lang/invoke/MethodHandle" ∧ (yX10_come).cls ≠ "java/lang/invoke/VarHandle" ∧ (parseMethodDescriptor (yX10_come).desc).map (fun d => d.parameters.length) = some 2 := by decide +kernel
theorem hdX10_come : (yX10_come).cls = RX10 ∧ (yX10_come).cls ≠ "java/lang/invoke/MethodHandle" ∧ (yX10_come).cls ≠ "java/lang/invoke/VarHandle" ∧ (parseMethodDescriptor (yX10_come).desc).map (fun d => d.parameters.length) = some 2 := ⟨rfl, hdSX10_come⟩
set_option maxHeartbeats 4000000 in
set_option maxRecDepth 100000 in
theorem kX10_come {l : Launch} {D : va_G} {cI cJ cT : ClassId} (d : Nat → Nat)  (v : Lf) (g : Lg) (x1 : Int32) (x2 : Int32) {Q : Int32 → Lf → Prop} (sz : Nat) (h : pX10_come v x1 x2 Q) : Met l yX10_come wdX10_come rmX10_come (Pz D (tyL cI cJ cT) [.ref (d 0), .int x1, .int x2] (wX10 cI cJ d v g) sz) (va_Qi (fun (r : Int32) (u : Lf) => Q r u) (Bz D (tyL cI cJ cT) (wX10 cI cJ d v g) sz (fun (u : Lf) => (wX10 cI cJ d u g))) (va_A (wX10 cI cJ d v g) sz)) 0 0 (va_A (wX10 cI cJ d v g) sz) := by
  refine z_meti (cc := cX10_come) (maxL := 3) (own := RX10) (lv0 := [(0, .ref (d 0)), (1, .int x1), (2, .int x2)]) (by decide) rfl rfl (Nat.le_of_ble_eq_true rfl) rfl ?_
  intro p e s m args below meth c A QQ C hin hret
  refine z_aload_n (pc := 0) C 0 dX10_come_0 rfl ?_
  refine z_iload_n (pc := 1) C 1 dX10_come_1 rfl ?_
  refine z_callRi (pc := 2) C (z_runV (pc := 2) (wc := (wX10 cI cJ d v g)) (As := [.int x1]) C (fun sz => kX10_isSignal d v g x1 sz h) [0, 1, 2, 3, 4, 5, 6, 7, 8, 9, 10, 11] rfl (by decide) (gdV wq851 wq875 wq876 wq877 wq814) rfl rfl rfl hdX10_isSignal 0 rfl rfl rfl ⟨Nat.le_of_ble_eq_true rfl, Nat.le_of_ble_eq_true rfl⟩ rfl (Nat.le_of_ble_eq_true rfl) ⟨Nat.zero_le _, Nat.zero_le _⟩ dX10_come_2) [0, 1, 2, 3, 4, 5, 6, 7, 8, 9, 10, 11] rfl (by decide) (fun r1 u1 h => ?_)
  refine z_if_ne (pc := 5) (tgt := 10) C dX10_come_5 (by decide) (fun c2 => ?_) (fun c2 => ?_)
  · have h := h.1 c2
    refine z_iload_n (pc := 10) C 2 dX10_come_10 rfl ?_
    refine z_iconst (pc := 11) (v := 1) C dX10_come_11 (by decide) ?_
    refine z_bipush (pc := 12) (v := 20) C dX10_come_12 (by decide) ?_
    refine z_call0i (pc := 14) C (z_runS (pc := 14) (wc := ([] : va_W)) (As := [.int x2, .int (1 : Int32), .int (20 : Int32)]) C (fun sz => kX10_isIn x2 (1 : Int32) (20 : Int32) sz h) [] rfl (by decide) (gdS wq849 wq852 wq853 wq814) rfl rfl rfl hdSX10_isIn ⟨Nat.le_of_ble_eq_true rfl, Nat.le_of_ble_eq_true rfl⟩ rfl (Nat.le_of_ble_eq_true rfl) ⟨Nat.zero_le _, Nat.zero_le _⟩ dX10_come_14) (fun r3 u3 h => ?_)
    refine z_if_eq (pc := 17) (tgt := 29) C dX10_come_17 (by decide) (fun c4 => ?_) (fun c4 => ?_)
    · have h := h.1 c4
      refine z_bipush (pc := 29) (v := -2) C dX10_come_29 (by decide) ?_
      exact hret 31 _ _ (-2 : Int32) v rfl h dX10_come_31
    · have h := h.2 c4
      refine z_aload_n (pc := 20) C 0 dX10_come_20 rfl ?_
      refine z_iload_n (pc := 21) C 1 dX10_come_21 rfl ?_
      refine z_iload_n (pc := 22) C 2 dX10_come_22 rfl ?_
      refine z_calli (pc := 23) (wr := ([] : va_W)) (w1 := fun (u : Lf) => (wX10 cI cJ d u g)) (w2 := fun (u : Lf) => (wX10 cI cJ d u g)) C (z_runV (pc := 23) (wc := (wX10 cI cJ d v g)) (As := [.int x1, .int x2]) C (fun sz => kX10_joins d v g x1 x2 sz h) [0, 1, 2, 3, 4, 5, 6, 7, 8, 9, 10, 11] rfl (by decide) (gdV wq927 wq931 wq932 wq933 wq814) rfl rfl rfl hdX10_joins 0 rfl rfl rfl ⟨Nat.le_of_ble_eq_true rfl, Nat.le_of_ble_eq_true rfl⟩ rfl (Nat.le_of_ble_eq_true rfl) ⟨Nat.zero_le _, Nat.zero_le _⟩ dX10_come_23) [0, 1, 2, 3, 4, 5, 6, 7, 8, 9, 10, 11] [] [0, 1, 2, 3, 4, 5, 6, 7, 8, 9, 10, 11] rfl rfl (by decide) (by decide) (fun _ => rfl) (by decide) (fun r5 u5 h => ?_)
      obtain ⟨v_5, hu5⟩ : ∃ z, z = u5 := ⟨_, rfl⟩
      subst hu5
      refine z_goto (pc := 26) (tgt := 31) C dX10_come_26 (by decide) ?_
      exact hret 31 _ _ r5 v_5 rfl h dX10_come_31
  · have h := h.2 c2
    refine z_iconst (pc := 8) (v := -1) C dX10_come_8 (by decide) ?_
    exact hret 9 _ _ (-1 : Int32) v rfl h dX10_come_9

def pX10_seed (v : Lf) (x1 : Int32) (Q : Int32 → Lf → Prop) : Prop := (Q (v 1 0) (st v 1 0 x1))
abbrev rmX10_seed : Room := { frames := 0, cells := 0, slots := 0, locals := 0 }
abbrev wdX10_seed : List Cond := Cond.code yX10_seed cX10_seed 3 (some .int) :: TB
theorem hdSX10_seed : (yX10_seed).cls ≠ "java/lang/invoke/MethodHandle" ∧ (yX10_seed).cls ≠ "java/lang/invoke/VarHandle" ∧ (parseMethodDescriptor (yX10_seed).desc).map (fun d => d.parameters.length) = some 1 := by decide +kernel
theorem hdX10_seed : (yX10_seed).cls = RX10 ∧ (yX10_seed).cls ≠ "java/lang/invoke/MethodHandle" ∧ (yX10_seed).cls ≠ "java/lang/invoke/VarHandle" ∧ (parseMethodDescriptor (yX10_seed).desc).map (fun d => d.parameters.length) = some 1 := ⟨rfl, hdSX10_seed⟩
set_option maxHeartbeats 4000000 in
set_option maxRecDepth 100000 in
theorem kX10_seed {l : Launch} {D : va_G} {cI cJ cT : ClassId} (d : Nat → Nat)  (v : Lf) (g : Lg) (x1 : Int32) {Q : Int32 → Lf → Prop} (sz : Nat) (h : pX10_seed v x1 Q) : Met l yX10_seed wdX10_seed rmX10_seed (Pz D (tyL cI cJ cT) [.ref (d 0), .int x1] (wX10 cI cJ d v g) sz) (va_Qi (fun (r : Int32) (u : Lf) => Q r u) (Bz D (tyL cI cJ cT) (wX10 cI cJ d v g) sz (fun (u : Lf) => (wX10 cI cJ d u g))) (va_A (wX10 cI cJ d v g) sz)) 0 0 (va_A (wX10 cI cJ d v g) sz) := by
  refine z_meti (cc := cX10_seed) (maxL := 3) (own := RX10) (lv0 := [(0, .ref (d 0)), (1, .int x1)]) (by decide) rfl rfl (Nat.le_of_ble_eq_true rfl) rfl ?_
  intro p e s m args below meth c A QQ C hin hret
  refine z_aload_n (pc := 0) C 0 dX10_seed_0 rfl ?_
  refine z_get (pc := 1) C uw10 0 rfl rfl 0 (by decide) wq809 rfl dX10_seed_1 ?_
  refine z_iconst (pc := 4) (v := 0) C dX10_seed_4 (by decide) ?_
  refine z_iald (pc := 5) C 1 0 rfl rfl vi_0_372 (v 1 0) (congrArg _ cl_0) dX10_seed_5 ?_
  refine z_istore_n (pc := 6) (lv' := [(2, .int (v 1 0)), (0, .ref (d 0)), (1, .int x1)]) C dX10_seed_6 (by decide) rfl ?_
  refine z_aload_n (pc := 7) C 1 dX10_seed_7 rfl ?_
  refine z_get (pc := 8) C uw10 0 rfl rfl 0 (by decide) wq809 rfl dX10_seed_8 ?_
  refine z_iconst (pc := 11) (v := 0) C dX10_seed_11 (by decide) ?_
  refine z_iload_n (pc := 12) C 2 dX10_seed_12 rfl ?_
  refine z_iast (pc := 13) (ws' := (wX10 cI cJ d (st v 1 0 x1) g)) C 1 0 rfl rfl vi_0_372 dX10_seed_13 cl_0 sX10_a1 ?_
  refine z_iload_n (pc := 14) C 0 dX10_seed_14 rfl ?_
  exact hret 15 _ _ (v 1 0) (st v 1 0 x1) rfl h dX10_seed_15

def pX10_emergency (v : Lf) (x1 : Int32) (Q : Int32 → Lf → Prop) : Prop := (pX10_isSignal v x1 (fun r1 => ((¬ r1 = 0 → (((v 1 2) = 0 → (Q (-3 : Int32) v)) ∧ (¬ (v 1 2) = 0 → ((0 ≤ (v 1 6) → (Q (-3 : Int32) v)) ∧ (¬ 0 ≤ (v 1 6) → (pX10_firstWith v x1 (fun r7 => ((0 ≤ r7 → (pX10_firstWith (st v 1 6 x1) x1 (fun r10 => (Q r10 (st v 1 6 x1))))) ∧ (¬ 0 ≤ r7 → (Q (-3 : Int32) v)))))))))) ∧ (r1 = 0 → (Q (-1 : Int32) v)))))
abbrev rmX10_emergency : Room := { frames := 2, cells := 0, slots := 0, locals := 43 }
abbrev wdX10_emergency : List Cond := Cond.code yX10_emergency cX10_emergency 2 (some .int) :: TB
theorem hdSX10_emergency : (yX10_emergency).cls ≠ "java/lang/invoke/MethodHandle" ∧ (yX10_emergency).cls ≠ "java/lang/invoke/VarHandle" ∧ (parseMethodDescriptor (yX10_emergency).desc).map (fun d => d.parameters.length) = some 1 := by decide +kernel
theorem hdX10_emergency : (yX10_emergency).cls = RX10 ∧ (yX10_emergency).cls ≠ "java/lang/invoke/MethodHandle" ∧ (yX10_emergency).cls ≠ "java/lang/invoke/VarHandle" ∧ (parseMethodDescriptor (yX10_emergency).desc).map (fun d => d.parameters.length) = some 1 := ⟨rfl, hdSX10_emergency⟩
set_option maxHeartbeats 4000000 in
set_option maxRecDepth 100000 in
theorem kX10_emergency {l : Launch} {D : va_G} {cI cJ cT : ClassId} (d : Nat → Nat)  (v : Lf) (g : Lg) (x1 : Int32) {Q : Int32 → Lf → Prop} (sz : Nat) (h : pX10_emergency v x1 Q) : Met l yX10_emergency wdX10_emergency rmX10_emergency (Pz D (tyL cI cJ cT) [.ref (d 0), .int x1] (wX10 cI cJ d v g) sz) (va_Qi (fun (r : Int32) (u : Lf) => Q r u) (Bz D (tyL cI cJ cT) (wX10 cI cJ d v g) sz (fun (u : Lf) => (wX10 cI cJ d u g))) (va_A (wX10 cI cJ d v g) sz)) 0 0 (va_A (wX10 cI cJ d v g) sz) := by
  refine z_meti (cc := cX10_emergency) (maxL := 2) (own := RX10) (lv0 := [(0, .ref (d 0)), (1, .int x1)]) (by decide) rfl rfl (Nat.le_of_ble_eq_true rfl) rfl ?_
  intro p e s m args below meth c A QQ C hin hret
  refine z_aload_n (pc := 0) C 0 dX10_emergency_0 rfl ?_
  refine z_iload_n (pc := 1) C 1 dX10_emergency_1 rfl ?_
  refine z_callRi (pc := 2) C (z_runV (pc := 2) (wc := (wX10 cI cJ d v g)) (As := [.int x1]) C (fun sz => kX10_isSignal d v g x1 sz h) [0, 1, 2, 3, 4, 5, 6, 7, 8, 9, 10, 11] rfl (by decide) (gdV wq851 wq875 wq876 wq877 wq814) rfl rfl rfl hdX10_isSignal 0 rfl rfl rfl ⟨Nat.le_of_ble_eq_true rfl, Nat.le_of_ble_eq_true rfl⟩ rfl (Nat.le_of_ble_eq_true rfl) ⟨Nat.zero_le _, Nat.zero_le _⟩ dX10_emergency_2) [0, 1, 2, 3, 4, 5, 6, 7, 8, 9, 10, 11] rfl (by decide) (fun r1 u1 h => ?_)
  refine z_if_ne (pc := 5) (tgt := 10) C dX10_emergency_5 (by decide) (fun c2 => ?_) (fun c2 => ?_)
  · have h := h.1 c2
    refine z_aload_n (pc := 10) C 0 dX10_emergency_10 rfl ?_
    refine z_get (pc := 11) C uw10 0 rfl rfl 0 (by decide) wq809 rfl dX10_emergency_11 ?_
    refine z_iconst (pc := 14) (v := 2) C dX10_emergency_14 (by decide) ?_
    refine z_iald (pc := 15) C 1 0 rfl rfl vi_2_372 (v 1 2) (congrArg _ cl_2) dX10_emergency_15 ?_
    refine z_if_eq (pc := 16) (tgt := 37) C dX10_emergency_16 (by decide) (fun c4 => ?_) (fun c4 => ?_)
    · have h := h.1 c4
      refine z_bipush (pc := 37) (v := -3) C dX10_emergency_37 (by decide) ?_
      exact hret 39 _ _ (-3 : Int32) v rfl h dX10_emergency_39
    · have h := h.2 c4
      refine z_aload_n (pc := 19) C 0 dX10_emergency_19 rfl ?_
      refine z_get (pc := 20) C uw10 0 rfl rfl 0 (by decide) wq809 rfl dX10_emergency_20 ?_
      refine z_bipush (pc := 23) (v := 6) C dX10_emergency_23 (by decide) ?_
      refine z_iald (pc := 25) C 1 0 rfl rfl vi_6_372 (v 1 6) (congrArg _ cl_6) dX10_emergency_25 ?_
      refine z_if_ge (pc := 26) (tgt := 37) C dX10_emergency_26 (by decide) (fun c6 => ?_) (fun c6 => ?_)
      · have h := h.1 c6
        refine z_bipush (pc := 37) (v := -3) C dX10_emergency_37 (by decide) ?_
        exact hret 39 _ _ (-3 : Int32) v rfl h dX10_emergency_39
      · have h := h.2 c6
        refine z_aload_n (pc := 29) C 0 dX10_emergency_29 rfl ?_
        refine z_iload_n (pc := 30) C 1 dX10_emergency_30 rfl ?_
        refine z_callRi (pc := 31) C (z_runV (pc := 31) (wc := (wX10 cI cJ d v g)) (As := [.int x1]) C (fun sz => kX10_firstWith d v g x1 sz h) [0, 1, 2, 3, 4, 5, 6, 7, 8, 9, 10, 11] rfl (by decide) (gdV wq944 wq950 wq951 wq952 wq814) rfl rfl rfl hdX10_firstWith 0 rfl rfl rfl ⟨Nat.le_of_ble_eq_true rfl, Nat.le_of_ble_eq_true rfl⟩ rfl (Nat.le_of_ble_eq_true rfl) ⟨Nat.zero_le _, Nat.zero_le _⟩ dX10_emergency_31) [0, 1, 2, 3, 4, 5, 6, 7, 8, 9, 10, 11] rfl (by decide) (fun r7 u7 h => ?_)
        refine z_if_ge (pc := 34) (tgt := 40) C dX10_emergency_34 (by decide) (fun c8 => ?_) (fun c8 => ?_)
        · have h := h.1 c8
          refine z_aload_n (pc := 40) C 0 dX10_emergency_40 rfl ?_
          refine z_get (pc := 41) C uw10 0 rfl rfl 0 (by decide) wq809 rfl dX10_emergency_41 ?_
          refine z_bipush (pc := 44) (v := 6) C dX10_emergency_44 (by decide) ?_
          refine z_iload_n (pc := 46) C 1 dX10_emergency_46 rfl ?_
          refine z_iast (pc := 47) (ws' := (wX10 cI cJ d (st v 1 6 x1) g)) C 1 0 rfl rfl vi_6_372 dX10_emergency_47 cl_6 sX10_a1 ?_
          refine z_aload_n (pc := 48) C 0 dX10_emergency_48 rfl ?_
          refine z_iload_n (pc := 49) C 1 dX10_emergency_49 rfl ?_
          refine z_callRi (pc := 50) C (z_runV (pc := 50) (wc := (wX10 cI cJ d (st v 1 6 x1) g)) (As := [.int x1]) C (fun sz => kX10_firstWith d (st v 1 6 x1) g x1 sz h) [0, 1, 2, 3, 4, 5, 6, 7, 8, 9, 10, 11] rfl (by decide) (gdV wq944 wq950 wq951 wq952 wq814) rfl rfl rfl hdX10_firstWith 0 rfl rfl rfl ⟨Nat.le_of_ble_eq_true rfl, Nat.le_of_ble_eq_true rfl⟩ rfl (Nat.le_of_ble_eq_true rfl) ⟨Nat.zero_le _, Nat.zero_le _⟩ dX10_emergency_50) [0, 1, 2, 3, 4, 5, 6, 7, 8, 9, 10, 11] rfl (by decide) (fun r10 u10 h => ?_)
          exact hret 53 _ _ r10 (st v 1 6 x1) rfl h dX10_emergency_53
        · have h := h.2 c8
          refine z_bipush (pc := 37) (v := -3) C dX10_emergency_37 (by decide) ?_
          exact hret 39 _ _ (-3 : Int32) v rfl h dX10_emergency_39
  · have h := h.2 c2
    refine z_iconst (pc := 8) (v := -1) C dX10_emergency_8 (by decide) ?_
    exact hret 9 _ _ (-1 : Int32) v rfl h dX10_emergency_9

def pX10_over (v : Lf)  (Q : Int32 → Lf → Prop) : Prop := ((0 ≤ (v 1 6) → (Q (v 1 6) (st v 1 6 (-5 : Int32)))) ∧ (¬ 0 ≤ (v 1 6) → (Q (-3 : Int32) v)))
abbrev rmX10_over : Room := { frames := 0, cells := 0, slots := 0, locals := 0 }
abbrev wdX10_over : List Cond := Cond.code yX10_over cX10_over 2 (some .int) :: TB
theorem hdSX10_over : (yX10_over).cls ≠ "java/lang/invoke/MethodHandle" ∧ (yX10_over).cls ≠ "java/lang/invoke/VarHandle" ∧ (parseMethodDescriptor (yX10_over).desc).map (fun d => d.parameters.length) = some 0 := by decide +kernel
theorem hdX10_over : (yX10_over).cls = RX10 ∧ (yX10_over).cls ≠ "java/lang/invoke/MethodHandle" ∧ (yX10_over).cls ≠ "java/lang/invoke/VarHandle" ∧ (parseMethodDescriptor (yX10_over).desc).map (fun d => d.parameters.length) = some 0 := ⟨rfl, hdSX10_over⟩
set_option maxHeartbeats 4000000 in
set_option maxRecDepth 100000 in
theorem kX10_over {l : Launch} {D : va_G} {cI cJ cT : ClassId} (d : Nat → Nat)  (v : Lf) (g : Lg)  {Q : Int32 → Lf → Prop} (sz : Nat) (h : pX10_over v Q) : Met l yX10_over wdX10_over rmX10_over (Pz D (tyL cI cJ cT) [.ref (d 0)] (wX10 cI cJ d v g) sz) (va_Qi (fun (r : Int32) (u : Lf) => Q r u) (Bz D (tyL cI cJ cT) (wX10 cI cJ d v g) sz (fun (u : Lf) => (wX10 cI cJ d u g))) (va_A (wX10 cI cJ d v g) sz)) 0 0 (va_A (wX10 cI cJ d v g) sz) := by
  refine z_meti (cc := cX10_over) (maxL := 2) (own := RX10) (lv0 := [(0, .ref (d 0))]) (by decide) rfl rfl (Nat.le_of_ble_eq_true rfl) rfl ?_
  intro p e s m args below meth c A QQ C hin hret
  refine z_aload_n (pc := 0) C 0 dX10_over_0 rfl ?_
  refine z_get (pc := 1) C uw10 0 rfl rfl 0 (by decide) wq809 rfl dX10_over_1 ?_
  refine z_bipush (pc := 4) (v := 6) C dX10_over_4 (by decide) ?_
  refine z_iald (pc := 6) C 1 0 rfl rfl vi_6_372 (v 1 6) (congrArg _ cl_6) dX10_over_6 ?_
  refine z_if_ge (pc := 7) (tgt := 13) C dX10_over_7 (by decide) (fun c2 => ?_) (fun c2 => ?_)
  · have h := h.1 c2
    refine z_aload_n (pc := 13) C 0 dX10_over_13 rfl ?_
    refine z_get (pc := 14) C uw10 0 rfl rfl 0 (by decide) wq809 rfl dX10_over_14 ?_
    refine z_bipush (pc := 17) (v := 6) C dX10_over_17 (by decide) ?_
    refine z_iald (pc := 19) C 1 0 rfl rfl vi_6_372 (v 1 6) (congrArg _ cl_6) dX10_over_19 ?_
    refine z_istore_n (pc := 20) (lv' := [(1, .int (v 1 6)), (0, .ref (d 0))]) C dX10_over_20 (by decide) rfl ?_
    refine z_aload_n (pc := 21) C 1 dX10_over_21 rfl ?_
    refine z_get (pc := 22) C uw10 0 rfl rfl 0 (by decide) wq809 rfl dX10_over_22 ?_
    refine z_bipush (pc := 25) (v := 6) C dX10_over_25 (by decide) ?_
    refine z_bipush (pc := 27) (v := -5) C dX10_over_27 (by decide) ?_
    refine z_iast (pc := 29) (ws' := (wX10 cI cJ d (st v 1 6 (-5 : Int32)) g)) C 1 0 rfl rfl vi_6_372 dX10_over_29 cl_6 sX10_a1 ?_
    refine z_iload_n (pc := 30) C 0 dX10_over_30 rfl ?_
    exact hret 31 _ _ (v 1 6) (st v 1 6 (-5 : Int32)) rfl h dX10_over_31
  · have h := h.2 c2
    refine z_bipush (pc := 10) (v := -3) C dX10_over_10 (by decide) ?_
    exact hret 12 _ _ (-3 : Int32) v rfl h dX10_over_12

def pX10_pass (v : Lf) (x1 : Int32) (Q : Int32 → Lf → Prop) : Prop := (pX10_isIn x1 (0 : Int32) (99 : Int32) (fun r1 => ((¬ r1 = 0 → ((¬ (v 1 2) = 0 → (pX10_counts v x1 (fun r5 v_5 => ((¬ r5 = 0 → (pX10_passes v_5 x1 (fun v_8 => (Q ((v_8 1 8) - (v_5 1 8)) v_8)))) ∧ (r5 = 0 → (Q (-4 : Int32) v_5)))))) ∧ ((v 1 2) = 0 → (Q (-3 : Int32) v)))) ∧ (r1 = 0 → (Q (-2 : Int32) v)))))
abbrev rmX10_pass : Room := { frames := 6, cells := 0, slots := 0, locals := 136 }
abbrev wdX10_pass : List Cond := Cond.code yX10_pass cX10_pass 3 (some .int) :: TB
theorem hdSX10_pass : (yX10_pass).cls ≠ "java/lang/invoke/MethodHandle" ∧ (yX10_pass).cls ≠ "java/lang/invoke/VarHandle" ∧ (parseMethodDescriptor (yX10_pass).desc).map (fun d => d.parameters.length) = some 1 := by decide +kernel
theorem hdX10_pass : (yX10_pass).cls = RX10 ∧ (yX10_pass).cls ≠ "java/lang/invoke/MethodHandle" ∧ (yX10_pass).cls ≠ "java/lang/invoke/VarHandle" ∧ (parseMethodDescriptor (yX10_pass).desc).map (fun d => d.parameters.length) = some 1 := ⟨rfl, hdSX10_pass⟩
set_option maxHeartbeats 4000000 in
set_option maxRecDepth 100000 in
theorem kX10_pass {l : Launch} {D : va_G} {cI cJ cT : ClassId} (d : Nat → Nat)  (v : Lf) (g : Lg) (x1 : Int32) {Q : Int32 → Lf → Prop} (sz : Nat) (h : pX10_pass v x1 Q) : Met l yX10_pass wdX10_pass rmX10_pass (Pz D (tyL cI cJ cT) [.ref (d 0), .int x1] (wX10 cI cJ d v g) sz) (va_Qi (fun (r : Int32) (u : Lf) => Q r u) (Bz D (tyL cI cJ cT) (wX10 cI cJ d v g) sz (fun (u : Lf) => (wX10 cI cJ d u g))) (va_A (wX10 cI cJ d v g) sz)) 0 0 (va_A (wX10 cI cJ d v g) sz) := by
  refine z_meti (cc := cX10_pass) (maxL := 3) (own := RX10) (lv0 := [(0, .ref (d 0)), (1, .int x1)]) (by decide) rfl rfl (Nat.le_of_ble_eq_true rfl) rfl ?_
  intro p e s m args below meth c A QQ C hin hret
  refine z_iload_n (pc := 0) C 1 dX10_pass_0 rfl ?_
  refine z_iconst (pc := 1) (v := 0) C dX10_pass_1 (by decide) ?_
  refine z_bipush (pc := 2) (v := 99) C dX10_pass_2 (by decide) ?_
  refine z_call0i (pc := 4) C (z_runS (pc := 4) (wc := ([] : va_W)) (As := [.int x1, .int (0 : Int32), .int (99 : Int32)]) C (fun sz => kX10_isIn x1 (0 : Int32) (99 : Int32) sz h) [] rfl (by decide) (gdS wq849 wq852 wq853 wq814) rfl rfl rfl hdSX10_isIn ⟨Nat.le_of_ble_eq_true rfl, Nat.le_of_ble_eq_true rfl⟩ rfl (Nat.le_of_ble_eq_true rfl) ⟨Nat.zero_le _, Nat.zero_le _⟩ dX10_pass_4) (fun r1 u1 h => ?_)
  refine z_if_ne (pc := 7) (tgt := 13) C dX10_pass_7 (by decide) (fun c2 => ?_) (fun c2 => ?_)
  · have h := h.1 c2
    refine z_aload_n (pc := 13) C 0 dX10_pass_13 rfl ?_
    refine z_get (pc := 14) C uw10 0 rfl rfl 0 (by decide) wq809 rfl dX10_pass_14 ?_
    refine z_iconst (pc := 17) (v := 2) C dX10_pass_17 (by decide) ?_
    refine z_iald (pc := 18) C 1 0 rfl rfl vi_2_372 (v 1 2) (congrArg _ cl_2) dX10_pass_18 ?_
    refine z_if_ne (pc := 19) (tgt := 25) C dX10_pass_19 (by decide) (fun c4 => ?_) (fun c4 => ?_)
    · have h := h.1 c4
      refine z_aload_n (pc := 25) C 0 dX10_pass_25 rfl ?_
      refine z_iload_n (pc := 26) C 1 dX10_pass_26 rfl ?_
      refine z_calli (pc := 27) (wr := ([] : va_W)) (w1 := fun (u : Lf) => (wX10 cI cJ d u g)) (w2 := fun (u : Lf) => (wX10 cI cJ d u g)) C (z_runV (pc := 27) (wc := (wX10 cI cJ d v g)) (As := [.int x1]) C (fun sz => kX10_counts d v g x1 sz h) [0, 1, 2, 3, 4, 5, 6, 7, 8, 9, 10, 11] rfl (by decide) (gdV wq998 wq1005 wq1006 wq1007 wq814) rfl rfl rfl hdX10_counts 0 rfl rfl rfl ⟨Nat.le_of_ble_eq_true rfl, Nat.le_of_ble_eq_true rfl⟩ rfl (Nat.le_of_ble_eq_true rfl) ⟨Nat.zero_le _, Nat.zero_le _⟩ dX10_pass_27) [0, 1, 2, 3, 4, 5, 6, 7, 8, 9, 10, 11] [] [0, 1, 2, 3, 4, 5, 6, 7, 8, 9, 10, 11] rfl rfl (by decide) (by decide) (fun _ => rfl) (by decide) (fun r5 u5 h => ?_)
      obtain ⟨v_5, hu5⟩ : ∃ z, z = u5 := ⟨_, rfl⟩
      subst hu5
      refine z_if_ne (pc := 30) (tgt := 36) C dX10_pass_30 (by decide) (fun c6 => ?_) (fun c6 => ?_)
      · have h := h.1 c6
        refine z_aload_n (pc := 36) C 0 dX10_pass_36 rfl ?_
        refine z_get (pc := 37) C uw10 0 rfl rfl 0 (by decide) wq809 rfl dX10_pass_37 ?_
        refine z_bipush (pc := 40) (v := 8) C dX10_pass_40 (by decide) ?_
        refine z_iald (pc := 42) C 1 0 rfl rfl vi_8_372 (v_5 1 8) (congrArg _ cl_8) dX10_pass_42 ?_
        refine z_istore_n (pc := 43) (lv' := [(2, .int (v_5 1 8)), (0, .ref (d 0)), (1, .int x1)]) C dX10_pass_43 (by decide) rfl ?_
        refine z_aload_n (pc := 44) C 1 dX10_pass_44 rfl ?_
        refine z_iload_n (pc := 45) C 2 dX10_pass_45 rfl ?_
        refine z_callv (pc := 46) (wr := ([] : va_W)) (w1 := fun (u : Lf) => (wX10 cI cJ d u g)) (w2 := fun (u : Lf) => (wX10 cI cJ d u g)) C (z_runV (pc := 46) (wc := (wX10 cI cJ d v_5 g)) (As := [.int x1]) C (fun sz => kX10_passes d v_5 g x1 sz h) [0, 1, 2, 3, 4, 5, 6, 7, 8, 9, 10, 11] rfl (by decide) (gdV wq997 wq1008 wq1009 wq1010 wq814) rfl rfl rfl hdX10_passes 0 rfl rfl rfl ⟨Nat.le_of_ble_eq_true rfl, Nat.le_of_ble_eq_true rfl⟩ rfl (Nat.le_of_ble_eq_true rfl) ⟨Nat.zero_le _, Nat.zero_le _⟩ dX10_pass_46) [0, 1, 2, 3, 4, 5, 6, 7, 8, 9, 10, 11] [] [0, 1, 2, 3, 4, 5, 6, 7, 8, 9, 10, 11] rfl rfl (by decide) (by decide) (fun _ => rfl) (by decide) (fun u8 h => ?_)
        obtain ⟨v_8, hu8⟩ : ∃ z, z = u8 := ⟨_, rfl⟩
        subst hu8
        refine z_aload_n (pc := 49) C 1 dX10_pass_49 rfl ?_
        refine z_get (pc := 50) C uw10 0 rfl rfl 0 (by decide) wq809 rfl dX10_pass_50 ?_
        refine z_bipush (pc := 53) (v := 8) C dX10_pass_53 (by decide) ?_
        refine z_iald (pc := 55) C 1 0 rfl rfl vi_8_372 (v_8 1 8) (congrArg _ cl_8) dX10_pass_55 ?_
        refine z_iload_n (pc := 56) C 0 dX10_pass_56 rfl ?_
        refine z_isub (pc := 57) C dX10_pass_57 ?_
        exact hret 58 _ _ ((v_8 1 8) - (v_5 1 8)) v_8 rfl h dX10_pass_58
      · have h := h.2 c6
        refine z_bipush (pc := 33) (v := -4) C dX10_pass_33 (by decide) ?_
        exact hret 35 _ _ (-4 : Int32) v_5 rfl h dX10_pass_35
    · have h := h.2 c4
      refine z_bipush (pc := 22) (v := -3) C dX10_pass_22 (by decide) ?_
      exact hret 24 _ _ (-3 : Int32) v rfl h dX10_pass_24
  · have h := h.2 c2
    refine z_bipush (pc := 10) (v := -2) C dX10_pass_10 (by decide) ?_
    exact hret 12 _ _ (-2 : Int32) v rfl h dX10_pass_12

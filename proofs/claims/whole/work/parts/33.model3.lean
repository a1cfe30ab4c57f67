def pX10_isNode (v : Lf) (x1 : Int32) (Q : Int32 → Prop) : Prop := (pX10_isIn x1 (0 : Int32) ((v 1 17) - (1 : Int32)) (fun r2 => (narrow .boolean (.int r2) = .int r2 ∧ (Q r2 ))))
abbrev rmX10_isNode : Room := { frames := 1, cells := 0, slots := 0, locals := 22 }
abbrev wdX10_isNode : List Cond := Cond.code yX10_isNode cX10_isNode 2 (some .boolean) :: TB
theorem hdSX10_isNode : (yX10_isNode).cls ≠ "java/lang/invoke/MethodHandle" ∧ (yX10_isNode).cls ≠ "java/lang/invoke/VarHandle" ∧ (parseMethodDescriptor (yX10_isNode).desc).map (fun d => d.parameters.length) = some 1 := by decide +kernel
theorem hdX10_isNode : (yX10_isNode).cls = RX10 ∧ (yX10_isNode).cls ≠ "java/lang/invoke/MethodHandle" ∧ (yX10_isNode).cls ≠ "java/lang/invoke/VarHandle" ∧ (parseMethodDescriptor (yX10_isNode).desc).map (fun d => d.parameters.length) = some 1 := ⟨rfl, hdSX10_isNode⟩
set_option maxHeartbeats 4000000 in
set_option maxRecDepth 100000 in
theorem kX10_isNode {l : Launch} {D : va_G} {cI cJ cT : ClassId} (d : Nat → Nat)  (v : Lf) (g : Lg) (x1 : Int32) {Q : Int32 → Prop} (sz : Nat) (h : pX10_isNode v x1 Q) : Met l yX10_isNode wdX10_isNode rmX10_isNode (Pz D (tyL cI cJ cT) [.ref (d 0), .int x1] (wX10 cI cJ d v g) sz) (va_Qi (fun (r : Int32) (u : Unit) => Q r) (Bz D (tyL cI cJ cT) (wX10 cI cJ d v g) sz (fun (u : Unit) => (wX10 cI cJ d v g))) (va_A (wX10 cI cJ d v g) sz)) 0 0 (va_A (wX10 cI cJ d v g) sz) := by
  refine z_metz (cc := cX10_isNode) (maxL := 2) (own := RX10) (lv0 := [(0, .ref (d 0)), (1, .int x1)]) (by decide) rfl rfl (Nat.le_of_ble_eq_true rfl) rfl ?_
  intro p e s m args below meth c A QQ C hin hret
  refine z_iload_n (pc := 0) C 1 dX10_isNode_0 rfl ?_
  refine z_iconst (pc := 1) (v := 0) C dX10_isNode_1 (by decide) ?_
  refine z_aload_n (pc := 2) C 0 dX10_isNode_2 rfl ?_
  refine z_get (pc := 3) C uw10 0 rfl rfl 0 (by decide) wq809 rfl dX10_isNode_3 ?_
  refine z_bipush (pc := 6) (v := 17) C dX10_isNode_6 (by decide) ?_
  refine z_iald (pc := 8) C 1 0 rfl rfl vi_17_372 (v 1 17) (congrArg _ cl_17) dX10_isNode_8 ?_
  refine z_iconst (pc := 9) (v := 1) C dX10_isNode_9 (by decide) ?_
  refine z_isub (pc := 10) C dX10_isNode_10 ?_
  refine z_call0i (pc := 11) C (z_runS (pc := 11) (wc := ([] : va_W)) (As := [.int x1, .int (0 : Int32), .int ((v 1 17) - (1 : Int32))]) C (fun sz => kX10_isIn x1 (0 : Int32) ((v 1 17) - (1 : Int32)) sz h) [] rfl (by decide) (gdS wq849 wq852 wq853 wq814) rfl rfl rfl hdSX10_isIn ⟨Nat.le_of_ble_eq_true rfl, Nat.le_of_ble_eq_true rfl⟩ rfl (Nat.le_of_ble_eq_true rfl) ⟨Nat.zero_le _, Nat.zero_le _⟩ dX10_isNode_11) (fun r2 u2 h => ?_)
  obtain ⟨g3, h⟩ := h
  exact hret 14 _ _ r2 g3 () rfl h dX10_isNode_14

def pX10_change (v : Lf) (x1 : Int32) (x2 : Int32) (x3 : Int32) (Q : Int32 → Lf → Prop) : Prop := (pX10_isNode v x1 (fun r1 => ((r1 = 0 → (Q (-1 : Int32) v)) ∧ (¬ r1 = 0 → (pX10_isIn x2 (0 : Int32) (2 : Int32) (fun r3 => ((¬ r3 = 0 → (pX10_mayBe v x2 x3 (fun r5 => ((¬ r5 = 0 → (vp_in (((306 : Int32) + ((3 : Int32) * x1)) + x2) 372 ∧ (vp_in (((306 : Int32) + ((3 : Int32) * x1)) + x2) 372 ∧ (Q (v 1 (((306 : Int32) + ((3 : Int32) * x1)) + x2).toNatClampNeg) (st v 1 ((((306 : Int32) + ((3 : Int32) * x1)) + x2).toNatClampNeg) x3))))) ∧ (r5 = 0 → (Q (-2 : Int32) v)))))) ∧ (r3 = 0 → (Q (-1 : Int32) v)))))))))
abbrev rmX10_change : Room := { frames := 2, cells := 0, slots := 0, locals := 44 }
abbrev wdX10_change : List Cond := Cond.code yX10_change cX10_change 5 (some .int) :: TB
theorem hdSX10_change : (yX10_change).cls ≠ "java/lang/invoke/MethodHandle" ∧ (yX10_change).cls ≠ "java/lang/invoke/VarHandle" ∧ (parseMethodDescriptor (yX10_change).desc).map (fun d => d.parameters.length) = some 3 := by decide +kernel
theorem hdX10_change : (yX10_change).cls = RX10 ∧ (yX10_change).cls ≠ "java/lang/invoke/MethodHandle" ∧ (yX10_change).cls ≠ "java/lang/invoke/VarHandle" ∧ (parseMethodDescriptor (yX10_change).desc).map (fun d => d.parameters.length) = some 3 := ⟨rfl, hdSX10_change⟩
set_option maxHeartbeats 4000000 in
set_option maxRecDepth 100000 in
theorem kX10_change {l : Launch} {D : va_G} {cI cJ cT : ClassId} (d : Nat → Nat)  (v : Lf) (g : Lg) (x1 : Int32) (x2 : Int32) (x3 : Int32) {Q : Int32 → Lf → Prop} (sz : Nat) (h : pX10_change v x1 x2 x3 Q) : Met l yX10_change wdX10_change rmX10_change (Pz D (tyL cI cJ cT) [.ref (d 0), .int x1, .int x2, .int x3] (wX10 cI cJ d v g) sz) (va_Qi (fun (r : Int32) (u : Lf) => Q r u) (Bz D (tyL cI cJ cT) (wX10 cI cJ d v g) sz (fun (u : Lf) => (wX10 cI cJ d u g))) (va_A (wX10 cI cJ d v g) sz)) 0 0 (va_A (wX10 cI cJ d v g) sz) := by
  refine z_meti (cc := cX10_change) (maxL := 5) (own := RX10) (lv0 := [(0, .ref (d 0)), (1, .int x1), (2, .int x2), (3, .int x3)]) (by decide) rfl rfl (Nat.le_of_ble_eq_true rfl) rfl ?_
  intro p e s m args below meth c A QQ C hin hret
  refine z_aload_n (pc := 0) C 0 dX10_change_0 rfl ?_
  refine z_iload_n (pc := 1) C 1 dX10_change_1 rfl ?_
  refine z_callRi (pc := 2) C (z_runV (pc := 2) (wc := (wX10 cI cJ d v g)) (As := [.int x1]) C (fun sz => kX10_isNode d v g x1 sz h) [0, 1, 2, 3, 4, 5, 6, 7, 8, 9, 10, 11] rfl (by decide) (gdV wq1059 wq1061 wq1062 wq1063 wq814) rfl rfl rfl hdX10_isNode 0 rfl rfl rfl ⟨Nat.le_of_ble_eq_true rfl, Nat.le_of_ble_eq_true rfl⟩ rfl (Nat.le_of_ble_eq_true rfl) ⟨Nat.zero_le _, Nat.zero_le _⟩ dX10_change_2) [0, 1, 2, 3, 4, 5, 6, 7, 8, 9, 10, 11] rfl (by decide) (fun r1 u1 h => ?_)
  refine z_if_eq (pc := 5) (tgt := 17) C dX10_change_5 (by decide) (fun c2 => ?_) (fun c2 => ?_)
  · have h := h.1 c2
    refine z_iconst (pc := 17) (v := -1) C dX10_change_17 (by decide) ?_
    exact hret 18 _ _ (-1 : Int32) v rfl h dX10_change_18
  · have h := h.2 c2
    refine z_iload_n (pc := 8) C 2 dX10_change_8 rfl ?_
    refine z_iconst (pc := 9) (v := 0) C dX10_change_9 (by decide) ?_
    refine z_iconst (pc := 10) (v := 2) C dX10_change_10 (by decide) ?_
    refine z_call0i (pc := 11) C (z_runS (pc := 11) (wc := ([] : va_W)) (As := [.int x2, .int (0 : Int32), .int (2 : Int32)]) C (fun sz => kX10_isIn x2 (0 : Int32) (2 : Int32) sz h) [] rfl (by decide) (gdS wq849 wq852 wq853 wq814) rfl rfl rfl hdSX10_isIn ⟨Nat.le_of_ble_eq_true rfl, Nat.le_of_ble_eq_true rfl⟩ rfl (Nat.le_of_ble_eq_true rfl) ⟨Nat.zero_le _, Nat.zero_le _⟩ dX10_change_11) (fun r3 u3 h => ?_)
    refine z_if_ne (pc := 14) (tgt := 19) C dX10_change_14 (by decide) (fun c4 => ?_) (fun c4 => ?_)
    · have h := h.1 c4
      refine z_aload_n (pc := 19) C 0 dX10_change_19 rfl ?_
      refine z_iload_n (pc := 20) C 2 dX10_change_20 rfl ?_
      refine z_iload_n (pc := 21) C 3 dX10_change_21 rfl ?_
      refine z_callRi (pc := 22) C (z_runV (pc := 22) (wc := (wX10 cI cJ d v g)) (As := [.int x2, .int x3]) C (fun sz => kX10_mayBe d v g x2 x3 sz h) [0, 1, 2, 3, 4, 5, 6, 7, 8, 9, 10, 11] rfl (by decide) (gdV wq1054 wq1056 wq1057 wq1058 wq814) rfl rfl rfl hdX10_mayBe 0 rfl rfl rfl ⟨Nat.le_of_ble_eq_true rfl, Nat.le_of_ble_eq_true rfl⟩ rfl (Nat.le_of_ble_eq_true rfl) ⟨Nat.zero_le _, Nat.zero_le _⟩ dX10_change_22) [0, 1, 2, 3, 4, 5, 6, 7, 8, 9, 10, 11] rfl (by decide) (fun r5 u5 h => ?_)
      refine z_if_ne (pc := 25) (tgt := 31) C dX10_change_25 (by decide) (fun c6 => ?_) (fun c6 => ?_)
      · have h := h.1 c6
        refine z_aload_n (pc := 31) C 0 dX10_change_31 rfl ?_
        refine z_get (pc := 32) C uw10 0 rfl rfl 0 (by decide) wq809 rfl dX10_change_32 ?_
        refine z_sipush (pc := 35) (v := 306) C dX10_change_35 (by decide) ?_
        refine z_iconst (pc := 38) (v := 3) C dX10_change_38 (by decide) ?_
        refine z_iload_n (pc := 39) C 1 dX10_change_39 rfl ?_
        refine z_imul (pc := 40) C dX10_change_40 ?_
        refine z_iadd (pc := 41) C dX10_change_41 ?_
        refine z_iload_n (pc := 42) C 2 dX10_change_42 rfl ?_
        refine z_iadd (pc := 43) C dX10_change_43 ?_
        obtain ⟨g7, h⟩ := h
        refine z_iald (pc := 44) C 1 0 rfl rfl g7 (v 1 (((306 : Int32) + ((3 : Int32) * x1)) + x2).toNatClampNeg) rfl dX10_change_44 ?_
        refine z_istore (pc := 45) (lv' := [(4, .int (v 1 (((306 : Int32) + ((3 : Int32) * x1)) + x2).toNatClampNeg)), (0, .ref (d 0)), (1, .int x1), (2, .int x2), (3, .int x3)]) C dX10_change_45 (by decide) rfl ?_
        refine z_aload_n (pc := 47) C 1 dX10_change_47 rfl ?_
        refine z_get (pc := 48) C uw10 0 rfl rfl 0 (by decide) wq809 rfl dX10_change_48 ?_
        refine z_sipush (pc := 51) (v := 306) C dX10_change_51 (by decide) ?_
        refine z_iconst (pc := 54) (v := 3) C dX10_change_54 (by decide) ?_
        refine z_iload_n (pc := 55) C 2 dX10_change_55 rfl ?_
        refine z_imul (pc := 56) C dX10_change_56 ?_
        refine z_iadd (pc := 57) C dX10_change_57 ?_
        refine z_iload_n (pc := 58) C 3 dX10_change_58 rfl ?_
        refine z_iadd (pc := 59) C dX10_change_59 ?_
        refine z_iload_n (pc := 60) C 4 dX10_change_60 rfl ?_
        obtain ⟨g8, h⟩ := h
        refine z_iast (pc := 61) (ws' := (wX10 cI cJ d (st v 1 ((((306 : Int32) + ((3 : Int32) * x1)) + x2).toNatClampNeg) x3) g)) C 1 0 rfl rfl g8 dX10_change_61 rfl sX10_a1 ?_
        refine z_iload (pc := 62) C 0 dX10_change_62 rfl ?_
        exact hret 64 _ _ (v 1 (((306 : Int32) + ((3 : Int32) * x1)) + x2).toNatClampNeg) (st v 1 ((((306 : Int32) + ((3 : Int32) * x1)) + x2).toNatClampNeg) x3) rfl h dX10_change_64
      · have h := h.2 c6
        refine z_bipush (pc := 28) (v := -2) C dX10_change_28 (by decide) ?_
        exact hret 30 _ _ (-2 : Int32) v rfl h dX10_change_30
    · have h := h.2 c4
      refine z_iconst (pc := 17) (v := -1) C dX10_change_17 (by decide) ?_
      exact hret 18 _ _ (-1 : Int32) v rfl h dX10_change_18

def pX10_isOpen_J40 (v : Lf) (x1 : Int32) (x2 : Int32) (Q : Int32 → Prop) (t0 : Int32) : Prop := (vp_in (((306 : Int32) + ((3 : Int32) * x1)) + (1 : Int32)) 372 ∧ (((v 1 (((306 : Int32) + ((3 : Int32) * x1)) + (1 : Int32)).toNatClampNeg) ≤ t0 → (Q (0 : Int32) )) ∧ (¬ (v 1 (((306 : Int32) + ((3 : Int32) * x1)) + (1 : Int32)).toNatClampNeg) ≤ t0 → (Q (1 : Int32) ))))
def pX10_isOpen (v : Lf) (x1 : Int32) (x2 : Int32) (Q : Int32 → Prop) : Prop := (vp_in ((306 : Int32) + ((3 : Int32) * x1)) 372 ∧ (¬ (v 1 16) = 0 ∧ ((0 ≤ ((x2 - (v 1 ((306 : Int32) + ((3 : Int32) * x1)).toNatClampNeg)) - (x2 - (v 1 ((306 : Int32) + ((3 : Int32) * x1)).toNatClampNeg)) / (v 1 16) * (v 1 16)) → (pX10_isOpen_J40 v x1 x2 Q  ((x2 - (v 1 ((306 : Int32) + ((3 : Int32) * x1)).toNatClampNeg)) - (x2 - (v 1 ((306 : Int32) + ((3 : Int32) * x1)).toNatClampNeg)) / (v 1 16) * (v 1 16)))) ∧ (¬ 0 ≤ ((x2 - (v 1 ((306 : Int32) + ((3 : Int32) * x1)).toNatClampNeg)) - (x2 - (v 1 ((306 : Int32) + ((3 : Int32) * x1)).toNatClampNeg)) / (v 1 16) * (v 1 16)) → (pX10_isOpen_J40 v x1 x2 Q  (((x2 - (v 1 ((306 : Int32) + ((3 : Int32) * x1)).toNatClampNeg)) - (x2 - (v 1 ((306 : Int32) + ((3 : Int32) * x1)).toNatClampNeg)) / (v 1 16) * (v 1 16)) + (v 1 16)))))))
abbrev rmX10_isOpen : Room := { frames := 0, cells := 0, slots := 0, locals := 0 }
abbrev wdX10_isOpen : List Cond := Cond.code yX10_isOpen cX10_isOpen 4 (some .boolean) :: TB
theorem hdSX10_isOpen : (yX10_isOpen).cls ≠ "java/lang/invoke/MethodHandle" ∧ (yX10_isOpen).cls ≠ "java/lang/invoke/VarHandle" ∧ (parseMethodDescriptor (yX10_isOpen).desc).map (fun d => d.parameters.length) = some 2 := by decide +kernel
theorem hdX10_isOpen : (yX10_isOpen).cls = RX10 ∧ (yX10_isOpen).cls ≠ "java/lang/invoke/MethodHandle" ∧ (yX10_isOpen).cls ≠ "java/lang/invoke/VarHandle" ∧ (parseMethodDescriptor (yX10_isOpen).desc).map (fun d => d.parameters.length) = some 2 := ⟨rfl, hdSX10_isOpen⟩
set_option maxHeartbeats 4000000 in
set_option maxRecDepth 100000 in
theorem kX10_isOpen {l : Launch} {D : va_G} {cI cJ cT : ClassId} (d : Nat → Nat)  (v : Lf) (g : Lg) (x1 : Int32) (x2 : Int32) {Q : Int32 → Prop} (sz : Nat) (h : pX10_isOpen v x1 x2 Q) : Met l yX10_isOpen wdX10_isOpen rmX10_isOpen (Pz D (tyL cI cJ cT) [.ref (d 0), .int x1, .int x2] (wX10 cI cJ d v g) sz) (va_Qi (fun (r : Int32) (u : Unit) => Q r) (Bz D (tyL cI cJ cT) (wX10 cI cJ d v g) sz (fun (u : Unit) => (wX10 cI cJ d v g))) (va_A (wX10 cI cJ d v g) sz)) 0 0 (va_A (wX10 cI cJ d v g) sz) := by
  refine z_metz (cc := cX10_isOpen) (maxL := 4) (own := RX10) (lv0 := [(0, .ref (d 0)), (1, .int x1), (2, .int x2)]) (by decide) rfl rfl (Nat.le_of_ble_eq_true rfl) rfl ?_
  intro p e s m args below meth c A QQ C hin hret
  have J40 : ∀ (t0 : Int32), pX10_isOpen_J40 v x1 x2 Q t0 → ZZ p l e rmX10_isOpen s m args below meth c D A 4 0 0 QQ 40 (wX10 cI cJ d v g) [(0, .ref (d 0)), (1, .int x1)] [.int t0] := by
    intro  t0 h
    refine z_aload_n (pc := 40) C 0 dX10_isOpen_40 rfl ?_
    refine z_get (pc := 41) C uw10 0 rfl rfl 0 (by decide) wq809 rfl dX10_isOpen_41 ?_
    refine z_sipush (pc := 44) (v := 306) C dX10_isOpen_44 (by decide) ?_
    refine z_iconst (pc := 47) (v := 3) C dX10_isOpen_47 (by decide) ?_
    refine z_iload_n (pc := 48) C 1 dX10_isOpen_48 rfl ?_
    refine z_imul (pc := 49) C dX10_isOpen_49 ?_
    refine z_iadd (pc := 50) C dX10_isOpen_50 ?_
    refine z_iconst (pc := 51) (v := 1) C dX10_isOpen_51 (by decide) ?_
    refine z_iadd (pc := 52) C dX10_isOpen_52 ?_
    obtain ⟨g5, h⟩ := h
    refine z_iald (pc := 53) C 1 0 rfl rfl g5 (v 1 (((306 : Int32) + ((3 : Int32) * x1)) + (1 : Int32)).toNatClampNeg) rfl dX10_isOpen_53 ?_
    refine z_icmp_ge (pc := 54) (tgt := 61) C dX10_isOpen_54 (by decide) (fun c6 => ?_) (fun c6 => ?_)
    · have h := h.1 c6
      refine z_iconst (pc := 61) (v := 0) C dX10_isOpen_61 (by decide) ?_
      exact hret 62 _ _ (0 : Int32) rfl () rfl h dX10_isOpen_62
    · have h := h.2 c6
      refine z_iconst (pc := 57) (v := 1) C dX10_isOpen_57 (by decide) ?_
      refine z_goto (pc := 58) (tgt := 62) C dX10_isOpen_58 (by decide) ?_
      exact hret 62 _ _ (1 : Int32) rfl () rfl h dX10_isOpen_62
  refine z_iload_n (pc := 0) C 2 dX10_isOpen_0 rfl ?_
  refine z_aload_n (pc := 1) C 0 dX10_isOpen_1 rfl ?_
  refine z_get (pc := 2) C uw10 0 rfl rfl 0 (by decide) wq809 rfl dX10_isOpen_2 ?_
  refine z_sipush (pc := 5) (v := 306) C dX10_isOpen_5 (by decide) ?_
  refine z_iconst (pc := 8) (v := 3) C dX10_isOpen_8 (by decide) ?_
  refine z_iload_n (pc := 9) C 1 dX10_isOpen_9 rfl ?_
  refine z_imul (pc := 10) C dX10_isOpen_10 ?_
  refine z_iadd (pc := 11) C dX10_isOpen_11 ?_
  obtain ⟨g1, h⟩ := h
  refine z_iald (pc := 12) C 1 0 rfl rfl g1 (v 1 ((306 : Int32) + ((3 : Int32) * x1)).toNatClampNeg) rfl dX10_isOpen_12 ?_
  refine z_isub (pc := 13) C dX10_isOpen_13 ?_
  refine z_aload_n (pc := 14) C 0 dX10_isOpen_14 rfl ?_
  refine z_get (pc := 15) C uw10 0 rfl rfl 0 (by decide) wq809 rfl dX10_isOpen_15 ?_
  refine z_bipush (pc := 18) (v := 16) C dX10_isOpen_18 (by decide) ?_
  refine z_iald (pc := 20) C 1 0 rfl rfl vi_16_372 (v 1 16) (congrArg _ cl_16) dX10_isOpen_20 ?_
  obtain ⟨g3, h⟩ := h
  refine z_irem (pc := 21) C dX10_isOpen_21 g3 ?_
  refine z_istore_n (pc := 22) (lv' := [(3, .int ((x2 - (v 1 ((306 : Int32) + ((3 : Int32) * x1)).toNatClampNeg)) - (x2 - (v 1 ((306 : Int32) + ((3 : Int32) * x1)).toNatClampNeg)) / (v 1 16) * (v 1 16))), (0, .ref (d 0)), (1, .int x1), (2, .int x2)]) C dX10_isOpen_22 (by decide) rfl ?_
  refine z_iload_n (pc := 23) C 0 dX10_isOpen_23 rfl ?_
  refine z_if_ge (pc := 24) (tgt := 39) C dX10_isOpen_24 (by decide) (fun c4 => ?_) (fun c4 => ?_)
  · have h := h.1 c4
    refine z_iload_n (pc := 39) C 0 dX10_isOpen_39 rfl ?_
    refine z_sub (lv' := [(0, .ref (d 0)), (1, .int x1)]) [1, 2] rfl ?_
    exact J40  ((x2 - (v 1 ((306 : Int32) + ((3 : Int32) * x1)).toNatClampNeg)) - (x2 - (v 1 ((306 : Int32) + ((3 : Int32) * x1)).toNatClampNeg)) / (v 1 16) * (v 1 16)) h
  · have h := h.2 c4
    refine z_iload_n (pc := 27) C 0 dX10_isOpen_27 rfl ?_
    refine z_aload_n (pc := 28) C 1 dX10_isOpen_28 rfl ?_
    refine z_get (pc := 29) C uw10 0 rfl rfl 0 (by decide) wq809 rfl dX10_isOpen_29 ?_
    refine z_bipush (pc := 32) (v := 16) C dX10_isOpen_32 (by decide) ?_
    refine z_iald (pc := 34) C 1 0 rfl rfl vi_16_372 (v 1 16) (congrArg _ cl_16) dX10_isOpen_34 ?_
    refine z_iadd (pc := 35) C dX10_isOpen_35 ?_
    refine z_goto (pc := 36) (tgt := 40) C dX10_isOpen_36 (by decide) ?_
    refine z_sub (lv' := [(0, .ref (d 0)), (1, .int x1)]) [1, 2] rfl ?_
    exact J40  (((x2 - (v 1 ((306 : Int32) + ((3 : Int32) * x1)).toNatClampNeg)) - (x2 - (v 1 ((306 : Int32) + ((3 : Int32) * x1)).toNatClampNeg)) / (v 1 16) * (v 1 16)) + (v 1 16)) h

def pX10_bandOf_J135 (v : Lf) (x1 : Int32) (Q : Int32 → Prop) (K4 : Int32 → Int32 → Prop) (x3 : Int32) (t0 : Int32) (t1 : Int32) : Prop := (K4 (t0 + t1) (x3 + 1))
def pX10_bandOf_J105 (v : Lf) (x1 : Int32) (Q : Int32 → Prop) (K4 : Int32 → Int32 → Prop) (K34 : Int32 → Int32 → Int32 → Int32 → Int32 → Prop) (x2 : Int32) (x3 : Int32) (x4 : Int32) (x5 : Int32) (x6 : Int32) (x7 : Int32) : Prop := (pX10_isOpen v x7 x5 (fun r11 => (K34 x2 x3 (x4 &&& r11) x5 (x6 + 1))))
def pX10_bandOf_J97 (v : Lf) (x1 : Int32) (Q : Int32 → Prop) (K4 : Int32 → Int32 → Prop) (K34 : Int32 → Int32 → Int32 → Int32 → Int32 → Prop) (x2 : Int32) (x3 : Int32) (x4 : Int32) (x6 : Int32) (x7 : Int32) (t0 : Int32) (t2 : Int32) (t3 : Int32) (t4 : Int32) : Prop := (vp_in ((t2 + (t3 * t4)) + (2 : Int32)) 372 ∧ (pX10_bandOf_J105 v x1 Q K4 K34 x2 x3 x4 (t0 + (v 1 ((t2 + (t3 * t4)) + (2 : Int32)).toNatClampNeg)) x6 x7))
def pX10_bandOf_J67 (v : Lf) (x1 : Int32) (Q : Int32 → Prop) (K4 : Int32 → Int32 → Prop) (K34 : Int32 → Int32 → Int32 → Int32 → Int32 → Prop) (x2 : Int32) (x3 : Int32) (x4 : Int32) (x5 : Int32) (x6 : Int32) (t0 : Int32) : Prop := ((x6 ≤ 0 → (pX10_bandOf_J105 v x1 Q K4 K34 x2 x3 x4 x5 x6 t0)) ∧ (¬ x6 ≤ 0 → ((¬ x1 = 0 → (pX10_bandOf_J97 v x1 Q K4 K34 x2 x3 x4 x6 t0 x5 (306 : Int32) (3 : Int32) t0)) ∧ (x1 = 0 → (pX10_bandOf_J97 v x1 Q K4 K34 x2 x3 x4 x6 t0 x5 (306 : Int32) (3 : Int32) (t0 - (1 : Int32)))))))
def pX10_bandOf_L34 (v : Lf) (x1 : Int32) (Q : Int32 → Prop) (K4 : Int32 → Int32 → Prop) : Nat → Int32 → Int32 → Int32 → Int32 → Int32 → Prop
  | 0, _, _, _, _, _ => False
  | n34 + 1, x2, x3, x4, x5, x6 => (((v 1 17) ≤ x6 → ((x4 = 0 → (pX10_bandOf_J135 v x1 Q K4 x3 x2 (0 : Int32))) ∧ (¬ x4 = 0 → (pX10_bandOf_J135 v x1 Q K4 x3 x2 (1 : Int32))))) ∧ (¬ (v 1 17) ≤ x6 → ((¬ x1 = 0 → (pX10_bandOf_J67 v x1 Q K4 (fun x2 x3 x4 x5 x6 => pX10_bandOf_L34 v x1 Q K4 n34 x2 x3 x4 x5 x6) x2 x3 x4 x5 x6 (((v 1 17) - (1 : Int32)) - x6))) ∧ (x1 = 0 → (pX10_bandOf_J67 v x1 Q K4 (fun x2 x3 x4 x5 x6 => pX10_bandOf_L34 v x1 Q K4 n34 x2 x3 x4 x5 x6) x2 x3 x4 x5 x6 x6)))))
def pX10_bandOf_L4 (v : Lf) (x1 : Int32) (Q : Int32 → Prop) : Nat → Int32 → Int32 → Prop
  | 0, _, _ => False
  | n4 + 1, x2, x3 => (((v 1 16) ≤ x3 → (Q x2 )) ∧ (¬ (v 1 16) ≤ x3 → (((v 1 17) ≤ 0 → (Q x2 )) ∧ (¬ (v 1 17) ≤ 0 → (∃ n34, pX10_bandOf_L34 v x1 Q (fun x2 x3 => pX10_bandOf_L4 v x1 Q n4 x2 x3) n34 x2 x3 (1 : Int32) x3 (0 : Int32))))))
def pX10_bandOf (v : Lf) (x1 : Int32) (Q : Int32 → Prop) : Prop := (∃ n4, pX10_bandOf_L4 v x1 Q  n4 (0 : Int32) (0 : Int32))
abbrev rmX10_bandOf : Room := { frames := 1, cells := 0, slots := 0, locals := 23 }
abbrev wdX10_bandOf : List Cond := Cond.code yX10_bandOf cX10_bandOf 8 (some .int) :: TB
theorem hdSX10_bandOf : (yX10_bandOf).cls ≠ "java/lang/invoke/MethodHandle" ∧ (yX10_bandOf).cls ≠ "java/lang/invoke/VarHandle" ∧ (parseMethodDescriptor (yX10_bandOf).desc).map (fun d => d.parameters.length) = some 1 := by decide +kernel
theorem hdX10_bandOf : (yX10_bandOf).cls = RX10 ∧ (yX10_bandOf).cls ≠ "java/lang/invoke/MethodHandle" ∧ (yX10_bandOf).cls ≠ "java/lang/invoke/VarHandle" ∧ (parseMethodDescriptor (yX10_bandOf).desc).map (fun d => d.parameters.length) = some 1 := ⟨rfl, hdSX10_bandOf⟩
set_option maxHeartbeats 4000000 in
set_option maxRecDepth 100000 in
theorem kX10_bandOf {l : Launch} {D : va_G} {cI cJ cT : ClassId} (d : Nat → Nat)  (v : Lf) (g : Lg) (x1 : Int32) {Q : Int32 → Prop} (sz : Nat) (h : pX10_bandOf v x1 Q) : Met l yX10_bandOf wdX10_bandOf rmX10_bandOf (Pz D (tyL cI cJ cT) [.ref (d 0), .int x1] (wX10 cI cJ d v g) sz) (va_Qi (fun (r : Int32) (u : Unit) => Q r) (Bz D (tyL cI cJ cT) (wX10 cI cJ d v g) sz (fun (u : Unit) => (wX10 cI cJ d v g))) (va_A (wX10 cI cJ d v g) sz)) 0 0 (va_A (wX10 cI cJ d v g) sz) := by
  refine z_meti (cc := cX10_bandOf) (maxL := 8) (own := RX10) (lv0 := [(0, .ref (d 0)), (1, .int x1)]) (by decide) rfl rfl (Nat.le_of_ble_eq_true rfl) rfl ?_
  intro p e s m args below meth c A QQ C hin hret
  have J135 : ∀ (K4 : Int32 → Int32 → Prop), (∀ (x2 : Int32) (x3 : Int32), K4 x2 x3 → ZZ p l e rmX10_bandOf s m args below meth c D A 8 0 0 QQ 4 (wX10 cI cJ d v g) [(0, .ref (d 0)), (1, .int x1), (2, .int x2), (3, .int x3)] []) → ∀ (x3 : Int32) (t0 : Int32) (t1 : Int32), pX10_bandOf_J135 v x1 Q K4 x3 t0 t1 → ZZ p l e rmX10_bandOf s m args below meth c D A 8 0 0 QQ 135 (wX10 cI cJ d v g) [(0, .ref (d 0)), (1, .int x1), (3, .int x3)] [.int t1, .int t0] := by
    intro K4 hK4 x3 t0 t1 h
    refine z_iadd (pc := 135) C dX10_bandOf_135 ?_
    refine z_istore_n (pc := 136) (lv' := [(2, .int (t0 + t1)), (0, .ref (d 0)), (1, .int x1), (3, .int x3)]) C dX10_bandOf_136 (by decide) rfl ?_
    refine z_iinc (pc := 137) (v := (x3 + 1)) (lv' := [(3, .int (x3 + 1)), (2, .int (t0 + t1)), (0, .ref (d 0)), (1, .int x1)]) C 3 dX10_bandOf_137 rfl rfl (by decide) rfl ?_
    refine z_goto (pc := 140) (tgt := 4) C dX10_bandOf_140 (by decide) ?_
    refine z_sub (lv' := [(0, .ref (d 0)), (1, .int x1), (2, .int (t0 + t1)), (3, .int (x3 + 1))]) [2, 3, 1, 0] rfl ?_
    exact hK4 (t0 + t1) (x3 + 1) h
  have J105 : ∀ (K4 : Int32 → Int32 → Prop), (∀ (x2 : Int32) (x3 : Int32), K4 x2 x3 → ZZ p l e rmX10_bandOf s m args below meth c D A 8 0 0 QQ 4 (wX10 cI cJ d v g) [(0, .ref (d 0)), (1, .int x1), (2, .int x2), (3, .int x3)] []) → ∀ (K34 : Int32 → Int32 → Int32 → Int32 → Int32 → Prop), (∀ (x2 : Int32) (x3 : Int32) (x4 : Int32) (x5 : Int32) (x6 : Int32), K34 x2 x3 x4 x5 x6 → ZZ p l e rmX10_bandOf s m args below meth c D A 8 0 0 QQ 34 (wX10 cI cJ d v g) [(0, .ref (d 0)), (1, .int x1), (2, .int x2), (3, .int x3), (4, .int x4), (5, .int x5), (6, .int x6)] []) → ∀ (x2 : Int32) (x3 : Int32) (x4 : Int32) (x5 : Int32) (x6 : Int32) (x7 : Int32), pX10_bandOf_J105 v x1 Q K4 K34 x2 x3 x4 x5 x6 x7 → ZZ p l e rmX10_bandOf s m args below meth c D A 8 0 0 QQ 105 (wX10 cI cJ d v g) [(0, .ref (d 0)), (1, .int x1), (2, .int x2), (3, .int x3), (4, .int x4), (5, .int x5), (6, .int x6), (7, .int x7)] [] := by
    intro K4 hK4 K34 hK34 x2 x3 x4 x5 x6 x7 h
    refine z_iload (pc := 105) C 4 dX10_bandOf_105 rfl ?_
    refine z_aload_n (pc := 107) C 0 dX10_bandOf_107 rfl ?_
    refine z_iload (pc := 108) C 7 dX10_bandOf_108 rfl ?_
    refine z_iload (pc := 110) C 5 dX10_bandOf_110 rfl ?_
    refine z_callRi (pc := 112) C (z_runV (pc := 112) (wc := (wX10 cI cJ d v g)) (As := [.int x7, .int x5]) C (fun sz => kX10_isOpen d v g x7 x5 sz h) [0, 1, 2, 3, 4, 5, 6, 7, 8, 9, 10, 11] rfl (by decide) (gdV wq1064 wq1066 wq1067 wq1068 wq814) rfl rfl rfl hdX10_isOpen 0 rfl rfl rfl ⟨Nat.le_of_ble_eq_true rfl, Nat.le_of_ble_eq_true rfl⟩ rfl (Nat.le_of_ble_eq_true rfl) ⟨Nat.zero_le _, Nat.zero_le _⟩ dX10_bandOf_112) [0, 1, 2, 3, 4, 5, 6, 7, 8, 9, 10, 11] rfl (by decide) (fun r11 u11 h => ?_)
    refine z_iand (pc := 115) C dX10_bandOf_115 ?_
    refine z_istore (pc := 116) (lv' := [(4, .int (x4 &&& r11)), (0, .ref (d 0)), (1, .int x1), (2, .int x2), (3, .int x3), (5, .int x5), (6, .int x6), (7, .int x7)]) C dX10_bandOf_116 (by decide) rfl ?_
    refine z_iinc (pc := 118) (v := (x6 + 1)) (lv' := [(6, .int (x6 + 1)), (4, .int (x4 &&& r11)), (0, .ref (d 0)), (1, .int x1), (2, .int x2), (3, .int x3), (5, .int x5), (7, .int x7)]) C 6 dX10_bandOf_118 rfl rfl (by decide) rfl ?_
    refine z_goto (pc := 121) (tgt := 34) C dX10_bandOf_121 (by decide) ?_
    refine z_sub (lv' := [(0, .ref (d 0)), (1, .int x1), (2, .int x2), (3, .int x3), (4, .int (x4 &&& r11)), (5, .int x5), (6, .int (x6 + 1))]) [2, 3, 4, 5, 1, 6, 0] rfl ?_
    exact hK34 x2 x3 (x4 &&& r11) x5 (x6 + 1) h
  have J97 : ∀ (K4 : Int32 → Int32 → Prop), (∀ (x2 : Int32) (x3 : Int32), K4 x2 x3 → ZZ p l e rmX10_bandOf s m args below meth c D A 8 0 0 QQ 4 (wX10 cI cJ d v g) [(0, .ref (d 0)), (1, .int x1), (2, .int x2), (3, .int x3)] []) → ∀ (K34 : Int32 → Int32 → Int32 → Int32 → Int32 → Prop), (∀ (x2 : Int32) (x3 : Int32) (x4 : Int32) (x5 : Int32) (x6 : Int32), K34 x2 x3 x4 x5 x6 → ZZ p l e rmX10_bandOf s m args below meth c D A 8 0 0 QQ 34 (wX10 cI cJ d v g) [(0, .ref (d 0)), (1, .int x1), (2, .int x2), (3, .int x3), (4, .int x4), (5, .int x5), (6, .int x6)] []) → ∀ (x2 : Int32) (x3 : Int32) (x4 : Int32) (x6 : Int32) (x7 : Int32) (t0 : Int32) (t2 : Int32) (t3 : Int32) (t4 : Int32), pX10_bandOf_J97 v x1 Q K4 K34 x2 x3 x4 x6 x7 t0 t2 t3 t4 → ZZ p l e rmX10_bandOf s m args below meth c D A 8 0 0 QQ 97 (wX10 cI cJ d v g) [(0, .ref (d 0)), (1, .int x1), (2, .int x2), (3, .int x3), (4, .int x4), (6, .int x6), (7, .int x7)] [.int t4, .int t3, .int t2, .ref (d 1), .int t0] := by
    intro K4 hK4 K34 hK34 x2 x3 x4 x6 x7 t0 t2 t3 t4 h
    refine z_imul (pc := 97) C dX10_bandOf_97 ?_
    refine z_iadd (pc := 98) C dX10_bandOf_98 ?_
    refine z_iconst (pc := 99) (v := 2) C dX10_bandOf_99 (by decide) ?_
    refine z_iadd (pc := 100) C dX10_bandOf_100 ?_
    obtain ⟨g13, h⟩ := h
    refine z_iald (pc := 101) C 1 0 rfl rfl g13 (v 1 ((t2 + (t3 * t4)) + (2 : Int32)).toNatClampNeg) rfl dX10_bandOf_101 ?_
    refine z_iadd (pc := 102) C dX10_bandOf_102 ?_
    refine z_istore (pc := 103) (lv' := [(5, .int (t0 + (v 1 ((t2 + (t3 * t4)) + (2 : Int32)).toNatClampNeg))), (0, .ref (d 0)), (1, .int x1), (2, .int x2), (3, .int x3), (4, .int x4), (6, .int x6), (7, .int x7)]) C dX10_bandOf_103 (by decide) rfl ?_
    refine z_sub (lv' := [(0, .ref (d 0)), (1, .int x1), (2, .int x2), (3, .int x3), (4, .int x4), (5, .int (t0 + (v 1 ((t2 + (t3 * t4)) + (2 : Int32)).toNatClampNeg))), (6, .int x6), (7, .int x7)]) [1, 2, 3, 4, 5, 0, 6, 7] rfl ?_
    exact J105 K4 hK4 K34 hK34 x2 x3 x4 (t0 + (v 1 ((t2 + (t3 * t4)) + (2 : Int32)).toNatClampNeg)) x6 x7 h
  have J67 : ∀ (K4 : Int32 → Int32 → Prop), (∀ (x2 : Int32) (x3 : Int32), K4 x2 x3 → ZZ p l e rmX10_bandOf s m args below meth c D A 8 0 0 QQ 4 (wX10 cI cJ d v g) [(0, .ref (d 0)), (1, .int x1), (2, .int x2), (3, .int x3)] []) → ∀ (K34 : Int32 → Int32 → Int32 → Int32 → Int32 → Prop), (∀ (x2 : Int32) (x3 : Int32) (x4 : Int32) (x5 : Int32) (x6 : Int32), K34 x2 x3 x4 x5 x6 → ZZ p l e rmX10_bandOf s m args below meth c D A 8 0 0 QQ 34 (wX10 cI cJ d v g) [(0, .ref (d 0)), (1, .int x1), (2, .int x2), (3, .int x3), (4, .int x4), (5, .int x5), (6, .int x6)] []) → ∀ (x2 : Int32) (x3 : Int32) (x4 : Int32) (x5 : Int32) (x6 : Int32) (t0 : Int32), pX10_bandOf_J67 v x1 Q K4 K34 x2 x3 x4 x5 x6 t0 → ZZ p l e rmX10_bandOf s m args below meth c D A 8 0 0 QQ 67 (wX10 cI cJ d v g) [(0, .ref (d 0)), (1, .int x1), (2, .int x2), (3, .int x3), (4, .int x4), (5, .int x5), (6, .int x6)] [.int t0] := by
    intro K4 hK4 K34 hK34 x2 x3 x4 x5 x6 t0 h
    refine z_istore (pc := 67) (lv' := [(7, .int t0), (0, .ref (d 0)), (1, .int x1), (2, .int x2), (3, .int x3), (4, .int x4), (5, .int x5), (6, .int x6)]) C dX10_bandOf_67 (by decide) rfl ?_
    refine z_iload (pc := 69) C 7 dX10_bandOf_69 rfl ?_
    refine z_if_le (pc := 71) (tgt := 105) C dX10_bandOf_71 (by decide) (fun c10 => ?_) (fun c10 => ?_)
    · have h := h.1 c10
      refine z_sub (lv' := [(0, .ref (d 0)), (1, .int x1), (2, .int x2), (3, .int x3), (4, .int x4), (5, .int x5), (6, .int x6), (7, .int t0)]) [1, 2, 3, 4, 5, 6, 7, 0] rfl ?_
      exact J105 K4 hK4 K34 hK34 x2 x3 x4 x5 x6 t0 h
    · have h := h.2 c10
      refine z_iload (pc := 74) C 6 dX10_bandOf_74 rfl ?_
      refine z_aload_n (pc := 76) C 1 dX10_bandOf_76 rfl ?_
      refine z_get (pc := 77) C uw10 0 rfl rfl 0 (by decide) wq809 rfl dX10_bandOf_77 ?_
      refine z_sipush (pc := 80) (v := 306) C dX10_bandOf_80 (by decide) ?_
      refine z_iconst (pc := 83) (v := 3) C dX10_bandOf_83 (by decide) ?_
      refine z_iload_n (pc := 84) C 2 dX10_bandOf_84 rfl ?_
      refine z_if_ne (pc := 85) (tgt := 95) C dX10_bandOf_85 (by decide) (fun c12 => ?_) (fun c12 => ?_)
      · have h := h.1 c12
        refine z_iload (pc := 95) C 0 dX10_bandOf_95 rfl ?_
        refine z_sub (lv' := [(0, .ref (d 0)), (1, .int x1), (2, .int x2), (3, .int x3), (4, .int x4), (6, .int x6), (7, .int t0)]) [1, 2, 3, 4, 5, 7, 0] rfl ?_
        exact J97 K4 hK4 K34 hK34 x2 x3 x4 x6 t0 x5 (306 : Int32) (3 : Int32) t0 h
      · have h := h.2 c12
        refine z_iload (pc := 88) C 0 dX10_bandOf_88 rfl ?_
        refine z_iconst (pc := 90) (v := 1) C dX10_bandOf_90 (by decide) ?_
        refine z_isub (pc := 91) C dX10_bandOf_91 ?_
        refine z_goto (pc := 92) (tgt := 97) C dX10_bandOf_92 (by decide) ?_
        refine z_sub (lv' := [(0, .ref (d 0)), (1, .int x1), (2, .int x2), (3, .int x3), (4, .int x4), (6, .int x6), (7, .int t0)]) [1, 2, 3, 4, 5, 7, 0] rfl ?_
        exact J97 K4 hK4 K34 hK34 x2 x3 x4 x6 t0 x5 (306 : Int32) (3 : Int32) (t0 - (1 : Int32)) h
  have L34 : ∀ (K4 : Int32 → Int32 → Prop), (∀ (x2 : Int32) (x3 : Int32), K4 x2 x3 → ZZ p l e rmX10_bandOf s m args below meth c D A 8 0 0 QQ 4 (wX10 cI cJ d v g) [(0, .ref (d 0)), (1, .int x1), (2, .int x2), (3, .int x3)] []) → ∀ (n34 : Nat) (x2 : Int32) (x3 : Int32) (x4 : Int32) (x5 : Int32) (x6 : Int32), pX10_bandOf_L34 v x1 Q K4 n34 x2 x3 x4 x5 x6 → ZZ p l e rmX10_bandOf s m args below meth c D A 8 0 0 QQ 34 (wX10 cI cJ d v g) [(0, .ref (d 0)), (1, .int x1), (2, .int x2), (3, .int x3), (4, .int x4), (5, .int x5), (6, .int x6)] [] := by
    intro K4 hK4
    intro n34
    induction n34 with
    | zero => intro x2 x3 x4 x5 x6 h; exact False.elim h
    | succ n34 ih34 =>
      intro x2 x3 x4 x5 x6 h
      refine z_iload (pc := 34) C 6 dX10_bandOf_34 rfl ?_
      refine z_aload_n (pc := 36) C 0 dX10_bandOf_36 rfl ?_
      refine z_get (pc := 37) C uw10 0 rfl rfl 0 (by decide) wq809 rfl dX10_bandOf_37 ?_
      refine z_bipush (pc := 40) (v := 17) C dX10_bandOf_40 (by decide) ?_
      refine z_iald (pc := 42) C 1 0 rfl rfl vi_17_372 (v 1 17) (congrArg _ cl_17) dX10_bandOf_42 ?_
      refine z_icmp_ge (pc := 43) (tgt := 124) C dX10_bandOf_43 (by decide) (fun c6 => ?_) (fun c6 => ?_)
      · have h := h.1 c6
        refine z_iload_n (pc := 124) C 2 dX10_bandOf_124 rfl ?_
        refine z_iload (pc := 125) C 4 dX10_bandOf_125 rfl ?_
        refine z_if_eq (pc := 127) (tgt := 134) C dX10_bandOf_127 (by decide) (fun c7 => ?_) (fun c7 => ?_)
        · have h := h.1 c7
          refine z_iconst (pc := 134) (v := 0) C dX10_bandOf_134 (by decide) ?_
          refine z_sub (lv' := [(0, .ref (d 0)), (1, .int x1), (3, .int x3)]) [0, 1, 3] rfl ?_
          exact J135 K4 hK4 x3 x2 (0 : Int32) h
        · have h := h.2 c7
          refine z_iconst (pc := 130) (v := 1) C dX10_bandOf_130 (by decide) ?_
          refine z_goto (pc := 131) (tgt := 135) C dX10_bandOf_131 (by decide) ?_
          refine z_sub (lv' := [(0, .ref (d 0)), (1, .int x1), (3, .int x3)]) [0, 1, 3] rfl ?_
          exact J135 K4 hK4 x3 x2 (1 : Int32) h
      · have h := h.2 c6
        refine z_iload_n (pc := 46) C 1 dX10_bandOf_46 rfl ?_
        refine z_if_ne (pc := 47) (tgt := 55) C dX10_bandOf_47 (by decide) (fun c8 => ?_) (fun c8 => ?_)
        · have h := h.1 c8
          refine z_aload_n (pc := 55) C 0 dX10_bandOf_55 rfl ?_
          refine z_get (pc := 56) C uw10 0 rfl rfl 0 (by decide) wq809 rfl dX10_bandOf_56 ?_
          refine z_bipush (pc := 59) (v := 17) C dX10_bandOf_59 (by decide) ?_
          refine z_iald (pc := 61) C 1 0 rfl rfl vi_17_372 (v 1 17) (congrArg _ cl_17) dX10_bandOf_61 ?_
          refine z_iconst (pc := 62) (v := 1) C dX10_bandOf_62 (by decide) ?_
          refine z_isub (pc := 63) C dX10_bandOf_63 ?_
          refine z_iload (pc := 64) C 6 dX10_bandOf_64 rfl ?_
          refine z_isub (pc := 66) C dX10_bandOf_66 ?_
          exact J67 K4 hK4 (fun x2 x3 x4 x5 x6 => pX10_bandOf_L34 v x1 Q K4 n34 x2 x3 x4 x5 x6) ih34 x2 x3 x4 x5 x6 (((v 1 17) - (1 : Int32)) - x6) h
        · have h := h.2 c8
          refine z_iload (pc := 50) C 6 dX10_bandOf_50 rfl ?_
          refine z_goto (pc := 52) (tgt := 67) C dX10_bandOf_52 (by decide) ?_
          exact J67 K4 hK4 (fun x2 x3 x4 x5 x6 => pX10_bandOf_L34 v x1 Q K4 n34 x2 x3 x4 x5 x6) ih34 x2 x3 x4 x5 x6 x6 h
  have L4 : ∀ (n4 : Nat) (x2 : Int32) (x3 : Int32), pX10_bandOf_L4 v x1 Q n4 x2 x3 → ZZ p l e rmX10_bandOf s m args below meth c D A 8 0 0 QQ 4 (wX10 cI cJ d v g) [(0, .ref (d 0)), (1, .int x1), (2, .int x2), (3, .int x3)] [] := by
    intro n4
    induction n4 with
    | zero => intro x2 x3 h; exact False.elim h
    | succ n4 ih4 =>
      intro x2 x3 h
      refine z_iload_n (pc := 4) C 3 dX10_bandOf_4 rfl ?_
      refine z_aload_n (pc := 5) C 0 dX10_bandOf_5 rfl ?_
      refine z_get (pc := 6) C uw10 0 rfl rfl 0 (by decide) wq809 rfl dX10_bandOf_6 ?_
      refine z_bipush (pc := 9) (v := 16) C dX10_bandOf_9 (by decide) ?_
      refine z_iald (pc := 11) C 1 0 rfl rfl vi_16_372 (v 1 16) (congrArg _ cl_16) dX10_bandOf_11 ?_
      refine z_icmp_ge (pc := 12) (tgt := 143) C dX10_bandOf_12 (by decide) (fun c2 => ?_) (fun c2 => ?_)
      · have h := h.1 c2
        refine z_iload_n (pc := 143) C 2 dX10_bandOf_143 rfl ?_
        exact hret 144 _ _ x2 () rfl h dX10_bandOf_144
      · have h := h.2 c2
        refine z_aload_n (pc := 15) C 0 dX10_bandOf_15 rfl ?_
        refine z_get (pc := 16) C uw10 0 rfl rfl 0 (by decide) wq809 rfl dX10_bandOf_16 ?_
        refine z_bipush (pc := 19) (v := 17) C dX10_bandOf_19 (by decide) ?_
        refine z_iald (pc := 21) C 1 0 rfl rfl vi_17_372 (v 1 17) (congrArg _ cl_17) dX10_bandOf_21 ?_
        refine z_if_le (pc := 22) (tgt := 143) C dX10_bandOf_22 (by decide) (fun c4 => ?_) (fun c4 => ?_)
        · have h := h.1 c4
          refine z_iload_n (pc := 143) C 2 dX10_bandOf_143 rfl ?_
          exact hret 144 _ _ x2 () rfl h dX10_bandOf_144
        · have h := h.2 c4
          refine z_iconst (pc := 25) (v := 1) C dX10_bandOf_25 (by decide) ?_
          refine z_istore (pc := 26) (lv' := [(4, .int (1 : Int32)), (0, .ref (d 0)), (1, .int x1), (2, .int x2), (3, .int x3)]) C dX10_bandOf_26 (by decide) rfl ?_
          refine z_iload_n (pc := 28) C 4 dX10_bandOf_28 rfl ?_
          refine z_istore (pc := 29) (lv' := [(5, .int x3), (4, .int (1 : Int32)), (0, .ref (d 0)), (1, .int x1), (2, .int x2), (3, .int x3)]) C dX10_bandOf_29 (by decide) rfl ?_
          refine z_iconst (pc := 31) (v := 0) C dX10_bandOf_31 (by decide) ?_
          refine z_istore (pc := 32) (lv' := [(6, .int (0 : Int32)), (5, .int x3), (4, .int (1 : Int32)), (0, .ref (d 0)), (1, .int x1), (2, .int x2), (3, .int x3)]) C dX10_bandOf_32 (by decide) rfl ?_
          obtain ⟨n34, h⟩ := h
          refine z_sub (lv' := [(0, .ref (d 0)), (1, .int x1), (2, .int x2), (3, .int x3), (4, .int (1 : Int32)), (5, .int x3), (6, .int (0 : Int32))]) [3, 4, 5, 6, 2, 1, 0] rfl ?_
          exact L34 (fun x2 x3 => pX10_bandOf_L4 v x1 Q n4 x2 x3) ih4 n34 x2 x3 (1 : Int32) x3 (0 : Int32) h
  refine z_iconst (pc := 0) (v := 0) C dX10_bandOf_0 (by decide) ?_
  refine z_istore_n (pc := 1) (lv' := [(2, .int (0 : Int32)), (0, .ref (d 0)), (1, .int x1)]) C dX10_bandOf_1 (by decide) rfl ?_
  refine z_iconst (pc := 2) (v := 0) C dX10_bandOf_2 (by decide) ?_
  refine z_istore_n (pc := 3) (lv' := [(3, .int (0 : Int32)), (2, .int (0 : Int32)), (0, .ref (d 0)), (1, .int x1)]) C dX10_bandOf_3 (by decide) rfl ?_
  obtain ⟨n4, h⟩ := h
  refine z_sub (lv' := [(0, .ref (d 0)), (1, .int x1), (2, .int (0 : Int32)), (3, .int (0 : Int32))]) [2, 3, 1, 0] rfl ?_
  exact L4  n4 (0 : Int32) (0 : Int32) h

def pX10_bands (v : Lf)  (Q : Int32 → Prop) : Prop := (pX10_bandOf v (0 : Int32) (fun r1 => (pX10_bandOf v (1 : Int32) (fun r2 => (Q (r1 + r2) )))))
abbrev rmX10_bands : Room := { frames := 2, cells := 0, slots := 0, locals := 50 }
abbrev wdX10_bands : List Cond := Cond.code yX10_bands cX10_bands 1 (some .int) :: TB
theorem hdSX10_bands : (yX10_bands).cls ≠ "java/lang/invoke/MethodHandle" ∧ (yX10_bands).cls ≠ "java/lang/invoke/VarHandle" ∧ (parseMethodDescriptor (yX10_bands).desc).map (fun d => d.parameters.length) = some 0 := by decide +kernel
theorem hdX10_bands : (yX10_bands).cls = RX10 ∧ (yX10_bands).cls ≠ "java/lang/invoke/MethodHandle" ∧ (yX10_bands).cls ≠ "java/lang/invoke/VarHandle" ∧ (parseMethodDescriptor (yX10_bands).desc).map (fun d => d.parameters.length) = some 0 := ⟨rfl, hdSX10_bands⟩
set_option maxHeartbeats 4000000 in
set_option maxRecDepth 100000 in
theorem kX10_bands {l : Launch} {D : va_G} {cI cJ cT : ClassId} (d : Nat → Nat)  (v : Lf) (g : Lg)  {Q : Int32 → Prop} (sz : Nat) (h : pX10_bands v Q) : Met l yX10_bands wdX10_bands rmX10_bands (Pz D (tyL cI cJ cT) [.ref (d 0)] (wX10 cI cJ d v g) sz) (va_Qi (fun (r : Int32) (u : Unit) => Q r) (Bz D (tyL cI cJ cT) (wX10 cI cJ d v g) sz (fun (u : Unit) => (wX10 cI cJ d v g))) (va_A (wX10 cI cJ d v g) sz)) 0 0 (va_A (wX10 cI cJ d v g) sz) := by
  refine z_meti (cc := cX10_bands) (maxL := 1) (own := RX10) (lv0 := [(0, .ref (d 0))]) (by decide) rfl rfl (Nat.le_of_ble_eq_true rfl) rfl ?_
  intro p e s m args below meth c A QQ C hin hret
  refine z_aload_n (pc := 0) C 0 dX10_bands_0 rfl ?_
  refine z_iconst (pc := 1) (v := 0) C dX10_bands_1 (by decide) ?_
  refine z_callRi (pc := 2) C (z_runV (pc := 2) (wc := (wX10 cI cJ d v g)) (As := [.int (0 : Int32)]) C (fun sz => kX10_bandOf d v g (0 : Int32) sz h) [0, 1, 2, 3, 4, 5, 6, 7, 8, 9, 10, 11] rfl (by decide) (gdV wq1065 wq1070 wq1071 wq1072 wq814) rfl rfl rfl hdX10_bandOf 0 rfl rfl rfl ⟨Nat.le_of_ble_eq_true rfl, Nat.le_of_ble_eq_true rfl⟩ rfl (Nat.le_of_ble_eq_true rfl) ⟨Nat.zero_le _, Nat.zero_le _⟩ dX10_bands_2) [0, 1, 2, 3, 4, 5, 6, 7, 8, 9, 10, 11] rfl (by decide) (fun r1 u1 h => ?_)
  refine z_aload_n (pc := 5) C 0 dX10_bands_5 rfl ?_
  refine z_iconst (pc := 6) (v := 1) C dX10_bands_6 (by decide) ?_
  refine z_callRi (pc := 7) C (z_runV (pc := 7) (wc := (wX10 cI cJ d v g)) (As := [.int (1 : Int32)]) C (fun sz => kX10_bandOf d v g (1 : Int32) sz h) [0, 1, 2, 3, 4, 5, 6, 7, 8, 9, 10, 11] rfl (by decide) (gdV wq1065 wq1070 wq1071 wq1072 wq814) rfl rfl rfl hdX10_bandOf 0 rfl rfl rfl ⟨Nat.le_of_ble_eq_true rfl, Nat.le_of_ble_eq_true rfl⟩ rfl (Nat.le_of_ble_eq_true rfl) ⟨Nat.zero_le _, Nat.zero_le _⟩ dX10_bands_7) [0, 1, 2, 3, 4, 5, 6, 7, 8, 9, 10, 11] rfl (by decide) (fun r2 u2 h => ?_)
  refine z_iadd (pc := 10) C dX10_bands_10 ?_
  exact hret 11 _ _ (r1 + r2) () rfl h dX10_bands_11

def pX10_band (v : Lf) (x1 : Int32) (Q : Int32 → Prop) : Prop := (pX10_isIn x1 (0 : Int32) (2 : Int32) (fun r1 => ((¬ r1 = 0 → ((¬ x1 = (2 : Int32) → (pX10_bandOf v x1 (fun r4 => (Q r4 )))) ∧ (x1 = (2 : Int32) → (pX10_bands v (fun r5 => (Q r5 )))))) ∧ (r1 = 0 → (Q (-1 : Int32) )))))
abbrev rmX10_band : Room := { frames := 3, cells := 0, slots := 0, locals := 70 }
abbrev wdX10_band : List Cond := Cond.code yX10_band cX10_band 2 (some .int) :: TB
theorem hdSX10_band : (yX10_band).cls ≠ "java/lang/invoke/MethodHandle" ∧ (yX10_band).cls ≠ "java/lang/invoke/VarHandle" ∧ (parseMethodDescriptor (yX10_band).desc).map (fun d => d.parameters.length) = some 1 := by decide +kernel
theorem hdX10_band : (yX10_band).cls = RX10 ∧ (yX10_band).cls ≠ "java/lang/invoke/MethodHandle" ∧ (yX10_band).cls ≠ "java/lang/invoke/VarHandle" ∧ (parseMethodDescriptor (yX10_band).desc).map (fun d => d.parameters.length) = some 1 := ⟨rfl, hdSX10_band⟩
set_option maxHeartbeats 4000000 in
set_option maxRecDepth 100000 in
theorem kX10_band {l : Launch} {D : va_G} {cI cJ cT : ClassId} (d : Nat → Nat)  (v : Lf) (g : Lg) (x1 : Int32) {Q : Int32 → Prop} (sz : Nat) (h : pX10_band v x1 Q) : Met l yX10_band wdX10_band rmX10_band (Pz D (tyL cI cJ cT) [.ref (d 0), .int x1] (wX10 cI cJ d v g) sz) (va_Qi (fun (r : Int32) (u : Unit) => Q r) (Bz D (tyL cI cJ cT) (wX10 cI cJ d v g) sz (fun (u : Unit) => (wX10 cI cJ d v g))) (va_A (wX10 cI cJ d v g) sz)) 0 0 (va_A (wX10 cI cJ d v g) sz) := by
  refine z_meti (cc := cX10_band) (maxL := 2) (own := RX10) (lv0 := [(0, .ref (d 0)), (1, .int x1)]) (by decide) rfl rfl (Nat.le_of_ble_eq_true rfl) rfl ?_
  intro p e s m args below meth c A QQ C hin hret
  refine z_iload_n (pc := 0) C 1 dX10_band_0 rfl ?_
  refine z_iconst (pc := 1) (v := 0) C dX10_band_1 (by decide) ?_
  refine z_iconst (pc := 2) (v := 2) C dX10_band_2 (by decide) ?_
  refine z_call0i (pc := 3) C (z_runS (pc := 3) (wc := ([] : va_W)) (As := [.int x1, .int (0 : Int32), .int (2 : Int32)]) C (fun sz => kX10_isIn x1 (0 : Int32) (2 : Int32) sz h) [] rfl (by decide) (gdS wq849 wq852 wq853 wq814) rfl rfl rfl hdSX10_isIn ⟨Nat.le_of_ble_eq_true rfl, Nat.le_of_ble_eq_true rfl⟩ rfl (Nat.le_of_ble_eq_true rfl) ⟨Nat.zero_le _, Nat.zero_le _⟩ dX10_band_3) (fun r1 u1 h => ?_)
  refine z_if_ne (pc := 6) (tgt := 13) C dX10_band_6 (by decide) (fun c2 => ?_) (fun c2 => ?_)
  · have h := h.1 c2
    refine z_iload_n (pc := 13) C 1 dX10_band_13 rfl ?_
    refine z_iconst (pc := 14) (v := 2) C dX10_band_14 (by decide) ?_
    refine z_icmp_ne (pc := 15) (tgt := 25) C dX10_band_15 (by decide) (fun c3 => ?_) (fun c3 => ?_)
    · have h := h.1 c3
      refine z_aload_n (pc := 25) C 0 dX10_band_25 rfl ?_
      refine z_iload_n (pc := 26) C 1 dX10_band_26 rfl ?_
      refine z_callRi (pc := 27) C (z_runV (pc := 27) (wc := (wX10 cI cJ d v g)) (As := [.int x1]) C (fun sz => kX10_bandOf d v g x1 sz h) [0, 1, 2, 3, 4, 5, 6, 7, 8, 9, 10, 11] rfl (by decide) (gdV wq1065 wq1070 wq1071 wq1072 wq814) rfl rfl rfl hdX10_bandOf 0 rfl rfl rfl ⟨Nat.le_of_ble_eq_true rfl, Nat.le_of_ble_eq_true rfl⟩ rfl (Nat.le_of_ble_eq_true rfl) ⟨Nat.zero_le _, Nat.zero_le _⟩ dX10_band_27) [0, 1, 2, 3, 4, 5, 6, 7, 8, 9, 10, 11] rfl (by decide) (fun r4 u4 h => ?_)
      exact hret 30 _ _ r4 () rfl h dX10_band_30
    · have h := h.2 c3
      refine z_aload_n (pc := 18) C 0 dX10_band_18 rfl ?_
      refine z_callRi (pc := 19) C (z_runV (pc := 19) (wc := (wX10 cI cJ d v g)) (As := []) C (fun sz => kX10_bands d v g sz h) [0, 1, 2, 3, 4, 5, 6, 7, 8, 9, 10, 11] rfl (by decide) (gdV wq1069 wq1074 wq1075 wq1076 wq814) rfl rfl rfl hdX10_bands 0 rfl rfl rfl ⟨Nat.le_of_ble_eq_true rfl, Nat.le_of_ble_eq_true rfl⟩ rfl (Nat.le_of_ble_eq_true rfl) ⟨Nat.zero_le _, Nat.zero_le _⟩ dX10_band_19) [0, 1, 2, 3, 4, 5, 6, 7, 8, 9, 10, 11] rfl (by decide) (fun r5 u5 h => ?_)
      refine z_goto (pc := 22) (tgt := 30) C dX10_band_22 (by decide) ?_
      exact hret 30 _ _ r5 () rfl h dX10_band_30
  · have h := h.2 c2
    refine z_iconst (pc := 9) (v := -1) C dX10_band_9 (by decide) ?_
    refine z_goto (pc := 10) (tgt := 30) C dX10_band_10 (by decide) ?_
    exact hret 30 _ _ (-1 : Int32) () rfl h dX10_band_30

def pX10_bestOffset_J76 (x1 : Int32) (Q : Int32 → Lf → Prop) (K23 : Lf → Int32 → Int32 → Int32 → Prop) (v : Lf) (x2 : Int32) (x3 : Int32) (x4 : Int32) : Prop := (K23 v x2 x3 (x4 + 1))
def pX10_bestOffset_L23 (x1 : Int32) (Q : Int32 → Lf → Prop) : Nat → Lf → Int32 → Int32 → Int32 → Prop
  | 0, _, _, _, _ => False
  | n23 + 1, v, x2, x3, x4 => (((v 1 16) ≤ x4 → (vp_in ((306 : Int32) + ((3 : Int32) * x1)) 372 ∧ (Q x3 (st v 1 (((306 : Int32) + ((3 : Int32) * x1)).toNatClampNeg) x2)))) ∧ (¬ (v 1 16) ≤ x4 → (vp_in ((306 : Int32) + ((3 : Int32) * x1)) 372 ∧ (pX10_bands (st v 1 (((306 : Int32) + ((3 : Int32) * x1)).toNatClampNeg) x4) (fun r6 => ((((st v 1 (((306 : Int32) + ((3 : Int32) * x1)).toNatClampNeg) x4) 0 16) < r6 → (pX10_bestOffset_J76 x1 Q (fun v x2 x3 x4 => pX10_bestOffset_L23 x1 Q n23 v x2 x3 x4) (st (st v 1 (((306 : Int32) + ((3 : Int32) * x1)).toNatClampNeg) x4) 0 16 r6) x2 x4 x4)) ∧ (¬ ((st v 1 (((306 : Int32) + ((3 : Int32) * x1)).toNatClampNeg) x4) 0 16) < r6 → (pX10_bestOffset_J76 x1 Q (fun v x2 x3 x4 => pX10_bestOffset_L23 x1 Q n23 v x2 x3 x4) (st v 1 (((306 : Int32) + ((3 : Int32) * x1)).toNatClampNeg) x4) x2 x3 x4))))))))
def pX10_bestOffset (v : Lf) (x1 : Int32) (Q : Int32 → Lf → Prop) : Prop := (vp_in ((306 : Int32) + ((3 : Int32) * x1)) 372 ∧ (∃ n23, pX10_bestOffset_L23 x1 Q  n23 (st v 0 16 (-1 : Int32)) (v 1 ((306 : Int32) + ((3 : Int32) * x1)).toNatClampNeg) (0 : Int32) (0 : Int32)))
abbrev rmX10_bestOffset : Room := { frames := 3, cells := 0, slots := 0, locals := 70 }
abbrev wdX10_bestOffset : List Cond := Cond.code yX10_bestOffset cX10_bestOffset 6 (some .int) :: TB
theorem hdSX10_bestOffset : (yX10_bestOffset).cls ≠ "java/lang/invoke/MethodHandle" ∧ (yX10_bestOffset).cls ≠ "java/lang/invoke/VarHandle" ∧ (parseMethodDescriptor (yX10_bestOffset).desc).map (fun d => d.parameters.length) = some 1 := by decide +kernel
theorem hdX10_bestOffset : (yX10_bestOffset).cls = RX10 ∧ (yX10_bestOffset).cls ≠ "java/lang/invoke/MethodHandle" ∧ (yX10_bestOffset).cls ≠ "java/lang/invoke/VarHandle" ∧ (parseMethodDescriptor (yX10_bestOffset).desc).map (fun d => d.parameters.length) = some 1 := ⟨rfl, hdSX10_bestOffset⟩
set_option maxHeartbeats 4000000 in
set_option maxRecDepth 100000 in
theorem kX10_bestOffset {l : Launch} {D : va_G} {cI cJ cT : ClassId} (d : Nat → Nat)  (v : Lf) (g : Lg) (x1 : Int32) {Q : Int32 → Lf → Prop} (sz : Nat) (h : pX10_bestOffset v x1 Q) : Met l yX10_bestOffset wdX10_bestOffset rmX10_bestOffset (Pz D (tyL cI cJ cT) [.ref (d 0), .int x1] (wX10 cI cJ d v g) sz) (va_Qi (fun (r : Int32) (u : Lf) => Q r u) (Bz D (tyL cI cJ cT) (wX10 cI cJ d v g) sz (fun (u : Lf) => (wX10 cI cJ d u g))) (va_A (wX10 cI cJ d v g) sz)) 0 0 (va_A (wX10 cI cJ d v g) sz) := by
  refine z_meti (cc := cX10_bestOffset) (maxL := 6) (own := RX10) (lv0 := [(0, .ref (d 0)), (1, .int x1)]) (by decide) rfl rfl (Nat.le_of_ble_eq_true rfl) rfl ?_
  intro p e s m args below meth c A QQ C hin hret
  have J76 : ∀ (K23 : Lf → Int32 → Int32 → Int32 → Prop), (∀ (v : Lf) (x2 : Int32) (x3 : Int32) (x4 : Int32), K23 v x2 x3 x4 → ZZ p l e rmX10_bestOffset s m args below meth c D A 6 0 0 QQ 23 (wX10 cI cJ d v g) [(0, .ref (d 0)), (1, .int x1), (2, .int x2), (3, .int x3), (4, .int x4)] []) → ∀ (v : Lf) (x2 : Int32) (x3 : Int32) (x4 : Int32), pX10_bestOffset_J76 x1 Q K23 v x2 x3 x4 → ZZ p l e rmX10_bestOffset s m args below meth c D A 6 0 0 QQ 76 (wX10 cI cJ d v g) [(0, .ref (d 0)), (1, .int x1), (2, .int x2), (3, .int x3), (4, .int x4)] [] := by
    intro K23 hK23 v x2 x3 x4 h
    refine z_iinc (pc := 76) (v := (x4 + 1)) (lv' := [(4, .int (x4 + 1)), (0, .ref (d 0)), (1, .int x1), (2, .int x2), (3, .int x3)]) C 4 dX10_bestOffset_76 rfl rfl (by decide) rfl ?_
    refine z_goto (pc := 79) (tgt := 23) C dX10_bestOffset_79 (by decide) ?_
    refine z_sub (lv' := [(0, .ref (d 0)), (1, .int x1), (2, .int x2), (3, .int x3), (4, .int (x4 + 1))]) [1, 2, 3, 4, 0] rfl ?_
    exact hK23 v x2 x3 (x4 + 1) h
  have L23 : ∀ (n23 : Nat) (v : Lf) (x2 : Int32) (x3 : Int32) (x4 : Int32), pX10_bestOffset_L23 x1 Q n23 v x2 x3 x4 → ZZ p l e rmX10_bestOffset s m args below meth c D A 6 0 0 QQ 23 (wX10 cI cJ d v g) [(0, .ref (d 0)), (1, .int x1), (2, .int x2), (3, .int x3), (4, .int x4)] [] := by
    intro n23
    induction n23 with
    | zero => intro v x2 x3 x4 h; exact False.elim h
    | succ n23 ih23 =>
      intro v x2 x3 x4 h
      refine z_iload (pc := 23) C 4 dX10_bestOffset_23 rfl ?_
      refine z_aload_n (pc := 25) C 0 dX10_bestOffset_25 rfl ?_
      refine z_get (pc := 26) C uw10 0 rfl rfl 0 (by decide) wq809 rfl dX10_bestOffset_26 ?_
      refine z_bipush (pc := 29) (v := 16) C dX10_bestOffset_29 (by decide) ?_
      refine z_iald (pc := 31) C 1 0 rfl rfl vi_16_372 (v 1 16) (congrArg _ cl_16) dX10_bestOffset_31 ?_
      refine z_icmp_ge (pc := 32) (tgt := 82) C dX10_bestOffset_32 (by decide) (fun c3 => ?_) (fun c3 => ?_)
      · have h := h.1 c3
        refine z_aload_n (pc := 82) C 0 dX10_bestOffset_82 rfl ?_
        refine z_get (pc := 83) C uw10 0 rfl rfl 0 (by decide) wq809 rfl dX10_bestOffset_83 ?_
        refine z_sipush (pc := 86) (v := 306) C dX10_bestOffset_86 (by decide) ?_
        refine z_iconst (pc := 89) (v := 3) C dX10_bestOffset_89 (by decide) ?_
        refine z_iload_n (pc := 90) C 1 dX10_bestOffset_90 rfl ?_
        refine z_imul (pc := 91) C dX10_bestOffset_91 ?_
        refine z_iadd (pc := 92) C dX10_bestOffset_92 ?_
        refine z_iload_n (pc := 93) C 2 dX10_bestOffset_93 rfl ?_
        obtain ⟨g4, h⟩ := h
        refine z_iast (pc := 94) (ws' := (wX10 cI cJ d (st v 1 (((306 : Int32) + ((3 : Int32) * x1)).toNatClampNeg) x2) g)) C 1 0 rfl rfl g4 dX10_bestOffset_94 rfl sX10_a1 ?_
        refine z_iload_n (pc := 95) C 3 dX10_bestOffset_95 rfl ?_
        exact hret 96 _ _ x3 (st v 1 (((306 : Int32) + ((3 : Int32) * x1)).toNatClampNeg) x2) rfl h dX10_bestOffset_96
      · have h := h.2 c3
        refine z_aload_n (pc := 35) C 0 dX10_bestOffset_35 rfl ?_
        refine z_get (pc := 36) C uw10 0 rfl rfl 0 (by decide) wq809 rfl dX10_bestOffset_36 ?_
        refine z_sipush (pc := 39) (v := 306) C dX10_bestOffset_39 (by decide) ?_
        refine z_iconst (pc := 42) (v := 3) C dX10_bestOffset_42 (by decide) ?_
        refine z_iload_n (pc := 43) C 1 dX10_bestOffset_43 rfl ?_
        refine z_imul (pc := 44) C dX10_bestOffset_44 ?_
        refine z_iadd (pc := 45) C dX10_bestOffset_45 ?_
        refine z_iload (pc := 46) C 4 dX10_bestOffset_46 rfl ?_
        obtain ⟨g5, h⟩ := h
        refine z_iast (pc := 48) (ws' := (wX10 cI cJ d (st v 1 (((306 : Int32) + ((3 : Int32) * x1)).toNatClampNeg) x4) g)) C 1 0 rfl rfl g5 dX10_bestOffset_48 rfl sX10_a1 ?_
        refine z_aload_n (pc := 49) C 0 dX10_bestOffset_49 rfl ?_
        refine z_callRi (pc := 50) C (z_runV (pc := 50) (wc := (wX10 cI cJ d (st v 1 (((306 : Int32) + ((3 : Int32) * x1)).toNatClampNeg) x4) g)) (As := []) C (fun sz => kX10_bands d (st v 1 (((306 : Int32) + ((3 : Int32) * x1)).toNatClampNeg) x4) g sz h) [0, 1, 2, 3, 4, 5, 6, 7, 8, 9, 10, 11] rfl (by decide) (gdV wq1069 wq1074 wq1075 wq1076 wq814) rfl rfl rfl hdX10_bands 0 rfl rfl rfl ⟨Nat.le_of_ble_eq_true rfl, Nat.le_of_ble_eq_true rfl⟩ rfl (Nat.le_of_ble_eq_true rfl) ⟨Nat.zero_le _, Nat.zero_le _⟩ dX10_bestOffset_50) [0, 1, 2, 3, 4, 5, 6, 7, 8, 9, 10, 11] rfl (by decide) (fun r6 u6 h => ?_)
        refine z_istore (pc := 53) (lv' := [(5, .int r6), (0, .ref (d 0)), (1, .int x1), (2, .int x2), (3, .int x3), (4, .int x4)]) C dX10_bestOffset_53 (by decide) rfl ?_
        refine z_iload (pc := 55) C 0 dX10_bestOffset_55 rfl ?_
        refine z_aload_n (pc := 57) C 1 dX10_bestOffset_57 rfl ?_
        refine z_get (pc := 58) C uw10 0 rfl rfl 16 (by decide) wq1078 rfl dX10_bestOffset_58 ?_
        refine z_icmp_gt (pc := 61) (tgt := 67) C dX10_bestOffset_61 (by decide) (fun c7 => ?_) (fun c7 => ?_)
        · have h := h.1 c7
          refine z_aload_n (pc := 67) C 1 dX10_bestOffset_67 rfl ?_
          refine z_iload (pc := 68) C 0 dX10_bestOffset_68 rfl ?_
          refine z_put (pc := 70) (ws' := (wX10 cI cJ d (st (st v 1 (((306 : Int32) + ((3 : Int32) * x1)).toNatClampNeg) x4) 0 16 r6) g)) C uw10 tyX10 tyX10_ok nmX10 0 rfl rfl 16 (by decide) wq1078 rfl rfl rfl (Nat.le_of_ble_eq_true rfl) dX10_bestOffset_70 sX10_f16 ?_
          refine z_iload (pc := 73) C 5 dX10_bestOffset_73 rfl ?_
          refine z_istore_n (pc := 75) (lv' := [(3, .int x4), (5, .int r6), (0, .ref (d 0)), (1, .int x1), (2, .int x2), (4, .int x4)]) C dX10_bestOffset_75 (by decide) rfl ?_
          refine z_sub (lv' := [(0, .ref (d 0)), (1, .int x1), (2, .int x2), (3, .int x4), (4, .int x4)]) [2, 3, 4, 0, 5] rfl ?_
          exact J76 (fun v x2 x3 x4 => pX10_bestOffset_L23 x1 Q n23 v x2 x3 x4) ih23 (st (st v 1 (((306 : Int32) + ((3 : Int32) * x1)).toNatClampNeg) x4) 0 16 r6) x2 x4 x4 h
        · have h := h.2 c7
          refine z_goto (pc := 64) (tgt := 76) C dX10_bestOffset_64 (by decide) ?_
          refine z_sub (lv' := [(0, .ref (d 0)), (1, .int x1), (2, .int x2), (3, .int x3), (4, .int x4)]) [1, 2, 3, 4, 5] rfl ?_
          exact J76 (fun v x2 x3 x4 => pX10_bestOffset_L23 x1 Q n23 v x2 x3 x4) ih23 (st v 1 (((306 : Int32) + ((3 : Int32) * x1)).toNatClampNeg) x4) x2 x3 x4 h
  refine z_aload_n (pc := 0) C 0 dX10_bestOffset_0 rfl ?_
  refine z_get (pc := 1) C uw10 0 rfl rfl 0 (by decide) wq809 rfl dX10_bestOffset_1 ?_
  refine z_sipush (pc := 4) (v := 306) C dX10_bestOffset_4 (by decide) ?_
  refine z_iconst (pc := 7) (v := 3) C dX10_bestOffset_7 (by decide) ?_
  refine z_iload_n (pc := 8) C 1 dX10_bestOffset_8 rfl ?_
  refine z_imul (pc := 9) C dX10_bestOffset_9 ?_
  refine z_iadd (pc := 10) C dX10_bestOffset_10 ?_
  obtain ⟨g1, h⟩ := h
  refine z_iald (pc := 11) C 1 0 rfl rfl g1 (v 1 ((306 : Int32) + ((3 : Int32) * x1)).toNatClampNeg) rfl dX10_bestOffset_11 ?_
  refine z_istore_n (pc := 12) (lv' := [(2, .int (v 1 ((306 : Int32) + ((3 : Int32) * x1)).toNatClampNeg)), (0, .ref (d 0)), (1, .int x1)]) C dX10_bestOffset_12 (by decide) rfl ?_
  refine z_iconst (pc := 13) (v := 0) C dX10_bestOffset_13 (by decide) ?_
  refine z_istore_n (pc := 14) (lv' := [(3, .int (0 : Int32)), (2, .int (v 1 ((306 : Int32) + ((3 : Int32) * x1)).toNatClampNeg)), (0, .ref (d 0)), (1, .int x1)]) C dX10_bestOffset_14 (by decide) rfl ?_
  refine z_aload_n (pc := 15) C 2 dX10_bestOffset_15 rfl ?_
  refine z_iconst (pc := 16) (v := -1) C dX10_bestOffset_16 (by decide) ?_
  refine z_put (pc := 17) (ws' := (wX10 cI cJ d (st v 0 16 (-1 : Int32)) g)) C uw10 tyX10 tyX10_ok nmX10 0 rfl rfl 16 (by decide) wq1078 rfl rfl rfl (Nat.le_of_ble_eq_true rfl) dX10_bestOffset_17 sX10_f16 ?_
  refine z_iconst (pc := 20) (v := 0) C dX10_bestOffset_20 (by decide) ?_
  refine z_istore (pc := 21) (lv' := [(4, .int (0 : Int32)), (3, .int (0 : Int32)), (2, .int (v 1 ((306 : Int32) + ((3 : Int32) * x1)).toNatClampNeg)), (0, .ref (d 0)), (1, .int x1)]) C dX10_bestOffset_21 (by decide) rfl ?_
  obtain ⟨n23, h⟩ := h
  refine z_sub (lv' := [(0, .ref (d 0)), (1, .int x1), (2, .int (v 1 ((306 : Int32) + ((3 : Int32) * x1)).toNatClampNeg)), (3, .int (0 : Int32)), (4, .int (0 : Int32))]) [3, 4, 2, 1, 0] rfl ?_
  exact L23  n23 (st v 0 16 (-1 : Int32)) (v 1 ((306 : Int32) + ((3 : Int32) * x1)).toNatClampNeg) (0 : Int32) (0 : Int32) h

def pX10_nodeBest (v : Lf) (x1 : Int32) (x2 : Int32) (Q : Int32 → Lf → Prop) : Prop := (pX10_isNode v x1 (fun r1 => ((r1 = 0 → (Q (-1 : Int32) v)) ∧ (¬ r1 = 0 → (pX10_isIn x2 (0 : Int32) (1 : Int32) (fun r3 => ((¬ r3 = 0 → (pX10_counts v (10 : Int32) (fun r5 v_5 => ((¬ r5 = 0 → (pX10_bestOffset v_5 x1 (fun r7 v_7 => ((¬ x2 = 0 → (Q (v_7 0 16) v_7)) ∧ (x2 = 0 → (Q r7 v_7)))))) ∧ (r5 = 0 → (Q (-4 : Int32) v_5)))))) ∧ (r3 = 0 → (Q (-1 : Int32) v)))))))))
abbrev rmX10_nodeBest : Room := { frames := 4, cells := 0, slots := 0, locals := 95 }
abbrev wdX10_nodeBest : List Cond := Cond.code yX10_nodeBest cX10_nodeBest 4 (some .int) :: TB
theorem hdSX10_nodeBest : (yX10_nodeBest).cls ≠ "java/lang/invoke/MethodHandle" ∧ (yX10_nodeBest).cls ≠ "java/lang/invoke/VarHandle" ∧ (parseMethodDescriptor (yX10_nodeBest).desc).map (fun d => d.parameters.length) = some 2 := by decide +kernel
theorem hdX10_nodeBest : (yX10_nodeBest).cls = RX10 ∧ (yX10_nodeBest).cls ≠ "java/lang/invoke/MethodHandle" ∧ (yX10_nodeBest).cls ≠ "java/lang/invoke/VarHandle" ∧ (parseMethodDescriptor (yX10_nodeBest).desc).map (fun d => d.parameters.length) = some 2 := ⟨rfl, hdSX10_nodeBest⟩
set_option maxHeartbeats 4000000 in
set_option maxRecDepth 100000 in
theorem kX10_nodeBest {l : Launch} {D : va_G} {cI cJ cT : ClassId} (d : Nat → Nat)  (v : Lf) (g : Lg) (x1 : Int32) (x2 : Int32) {Q : Int32 → Lf → Prop} (sz : Nat) (h : pX10_nodeBest v x1 x2 Q) : Met l yX10_nodeBest wdX10_nodeBest rmX10_nodeBest (Pz D (tyL cI cJ cT) [.ref (d 0), .int x1, .int x2] (wX10 cI cJ d v g) sz) (va_Qi (fun (r : Int32) (u : Lf) => Q r u) (Bz D (tyL cI cJ cT) (wX10 cI cJ d v g) sz (fun (u : Lf) => (wX10 cI cJ d u g))) (va_A (wX10 cI cJ d v g) sz)) 0 0 (va_A (wX10 cI cJ d v g) sz) := by
  refine z_meti (cc := cX10_nodeBest) (maxL := 4) (own := RX10) (lv0 := [(0, .ref (d 0)), (1, .int x1), (2, .int x2)]) (by decide) rfl rfl (Nat.le_of_ble_eq_true rfl) rfl ?_
  intro p e s m args below meth c A QQ C hin hret
  refine z_aload_n (pc := 0) C 0 dX10_nodeBest_0 rfl ?_
  refine z_iload_n (pc := 1) C 1 dX10_nodeBest_1 rfl ?_
  refine z_callRi (pc := 2) C (z_runV (pc := 2) (wc := (wX10 cI cJ d v g)) (As := [.int x1]) C (fun sz => kX10_isNode d v g x1 sz h) [0, 1, 2, 3, 4, 5, 6, 7, 8, 9, 10, 11] rfl (by decide) (gdV wq1059 wq1061 wq1062 wq1063 wq814) rfl rfl rfl hdX10_isNode 0 rfl rfl rfl ⟨Nat.le_of_ble_eq_true rfl, Nat.le_of_ble_eq_true rfl⟩ rfl (Nat.le_of_ble_eq_true rfl) ⟨Nat.zero_le _, Nat.zero_le _⟩ dX10_nodeBest_2) [0, 1, 2, 3, 4, 5, 6, 7, 8, 9, 10, 11] rfl (by decide) (fun r1 u1 h => ?_)
  refine z_if_eq (pc := 5) (tgt := 17) C dX10_nodeBest_5 (by decide) (fun c2 => ?_) (fun c2 => ?_)
  · have h := h.1 c2
    refine z_iconst (pc := 17) (v := -1) C dX10_nodeBest_17 (by decide) ?_
    exact hret 18 _ _ (-1 : Int32) v rfl h dX10_nodeBest_18
  · have h := h.2 c2
    refine z_iload_n (pc := 8) C 2 dX10_nodeBest_8 rfl ?_
    refine z_iconst (pc := 9) (v := 0) C dX10_nodeBest_9 (by decide) ?_
    refine z_iconst (pc := 10) (v := 1) C dX10_nodeBest_10 (by decide) ?_
    refine z_call0i (pc := 11) C (z_runS (pc := 11) (wc := ([] : va_W)) (As := [.int x2, .int (0 : Int32), .int (1 : Int32)]) C (fun sz => kX10_isIn x2 (0 : Int32) (1 : Int32) sz h) [] rfl (by decide) (gdS wq849 wq852 wq853 wq814) rfl rfl rfl hdSX10_isIn ⟨Nat.le_of_ble_eq_true rfl, Nat.le_of_ble_eq_true rfl⟩ rfl (Nat.le_of_ble_eq_true rfl) ⟨Nat.zero_le _, Nat.zero_le _⟩ dX10_nodeBest_11) (fun r3 u3 h => ?_)
    refine z_if_ne (pc := 14) (tgt := 19) C dX10_nodeBest_14 (by decide) (fun c4 => ?_) (fun c4 => ?_)
    · have h := h.1 c4
      refine z_aload_n (pc := 19) C 0 dX10_nodeBest_19 rfl ?_
      refine z_bipush (pc := 20) (v := 10) C dX10_nodeBest_20 (by decide) ?_
      refine z_calli (pc := 22) (wr := ([] : va_W)) (w1 := fun (u : Lf) => (wX10 cI cJ d u g)) (w2 := fun (u : Lf) => (wX10 cI cJ d u g)) C (z_runV (pc := 22) (wc := (wX10 cI cJ d v g)) (As := [.int (10 : Int32)]) C (fun sz => kX10_counts d v g (10 : Int32) sz h) [0, 1, 2, 3, 4, 5, 6, 7, 8, 9, 10, 11] rfl (by decide) (gdV wq998 wq1005 wq1006 wq1007 wq814) rfl rfl rfl hdX10_counts 0 rfl rfl rfl ⟨Nat.le_of_ble_eq_true rfl, Nat.le_of_ble_eq_true rfl⟩ rfl (Nat.le_of_ble_eq_true rfl) ⟨Nat.zero_le _, Nat.zero_le _⟩ dX10_nodeBest_22) [0, 1, 2, 3, 4, 5, 6, 7, 8, 9, 10, 11] [] [0, 1, 2, 3, 4, 5, 6, 7, 8, 9, 10, 11] rfl rfl (by decide) (by decide) (fun _ => rfl) (by decide) (fun r5 u5 h => ?_)
      obtain ⟨v_5, hu5⟩ : ∃ z, z = u5 := ⟨_, rfl⟩
      subst hu5
      refine z_if_ne (pc := 25) (tgt := 31) C dX10_nodeBest_25 (by decide) (fun c6 => ?_) (fun c6 => ?_)
      · have h := h.1 c6
        refine z_aload_n (pc := 31) C 0 dX10_nodeBest_31 rfl ?_
        refine z_iload_n (pc := 32) C 1 dX10_nodeBest_32 rfl ?_
        refine z_calli (pc := 33) (wr := ([] : va_W)) (w1 := fun (u : Lf) => (wX10 cI cJ d u g)) (w2 := fun (u : Lf) => (wX10 cI cJ d u g)) C (z_runV (pc := 33) (wc := (wX10 cI cJ d v_5 g)) (As := [.int x1]) C (fun sz => kX10_bestOffset d v_5 g x1 sz h) [0, 1, 2, 3, 4, 5, 6, 7, 8, 9, 10, 11] rfl (by decide) (gdV wq1077 wq1079 wq1080 wq1081 wq814) rfl rfl rfl hdX10_bestOffset 0 rfl rfl rfl ⟨Nat.le_of_ble_eq_true rfl, Nat.le_of_ble_eq_true rfl⟩ rfl (Nat.le_of_ble_eq_true rfl) ⟨Nat.zero_le _, Nat.zero_le _⟩ dX10_nodeBest_33) [0, 1, 2, 3, 4, 5, 6, 7, 8, 9, 10, 11] [] [0, 1, 2, 3, 4, 5, 6, 7, 8, 9, 10, 11] rfl rfl (by decide) (by decide) (fun _ => rfl) (by decide) (fun r7 u7 h => ?_)
        obtain ⟨v_7, hu7⟩ : ∃ z, z = u7 := ⟨_, rfl⟩
        subst hu7
        refine z_istore_n (pc := 36) (lv' := [(3, .int r7), (0, .ref (d 0)), (1, .int x1), (2, .int x2)]) C dX10_nodeBest_36 (by decide) rfl ?_
        refine z_iload_n (pc := 37) C 3 dX10_nodeBest_37 rfl ?_
        refine z_if_ne (pc := 38) (tgt := 45) C dX10_nodeBest_38 (by decide) (fun c8 => ?_) (fun c8 => ?_)
        · have h := h.1 c8
          refine z_aload_n (pc := 45) C 1 dX10_nodeBest_45 rfl ?_
          refine z_get (pc := 46) C uw10 0 rfl rfl 16 (by decide) wq1078 rfl dX10_nodeBest_46 ?_
          exact hret 49 _ _ (v_7 0 16) v_7 rfl h dX10_nodeBest_49
        · have h := h.2 c8
          refine z_iload_n (pc := 41) C 0 dX10_nodeBest_41 rfl ?_
          refine z_goto (pc := 42) (tgt := 49) C dX10_nodeBest_42 (by decide) ?_
          exact hret 49 _ _ r7 v_7 rfl h dX10_nodeBest_49
      · have h := h.2 c6
        refine z_bipush (pc := 28) (v := -4) C dX10_nodeBest_28 (by decide) ?_
        exact hret 30 _ _ (-4 : Int32) v_5 rfl h dX10_nodeBest_30
    · have h := h.2 c4
      refine z_iconst (pc := 17) (v := -1) C dX10_nodeBest_17 (by decide) ?_
      exact hret 18 _ _ (-1 : Int32) v rfl h dX10_nodeBest_18

def pX10_tune_J63 (Q : Int32 → Lf → Prop) (K15 : Lf → Int32 → Prop) (K22 : Lf → Int32 → Int32 → Prop) (v : Lf) (x1 : Int32) (x2 : Int32) : Prop := (K22 v x1 (x2 + 1))
def pX10_tune_L22 (Q : Int32 → Lf → Prop) (K15 : Lf → Int32 → Prop) : Nat → Lf → Int32 → Int32 → Prop
  | 0, _, _, _ => False
  | n22 + 1, v, x1, x2 => (((v 1 17) ≤ x2 → (K15 v (x1 + 1))) ∧ (¬ (v 1 17) ≤ x2 → (pX10_bestOffset v x2 (fun r7 v_7 => (pX10_bands v_7 (fun r8 => (((v_7 0 16) ≤ r8 → (pX10_tune_J63  Q K15 (fun v x1 x2 => pX10_tune_L22 Q K15 n22 v x1 x2) v_7 x1 x2)) ∧ (¬ (v_7 0 16) ≤ r8 → (vp_in ((306 : Int32) + ((3 : Int32) * x2)) 372 ∧ (pX10_tune_J63  Q K15 (fun v x1 x2 => pX10_tune_L22 Q K15 n22 v x1 x2) (st v_7 1 (((306 : Int32) + ((3 : Int32) * x2)).toNatClampNeg) r7) x1 x2))))))))))
def pX10_tune_L15 (Q : Int32 → Lf → Prop) : Nat → Lf → Int32 → Prop
  | 0, _, _ => False
  | n15 + 1, v, x1 => (((4 : Int32) ≤ x1 → (pX10_bands v (fun r4 => (Q r4 v)))) ∧ (¬ (4 : Int32) ≤ x1 → (∃ n22, pX10_tune_L22  Q (fun v x1 => pX10_tune_L15 Q n15 v x1) n22 v x1 (0 : Int32))))
def pX10_tune (v : Lf)  (Q : Int32 → Lf → Prop) : Prop := (pX10_counts v (200 : Int32) (fun r1 v_1 => ((¬ r1 = 0 → (∃ n15, pX10_tune_L15  Q  n15 v_1 (0 : Int32))) ∧ (r1 = 0 → (Q (-4 : Int32) v_1)))))
abbrev rmX10_tune : Room := { frames := 4, cells := 0, slots := 0, locals := 95 }
abbrev wdX10_tune : List Cond := Cond.code yX10_tune cX10_tune 4 (some .int) :: TB
theorem hdSX10_tune : (yX10_tune).cls ≠ "java/lang/invoke/MethodHandle" ∧ (yX10_tune).cls ≠ "java/lang/invoke/VarHandle" ∧ (parseMethodDescriptor (yX10_tune).desc).map (fun d => d.parameters.length) = some 0 := by decide +kernel
theorem hdX10_tune : (yX10_tune).cls = RX10 ∧ (yX10_tune).cls ≠ "java/lang/invoke/MethodHandle" ∧ (yX10_tune).cls ≠ "java/lang/invoke/VarHandle" ∧ (parseMethodDescriptor (yX10_tune).desc).map (fun d => d.parameters.length) = some 0 := ⟨rfl, hdSX10_tune⟩
set_option maxHeartbeats 4000000 in
set_option maxRecDepth 100000 in
theorem kX10_tune {l : Launch} {D : va_G} {cI cJ cT : ClassId} (d : Nat → Nat)  (v : Lf) (g : Lg)  {Q : Int32 → Lf → Prop} (sz : Nat) (h : pX10_tune v Q) : Met l yX10_tune wdX10_tune rmX10_tune (Pz D (tyL cI cJ cT) [.ref (d 0)] (wX10 cI cJ d v g) sz) (va_Qi (fun (r : Int32) (u : Lf) => Q r u) (Bz D (tyL cI cJ cT) (wX10 cI cJ d v g) sz (fun (u : Lf) => (wX10 cI cJ d u g))) (va_A (wX10 cI cJ d v g) sz)) 0 0 (va_A (wX10 cI cJ d v g) sz) := by
  refine z_meti (cc := cX10_tune) (maxL := 4) (own := RX10) (lv0 := [(0, .ref (d 0))]) (by decide) rfl rfl (Nat.le_of_ble_eq_true rfl) rfl ?_
  intro p e s m args below meth c A QQ C hin hret
  have J63 : ∀ (K15 : Lf → Int32 → Prop), (∀ (v : Lf) (x1 : Int32), K15 v x1 → ZZ p l e rmX10_tune s m args below meth c D A 4 0 0 QQ 15 (wX10 cI cJ d v g) [(0, .ref (d 0)), (1, .int x1)] []) → ∀ (K22 : Lf → Int32 → Int32 → Prop), (∀ (v : Lf) (x1 : Int32) (x2 : Int32), K22 v x1 x2 → ZZ p l e rmX10_tune s m args below meth c D A 4 0 0 QQ 22 (wX10 cI cJ d v g) [(0, .ref (d 0)), (1, .int x1), (2, .int x2)] []) → ∀ (v : Lf) (x1 : Int32) (x2 : Int32), pX10_tune_J63 Q K15 K22 v x1 x2 → ZZ p l e rmX10_tune s m args below meth c D A 4 0 0 QQ 63 (wX10 cI cJ d v g) [(0, .ref (d 0)), (1, .int x1), (2, .int x2)] [] := by
    intro K15 hK15 K22 hK22 v x1 x2 h
    refine z_iinc (pc := 63) (v := (x2 + 1)) (lv' := [(2, .int (x2 + 1)), (0, .ref (d 0)), (1, .int x1)]) C 2 dX10_tune_63 rfl rfl (by decide) rfl ?_
    refine z_goto (pc := 66) (tgt := 22) C dX10_tune_66 (by decide) ?_
    refine z_sub (lv' := [(0, .ref (d 0)), (1, .int x1), (2, .int (x2 + 1))]) [1, 2, 0] rfl ?_
    exact hK22 v x1 (x2 + 1) h
  have L22 : ∀ (K15 : Lf → Int32 → Prop), (∀ (v : Lf) (x1 : Int32), K15 v x1 → ZZ p l e rmX10_tune s m args below meth c D A 4 0 0 QQ 15 (wX10 cI cJ d v g) [(0, .ref (d 0)), (1, .int x1)] []) → ∀ (n22 : Nat) (v : Lf) (x1 : Int32) (x2 : Int32), pX10_tune_L22 Q K15 n22 v x1 x2 → ZZ p l e rmX10_tune s m args below meth c D A 4 0 0 QQ 22 (wX10 cI cJ d v g) [(0, .ref (d 0)), (1, .int x1), (2, .int x2)] [] := by
    intro K15 hK15
    intro n22
    induction n22 with
    | zero => intro v x1 x2 h; exact False.elim h
    | succ n22 ih22 =>
      intro v x1 x2 h
      refine z_iload_n (pc := 22) C 2 dX10_tune_22 rfl ?_
      refine z_aload_n (pc := 23) C 0 dX10_tune_23 rfl ?_
      refine z_get (pc := 24) C uw10 0 rfl rfl 0 (by decide) wq809 rfl dX10_tune_24 ?_
      refine z_bipush (pc := 27) (v := 17) C dX10_tune_27 (by decide) ?_
      refine z_iald (pc := 29) C 1 0 rfl rfl vi_17_372 (v 1 17) (congrArg _ cl_17) dX10_tune_29 ?_
      refine z_icmp_ge (pc := 30) (tgt := 69) C dX10_tune_30 (by decide) (fun c6 => ?_) (fun c6 => ?_)
      · have h := h.1 c6
        refine z_iinc (pc := 69) (v := (x1 + 1)) (lv' := [(1, .int (x1 + 1)), (0, .ref (d 0)), (2, .int x2)]) C 1 dX10_tune_69 rfl rfl (by decide) rfl ?_
        refine z_goto (pc := 72) (tgt := 15) C dX10_tune_72 (by decide) ?_
        refine z_sub (lv' := [(0, .ref (d 0)), (1, .int (x1 + 1))]) [1, 0] rfl ?_
        exact hK15 v (x1 + 1) h
      · have h := h.2 c6
        refine z_aload_n (pc := 33) C 0 dX10_tune_33 rfl ?_
        refine z_iload_n (pc := 34) C 2 dX10_tune_34 rfl ?_
        refine z_calli (pc := 35) (wr := ([] : va_W)) (w1 := fun (u : Lf) => (wX10 cI cJ d u g)) (w2 := fun (u : Lf) => (wX10 cI cJ d u g)) C (z_runV (pc := 35) (wc := (wX10 cI cJ d v g)) (As := [.int x2]) C (fun sz => kX10_bestOffset d v g x2 sz h) [0, 1, 2, 3, 4, 5, 6, 7, 8, 9, 10, 11] rfl (by decide) (gdV wq1077 wq1079 wq1080 wq1081 wq814) rfl rfl rfl hdX10_bestOffset 0 rfl rfl rfl ⟨Nat.le_of_ble_eq_true rfl, Nat.le_of_ble_eq_true rfl⟩ rfl (Nat.le_of_ble_eq_true rfl) ⟨Nat.zero_le _, Nat.zero_le _⟩ dX10_tune_35) [0, 1, 2, 3, 4, 5, 6, 7, 8, 9, 10, 11] [] [0, 1, 2, 3, 4, 5, 6, 7, 8, 9, 10, 11] rfl rfl (by decide) (by decide) (fun _ => rfl) (by decide) (fun r7 u7 h => ?_)
        obtain ⟨v_7, hu7⟩ : ∃ z, z = u7 := ⟨_, rfl⟩
        subst hu7
        refine z_istore_n (pc := 38) (lv' := [(3, .int r7), (0, .ref (d 0)), (1, .int x1), (2, .int x2)]) C dX10_tune_38 (by decide) rfl ?_
        refine z_aload_n (pc := 39) C 1 dX10_tune_39 rfl ?_
        refine z_get (pc := 40) C uw10 0 rfl rfl 16 (by decide) wq1078 rfl dX10_tune_40 ?_
        refine z_aload_n (pc := 43) C 1 dX10_tune_43 rfl ?_
        refine z_callRi (pc := 44) C (z_runV (pc := 44) (wc := (wX10 cI cJ d v_7 g)) (As := []) C (fun sz => kX10_bands d v_7 g sz h) [0, 1, 2, 3, 4, 5, 6, 7, 8, 9, 10, 11] rfl (by decide) (gdV wq1069 wq1074 wq1075 wq1076 wq814) rfl rfl rfl hdX10_bands 0 rfl rfl rfl ⟨Nat.le_of_ble_eq_true rfl, Nat.le_of_ble_eq_true rfl⟩ rfl (Nat.le_of_ble_eq_true rfl) ⟨Nat.zero_le _, Nat.zero_le _⟩ dX10_tune_44) [0, 1, 2, 3, 4, 5, 6, 7, 8, 9, 10, 11] rfl (by decide) (fun r8 u8 h => ?_)
        refine z_icmp_le (pc := 47) (tgt := 63) C dX10_tune_47 (by decide) (fun c9 => ?_) (fun c9 => ?_)
        · have h := h.1 c9
          refine z_sub (lv' := [(0, .ref (d 0)), (1, .int x1), (2, .int x2)]) [1, 2, 3] rfl ?_
          exact J63 K15 hK15 (fun v x1 x2 => pX10_tune_L22 Q K15 n22 v x1 x2) ih22 v_7 x1 x2 h
        · have h := h.2 c9
          refine z_aload_n (pc := 50) C 1 dX10_tune_50 rfl ?_
          refine z_get (pc := 51) C uw10 0 rfl rfl 0 (by decide) wq809 rfl dX10_tune_51 ?_
          refine z_sipush (pc := 54) (v := 306) C dX10_tune_54 (by decide) ?_
          refine z_iconst (pc := 57) (v := 3) C dX10_tune_57 (by decide) ?_
          refine z_iload_n (pc := 58) C 3 dX10_tune_58 rfl ?_
          refine z_imul (pc := 59) C dX10_tune_59 ?_
          refine z_iadd (pc := 60) C dX10_tune_60 ?_
          refine z_iload_n (pc := 61) C 0 dX10_tune_61 rfl ?_
          obtain ⟨g10, h⟩ := h
          refine z_iast (pc := 62) (ws' := (wX10 cI cJ d (st v_7 1 (((306 : Int32) + ((3 : Int32) * x2)).toNatClampNeg) r7) g)) C 1 0 rfl rfl g10 dX10_tune_62 rfl sX10_a1 ?_
          refine z_sub (lv' := [(0, .ref (d 0)), (1, .int x1), (2, .int x2)]) [1, 2, 3] rfl ?_
          exact J63 K15 hK15 (fun v x1 x2 => pX10_tune_L22 Q K15 n22 v x1 x2) ih22 (st v_7 1 (((306 : Int32) + ((3 : Int32) * x2)).toNatClampNeg) r7) x1 x2 h
  have L15 : ∀ (n15 : Nat) (v : Lf) (x1 : Int32), pX10_tune_L15 Q n15 v x1 → ZZ p l e rmX10_tune s m args below meth c D A 4 0 0 QQ 15 (wX10 cI cJ d v g) [(0, .ref (d 0)), (1, .int x1)] [] := by
    intro n15
    induction n15 with
    | zero => intro v x1 h; exact False.elim h
    | succ n15 ih15 =>
      intro v x1 h
      refine z_iload_n (pc := 15) C 1 dX10_tune_15 rfl ?_
      refine z_iconst (pc := 16) (v := 4) C dX10_tune_16 (by decide) ?_
      refine z_icmp_ge (pc := 17) (tgt := 75) C dX10_tune_17 (by decide) (fun c3 => ?_) (fun c3 => ?_)
      · have h := h.1 c3
        refine z_aload_n (pc := 75) C 0 dX10_tune_75 rfl ?_
        refine z_callRi (pc := 76) C (z_runV (pc := 76) (wc := (wX10 cI cJ d v g)) (As := []) C (fun sz => kX10_bands d v g sz h) [0, 1, 2, 3, 4, 5, 6, 7, 8, 9, 10, 11] rfl (by decide) (gdV wq1069 wq1074 wq1075 wq1076 wq814) rfl rfl rfl hdX10_bands 0 rfl rfl rfl ⟨Nat.le_of_ble_eq_true rfl, Nat.le_of_ble_eq_true rfl⟩ rfl (Nat.le_of_ble_eq_true rfl) ⟨Nat.zero_le _, Nat.zero_le _⟩ dX10_tune_76) [0, 1, 2, 3, 4, 5, 6, 7, 8, 9, 10, 11] rfl (by decide) (fun r4 u4 h => ?_)
        exact hret 79 _ _ r4 v rfl h dX10_tune_79
      · have h := h.2 c3
        refine z_iconst (pc := 20) (v := 0) C dX10_tune_20 (by decide) ?_
        refine z_istore_n (pc := 21) (lv' := [(2, .int (0 : Int32)), (0, .ref (d 0)), (1, .int x1)]) C dX10_tune_21 (by decide) rfl ?_
        obtain ⟨n22, h⟩ := h
        refine z_sub (lv' := [(0, .ref (d 0)), (1, .int x1), (2, .int (0 : Int32))]) [1, 2, 0] rfl ?_
        exact L22 (fun v x1 => pX10_tune_L15 Q n15 v x1) ih15 n22 v x1 (0 : Int32) h
  refine z_aload_n (pc := 0) C 0 dX10_tune_0 rfl ?_
  refine z_sipush (pc := 1) (v := 200) C dX10_tune_1 (by decide) ?_
  refine z_calli (pc := 4) (wr := ([] : va_W)) (w1 := fun (u : Lf) => (wX10 cI cJ d u g)) (w2 := fun (u : Lf) => (wX10 cI cJ d u g)) C (z_runV (pc := 4) (wc := (wX10 cI cJ d v g)) (As := [.int (200 : Int32)]) C (fun sz => kX10_counts d v g (200 : Int32) sz h) [0, 1, 2, 3, 4, 5, 6, 7, 8, 9, 10, 11] rfl (by decide) (gdV wq998 wq1005 wq1006 wq1007 wq814) rfl rfl rfl hdX10_counts 0 rfl rfl rfl ⟨Nat.le_of_ble_eq_true rfl, Nat.le_of_ble_eq_true rfl⟩ rfl (Nat.le_of_ble_eq_true rfl) ⟨Nat.zero_le _, Nat.zero_le _⟩ dX10_tune_4) [0, 1, 2, 3, 4, 5, 6, 7, 8, 9, 10, 11] [] [0, 1, 2, 3, 4, 5, 6, 7, 8, 9, 10, 11] rfl rfl (by decide) (by decide) (fun _ => rfl) (by decide) (fun r1 u1 h => ?_)
  obtain ⟨v_1, hu1⟩ : ∃ z, z = u1 := ⟨_, rfl⟩
  subst hu1
  refine z_if_ne (pc := 7) (tgt := 13) C dX10_tune_7 (by decide) (fun c2 => ?_) (fun c2 => ?_)
  · have h := h.1 c2
    refine z_iconst (pc := 13) (v := 0) C dX10_tune_13 (by decide) ?_
    refine z_istore_n (pc := 14) (lv' := [(1, .int (0 : Int32)), (0, .ref (d 0))]) C dX10_tune_14 (by decide) rfl ?_
    obtain ⟨n15, h⟩ := h
    refine z_sub (lv' := [(0, .ref (d 0)), (1, .int (0 : Int32))]) [1, 0] rfl ?_
    exact L15  n15 v_1 (0 : Int32) h
  · have h := h.2 c2
    refine z_bipush (pc := 10) (v := -4) C dX10_tune_10 (by decide) ?_
    exact hret 12 _ _ (-4 : Int32) v_1 rfl h dX10_tune_12

def pX10_thinks (v : Lf)  (Q : Lf → Prop) : Prop := (pX10_copies 372 372 (v 1) (v 3) (fun f0_1 => (Q (sa v 3 f0_1))))
abbrev rmX10_thinks : Room := { frames := 1, cells := 0, slots := 0, locals := 22 }
abbrev wdX10_thinks : List Cond := Cond.code yX10_thinks cX10_thinks 1 none :: TB
theorem hdSX10_thinks : (yX10_thinks).cls ≠ "java/lang/invoke/MethodHandle" ∧ (yX10_thinks).cls ≠ "java/lang/invoke/VarHandle" ∧ (parseMethodDescriptor (yX10_thinks).desc).map (fun d => d.parameters.length) = some 0 := by decide +kernel
theorem hdX10_thinks : (yX10_thinks).cls = RX10 ∧ (yX10_thinks).cls ≠ "java/lang/invoke/MethodHandle" ∧ (yX10_thinks).cls ≠ "java/lang/invoke/VarHandle" ∧ (parseMethodDescriptor (yX10_thinks).desc).map (fun d => d.parameters.length) = some 0 := ⟨rfl, hdSX10_thinks⟩
set_option maxHeartbeats 4000000 in
set_option maxRecDepth 100000 in
theorem kX10_thinks {l : Launch} {D : va_G} {cI cJ cT : ClassId} (d : Nat → Nat)  (v : Lf) (g : Lg)  {Q : Lf → Prop} (sz : Nat) (h : pX10_thinks v Q) : Met l yX10_thinks wdX10_thinks rmX10_thinks (Pz D (tyL cI cJ cT) [.ref (d 0)] (wX10 cI cJ d v g) sz) (va_Qv (fun (u : Lf) => Q u) (Bz D (tyL cI cJ cT) (wX10 cI cJ d v g) sz (fun (u : Lf) => (wX10 cI cJ d u g))) (va_A (wX10 cI cJ d v g) sz)) 0 0 (va_A (wX10 cI cJ d v g) sz) := by
  refine z_metv (cc := cX10_thinks) (maxL := 1) (own := RX10) (lv0 := [(0, .ref (d 0))]) (by decide) rfl rfl (Nat.le_of_ble_eq_true rfl) rfl ?_
  intro p e s m args below meth c A QQ C hin hret
  refine z_aload_n (pc := 0) C 0 dX10_thinks_0 rfl ?_
  refine z_get (pc := 1) C uw10 0 rfl rfl 0 (by decide) wq809 rfl dX10_thinks_1 ?_
  refine z_aload_n (pc := 4) C 0 dX10_thinks_4 rfl ?_
  refine z_get (pc := 5) C uw10 0 rfl rfl 2 (by decide) wq838 rfl dX10_thinks_5 ?_
  refine z_callv (pc := 8) (wr := (List.filterMap (fun i => ((wX10 cI cJ d v g))[i]?) [0, 2, 4, 5, 6, 7, 8, 9, 10, 11])) (w1 := fun (u : (Nat → Int32)) => ([((d 1), .inl (cI, 372, .inl (v 1)))] ++ [((d 3), .inl (cI, 372, .inl u))])) (w2 := fun (u : (Nat → Int32)) => (wX10 cI cJ d (sa v 3 u) g)) C (z_runS (pc := 8) (wc := ([((d 1), .inl (cI, 372, .inl (v 1)))] ++ [((d 3), .inl (cI, 372, .inl (v 3)))])) (As := [.ref (d 1), .ref (d 3)]) C (fun sz => kX10_copies (d 1) (d 3) 372 372 (v 1) (v 3) sz h) [1, 3] rfl (by decide) (gdS wq857 wq1085 wq1086 wq814) rfl rfl rfl hdSX10_copies ⟨Nat.le_of_ble_eq_true rfl, Nat.le_of_ble_eq_true rfl⟩ rfl (Nat.le_of_ble_eq_true rfl) ⟨Nat.zero_le _, Nat.zero_le _⟩ dX10_thinks_8) [1, 3] [0, 2, 4, 5, 6, 7, 8, 9, 10, 11] [0, 10, 1, 11, 2, 3, 4, 5, 6, 7, 8, 9] rfl rfl (by decide) (by decide) (fun _ => rfl) (by decide) (fun u1 h => ?_)
  obtain ⟨f0_1, hu1⟩ : ∃ z, z = u1 := ⟨_, rfl⟩
  subst hu1
  exact hret 11 _ _ (sa v 3 f0_1) rfl h dX10_thinks_11

def pX10_forgets (v : Lf)  (Q : Lf → Prop) : Prop := (pX10_copies 372 372 (v 3) (v 1) (fun f0_1 => (Q (sa v 1 f0_1))))
abbrev rmX10_forgets : Room := { frames := 1, cells := 0, slots := 0, locals := 22 }
abbrev wdX10_forgets : List Cond := Cond.code yX10_forgets cX10_forgets 1 none :: TB
theorem hdSX10_forgets : (yX10_forgets).cls ≠ "java/lang/invoke/MethodHandle" ∧ (yX10_forgets).cls ≠ "java/lang/invoke/VarHandle" ∧ (parseMethodDescriptor (yX10_forgets).desc).map (fun d => d.parameters.length) = some 0 := by decide +kernel
theorem hdX10_forgets : (yX10_forgets).cls = RX10 ∧ (yX10_forgets).cls ≠ "java/lang/invoke/MethodHandle" ∧ (yX10_forgets).cls ≠ "java/lang/invoke/VarHandle" ∧ (parseMethodDescriptor (yX10_forgets).desc).map (fun d => d.parameters.length) = some 0 := ⟨rfl, hdSX10_forgets⟩
set_option maxHeartbeats 4000000 in
set_option maxRecDepth 100000 in
theorem kX10_forgets {l : Launch} {D : va_G} {cI cJ cT : ClassId} (d : Nat → Nat)  (v : Lf) (g : Lg)  {Q : Lf → Prop} (sz : Nat) (h : pX10_forgets v Q) : Met l yX10_forgets wdX10_forgets rmX10_forgets (Pz D (tyL cI cJ cT) [.ref (d 0)] (wX10 cI cJ d v g) sz) (va_Qv (fun (u : Lf) => Q u) (Bz D (tyL cI cJ cT) (wX10 cI cJ d v g) sz (fun (u : Lf) => (wX10 cI cJ d u g))) (va_A (wX10 cI cJ d v g) sz)) 0 0 (va_A (wX10 cI cJ d v g) sz) := by
  refine z_metv (cc := cX10_forgets) (maxL := 1) (own := RX10) (lv0 := [(0, .ref (d 0))]) (by decide) rfl rfl (Nat.le_of_ble_eq_true rfl) rfl ?_
  intro p e s m args below meth c A QQ C hin hret
  refine z_aload_n (pc := 0) C 0 dX10_forgets_0 rfl ?_
  refine z_get (pc := 1) C uw10 0 rfl rfl 2 (by decide) wq838 rfl dX10_forgets_1 ?_
  refine z_aload_n (pc := 4) C 0 dX10_forgets_4 rfl ?_
  refine z_get (pc := 5) C uw10 0 rfl rfl 0 (by decide) wq809 rfl dX10_forgets_5 ?_
  refine z_callv (pc := 8) (wr := (List.filterMap (fun i => ((wX10 cI cJ d v g))[i]?) [0, 2, 4, 5, 6, 7, 8, 9, 10, 11])) (w1 := fun (u : (Nat → Int32)) => ([((d 3), .inl (cI, 372, .inl (v 3)))] ++ [((d 1), .inl (cI, 372, .inl u))])) (w2 := fun (u : (Nat → Int32)) => (wX10 cI cJ d (sa v 1 u) g)) C (z_runS (pc := 8) (wc := ([((d 3), .inl (cI, 372, .inl (v 3)))] ++ [((d 1), .inl (cI, 372, .inl (v 1)))])) (As := [.ref (d 3), .ref (d 1)]) C (fun sz => kX10_copies (d 3) (d 1) 372 372 (v 3) (v 1) sz h) [3, 1] rfl (by decide) (gdS wq857 wq1085 wq1086 wq814) rfl rfl rfl hdSX10_copies ⟨Nat.le_of_ble_eq_true rfl, Nat.le_of_ble_eq_true rfl⟩ rfl (Nat.le_of_ble_eq_true rfl) ⟨Nat.zero_le _, Nat.zero_le _⟩ dX10_forgets_8) [3, 1] [0, 2, 4, 5, 6, 7, 8, 9, 10, 11] [0, 11, 1, 10, 2, 3, 4, 5, 6, 7, 8, 9] rfl rfl (by decide) (by decide) (fun _ => rfl) (by decide) (fun u1 h => ?_)
  obtain ⟨f0_1, hu1⟩ : ∃ z, z = u1 := ⟨_, rfl⟩
  subst hu1
  exact hret 11 _ _ (sa v 1 f0_1) rfl h dX10_forgets_11

def pX10_would (v : Lf) (x1 : Int32) (x2 : Int32) (Q : Int32 → Lf → Prop) : Prop := (pX10_isIn x2 (0 : Int32) (18 : Int32) (fun r1 => ((¬ r1 = 0 → (pX10_isIn x1 (0 : Int32) (99 : Int32) (fun r3 => ((¬ r3 = 0 → ((¬ (v 1 2) = 0 → (pX10_counts v x1 (fun r7 v_7 => ((¬ r7 = 0 → (pX10_thinks v_7 (fun v_9 => (pX10_passes v_9 x1 (fun v_10 => (pX10_told v_10 x2 (fun r11 => (pX10_forgets v_10 (fun v_12 => (Q r11 v_12)))))))))) ∧ (r7 = 0 → (Q (-4 : Int32) v_7)))))) ∧ ((v 1 2) = 0 → (Q (-3 : Int32) v)))) ∧ (r3 = 0 → (Q (-2 : Int32) v)))))) ∧ (r1 = 0 → (Q (-1 : Int32) v)))))
abbrev rmX10_would : Room := { frames := 6, cells := 0, slots := 0, locals := 136 }
abbrev wdX10_would : List Cond := Cond.code yX10_would cX10_would 4 (some .int) :: TB
theorem hdSX10_would : (yX10_would).cls ≠ "java/lang/invoke/MethodHandle" ∧ (yX10_would).cls ≠ "java/lang/invoke/VarHandle" ∧ (parseMethodDescriptor (yX10_would).desc).map (fun d => d.parameters.length) = some 2 := by decide +kernel
theorem hdX10_would : (yX10_would).cls = RX10 ∧ (yX10_would).cls ≠ "java/lang/invoke/MethodHandle" ∧ (yX10_would).cls ≠ "java/lang/invoke/VarHandle" ∧ (parseMethodDescriptor (yX10_would).desc).map (fun d => d.parameters.length) = some 2 := ⟨rfl, hdSX10_would⟩
set_option maxHeartbeats 4000000 in
set_option maxRecDepth 100000 in
theorem kX10_would {l : Launch} {D : va_G} {cI cJ cT : ClassId} (d : Nat → Nat)  (v : Lf) (g : Lg) (x1 : Int32) (x2 : Int32) {Q : Int32 → Lf → Prop} (sz : Nat) (h : pX10_would v x1 x2 Q) : Met l yX10_would wdX10_would rmX10_would (Pz D (tyL cI cJ cT) [.ref (d 0), .int x1, .int x2] (wX10 cI cJ d v g) sz) (va_Qi (fun (r : Int32) (u : Lf) => Q r u) (Bz D (tyL cI cJ cT) (wX10 cI cJ d v g) sz (fun (u : Lf) => (wX10 cI cJ d u g))) (va_A (wX10 cI cJ d v g) sz)) 0 0 (va_A (wX10 cI cJ d v g) sz) := by
  refine z_meti (cc := cX10_would) (maxL := 4) (own := RX10) (lv0 := [(0, .ref (d 0)), (1, .int x1), (2, .int x2)]) (by decide) rfl rfl (Nat.le_of_ble_eq_true rfl) rfl ?_
  intro p e s m args below meth c A QQ C hin hret
  refine z_iload_n (pc := 0) C 2 dX10_would_0 rfl ?_
  refine z_iconst (pc := 1) (v := 0) C dX10_would_1 (by decide) ?_
  refine z_bipush (pc := 2) (v := 18) C dX10_would_2 (by decide) ?_
  refine z_call0i (pc := 4) C (z_runS (pc := 4) (wc := ([] : va_W)) (As := [.int x2, .int (0 : Int32), .int (18 : Int32)]) C (fun sz => kX10_isIn x2 (0 : Int32) (18 : Int32) sz h) [] rfl (by decide) (gdS wq849 wq852 wq853 wq814) rfl rfl rfl hdSX10_isIn ⟨Nat.le_of_ble_eq_true rfl, Nat.le_of_ble_eq_true rfl⟩ rfl (Nat.le_of_ble_eq_true rfl) ⟨Nat.zero_le _, Nat.zero_le _⟩ dX10_would_4) (fun r1 u1 h => ?_)
  refine z_if_ne (pc := 7) (tgt := 12) C dX10_would_7 (by decide) (fun c2 => ?_) (fun c2 => ?_)
  · have h := h.1 c2
    refine z_iload_n (pc := 12) C 1 dX10_would_12 rfl ?_
    refine z_iconst (pc := 13) (v := 0) C dX10_would_13 (by decide) ?_
    refine z_bipush (pc := 14) (v := 99) C dX10_would_14 (by decide) ?_
    refine z_call0i (pc := 16) C (z_runS (pc := 16) (wc := ([] : va_W)) (As := [.int x1, .int (0 : Int32), .int (99 : Int32)]) C (fun sz => kX10_isIn x1 (0 : Int32) (99 : Int32) sz h) [] rfl (by decide) (gdS wq849 wq852 wq853 wq814) rfl rfl rfl hdSX10_isIn ⟨Nat.le_of_ble_eq_true rfl, Nat.le_of_ble_eq_true rfl⟩ rfl (Nat.le_of_ble_eq_true rfl) ⟨Nat.zero_le _, Nat.zero_le _⟩ dX10_would_16) (fun r3 u3 h => ?_)
    refine z_if_ne (pc := 19) (tgt := 25) C dX10_would_19 (by decide) (fun c4 => ?_) (fun c4 => ?_)
    · have h := h.1 c4
      refine z_aload_n (pc := 25) C 0 dX10_would_25 rfl ?_
      refine z_get (pc := 26) C uw10 0 rfl rfl 0 (by decide) wq809 rfl dX10_would_26 ?_
      refine z_iconst (pc := 29) (v := 2) C dX10_would_29 (by decide) ?_
      refine z_iald (pc := 30) C 1 0 rfl rfl vi_2_372 (v 1 2) (congrArg _ cl_2) dX10_would_30 ?_
      refine z_if_ne (pc := 31) (tgt := 37) C dX10_would_31 (by decide) (fun c6 => ?_) (fun c6 => ?_)
      · have h := h.1 c6
        refine z_aload_n (pc := 37) C 0 dX10_would_37 rfl ?_
        refine z_iload_n (pc := 38) C 1 dX10_would_38 rfl ?_
        refine z_calli (pc := 39) (wr := ([] : va_W)) (w1 := fun (u : Lf) => (wX10 cI cJ d u g)) (w2 := fun (u : Lf) => (wX10 cI cJ d u g)) C (z_runV (pc := 39) (wc := (wX10 cI cJ d v g)) (As := [.int x1]) C (fun sz => kX10_counts d v g x1 sz h) [0, 1, 2, 3, 4, 5, 6, 7, 8, 9, 10, 11] rfl (by decide) (gdV wq998 wq1005 wq1006 wq1007 wq814) rfl rfl rfl hdX10_counts 0 rfl rfl rfl ⟨Nat.le_of_ble_eq_true rfl, Nat.le_of_ble_eq_true rfl⟩ rfl (Nat.le_of_ble_eq_true rfl) ⟨Nat.zero_le _, Nat.zero_le _⟩ dX10_would_39) [0, 1, 2, 3, 4, 5, 6, 7, 8, 9, 10, 11] [] [0, 1, 2, 3, 4, 5, 6, 7, 8, 9, 10, 11] rfl rfl (by decide) (by decide) (fun _ => rfl) (by decide) (fun r7 u7 h => ?_)
        obtain ⟨v_7, hu7⟩ : ∃ z, z = u7 := ⟨_, rfl⟩
        subst hu7
        refine z_if_ne (pc := 42) (tgt := 48) C dX10_would_42 (by decide) (fun c8 => ?_) (fun c8 => ?_)
        · have h := h.1 c8
          refine z_aload_n (pc := 48) C 0 dX10_would_48 rfl ?_
          refine z_callv (pc := 49) (wr := ([] : va_W)) (w1 := fun (u : Lf) => (wX10 cI cJ d u g)) (w2 := fun (u : Lf) => (wX10 cI cJ d u g)) C (z_runV (pc := 49) (wc := (wX10 cI cJ d v_7 g)) (As := []) C (fun sz => kX10_thinks d v_7 g sz h) [0, 1, 2, 3, 4, 5, 6, 7, 8, 9, 10, 11] rfl (by decide) (gdV wq1084 wq1088 wq1089 wq1090 wq814) rfl rfl rfl hdX10_thinks 0 rfl rfl rfl ⟨Nat.le_of_ble_eq_true rfl, Nat.le_of_ble_eq_true rfl⟩ rfl (Nat.le_of_ble_eq_true rfl) ⟨Nat.zero_le _, Nat.zero_le _⟩ dX10_would_49) [0, 1, 2, 3, 4, 5, 6, 7, 8, 9, 10, 11] [] [0, 1, 2, 3, 4, 5, 6, 7, 8, 9, 10, 11] rfl rfl (by decide) (by decide) (fun _ => rfl) (by decide) (fun u9 h => ?_)
          obtain ⟨v_9, hu9⟩ : ∃ z, z = u9 := ⟨_, rfl⟩
          subst hu9
          refine z_aload_n (pc := 52) C 0 dX10_would_52 rfl ?_
          refine z_iload_n (pc := 53) C 1 dX10_would_53 rfl ?_
          refine z_callv (pc := 54) (wr := ([] : va_W)) (w1 := fun (u : Lf) => (wX10 cI cJ d u g)) (w2 := fun (u : Lf) => (wX10 cI cJ d u g)) C (z_runV (pc := 54) (wc := (wX10 cI cJ d v_9 g)) (As := [.int x1]) C (fun sz => kX10_passes d v_9 g x1 sz h) [0, 1, 2, 3, 4, 5, 6, 7, 8, 9, 10, 11] rfl (by decide) (gdV wq997 wq1008 wq1009 wq1010 wq814) rfl rfl rfl hdX10_passes 0 rfl rfl rfl ⟨Nat.le_of_ble_eq_true rfl, Nat.le_of_ble_eq_true rfl⟩ rfl (Nat.le_of_ble_eq_true rfl) ⟨Nat.zero_le _, Nat.zero_le _⟩ dX10_would_54) [0, 1, 2, 3, 4, 5, 6, 7, 8, 9, 10, 11] [] [0, 1, 2, 3, 4, 5, 6, 7, 8, 9, 10, 11] rfl rfl (by decide) (by decide) (fun _ => rfl) (by decide) (fun u10 h => ?_)
          obtain ⟨v_10, hu10⟩ : ∃ z, z = u10 := ⟨_, rfl⟩
          subst hu10
          refine z_aload_n (pc := 57) C 0 dX10_would_57 rfl ?_
          refine z_iload_n (pc := 58) C 2 dX10_would_58 rfl ?_
          refine z_callRi (pc := 59) C (z_runV (pc := 59) (wc := (wX10 cI cJ d v_10 g)) (As := [.int x2]) C (fun sz => kX10_told d v_10 g x2 sz h) [0, 1, 2, 3, 4, 5, 6, 7, 8, 9, 10, 11] rfl (by decide) (gdV wq1020 wq1091 wq1092 wq1093 wq814) rfl rfl rfl hdX10_told 0 rfl rfl rfl ⟨Nat.le_of_ble_eq_true rfl, Nat.le_of_ble_eq_true rfl⟩ rfl (Nat.le_of_ble_eq_true rfl) ⟨Nat.zero_le _, Nat.zero_le _⟩ dX10_would_59) [0, 1, 2, 3, 4, 5, 6, 7, 8, 9, 10, 11] rfl (by decide) (fun r11 u11 h => ?_)
          refine z_istore_n (pc := 62) (lv' := [(3, .int r11), (0, .ref (d 0)), (1, .int x1), (2, .int x2)]) C dX10_would_62 (by decide) rfl ?_
          refine z_aload_n (pc := 63) C 1 dX10_would_63 rfl ?_
          refine z_callv (pc := 64) (wr := ([] : va_W)) (w1 := fun (u : Lf) => (wX10 cI cJ d u g)) (w2 := fun (u : Lf) => (wX10 cI cJ d u g)) C (z_runV (pc := 64) (wc := (wX10 cI cJ d v_10 g)) (As := []) C (fun sz => kX10_forgets d v_10 g sz h) [0, 1, 2, 3, 4, 5, 6, 7, 8, 9, 10, 11] rfl (by decide) (gdV wq1087 wq1094 wq1095 wq1096 wq814) rfl rfl rfl hdX10_forgets 0 rfl rfl rfl ⟨Nat.le_of_ble_eq_true rfl, Nat.le_of_ble_eq_true rfl⟩ rfl (Nat.le_of_ble_eq_true rfl) ⟨Nat.zero_le _, Nat.zero_le _⟩ dX10_would_64) [0, 1, 2, 3, 4, 5, 6, 7, 8, 9, 10, 11] [] [0, 1, 2, 3, 4, 5, 6, 7, 8, 9, 10, 11] rfl rfl (by decide) (by decide) (fun _ => rfl) (by decide) (fun u12 h => ?_)
          obtain ⟨v_12, hu12⟩ : ∃ z, z = u12 := ⟨_, rfl⟩
          subst hu12
          refine z_iload_n (pc := 67) C 0 dX10_would_67 rfl ?_
          exact hret 68 _ _ r11 v_12 rfl h dX10_would_68
        · have h := h.2 c8
          refine z_bipush (pc := 45) (v := -4) C dX10_would_45 (by decide) ?_
          exact hret 47 _ _ (-4 : Int32) v_7 rfl h dX10_would_47
      · have h := h.2 c6
        refine z_bipush (pc := 34) (v := -3) C dX10_would_34 (by decide) ?_
        exact hret 36 _ _ (-3 : Int32) v rfl h dX10_would_36
    · have h := h.2 c4
      refine z_bipush (pc := 22) (v := -2) C dX10_would_22 (by decide) ?_
      exact hret 24 _ _ (-2 : Int32) v rfl h dX10_would_24
  · have h := h.2 c2
    refine z_iconst (pc := 10) (v := -1) C dX10_would_10 (by decide) ?_
    exact hret 11 _ _ (-1 : Int32) v rfl h dX10_would_11

def pX10_turns__J103 (x1 : Int32) (x2 : Int32) (Q : Int32 → Lf → Prop) (v : Lf) (x3 : Int32) : Prop := (pX10_forgets v (fun v_11 => (Q x3 v_11)))
def pX10_turns__J92 (x1 : Int32) (x2 : Int32) (Q : Int32 → Lf → Prop) (K56 : Lf → Int32 → Int32 → Prop) (v : Lf) (x4 : Int32) (t0 : Int32) : Prop := (pX10_ends v (fun v_16 => (K56 v_16 t0 (x4 + 1))))
def pX10_turns__L56 (x1 : Int32) (x2 : Int32) (Q : Int32 → Lf → Prop) : Nat → Lf → Int32 → Int32 → Prop
  | 0, _, _, _ => False
  | n56 + 1, v, x3, x4 => ((x2 ≤ x4 → (pX10_turns__J103 x1 x2 Q  v x3)) ∧ (¬ x2 ≤ x4 → ((0 ≤ x3 → (pX10_turns__J103 x1 x2 Q  v x3)) ∧ (¬ 0 ≤ x3 → (pX10_turns v (fun v_13 => (pX10_at v_13 x1 (6 : Int32) (fun r14 => ((¬ r14 = (1 : Int32) → (pX10_turns__J92 x1 x2 Q (fun v x3 x4 => pX10_turns__L56 x1 x2 Q n56 v x3 x4) v_13 x4 (-5 : Int32))) ∧ (r14 = (1 : Int32) → (pX10_turns__J92 x1 x2 Q (fun v x3 x4 => pX10_turns__L56 x1 x2 Q n56 v x3 x4) v_13 x4 (v_13 1 3))))))))))))
def pX10_turns_ (v : Lf) (x1 : Int32) (x2 : Int32) (Q : Int32 → Lf → Prop) : Prop := (pX10_isSignal v x1 (fun r1 => ((¬ r1 = 0 → (pX10_isIn x2 (0 : Int32) (99 : Int32) (fun r3 => ((¬ r3 = 0 → ((¬ (v 1 2) = 0 → (pX10_counts v x2 (fun r7 v_7 => ((¬ r7 = 0 → (pX10_thinks v_7 (fun v_9 => (∃ n56, pX10_turns__L56 x1 x2 Q  n56 v_9 (-5 : Int32) (0 : Int32))))) ∧ (r7 = 0 → (Q (-4 : Int32) v_7)))))) ∧ ((v 1 2) = 0 → (Q (-3 : Int32) v)))) ∧ (r3 = 0 → (Q (-2 : Int32) v)))))) ∧ (r1 = 0 → (Q (-1 : Int32) v)))))
abbrev rmX10_turns_ : Room := { frames := 5, cells := 0, slots := 0, locals := 114 }
abbrev wdX10_turns_ : List Cond := Cond.code yX10_turns_ cX10_turns_ 5 (some .int) :: TB
theorem hdSX10_turns_ : (yX10_turns_).cls ≠ "java/lang/invoke/MethodHandle" ∧ (yX10_turns_).cls ≠ "java/lang/invoke/VarHandle" ∧ (parseMethodDescriptor (yX10_turns_).desc).map (fun d => d.parameters.length) = some 2 := by decide +kernel
theorem hdX10_turns_ : (yX10_turns_).cls = RX10 ∧ (yX10_turns_).cls ≠ "java/lang/invoke/MethodHandle" ∧ (yX10_turns_).cls ≠ "java/lang/invoke/VarHandle" ∧ (parseMethodDescriptor (yX10_turns_).desc).map (fun d => d.parameters.length) = some 2 := ⟨rfl, hdSX10_turns_⟩
set_option maxHeartbeats 4000000 in
set_option maxRecDepth 100000 in
theorem kX10_turns_ {l : Launch} {D : va_G} {cI cJ cT : ClassId} (d : Nat → Nat)  (v : Lf) (g : Lg) (x1 : Int32) (x2 : Int32) {Q : Int32 → Lf → Prop} (sz : Nat) (h : pX10_turns_ v x1 x2 Q) : Met l yX10_turns_ wdX10_turns_ rmX10_turns_ (Pz D (tyL cI cJ cT) [.ref (d 0), .int x1, .int x2] (wX10 cI cJ d v g) sz) (va_Qi (fun (r : Int32) (u : Lf) => Q r u) (Bz D (tyL cI cJ cT) (wX10 cI cJ d v g) sz (fun (u : Lf) => (wX10 cI cJ d u g))) (va_A (wX10 cI cJ d v g) sz)) 0 0 (va_A (wX10 cI cJ d v g) sz) := by
  refine z_meti (cc := cX10_turns_) (maxL := 5) (own := RX10) (lv0 := [(0, .ref (d 0)), (1, .int x1), (2, .int x2)]) (by decide) rfl rfl (Nat.le_of_ble_eq_true rfl) rfl ?_
  intro p e s m args below meth c A QQ C hin hret
  have J103 : ∀ (v : Lf) (x3 : Int32), pX10_turns__J103 x1 x2 Q v x3 → ZZ p l e rmX10_turns_ s m args below meth c D A 5 0 0 QQ 103 (wX10 cI cJ d v g) [(0, .ref (d 0)), (3, .int x3)] [] := by
    intro  v x3 h
    refine z_aload_n (pc := 103) C 0 dX10_turns__103 rfl ?_
    refine z_callv (pc := 104) (wr := ([] : va_W)) (w1 := fun (u : Lf) => (wX10 cI cJ d u g)) (w2 := fun (u : Lf) => (wX10 cI cJ d u g)) C (z_runV (pc := 104) (wc := (wX10 cI cJ d v g)) (As := []) C (fun sz => kX10_forgets d v g sz h) [0, 1, 2, 3, 4, 5, 6, 7, 8, 9, 10, 11] rfl (by decide) (gdV wq1087 wq1094 wq1095 wq1096 wq814) rfl rfl rfl hdX10_forgets 0 rfl rfl rfl ⟨Nat.le_of_ble_eq_true rfl, Nat.le_of_ble_eq_true rfl⟩ rfl (Nat.le_of_ble_eq_true rfl) ⟨Nat.zero_le _, Nat.zero_le _⟩ dX10_turns__104) [0, 1, 2, 3, 4, 5, 6, 7, 8, 9, 10, 11] [] [0, 1, 2, 3, 4, 5, 6, 7, 8, 9, 10, 11] rfl rfl (by decide) (by decide) (fun _ => rfl) (by decide) (fun u11 h => ?_)
    obtain ⟨v_11, hu11⟩ : ∃ z, z = u11 := ⟨_, rfl⟩
    subst hu11
    refine z_iload_n (pc := 107) C 1 dX10_turns__107 rfl ?_
    exact hret 108 _ _ x3 v_11 rfl h dX10_turns__108
  have J92 : ∀ (K56 : Lf → Int32 → Int32 → Prop), (∀ (v : Lf) (x3 : Int32) (x4 : Int32), K56 v x3 x4 → ZZ p l e rmX10_turns_ s m args below meth c D A 5 0 0 QQ 56 (wX10 cI cJ d v g) [(0, .ref (d 0)), (1, .int x1), (2, .int x2), (3, .int x3), (4, .int x4)] []) → ∀ (v : Lf) (x4 : Int32) (t0 : Int32), pX10_turns__J92 x1 x2 Q K56 v x4 t0 → ZZ p l e rmX10_turns_ s m args below meth c D A 5 0 0 QQ 92 (wX10 cI cJ d v g) [(0, .ref (d 0)), (1, .int x1), (2, .int x2), (4, .int x4)] [.int t0] := by
    intro K56 hK56 v x4 t0 h
    refine z_istore_n (pc := 92) (lv' := [(3, .int t0), (0, .ref (d 0)), (1, .int x1), (2, .int x2), (4, .int x4)]) C dX10_turns__92 (by decide) rfl ?_
    refine z_aload_n (pc := 93) C 1 dX10_turns__93 rfl ?_
    refine z_callv (pc := 94) (wr := ([] : va_W)) (w1 := fun (u : Lf) => (wX10 cI cJ d u g)) (w2 := fun (u : Lf) => (wX10 cI cJ d u g)) C (z_runV (pc := 94) (wc := (wX10 cI cJ d v g)) (As := []) C (fun sz => kX10_ends d v g sz h) [0, 1, 2, 3, 4, 5, 6, 7, 8, 9, 10, 11] rfl (by decide) (gdV wq990 wq994 wq995 wq996 wq814) rfl rfl rfl hdX10_ends 0 rfl rfl rfl ⟨Nat.le_of_ble_eq_true rfl, Nat.le_of_ble_eq_true rfl⟩ rfl (Nat.le_of_ble_eq_true rfl) ⟨Nat.zero_le _, Nat.zero_le _⟩ dX10_turns__94) [0, 1, 2, 3, 4, 5, 6, 7, 8, 9, 10, 11] [] [0, 1, 2, 3, 4, 5, 6, 7, 8, 9, 10, 11] rfl rfl (by decide) (by decide) (fun _ => rfl) (by decide) (fun u16 h => ?_)
    obtain ⟨v_16, hu16⟩ : ∃ z, z = u16 := ⟨_, rfl⟩
    subst hu16
    refine z_iinc (pc := 97) (v := (x4 + 1)) (lv' := [(4, .int (x4 + 1)), (3, .int t0), (0, .ref (d 0)), (1, .int x1), (2, .int x2)]) C 4 dX10_turns__97 rfl rfl (by decide) rfl ?_
    refine z_goto (pc := 100) (tgt := 56) C dX10_turns__100 (by decide) ?_
    refine z_sub (lv' := [(0, .ref (d 0)), (1, .int x1), (2, .int x2), (3, .int t0), (4, .int (x4 + 1))]) [2, 3, 4, 1, 0] rfl ?_
    exact hK56 v_16 t0 (x4 + 1) h
  have L56 : ∀ (n56 : Nat) (v : Lf) (x3 : Int32) (x4 : Int32), pX10_turns__L56 x1 x2 Q n56 v x3 x4 → ZZ p l e rmX10_turns_ s m args below meth c D A 5 0 0 QQ 56 (wX10 cI cJ d v g) [(0, .ref (d 0)), (1, .int x1), (2, .int x2), (3, .int x3), (4, .int x4)] [] := by
    intro n56
    induction n56 with
    | zero => intro v x3 x4 h; exact False.elim h
    | succ n56 ih56 =>
      intro v x3 x4 h
      refine z_iload (pc := 56) C 4 dX10_turns__56 rfl ?_
      refine z_iload_n (pc := 58) C 2 dX10_turns__58 rfl ?_
      refine z_icmp_ge (pc := 59) (tgt := 103) C dX10_turns__59 (by decide) (fun c10 => ?_) (fun c10 => ?_)
      · have h := h.1 c10
        refine z_sub (lv' := [(0, .ref (d 0)), (3, .int x3)]) [0, 3] rfl ?_
        exact J103  v x3 h
      · have h := h.2 c10
        refine z_iload_n (pc := 62) C 3 dX10_turns__62 rfl ?_
        refine z_if_ge (pc := 63) (tgt := 103) C dX10_turns__63 (by decide) (fun c12 => ?_) (fun c12 => ?_)
        · have h := h.1 c12
          refine z_sub (lv' := [(0, .ref (d 0)), (3, .int x3)]) [0, 3] rfl ?_
          exact J103  v x3 h
        · have h := h.2 c12
          refine z_aload_n (pc := 66) C 0 dX10_turns__66 rfl ?_
          refine z_callv (pc := 67) (wr := ([] : va_W)) (w1 := fun (u : Lf) => (wX10 cI cJ d u g)) (w2 := fun (u : Lf) => (wX10 cI cJ d u g)) C (z_runV (pc := 67) (wc := (wX10 cI cJ d v g)) (As := []) C (fun sz => kX10_turns d v g sz h) [0, 1, 2, 3, 4, 5, 6, 7, 8, 9, 10, 11] rfl (by decide) (gdV wq983 wq991 wq992 wq993 wq814) rfl rfl rfl hdX10_turns 0 rfl rfl rfl ⟨Nat.le_of_ble_eq_true rfl, Nat.le_of_ble_eq_true rfl⟩ rfl (Nat.le_of_ble_eq_true rfl) ⟨Nat.zero_le _, Nat.zero_le _⟩ dX10_turns__67) [0, 1, 2, 3, 4, 5, 6, 7, 8, 9, 10, 11] [] [0, 1, 2, 3, 4, 5, 6, 7, 8, 9, 10, 11] rfl rfl (by decide) (by decide) (fun _ => rfl) (by decide) (fun u13 h => ?_)
          obtain ⟨v_13, hu13⟩ : ∃ z, z = u13 := ⟨_, rfl⟩
          subst hu13
          refine z_aload_n (pc := 70) C 0 dX10_turns__70 rfl ?_
          refine z_iload_n (pc := 71) C 1 dX10_turns__71 rfl ?_
          refine z_bipush (pc := 72) (v := 6) C dX10_turns__72 (by decide) ?_
          refine z_callRi (pc := 74) C (z_runV (pc := 74) (wc := (wX10 cI cJ d v_13 g)) (As := [.int x1, .int (6 : Int32)]) C (fun sz => kX10_at d v_13 g x1 (6 : Int32) sz h) [0, 1, 2, 3, 4, 5, 6, 7, 8, 9, 10, 11] rfl (by decide) (gdV wq808 wq811 wq812 wq813 wq814) rfl rfl rfl hdX10_at 0 rfl rfl rfl ⟨Nat.le_of_ble_eq_true rfl, Nat.le_of_ble_eq_true rfl⟩ rfl (Nat.le_of_ble_eq_true rfl) ⟨Nat.zero_le _, Nat.zero_le _⟩ dX10_turns__74) [0, 1, 2, 3, 4, 5, 6, 7, 8, 9, 10, 11] rfl (by decide) (fun r14 u14 h => ?_)
          refine z_iconst (pc := 77) (v := 1) C dX10_turns__77 (by decide) ?_
          refine z_icmp_ne (pc := 78) (tgt := 90) C dX10_turns__78 (by decide) (fun c15 => ?_) (fun c15 => ?_)
          · have h := h.1 c15
            refine z_bipush (pc := 90) (v := -5) C dX10_turns__90 (by decide) ?_
            refine z_sub (lv' := [(0, .ref (d 0)), (1, .int x1), (2, .int x2), (4, .int x4)]) [0, 1, 2, 4] rfl ?_
            exact J92 (fun v x3 x4 => pX10_turns__L56 x1 x2 Q n56 v x3 x4) ih56 v_13 x4 (-5 : Int32) h
          · have h := h.2 c15
            refine z_aload_n (pc := 81) C 0 dX10_turns__81 rfl ?_
            refine z_get (pc := 82) C uw10 0 rfl rfl 0 (by decide) wq809 rfl dX10_turns__82 ?_
            refine z_iconst (pc := 85) (v := 3) C dX10_turns__85 (by decide) ?_
            refine z_iald (pc := 86) C 1 0 rfl rfl vi_3_372 (v_13 1 3) (congrArg _ cl_3) dX10_turns__86 ?_
            refine z_goto (pc := 87) (tgt := 92) C dX10_turns__87 (by decide) ?_
            refine z_sub (lv' := [(0, .ref (d 0)), (1, .int x1), (2, .int x2), (4, .int x4)]) [0, 1, 2, 4] rfl ?_
            exact J92 (fun v x3 x4 => pX10_turns__L56 x1 x2 Q n56 v x3 x4) ih56 v_13 x4 (v_13 1 3) h
  refine z_aload_n (pc := 0) C 0 dX10_turns__0 rfl ?_
  refine z_iload_n (pc := 1) C 1 dX10_turns__1 rfl ?_
  refine z_callRi (pc := 2) C (z_runV (pc := 2) (wc := (wX10 cI cJ d v g)) (As := [.int x1]) C (fun sz => kX10_isSignal d v g x1 sz h) [0, 1, 2, 3, 4, 5, 6, 7, 8, 9, 10, 11] rfl (by decide) (gdV wq851 wq875 wq876 wq877 wq814) rfl rfl rfl hdX10_isSignal 0 rfl rfl rfl ⟨Nat.le_of_ble_eq_true rfl, Nat.le_of_ble_eq_true rfl⟩ rfl (Nat.le_of_ble_eq_true rfl) ⟨Nat.zero_le _, Nat.zero_le _⟩ dX10_turns__2) [0, 1, 2, 3, 4, 5, 6, 7, 8, 9, 10, 11] rfl (by decide) (fun r1 u1 h => ?_)
  refine z_if_ne (pc := 5) (tgt := 10) C dX10_turns__5 (by decide) (fun c2 => ?_) (fun c2 => ?_)
  · have h := h.1 c2
    refine z_iload_n (pc := 10) C 2 dX10_turns__10 rfl ?_
    refine z_iconst (pc := 11) (v := 0) C dX10_turns__11 (by decide) ?_
    refine z_bipush (pc := 12) (v := 99) C dX10_turns__12 (by decide) ?_
    refine z_call0i (pc := 14) C (z_runS (pc := 14) (wc := ([] : va_W)) (As := [.int x2, .int (0 : Int32), .int (99 : Int32)]) C (fun sz => kX10_isIn x2 (0 : Int32) (99 : Int32) sz h) [] rfl (by decide) (gdS wq849 wq852 wq853 wq814) rfl rfl rfl hdSX10_isIn ⟨Nat.le_of_ble_eq_true rfl, Nat.le_of_ble_eq_true rfl⟩ rfl (Nat.le_of_ble_eq_true rfl) ⟨Nat.zero_le _, Nat.zero_le _⟩ dX10_turns__14) (fun r3 u3 h => ?_)
    refine z_if_ne (pc := 17) (tgt := 23) C dX10_turns__17 (by decide) (fun c4 => ?_) (fun c4 => ?_)
    · have h := h.1 c4
      refine z_aload_n (pc := 23) C 0 dX10_turns__23 rfl ?_
      refine z_get (pc := 24) C uw10 0 rfl rfl 0 (by decide) wq809 rfl dX10_turns__24 ?_
      refine z_iconst (pc := 27) (v := 2) C dX10_turns__27 (by decide) ?_
      refine z_iald (pc := 28) C 1 0 rfl rfl vi_2_372 (v 1 2) (congrArg _ cl_2) dX10_turns__28 ?_
      refine z_if_ne (pc := 29) (tgt := 35) C dX10_turns__29 (by decide) (fun c6 => ?_) (fun c6 => ?_)
      · have h := h.1 c6
        refine z_aload_n (pc := 35) C 0 dX10_turns__35 rfl ?_
        refine z_iload_n (pc := 36) C 2 dX10_turns__36 rfl ?_
        refine z_calli (pc := 37) (wr := ([] : va_W)) (w1 := fun (u : Lf) => (wX10 cI cJ d u g)) (w2 := fun (u : Lf) => (wX10 cI cJ d u g)) C (z_runV (pc := 37) (wc := (wX10 cI cJ d v g)) (As := [.int x2]) C (fun sz => kX10_counts d v g x2 sz h) [0, 1, 2, 3, 4, 5, 6, 7, 8, 9, 10, 11] rfl (by decide) (gdV wq998 wq1005 wq1006 wq1007 wq814) rfl rfl rfl hdX10_counts 0 rfl rfl rfl ⟨Nat.le_of_ble_eq_true rfl, Nat.le_of_ble_eq_true rfl⟩ rfl (Nat.le_of_ble_eq_true rfl) ⟨Nat.zero_le _, Nat.zero_le _⟩ dX10_turns__37) [0, 1, 2, 3, 4, 5, 6, 7, 8, 9, 10, 11] [] [0, 1, 2, 3, 4, 5, 6, 7, 8, 9, 10, 11] rfl rfl (by decide) (by decide) (fun _ => rfl) (by decide) (fun r7 u7 h => ?_)
        obtain ⟨v_7, hu7⟩ : ∃ z, z = u7 := ⟨_, rfl⟩
        subst hu7
        refine z_if_ne (pc := 40) (tgt := 46) C dX10_turns__40 (by decide) (fun c8 => ?_) (fun c8 => ?_)
        · have h := h.1 c8
          refine z_aload_n (pc := 46) C 0 dX10_turns__46 rfl ?_
          refine z_callv (pc := 47) (wr := ([] : va_W)) (w1 := fun (u : Lf) => (wX10 cI cJ d u g)) (w2 := fun (u : Lf) => (wX10 cI cJ d u g)) C (z_runV (pc := 47) (wc := (wX10 cI cJ d v_7 g)) (As := []) C (fun sz => kX10_thinks d v_7 g sz h) [0, 1, 2, 3, 4, 5, 6, 7, 8, 9, 10, 11] rfl (by decide) (gdV wq1084 wq1088 wq1089 wq1090 wq814) rfl rfl rfl hdX10_thinks 0 rfl rfl rfl ⟨Nat.le_of_ble_eq_true rfl, Nat.le_of_ble_eq_true rfl⟩ rfl (Nat.le_of_ble_eq_true rfl) ⟨Nat.zero_le _, Nat.zero_le _⟩ dX10_turns__47) [0, 1, 2, 3, 4, 5, 6, 7, 8, 9, 10, 11] [] [0, 1, 2, 3, 4, 5, 6, 7, 8, 9, 10, 11] rfl rfl (by decide) (by decide) (fun _ => rfl) (by decide) (fun u9 h => ?_)
          obtain ⟨v_9, hu9⟩ : ∃ z, z = u9 := ⟨_, rfl⟩
          subst hu9
          refine z_bipush (pc := 50) (v := -5) C dX10_turns__50 (by decide) ?_
          refine z_istore_n (pc := 52) (lv' := [(3, .int (-5 : Int32)), (0, .ref (d 0)), (1, .int x1), (2, .int x2)]) C dX10_turns__52 (by decide) rfl ?_
          refine z_iconst (pc := 53) (v := 0) C dX10_turns__53 (by decide) ?_
          refine z_istore (pc := 54) (lv' := [(4, .int (0 : Int32)), (3, .int (-5 : Int32)), (0, .ref (d 0)), (1, .int x1), (2, .int x2)]) C dX10_turns__54 (by decide) rfl ?_
          obtain ⟨n56, h⟩ := h
          refine z_sub (lv' := [(0, .ref (d 0)), (1, .int x1), (2, .int x2), (3, .int (-5 : Int32)), (4, .int (0 : Int32))]) [2, 3, 4, 1, 0] rfl ?_
          exact L56  n56 v_9 (-5 : Int32) (0 : Int32) h
        · have h := h.2 c8
          refine z_bipush (pc := 43) (v := -4) C dX10_turns__43 (by decide) ?_
          exact hret 45 _ _ (-4 : Int32) v_7 rfl h dX10_turns__45
      · have h := h.2 c6
        refine z_bipush (pc := 32) (v := -3) C dX10_turns__32 (by decide) ?_
        exact hret 34 _ _ (-3 : Int32) v rfl h dX10_turns__34
    · have h := h.2 c4
      refine z_bipush (pc := 20) (v := -2) C dX10_turns__20 (by decide) ?_
      exact hret 22 _ _ (-2 : Int32) v rfl h dX10_turns__22
  · have h := h.2 c2
    refine z_iconst (pc := 8) (v := -1) C dX10_turns__8 (by decide) ?_
    exact hret 9 _ _ (-1 : Int32) v rfl h dX10_turns__9

def pX10_gaps_L2 (x1 : Int32) (Q : Lf → Prop) : Nat → Lf → Int32 → Prop
  | 0, _, _ => False
  | n2 + 1, v, x2 => (((v 1 13) ≤ x2 → (Q v)) ∧ (¬ (v 1 13) ≤ x2 → (pX10_puts v x2 (3 : Int32) x1 (fun v_3 => (pX10_gaps_L2 x1 Q n2 v_3 (x2 + 1))))))
def pX10_gaps (v : Lf) (x1 : Int32) (Q : Lf → Prop) : Prop := (∃ n2, pX10_gaps_L2 x1 Q  n2 v (0 : Int32))
abbrev rmX10_gaps : Room := { frames := 1, cells := 0, slots := 0, locals := 23 }
abbrev wdX10_gaps : List Cond := Cond.code yX10_gaps cX10_gaps 3 none :: TB
theorem hdSX10_gaps : (yX10_gaps).cls ≠ "java/lang/invoke/MethodHandle" ∧ (yX10_gaps).cls ≠ "java/lang/invoke/VarHandle" ∧ (parseMethodDescriptor (yX10_gaps).desc).map (fun d => d.parameters.length) = some 1 := by decide +kernel
theorem hdX10_gaps : (yX10_gaps).cls = RX10 ∧ (yX10_gaps).cls ≠ "java/lang/invoke/MethodHandle" ∧ (yX10_gaps).cls ≠ "java/lang/invoke/VarHandle" ∧ (parseMethodDescriptor (yX10_gaps).desc).map (fun d => d.parameters.length) = some 1 := ⟨rfl, hdSX10_gaps⟩
set_option maxHeartbeats 4000000 in
set_option maxRecDepth 100000 in
theorem kX10_gaps {l : Launch} {D : va_G} {cI cJ cT : ClassId} (d : Nat → Nat)  (v : Lf) (g : Lg) (x1 : Int32) {Q : Lf → Prop} (sz : Nat) (h : pX10_gaps v x1 Q) : Met l yX10_gaps wdX10_gaps rmX10_gaps (Pz D (tyL cI cJ cT) [.ref (d 0), .int x1] (wX10 cI cJ d v g) sz) (va_Qv (fun (u : Lf) => Q u) (Bz D (tyL cI cJ cT) (wX10 cI cJ d v g) sz (fun (u : Lf) => (wX10 cI cJ d u g))) (va_A (wX10 cI cJ d v g) sz)) 0 0 (va_A (wX10 cI cJ d v g) sz) := by
  refine z_metv (cc := cX10_gaps) (maxL := 3) (own := RX10) (lv0 := [(0, .ref (d 0)), (1, .int x1)]) (by decide) rfl rfl (Nat.le_of_ble_eq_true rfl) rfl ?_
  intro p e s m args below meth c A QQ C hin hret
  have L2 : ∀ (n2 : Nat) (v : Lf) (x2 : Int32), pX10_gaps_L2 x1 Q n2 v x2 → ZZ p l e rmX10_gaps s m args below meth c D A 3 0 0 QQ 2 (wX10 cI cJ d v g) [(0, .ref (d 0)), (1, .int x1), (2, .int x2)] [] := by
    intro n2
    induction n2 with
    | zero => intro v x2 h; exact False.elim h
    | succ n2 ih2 =>
      intro v x2 h
      refine z_iload_n (pc := 2) C 2 dX10_gaps_2 rfl ?_
      refine z_aload_n (pc := 3) C 0 dX10_gaps_3 rfl ?_
      refine z_get (pc := 4) C uw10 0 rfl rfl 0 (by decide) wq809 rfl dX10_gaps_4 ?_
      refine z_bipush (pc := 7) (v := 13) C dX10_gaps_7 (by decide) ?_
      refine z_iald (pc := 9) C 1 0 rfl rfl vi_13_372 (v 1 13) (congrArg _ cl_13) dX10_gaps_9 ?_
      refine z_icmp_ge (pc := 10) (tgt := 26) C dX10_gaps_10 (by decide) (fun c2 => ?_) (fun c2 => ?_)
      · have h := h.1 c2
        exact hret 26 _ _ v rfl h dX10_gaps_26
      · have h := h.2 c2
        refine z_aload_n (pc := 13) C 0 dX10_gaps_13 rfl ?_
        refine z_iload_n (pc := 14) C 2 dX10_gaps_14 rfl ?_
        refine z_iconst (pc := 15) (v := 3) C dX10_gaps_15 (by decide) ?_
        refine z_iload_n (pc := 16) C 1 dX10_gaps_16 rfl ?_
        refine z_callv (pc := 17) (wr := ([] : va_W)) (w1 := fun (u : Lf) => (wX10 cI cJ d u g)) (w2 := fun (u : Lf) => (wX10 cI cJ d u g)) C (z_runV (pc := 17) (wc := (wX10 cI cJ d v g)) (As := [.int x2, .int (3 : Int32), .int x1]) C (fun sz => kX10_puts d v g x2 (3 : Int32) x1 sz h) [0, 1, 2, 3, 4, 5, 6, 7, 8, 9, 10, 11] rfl (by decide) (gdV wq855 wq864 wq865 wq866 wq814) rfl rfl rfl hdX10_puts 0 rfl rfl rfl ⟨Nat.le_of_ble_eq_true rfl, Nat.le_of_ble_eq_true rfl⟩ rfl (Nat.le_of_ble_eq_true rfl) ⟨Nat.zero_le _, Nat.zero_le _⟩ dX10_gaps_17) [0, 1, 2, 3, 4, 5, 6, 7, 8, 9, 10, 11] [] [0, 1, 2, 3, 4, 5, 6, 7, 8, 9, 10, 11] rfl rfl (by decide) (by decide) (fun _ => rfl) (by decide) (fun u3 h => ?_)
        obtain ⟨v_3, hu3⟩ : ∃ z, z = u3 := ⟨_, rfl⟩
        subst hu3
        refine z_iinc (pc := 20) (v := (x2 + 1)) (lv' := [(2, .int (x2 + 1)), (0, .ref (d 0)), (1, .int x1)]) C 2 dX10_gaps_20 rfl rfl (by decide) rfl ?_
        refine z_goto (pc := 23) (tgt := 2) C dX10_gaps_23 (by decide) ?_
        refine z_sub (lv' := [(0, .ref (d 0)), (1, .int x1), (2, .int (x2 + 1))]) [1, 2, 0] rfl ?_
        exact ih2 v_3 (x2 + 1) h
  refine z_iconst (pc := 0) (v := 0) C dX10_gaps_0 (by decide) ?_
  refine z_istore_n (pc := 1) (lv' := [(2, .int (0 : Int32)), (0, .ref (d 0)), (1, .int x1)]) C dX10_gaps_1 (by decide) rfl ?_
  obtain ⟨n2, h⟩ := h
  refine z_sub (lv' := [(0, .ref (d 0)), (1, .int x1), (2, .int (0 : Int32))]) [1, 2, 0] rfl ?_
  exact L2  n2 v (0 : Int32) h

def pX10_best_J108 (x1 : Int32) (x2 : Int32) (Q : Int32 → Lf → Prop) (K62 : Lf → Int32 → Int32 → Int32 → Prop) (v : Lf) (x3 : Int32) (x4 : Int32) (x5 : Int32) : Prop := (pX10_forgets v (fun v_16 => (K62 v_16 x3 x4 (x5 + 1))))
def pX10_best_J96 (x1 : Int32) (x2 : Int32) (Q : Int32 → Lf → Prop) (K62 : Lf → Int32 → Int32 → Int32 → Prop) (v : Lf) (x5 : Int32) : Prop := (pX10_best_J108 x1 x2 Q K62 v x5 (v 1 7) x5)
def pX10_best_L62 (x1 : Int32) (x2 : Int32) (Q : Int32 → Lf → Prop) : Nat → Lf → Int32 → Int32 → Int32 → Prop
  | 0, _, _, _, _ => False
  | n62 + 1, v, x3, x4, x5 => (((9 : Int32) < x5 → ((¬ x2 = 0 → (Q x4 v)) ∧ (x2 = 0 → (Q x3 v)))) ∧ (¬ (9 : Int32) < x5 → (pX10_gaps v x5 (fun v_12 => (pX10_passes v_12 x1 (fun v_13 => ((x3 = 0 → (pX10_best_J96 x1 x2 Q (fun v x3 x4 x5 => pX10_best_L62 x1 x2 Q n62 v x3 x4 x5) v_13 x5)) ∧ (¬ x3 = 0 → ((x4 ≤ (v_13 1 7) → (pX10_best_J108 x1 x2 Q (fun v x3 x4 x5 => pX10_best_L62 x1 x2 Q n62 v x3 x4 x5) v_13 x3 x4 x5)) ∧ (¬ x4 ≤ (v_13 1 7) → (pX10_best_J96 x1 x2 Q (fun v x3 x4 x5 => pX10_best_L62 x1 x2 Q n62 v x3 x4 x5) v_13 x5)))))))))))
def pX10_best (v : Lf) (x1 : Int32) (x2 : Int32) (Q : Int32 → Lf → Prop) : Prop := (pX10_isIn x2 (0 : Int32) (1 : Int32) (fun r1 => ((¬ r1 = 0 → (pX10_isIn x1 (0 : Int32) (60 : Int32) (fun r3 => ((¬ r3 = 0 → ((¬ (v 1 2) = 0 → (pX10_counts v ((9 : Int32) * x1) (fun r7 v_7 => ((¬ r7 = 0 → (pX10_thinks v_7 (fun v_9 => (∃ n62, pX10_best_L62 x1 x2 Q  n62 v_9 (0 : Int32) (0 : Int32) (1 : Int32))))) ∧ (r7 = 0 → (Q (-4 : Int32) v_7)))))) ∧ ((v 1 2) = 0 → (Q (-3 : Int32) v)))) ∧ (r3 = 0 → (Q (-2 : Int32) v)))))) ∧ (r1 = 0 → (Q (-1 : Int32) v)))))
abbrev rmX10_best : Room := { frames := 6, cells := 0, slots := 0, locals := 136 }
abbrev wdX10_best : List Cond := Cond.code yX10_best cX10_best 6 (some .int) :: TB
theorem hdSX10_best : (yX10_best).cls ≠ "java/lang/invoke/MethodHandle" ∧ (yX10_best).cls ≠ "java/lang/invoke/VarHandle" ∧ (parseMethodDescriptor (yX10_best).desc).map (fun d => d.parameters.length) = some 2 := by decide +kernel
theorem hdX10_best : (yX10_best).cls = RX10 ∧ (yX10_best).cls ≠ "java/lang/invoke/MethodHandle" ∧ (yX10_best).cls ≠ "java/lang/invoke/VarHandle" ∧ (parseMethodDescriptor (yX10_best).desc).map (fun d => d.parameters.length) = some 2 := ⟨rfl, hdSX10_best⟩
set_option maxHeartbeats 4000000 in
set_option maxRecDepth 100000 in
theorem kX10_best {l : Launch} {D : va_G} {cI cJ cT : ClassId} (d : Nat → Nat)  (v : Lf) (g : Lg) (x1 : Int32) (x2 : Int32) {Q : Int32 → Lf → Prop} (sz : Nat) (h : pX10_best v x1 x2 Q) : Met l yX10_best wdX10_best rmX10_best (Pz D (tyL cI cJ cT) [.ref (d 0), .int x1, .int x2] (wX10 cI cJ d v g) sz) (va_Qi (fun (r : Int32) (u : Lf) => Q r u) (Bz D (tyL cI cJ cT) (wX10 cI cJ d v g) sz (fun (u : Lf) => (wX10 cI cJ d u g))) (va_A (wX10 cI cJ d v g) sz)) 0 0 (va_A (wX10 cI cJ d v g) sz) := by
  refine z_meti (cc := cX10_best) (maxL := 6) (own := RX10) (lv0 := [(0, .ref (d 0)), (1, .int x1), (2, .int x2)]) (by decide) rfl rfl (Nat.le_of_ble_eq_true rfl) rfl ?_
  intro p e s m args below meth c A QQ C hin hret
  have J108 : ∀ (K62 : Lf → Int32 → Int32 → Int32 → Prop), (∀ (v : Lf) (x3 : Int32) (x4 : Int32) (x5 : Int32), K62 v x3 x4 x5 → ZZ p l e rmX10_best s m args below meth c D A 6 0 0 QQ 62 (wX10 cI cJ d v g) [(0, .ref (d 0)), (1, .int x1), (2, .int x2), (3, .int x3), (4, .int x4), (5, .int x5)] []) → ∀ (v : Lf) (x3 : Int32) (x4 : Int32) (x5 : Int32), pX10_best_J108 x1 x2 Q K62 v x3 x4 x5 → ZZ p l e rmX10_best s m args below meth c D A 6 0 0 QQ 108 (wX10 cI cJ d v g) [(0, .ref (d 0)), (1, .int x1), (2, .int x2), (3, .int x3), (4, .int x4), (5, .int x5)] [] := by
    intro K62 hK62 v x3 x4 x5 h
    refine z_aload_n (pc := 108) C 0 dX10_best_108 rfl ?_
    refine z_callv (pc := 109) (wr := ([] : va_W)) (w1 := fun (u : Lf) => (wX10 cI cJ d u g)) (w2 := fun (u : Lf) => (wX10 cI cJ d u g)) C (z_runV (pc := 109) (wc := (wX10 cI cJ d v g)) (As := []) C (fun sz => kX10_forgets d v g sz h) [0, 1, 2, 3, 4, 5, 6, 7, 8, 9, 10, 11] rfl (by decide) (gdV wq1087 wq1094 wq1095 wq1096 wq814) rfl rfl rfl hdX10_forgets 0 rfl rfl rfl ⟨Nat.le_of_ble_eq_true rfl, Nat.le_of_ble_eq_true rfl⟩ rfl (Nat.le_of_ble_eq_true rfl) ⟨Nat.zero_le _, Nat.zero_le _⟩ dX10_best_109) [0, 1, 2, 3, 4, 5, 6, 7, 8, 9, 10, 11] [] [0, 1, 2, 3, 4, 5, 6, 7, 8, 9, 10, 11] rfl rfl (by decide) (by decide) (fun _ => rfl) (by decide) (fun u16 h => ?_)
    obtain ⟨v_16, hu16⟩ : ∃ z, z = u16 := ⟨_, rfl⟩
    subst hu16
    refine z_iinc (pc := 112) (v := (x5 + 1)) (lv' := [(5, .int (x5 + 1)), (0, .ref (d 0)), (1, .int x1), (2, .int x2), (3, .int x3), (4, .int x4)]) C 5 dX10_best_112 rfl rfl (by decide) rfl ?_
    refine z_goto (pc := 115) (tgt := 62) C dX10_best_115 (by decide) ?_
    refine z_sub (lv' := [(0, .ref (d 0)), (1, .int x1), (2, .int x2), (3, .int x3), (4, .int x4), (5, .int (x5 + 1))]) [1, 2, 3, 4, 5, 0] rfl ?_
    exact hK62 v_16 x3 x4 (x5 + 1) h
  have J96 : ∀ (K62 : Lf → Int32 → Int32 → Int32 → Prop), (∀ (v : Lf) (x3 : Int32) (x4 : Int32) (x5 : Int32), K62 v x3 x4 x5 → ZZ p l e rmX10_best s m args below meth c D A 6 0 0 QQ 62 (wX10 cI cJ d v g) [(0, .ref (d 0)), (1, .int x1), (2, .int x2), (3, .int x3), (4, .int x4), (5, .int x5)] []) → ∀ (v : Lf) (x5 : Int32), pX10_best_J96 x1 x2 Q K62 v x5 → ZZ p l e rmX10_best s m args below meth c D A 6 0 0 QQ 96 (wX10 cI cJ d v g) [(0, .ref (d 0)), (1, .int x1), (2, .int x2), (5, .int x5)] [] := by
    intro K62 hK62 v x5 h
    refine z_iload (pc := 96) C 3 dX10_best_96 rfl ?_
    refine z_istore_n (pc := 98) (lv' := [(3, .int x5), (0, .ref (d 0)), (1, .int x1), (2, .int x2), (5, .int x5)]) C dX10_best_98 (by decide) rfl ?_
    refine z_aload_n (pc := 99) C 1 dX10_best_99 rfl ?_
    refine z_get (pc := 100) C uw10 0 rfl rfl 0 (by decide) wq809 rfl dX10_best_100 ?_
    refine z_bipush (pc := 103) (v := 7) C dX10_best_103 (by decide) ?_
    refine z_iald (pc := 105) C 1 0 rfl rfl vi_7_372 (v 1 7) (congrArg _ cl_7) dX10_best_105 ?_
    refine z_istore (pc := 106) (lv' := [(4, .int (v 1 7)), (3, .int x5), (0, .ref (d 0)), (1, .int x1), (2, .int x2), (5, .int x5)]) C dX10_best_106 (by decide) rfl ?_
    refine z_sub (lv' := [(0, .ref (d 0)), (1, .int x1), (2, .int x2), (3, .int x5), (4, .int (v 1 7)), (5, .int x5)]) [2, 3, 4, 1, 0, 5] rfl ?_
    exact J108 K62 hK62 v x5 (v 1 7) x5 h
  have L62 : ∀ (n62 : Nat) (v : Lf) (x3 : Int32) (x4 : Int32) (x5 : Int32), pX10_best_L62 x1 x2 Q n62 v x3 x4 x5 → ZZ p l e rmX10_best s m args below meth c D A 6 0 0 QQ 62 (wX10 cI cJ d v g) [(0, .ref (d 0)), (1, .int x1), (2, .int x2), (3, .int x3), (4, .int x4), (5, .int x5)] [] := by
    intro n62
    induction n62 with
    | zero => intro v x3 x4 x5 h; exact False.elim h
    | succ n62 ih62 =>
      intro v x3 x4 x5 h
      refine z_iload (pc := 62) C 5 dX10_best_62 rfl ?_
      refine z_bipush (pc := 64) (v := 9) C dX10_best_64 (by decide) ?_
      refine z_icmp_gt (pc := 66) (tgt := 118) C dX10_best_66 (by decide) (fun c10 => ?_) (fun c10 => ?_)
      · have h := h.1 c10
        refine z_iload_n (pc := 118) C 2 dX10_best_118 rfl ?_
        refine z_if_ne (pc := 119) (tgt := 126) C dX10_best_119 (by decide) (fun c11 => ?_) (fun c11 => ?_)
        · have h := h.1 c11
          refine z_iload (pc := 126) C 4 dX10_best_126 rfl ?_
          exact hret 128 _ _ x4 v rfl h dX10_best_128
        · have h := h.2 c11
          refine z_iload_n (pc := 122) C 3 dX10_best_122 rfl ?_
          refine z_goto (pc := 123) (tgt := 128) C dX10_best_123 (by decide) ?_
          exact hret 128 _ _ x3 v rfl h dX10_best_128
      · have h := h.2 c10
        refine z_aload_n (pc := 69) C 0 dX10_best_69 rfl ?_
        refine z_iload (pc := 70) C 5 dX10_best_70 rfl ?_
        refine z_callv (pc := 72) (wr := ([] : va_W)) (w1 := fun (u : Lf) => (wX10 cI cJ d u g)) (w2 := fun (u : Lf) => (wX10 cI cJ d u g)) C (z_runV (pc := 72) (wc := (wX10 cI cJ d v g)) (As := [.int x5]) C (fun sz => kX10_gaps d v g x5 sz h) [0, 1, 2, 3, 4, 5, 6, 7, 8, 9, 10, 11] rfl (by decide) (gdV wq1099 wq1100 wq1101 wq1102 wq814) rfl rfl rfl hdX10_gaps 0 rfl rfl rfl ⟨Nat.le_of_ble_eq_true rfl, Nat.le_of_ble_eq_true rfl⟩ rfl (Nat.le_of_ble_eq_true rfl) ⟨Nat.zero_le _, Nat.zero_le _⟩ dX10_best_72) [0, 1, 2, 3, 4, 5, 6, 7, 8, 9, 10, 11] [] [0, 1, 2, 3, 4, 5, 6, 7, 8, 9, 10, 11] rfl rfl (by decide) (by decide) (fun _ => rfl) (by decide) (fun u12 h => ?_)
        obtain ⟨v_12, hu12⟩ : ∃ z, z = u12 := ⟨_, rfl⟩
        subst hu12
        refine z_aload_n (pc := 75) C 0 dX10_best_75 rfl ?_
        refine z_iload_n (pc := 76) C 1 dX10_best_76 rfl ?_
        refine z_callv (pc := 77) (wr := ([] : va_W)) (w1 := fun (u : Lf) => (wX10 cI cJ d u g)) (w2 := fun (u : Lf) => (wX10 cI cJ d u g)) C (z_runV (pc := 77) (wc := (wX10 cI cJ d v_12 g)) (As := [.int x1]) C (fun sz => kX10_passes d v_12 g x1 sz h) [0, 1, 2, 3, 4, 5, 6, 7, 8, 9, 10, 11] rfl (by decide) (gdV wq997 wq1008 wq1009 wq1010 wq814) rfl rfl rfl hdX10_passes 0 rfl rfl rfl ⟨Nat.le_of_ble_eq_true rfl, Nat.le_of_ble_eq_true rfl⟩ rfl (Nat.le_of_ble_eq_true rfl) ⟨Nat.zero_le _, Nat.zero_le _⟩ dX10_best_77) [0, 1, 2, 3, 4, 5, 6, 7, 8, 9, 10, 11] [] [0, 1, 2, 3, 4, 5, 6, 7, 8, 9, 10, 11] rfl rfl (by decide) (by decide) (fun _ => rfl) (by decide) (fun u13 h => ?_)
        obtain ⟨v_13, hu13⟩ : ∃ z, z = u13 := ⟨_, rfl⟩
        subst hu13
        refine z_iload_n (pc := 80) C 3 dX10_best_80 rfl ?_
        refine z_if_eq (pc := 81) (tgt := 96) C dX10_best_81 (by decide) (fun c14 => ?_) (fun c14 => ?_)
        · have h := h.1 c14
          refine z_sub (lv' := [(0, .ref (d 0)), (1, .int x1), (2, .int x2), (5, .int x5)]) [0, 1, 2, 5] rfl ?_
          exact J96 (fun v x3 x4 x5 => pX10_best_L62 x1 x2 Q n62 v x3 x4 x5) ih62 v_13 x5 h
        · have h := h.2 c14
          refine z_aload_n (pc := 84) C 0 dX10_best_84 rfl ?_
          refine z_get (pc := 85) C uw10 0 rfl rfl 0 (by decide) wq809 rfl dX10_best_85 ?_
          refine z_bipush (pc := 88) (v := 7) C dX10_best_88 (by decide) ?_
          refine z_iald (pc := 90) C 1 0 rfl rfl vi_7_372 (v_13 1 7) (congrArg _ cl_7) dX10_best_90 ?_
          refine z_iload (pc := 91) C 4 dX10_best_91 rfl ?_
          refine z_icmp_ge (pc := 93) (tgt := 108) C dX10_best_93 (by decide) (fun c18 => ?_) (fun c18 => ?_)
          · have h := h.1 c18
            exact J108 (fun v x3 x4 x5 => pX10_best_L62 x1 x2 Q n62 v x3 x4 x5) ih62 v_13 x3 x4 x5 h
          · have h := h.2 c18
            refine z_sub (lv' := [(0, .ref (d 0)), (1, .int x1), (2, .int x2), (5, .int x5)]) [0, 1, 2, 5] rfl ?_
            exact J96 (fun v x3 x4 x5 => pX10_best_L62 x1 x2 Q n62 v x3 x4 x5) ih62 v_13 x5 h
  refine z_iload_n (pc := 0) C 2 dX10_best_0 rfl ?_
  refine z_iconst (pc := 1) (v := 0) C dX10_best_1 (by decide) ?_
  refine z_iconst (pc := 2) (v := 1) C dX10_best_2 (by decide) ?_
  refine z_call0i (pc := 3) C (z_runS (pc := 3) (wc := ([] : va_W)) (As := [.int x2, .int (0 : Int32), .int (1 : Int32)]) C (fun sz => kX10_isIn x2 (0 : Int32) (1 : Int32) sz h) [] rfl (by decide) (gdS wq849 wq852 wq853 wq814) rfl rfl rfl hdSX10_isIn ⟨Nat.le_of_ble_eq_true rfl, Nat.le_of_ble_eq_true rfl⟩ rfl (Nat.le_of_ble_eq_true rfl) ⟨Nat.zero_le _, Nat.zero_le _⟩ dX10_best_3) (fun r1 u1 h => ?_)
  refine z_if_ne (pc := 6) (tgt := 11) C dX10_best_6 (by decide) (fun c2 => ?_) (fun c2 => ?_)
  · have h := h.1 c2
    refine z_iload_n (pc := 11) C 1 dX10_best_11 rfl ?_
    refine z_iconst (pc := 12) (v := 0) C dX10_best_12 (by decide) ?_
    refine z_bipush (pc := 13) (v := 60) C dX10_best_13 (by decide) ?_
    refine z_call0i (pc := 15) C (z_runS (pc := 15) (wc := ([] : va_W)) (As := [.int x1, .int (0 : Int32), .int (60 : Int32)]) C (fun sz => kX10_isIn x1 (0 : Int32) (60 : Int32) sz h) [] rfl (by decide) (gdS wq849 wq852 wq853 wq814) rfl rfl rfl hdSX10_isIn ⟨Nat.le_of_ble_eq_true rfl, Nat.le_of_ble_eq_true rfl⟩ rfl (Nat.le_of_ble_eq_true rfl) ⟨Nat.zero_le _, Nat.zero_le _⟩ dX10_best_15) (fun r3 u3 h => ?_)
    refine z_if_ne (pc := 18) (tgt := 24) C dX10_best_18 (by decide) (fun c4 => ?_) (fun c4 => ?_)
    · have h := h.1 c4
      refine z_aload_n (pc := 24) C 0 dX10_best_24 rfl ?_
      refine z_get (pc := 25) C uw10 0 rfl rfl 0 (by decide) wq809 rfl dX10_best_25 ?_
      refine z_iconst (pc := 28) (v := 2) C dX10_best_28 (by decide) ?_
      refine z_iald (pc := 29) C 1 0 rfl rfl vi_2_372 (v 1 2) (congrArg _ cl_2) dX10_best_29 ?_
      refine z_if_ne (pc := 30) (tgt := 36) C dX10_best_30 (by decide) (fun c6 => ?_) (fun c6 => ?_)
      · have h := h.1 c6
        refine z_aload_n (pc := 36) C 0 dX10_best_36 rfl ?_
        refine z_bipush (pc := 37) (v := 9) C dX10_best_37 (by decide) ?_
        refine z_iload_n (pc := 39) C 1 dX10_best_39 rfl ?_
        refine z_imul (pc := 40) C dX10_best_40 ?_
        refine z_calli (pc := 41) (wr := ([] : va_W)) (w1 := fun (u : Lf) => (wX10 cI cJ d u g)) (w2 := fun (u : Lf) => (wX10 cI cJ d u g)) C (z_runV (pc := 41) (wc := (wX10 cI cJ d v g)) (As := [.int ((9 : Int32) * x1)]) C (fun sz => kX10_counts d v g ((9 : Int32) * x1) sz h) [0, 1, 2, 3, 4, 5, 6, 7, 8, 9, 10, 11] rfl (by decide) (gdV wq998 wq1005 wq1006 wq1007 wq814) rfl rfl rfl hdX10_counts 0 rfl rfl rfl ⟨Nat.le_of_ble_eq_true rfl, Nat.le_of_ble_eq_true rfl⟩ rfl (Nat.le_of_ble_eq_true rfl) ⟨Nat.zero_le _, Nat.zero_le _⟩ dX10_best_41) [0, 1, 2, 3, 4, 5, 6, 7, 8, 9, 10, 11] [] [0, 1, 2, 3, 4, 5, 6, 7, 8, 9, 10, 11] rfl rfl (by decide) (by decide) (fun _ => rfl) (by decide) (fun r7 u7 h => ?_)
        obtain ⟨v_7, hu7⟩ : ∃ z, z = u7 := ⟨_, rfl⟩
        subst hu7
        refine z_if_ne (pc := 44) (tgt := 50) C dX10_best_44 (by decide) (fun c8 => ?_) (fun c8 => ?_)
        · have h := h.1 c8
          refine z_aload_n (pc := 50) C 0 dX10_best_50 rfl ?_
          refine z_callv (pc := 51) (wr := ([] : va_W)) (w1 := fun (u : Lf) => (wX10 cI cJ d u g)) (w2 := fun (u : Lf) => (wX10 cI cJ d u g)) C (z_runV (pc := 51) (wc := (wX10 cI cJ d v_7 g)) (As := []) C (fun sz => kX10_thinks d v_7 g sz h) [0, 1, 2, 3, 4, 5, 6, 7, 8, 9, 10, 11] rfl (by decide) (gdV wq1084 wq1088 wq1089 wq1090 wq814) rfl rfl rfl hdX10_thinks 0 rfl rfl rfl ⟨Nat.le_of_ble_eq_true rfl, Nat.le_of_ble_eq_true rfl⟩ rfl (Nat.le_of_ble_eq_true rfl) ⟨Nat.zero_le _, Nat.zero_le _⟩ dX10_best_51) [0, 1, 2, 3, 4, 5, 6, 7, 8, 9, 10, 11] [] [0, 1, 2, 3, 4, 5, 6, 7, 8, 9, 10, 11] rfl rfl (by decide) (by decide) (fun _ => rfl) (by decide) (fun u9 h => ?_)
          obtain ⟨v_9, hu9⟩ : ∃ z, z = u9 := ⟨_, rfl⟩
          subst hu9
          refine z_iconst (pc := 54) (v := 0) C dX10_best_54 (by decide) ?_
          refine z_istore_n (pc := 55) (lv' := [(3, .int (0 : Int32)), (0, .ref (d 0)), (1, .int x1), (2, .int x2)]) C dX10_best_55 (by decide) rfl ?_
          refine z_iconst (pc := 56) (v := 0) C dX10_best_56 (by decide) ?_
          refine z_istore (pc := 57) (lv' := [(4, .int (0 : Int32)), (3, .int (0 : Int32)), (0, .ref (d 0)), (1, .int x1), (2, .int x2)]) C dX10_best_57 (by decide) rfl ?_
          refine z_iconst (pc := 59) (v := 1) C dX10_best_59 (by decide) ?_
          refine z_istore (pc := 60) (lv' := [(5, .int (1 : Int32)), (4, .int (0 : Int32)), (3, .int (0 : Int32)), (0, .ref (d 0)), (1, .int x1), (2, .int x2)]) C dX10_best_60 (by decide) rfl ?_
          obtain ⟨n62, h⟩ := h
          refine z_sub (lv' := [(0, .ref (d 0)), (1, .int x1), (2, .int x2), (3, .int (0 : Int32)), (4, .int (0 : Int32)), (5, .int (1 : Int32))]) [3, 4, 5, 2, 1, 0] rfl ?_
          exact L62  n62 v_9 (0 : Int32) (0 : Int32) (1 : Int32) h
        · have h := h.2 c8
          refine z_bipush (pc := 47) (v := -4) C dX10_best_47 (by decide) ?_
          exact hret 49 _ _ (-4 : Int32) v_7 rfl h dX10_best_49
      · have h := h.2 c6
        refine z_bipush (pc := 33) (v := -3) C dX10_best_33 (by decide) ?_
        exact hret 35 _ _ (-3 : Int32) v rfl h dX10_best_35
    · have h := h.2 c4
      refine z_bipush (pc := 21) (v := -2) C dX10_best_21 (by decide) ?_
      exact hret 23 _ _ (-2 : Int32) v rfl h dX10_best_23
  · have h := h.2 c2
    refine z_iconst (pc := 9) (v := -1) C dX10_best_9 (by decide) ?_
    exact hret 10 _ _ (-1 : Int32) v rfl h dX10_best_10

def pX10_note (v : Lf) (x1 : Int32) (x2 : Int32) (Q : Int32 → Lf → Prop) : Prop := ((¬ x1 = (-1 : Int32) → (pX10_isIn x1 (0 : Int32) (99999 : Int32) (fun r2 => ((r2 = 0 → (Q (-2 : Int32) v)) ∧ (¬ r2 = 0 → (pX10_isIn x2 (0 : Int32) (255 : Int32) (fun r4 => ((¬ r4 = 0 → ((¬ (v 1 19) = (5 : Int32) → (vp_in ((345 : Int32) + ((2 : Int32) * (v 1 19))) 372 ∧ (vp_in (((345 : Int32) + ((2 : Int32) * ((st v 1 (((345 : Int32) + ((2 : Int32) * (v 1 19))).toNatClampNeg) x1) 1 19))) + (1 : Int32)) 372 ∧ (Q ((st (st (st v 1 (((345 : Int32) + ((2 : Int32) * (v 1 19))).toNatClampNeg) x1) 1 ((((345 : Int32) + ((2 : Int32) * ((st v 1 (((345 : Int32) + ((2 : Int32) * (v 1 19))).toNatClampNeg) x1) 1 19))) + (1 : Int32)).toNatClampNeg) x2) 1 19 (((st (st v 1 (((345 : Int32) + ((2 : Int32) * (v 1 19))).toNatClampNeg) x1) 1 ((((345 : Int32) + ((2 : Int32) * ((st v 1 (((345 : Int32) + ((2 : Int32) * (v 1 19))).toNatClampNeg) x1) 1 19))) + (1 : Int32)).toNatClampNeg) x2) 1 19) + (1 : Int32))) 1 19) (st (st (st v 1 (((345 : Int32) + ((2 : Int32) * (v 1 19))).toNatClampNeg) x1) 1 ((((345 : Int32) + ((2 : Int32) * ((st v 1 (((345 : Int32) + ((2 : Int32) * (v 1 19))).toNatClampNeg) x1) 1 19))) + (1 : Int32)).toNatClampNeg) x2) 1 19 (((st (st v 1 (((345 : Int32) + ((2 : Int32) * (v 1 19))).toNatClampNeg) x1) 1 ((((345 : Int32) + ((2 : Int32) * ((st v 1 (((345 : Int32) + ((2 : Int32) * (v 1 19))).toNatClampNeg) x1) 1 19))) + (1 : Int32)).toNatClampNeg) x2) 1 19) + (1 : Int32))))))) ∧ ((v 1 19) = (5 : Int32) → (Q (-4 : Int32) v)))) ∧ (r4 = 0 → (Q (-2 : Int32) v)))))))))) ∧ (x1 = (-1 : Int32) → (Q (0 : Int32) (st v 1 19 (0 : Int32)))))
abbrev rmX10_note : Room := { frames := 1, cells := 0, slots := 0, locals := 22 }
abbrev wdX10_note : List Cond := Cond.code yX10_note cX10_note 3 (some .int) :: TB
theorem hdSX10_note : (yX10_note).cls ≠ "java/lang/invoke/MethodHandle" ∧ (yX10_note).cls ≠ "java/lang/invoke/VarHandle" ∧ (parseMethodDescriptor (yX10_note).desc).map (fun d => d.parameters.length) = some 2 := by decide +kernel
theorem hdX10_note : (yX10_note).cls = RX10 ∧ (yX10_note).cls ≠ "java/lang/invoke/MethodHandle" ∧ (yX10_note).cls ≠ "java/lang/invoke/VarHandle" ∧ (parseMethodDescriptor (yX10_note).desc).map (fun d => d.parameters.length) = some 2 := ⟨rfl, hdSX10_note⟩
set_option maxHeartbeats 4000000 in
set_option maxRecDepth 100000 in
theorem kX10_note {l : Launch} {D : va_G} {cI cJ cT : ClassId} (d : Nat → Nat)  (v : Lf) (g : Lg) (x1 : Int32) (x2 : Int32) {Q : Int32 → Lf → Prop} (sz : Nat) (h : pX10_note v x1 x2 Q) : Met l yX10_note wdX10_note rmX10_note (Pz D (tyL cI cJ cT) [.ref (d 0), .int x1, .int x2] (wX10 cI cJ d v g) sz) (va_Qi (fun (r : Int32) (u : Lf) => Q r u) (Bz D (tyL cI cJ cT) (wX10 cI cJ d v g) sz (fun (u : Lf) => (wX10 cI cJ d u g))) (va_A (wX10 cI cJ d v g) sz)) 0 0 (va_A (wX10 cI cJ d v g) sz) := by
  refine z_meti (cc := cX10_note) (maxL := 3) (own := RX10) (lv0 := [(0, .ref (d 0)), (1, .int x1), (2, .int x2)]) (by decide) rfl rfl (Nat.le_of_ble_eq_true rfl) rfl ?_
  intro p e s m args below meth c A QQ C hin hret
  refine z_iload_n (pc := 0) C 1 dX10_note_0 rfl ?_
  refine z_iconst (pc := 1) (v := -1) C dX10_note_1 (by decide) ?_
  refine z_icmp_ne (pc := 2) (tgt := 15) C dX10_note_2 (by decide) (fun c1 => ?_) (fun c1 => ?_)
  · have h := h.1 c1
    refine z_iload_n (pc := 15) C 1 dX10_note_15 rfl ?_
    refine z_iconst (pc := 16) (v := 0) C dX10_note_16 (by decide) ?_
    refine z_ldcw (pc := 17) C wq1105 dX10_note_17 ?_
    refine z_call0i (pc := 20) C (z_runS (pc := 20) (wc := ([] : va_W)) (As := [.int x1, .int (0 : Int32), .int (99999 : Int32)]) C (fun sz => kX10_isIn x1 (0 : Int32) (99999 : Int32) sz h) [] rfl (by decide) (gdS wq849 wq852 wq853 wq814) rfl rfl rfl hdSX10_isIn ⟨Nat.le_of_ble_eq_true rfl, Nat.le_of_ble_eq_true rfl⟩ rfl (Nat.le_of_ble_eq_true rfl) ⟨Nat.zero_le _, Nat.zero_le _⟩ dX10_note_20) (fun r2 u2 h => ?_)
    refine z_if_eq (pc := 23) (tgt := 37) C dX10_note_23 (by decide) (fun c3 => ?_) (fun c3 => ?_)
    · have h := h.1 c3
      refine z_bipush (pc := 37) (v := -2) C dX10_note_37 (by decide) ?_
      exact hret 39 _ _ (-2 : Int32) v rfl h dX10_note_39
    · have h := h.2 c3
      refine z_iload_n (pc := 26) C 2 dX10_note_26 rfl ?_
      refine z_iconst (pc := 27) (v := 0) C dX10_note_27 (by decide) ?_
      refine z_sipush (pc := 28) (v := 255) C dX10_note_28 (by decide) ?_
      refine z_call0i (pc := 31) C (z_runS (pc := 31) (wc := ([] : va_W)) (As := [.int x2, .int (0 : Int32), .int (255 : Int32)]) C (fun sz => kX10_isIn x2 (0 : Int32) (255 : Int32) sz h) [] rfl (by decide) (gdS wq849 wq852 wq853 wq814) rfl rfl rfl hdSX10_isIn ⟨Nat.le_of_ble_eq_true rfl, Nat.le_of_ble_eq_true rfl⟩ rfl (Nat.le_of_ble_eq_true rfl) ⟨Nat.zero_le _, Nat.zero_le _⟩ dX10_note_31) (fun r4 u4 h => ?_)
      refine z_if_ne (pc := 34) (tgt := 40) C dX10_note_34 (by decide) (fun c5 => ?_) (fun c5 => ?_)
      · have h := h.1 c5
        refine z_aload_n (pc := 40) C 0 dX10_note_40 rfl ?_
        refine z_get (pc := 41) C uw10 0 rfl rfl 0 (by decide) wq809 rfl dX10_note_41 ?_
        refine z_bipush (pc := 44) (v := 19) C dX10_note_44 (by decide) ?_
        refine z_iald (pc := 46) C 1 0 rfl rfl vi_19_372 (v 1 19) (congrArg _ cl_19) dX10_note_46 ?_
        refine z_iconst (pc := 47) (v := 5) C dX10_note_47 (by decide) ?_
        refine z_icmp_ne (pc := 48) (tgt := 54) C dX10_note_48 (by decide) (fun c7 => ?_) (fun c7 => ?_)
        · have h := h.1 c7
          refine z_aload_n (pc := 54) C 0 dX10_note_54 rfl ?_
          refine z_get (pc := 55) C uw10 0 rfl rfl 0 (by decide) wq809 rfl dX10_note_55 ?_
          refine z_sipush (pc := 58) (v := 345) C dX10_note_58 (by decide) ?_
          refine z_iconst (pc := 61) (v := 2) C dX10_note_61 (by decide) ?_
          refine z_aload_n (pc := 62) C 0 dX10_note_62 rfl ?_
          refine z_get (pc := 63) C uw10 0 rfl rfl 0 (by decide) wq809 rfl dX10_note_63 ?_
          refine z_bipush (pc := 66) (v := 19) C dX10_note_66 (by decide) ?_
          refine z_iald (pc := 68) C 1 0 rfl rfl vi_19_372 (v 1 19) (congrArg _ cl_19) dX10_note_68 ?_
          refine z_imul (pc := 69) C dX10_note_69 ?_
          refine z_iadd (pc := 70) C dX10_note_70 ?_
          refine z_iload_n (pc := 71) C 1 dX10_note_71 rfl ?_
          obtain ⟨g9, h⟩ := h
          refine z_iast (pc := 72) (ws' := (wX10 cI cJ d (st v 1 (((345 : Int32) + ((2 : Int32) * (v 1 19))).toNatClampNeg) x1) g)) C 1 0 rfl rfl g9 dX10_note_72 rfl sX10_a1 ?_
          refine z_aload_n (pc := 73) C 0 dX10_note_73 rfl ?_
          refine z_get (pc := 74) C uw10 0 rfl rfl 0 (by decide) wq809 rfl dX10_note_74 ?_
          refine z_sipush (pc := 77) (v := 345) C dX10_note_77 (by decide) ?_
          refine z_iconst (pc := 80) (v := 2) C dX10_note_80 (by decide) ?_
          refine z_aload_n (pc := 81) C 0 dX10_note_81 rfl ?_
          refine z_get (pc := 82) C uw10 0 rfl rfl 0 (by decide) wq809 rfl dX10_note_82 ?_
          refine z_bipush (pc := 85) (v := 19) C dX10_note_85 (by decide) ?_
          refine z_iald (pc := 87) C 1 0 rfl rfl vi_19_372 ((st v 1 (((345 : Int32) + ((2 : Int32) * (v 1 19))).toNatClampNeg) x1) 1 19) (congrArg _ cl_19) dX10_note_87 ?_
          refine z_imul (pc := 88) C dX10_note_88 ?_
          refine z_iadd (pc := 89) C dX10_note_89 ?_
          refine z_iconst (pc := 90) (v := 1) C dX10_note_90 (by decide) ?_
          refine z_iadd (pc := 91) C dX10_note_91 ?_
          refine z_iload_n (pc := 92) C 2 dX10_note_92 rfl ?_
          obtain ⟨g11, h⟩ := h
          refine z_iast (pc := 93) (ws' := (wX10 cI cJ d (st (st v 1 (((345 : Int32) + ((2 : Int32) * (v 1 19))).toNatClampNeg) x1) 1 ((((345 : Int32) + ((2 : Int32) * ((st v 1 (((345 : Int32) + ((2 : Int32) * (v 1 19))).toNatClampNeg) x1) 1 19))) + (1 : Int32)).toNatClampNeg) x2) g)) C 1 0 rfl rfl g11 dX10_note_93 rfl sX10_a1 ?_
          refine z_aload_n (pc := 94) C 0 dX10_note_94 rfl ?_
          refine z_get (pc := 95) C uw10 0 rfl rfl 0 (by decide) wq809 rfl dX10_note_95 ?_
          refine z_bipush (pc := 98) (v := 19) C dX10_note_98 (by decide) ?_
          refine z_dup2 (pc := 100) C dX10_note_100 rfl rfl ?_
          refine z_iald (pc := 101) C 1 0 rfl rfl vi_19_372 ((st (st v 1 (((345 : Int32) + ((2 : Int32) * (v 1 19))).toNatClampNeg) x1) 1 ((((345 : Int32) + ((2 : Int32) * ((st v 1 (((345 : Int32) + ((2 : Int32) * (v 1 19))).toNatClampNeg) x1) 1 19))) + (1 : Int32)).toNatClampNeg) x2) 1 19) (congrArg _ cl_19) dX10_note_101 ?_
          refine z_iconst (pc := 102) (v := 1) C dX10_note_102 (by decide) ?_
          refine z_iadd (pc := 103) C dX10_note_103 ?_
          refine z_iast (pc := 104) (ws' := (wX10 cI cJ d (st (st (st v 1 (((345 : Int32) + ((2 : Int32) * (v 1 19))).toNatClampNeg) x1) 1 ((((345 : Int32) + ((2 : Int32) * ((st v 1 (((345 : Int32) + ((2 : Int32) * (v 1 19))).toNatClampNeg) x1) 1 19))) + (1 : Int32)).toNatClampNeg) x2) 1 19 (((st (st v 1 (((345 : Int32) + ((2 : Int32) * (v 1 19))).toNatClampNeg) x1) 1 ((((345 : Int32) + ((2 : Int32) * ((st v 1 (((345 : Int32) + ((2 : Int32) * (v 1 19))).toNatClampNeg) x1) 1 19))) + (1 : Int32)).toNatClampNeg) x2) 1 19) + (1 : Int32))) g)) C 1 0 rfl rfl vi_19_372 dX10_note_104 cl_19 sX10_a1 ?_
          refine z_aload_n (pc := 105) C 0 dX10_note_105 rfl ?_
          refine z_get (pc := 106) C uw10 0 rfl rfl 0 (by decide) wq809 rfl dX10_note_106 ?_
          refine z_bipush (pc := 109) (v := 19) C dX10_note_109 (by decide) ?_
          refine z_iald (pc := 111) C 1 0 rfl rfl vi_19_372 ((st (st (st v 1 (((345 : Int32) + ((2 : Int32) * (v 1 19))).toNatClampNeg) x1) 1 ((((345 : Int32) + ((2 : Int32) * ((st v 1 (((345 : Int32) + ((2 : Int32) * (v 1 19))).toNatClampNeg) x1) 1 19))) + (1 : Int32)).toNatClampNeg) x2) 1 19 (((st (st v 1 (((345 : Int32) + ((2 : Int32) * (v 1 19))).toNatClampNeg) x1) 1 ((((345 : Int32) + ((2 : Int32) * ((st v 1 (((345 : Int32) + ((2 : Int32) * (v 1 19))).toNatClampNeg) x1) 1 19))) + (1 : Int32)).toNatClampNeg) x2) 1 19) + (1 : Int32))) 1 19) (congrArg _ cl_19) dX10_note_111 ?_
          exact hret 112 _ _ ((st (st (st v 1 (((345 : Int32) + ((2 : Int32) * (v 1 19))).toNatClampNeg) x1) 1 ((((345 : Int32) + ((2 : Int32) * ((st v 1 (((345 : Int32) + ((2 : Int32) * (v 1 19))).toNatClampNeg) x1) 1 19))) + (1 : Int32)).toNatClampNeg) x2) 1 19 (((st (st v 1 (((345 : Int32) + ((2 : Int32) * (v 1 19))).toNatClampNeg) x1) 1 ((((345 : Int32) + ((2 : Int32) * ((st v 1 (((345 : Int32) + ((2 : Int32) * (v 1 19))).toNatClampNeg) x1) 1 19))) + (1 : Int32)).toNatClampNeg) x2) 1 19) + (1 : Int32))) 1 19) (st (st (st v 1 (((345 : Int32) + ((2 : Int32) * (v 1 19))).toNatClampNeg) x1) 1 ((((345 : Int32) + ((2 : Int32) * ((st v 1 (((345 : Int32) + ((2 : Int32) * (v 1 19))).toNatClampNeg) x1) 1 19))) + (1 : Int32)).toNatClampNeg) x2) 1 19 (((st (st v 1 (((345 : Int32) + ((2 : Int32) * (v 1 19))).toNatClampNeg) x1) 1 ((((345 : Int32) + ((2 : Int32) * ((st v 1 (((345 : Int32) + ((2 : Int32) * (v 1 19))).toNatClampNeg) x1) 1 19))) + (1 : Int32)).toNatClampNeg) x2) 1 19) + (1 : Int32))) rfl h dX10_note_112
        · have h := h.2 c7
          refine z_bipush (pc := 51) (v := -4) C dX10_note_51 (by decide) ?_
          exact hret 53 _ _ (-4 : Int32) v rfl h dX10_note_53
      · have h := h.2 c5
        refine z_bipush (pc := 37) (v := -2) C dX10_note_37 (by decide) ?_
        exact hret 39 _ _ (-2 : Int32) v rfl h dX10_note_39
  · have h := h.2 c1
    refine z_aload_n (pc := 5) C 0 dX10_note_5 rfl ?_
    refine z_get (pc := 6) C uw10 0 rfl rfl 0 (by decide) wq809 rfl dX10_note_6 ?_
    refine z_bipush (pc := 9) (v := 19) C dX10_note_9 (by decide) ?_
    refine z_iconst (pc := 11) (v := 0) C dX10_note_11 (by decide) ?_
    refine z_iast (pc := 12) (ws' := (wX10 cI cJ d (st v 1 19 (0 : Int32)) g)) C 1 0 rfl rfl vi_19_372 dX10_note_12 cl_19 sX10_a1 ?_
    refine z_iconst (pc := 13) (v := 0) C dX10_note_13 (by decide) ?_
    exact hret 14 _ _ (0 : Int32) (st v 1 19 (0 : Int32)) rfl h dX10_note_14

def pX10_notesSo_J83 (Q : Int32 → Lf → Prop) (K4 : Lf → Int32 → Int32 → Prop) (K25 : Lf → Int32 → Int32 → Int32 → Int32 → Prop) (v : Lf) (x2 : Int32) (x3 : Int32) (x4 : Int32) (t0 : Int32) (t1 : Int32) : Prop := (K25 v (t0 + t1) x2 x3 (x4 + 1))
def pX10_notesSo_J82 (Q : Int32 → Lf → Prop) (K4 : Lf → Int32 → Int32 → Prop) (K25 : Lf → Int32 → Int32 → Int32 → Int32 → Prop) (v : Lf) (x2 : Int32) (x3 : Int32) (x4 : Int32) (t0 : Int32) : Prop := (pX10_notesSo_J83  Q K4 K25 v x2 x3 x4 t0 (0 : Int32))
def pX10_notesSo_L25 (Q : Int32 → Lf → Prop) (K4 : Lf → Int32 → Int32 → Prop) : Nat → Lf → Int32 → Int32 → Int32 → Int32 → Prop
  | 0, _, _, _, _, _ => False
  | n25 + 1, v, x1, x2, x3, x4 => (((v 1 19) ≤ x4 → (K4 v x1 (x2 + 1))) ∧ (¬ (v 1 19) ≤ x4 → (vp_in ((345 : Int32) + ((2 : Int32) * x4)) 372 ∧ ((¬ (v 1 ((345 : Int32) + ((2 : Int32) * x4)).toNatClampNeg) = x3 → (pX10_notesSo_J82  Q K4 (fun v x1 x2 x3 x4 => pX10_notesSo_L25 Q K4 n25 v x1 x2 x3 x4) v x2 x3 x4 x1)) ∧ ((v 1 ((345 : Int32) + ((2 : Int32) * x4)).toNatClampNeg) = x3 → (vp_in (((345 : Int32) + ((2 : Int32) * x4)) + (1 : Int32)) 372 ∧ (pX10_lights v (2 : Int32) (fun r9 => ((¬ (v 1 (((345 : Int32) + ((2 : Int32) * x4)) + (1 : Int32)).toNatClampNeg) = r9 → (pX10_notesSo_J82  Q K4 (fun v x1 x2 x3 x4 => pX10_notesSo_L25 Q K4 n25 v x1 x2 x3 x4) v x2 x3 x4 x1)) ∧ ((v 1 (((345 : Int32) + ((2 : Int32) * x4)) + (1 : Int32)).toNatClampNeg) = r9 → (pX10_notesSo_J83  Q K4 (fun v x1 x2 x3 x4 => pX10_notesSo_L25 Q K4 n25 v x1 x2 x3 x4) v x2 x3 x4 x1 (1 : Int32))))))))))))
def pX10_notesSo_L4 (Q : Int32 → Lf → Prop) : Nat → Lf → Int32 → Int32 → Prop
  | 0, _, _, _ => False
  | n4 + 1, v, x1, x2 => (((60 : Int32) ≤ x2 → (Q x1 v)) ∧ (¬ (60 : Int32) ≤ x2 → (pX10_passes v (1 : Int32) (fun v_3 => (∃ n25, pX10_notesSo_L25  Q (fun v x1 x2 => pX10_notesSo_L4 Q n4 v x1 x2) n25 v_3 x1 x2 (v 1 3) (0 : Int32))))))
def pX10_notesSo (v : Lf)  (Q : Int32 → Lf → Prop) : Prop := (∃ n4, pX10_notesSo_L4  Q  n4 v (0 : Int32) (0 : Int32))
abbrev rmX10_notesSo : Room := { frames := 6, cells := 0, slots := 0, locals := 136 }
abbrev wdX10_notesSo : List Cond := Cond.code yX10_notesSo cX10_notesSo 5 (some .int) :: TB
theorem hdSX10_notesSo : (yX10_notesSo).cls ≠ "java/lang/invoke/MethodHandle" ∧ (yX10_notesSo).cls ≠ "java/lang/invoke/VarHandle" ∧ (parseMethodDescriptor (yX10_notesSo).desc).map (fun d => d.parameters.length) = some 0 := by decide +kernel
theorem hdX10_notesSo : (yX10_notesSo).cls = RX10 ∧ (yX10_notesSo).cls ≠ "java/lang/invoke/MethodHandle" ∧ (yX10_notesSo).cls ≠ "java/lang/invoke/VarHandle" ∧ (parseMethodDescriptor (yX10_notesSo).desc).map (fun d => d.parameters.length) = some 0 := ⟨rfl, hdSX10_notesSo⟩
set_option maxHeartbeats 4000000 in
set_option maxRecDepth 100000 in
theorem kX10_notesSo {l : Launch} {D : va_G} {cI cJ cT : ClassId} (d : Nat → Nat)  (v : Lf) (g : Lg)  {Q : Int32 → Lf → Prop} (sz : Nat) (h : pX10_notesSo v Q) : Met l yX10_notesSo wdX10_notesSo rmX10_notesSo (Pz D (tyL cI cJ cT) [.ref (d 0)] (wX10 cI cJ d v g) sz) (va_Qi (fun (r : Int32) (u : Lf) => Q r u) (Bz D (tyL cI cJ cT) (wX10 cI cJ d v g) sz (fun (u : Lf) => (wX10 cI cJ d u g))) (va_A (wX10 cI cJ d v g) sz)) 0 0 (va_A (wX10 cI cJ d v g) sz) := by
  refine z_meti (cc := cX10_notesSo) (maxL := 5) (own := RX10) (lv0 := [(0, .ref (d 0))]) (by decide) rfl rfl (Nat.le_of_ble_eq_true rfl) rfl ?_
  intro p e s m args below meth c A QQ C hin hret
  have J83 : ∀ (K4 : Lf → Int32 → Int32 → Prop), (∀ (v : Lf) (x1 : Int32) (x2 : Int32), K4 v x1 x2 → ZZ p l e rmX10_notesSo s m args below meth c D A 5 0 0 QQ 4 (wX10 cI cJ d v g) [(0, .ref (d 0)), (1, .int x1), (2, .int x2)] []) → ∀ (K25 : Lf → Int32 → Int32 → Int32 → Int32 → Prop), (∀ (v : Lf) (x1 : Int32) (x2 : Int32) (x3 : Int32) (x4 : Int32), K25 v x1 x2 x3 x4 → ZZ p l e rmX10_notesSo s m args below meth c D A 5 0 0 QQ 25 (wX10 cI cJ d v g) [(0, .ref (d 0)), (1, .int x1), (2, .int x2), (3, .int x3), (4, .int x4)] []) → ∀ (v : Lf) (x2 : Int32) (x3 : Int32) (x4 : Int32) (t0 : Int32) (t1 : Int32), pX10_notesSo_J83 Q K4 K25 v x2 x3 x4 t0 t1 → ZZ p l e rmX10_notesSo s m args below meth c D A 5 0 0 QQ 83 (wX10 cI cJ d v g) [(0, .ref (d 0)), (2, .int x2), (3, .int x3), (4, .int x4)] [.int t1, .int t0] := by
    intro K4 hK4 K25 hK25 v x2 x3 x4 t0 t1 h
    refine z_iadd (pc := 83) C dX10_notesSo_83 ?_
    refine z_istore_n (pc := 84) (lv' := [(1, .int (t0 + t1)), (0, .ref (d 0)), (2, .int x2), (3, .int x3), (4, .int x4)]) C dX10_notesSo_84 (by decide) rfl ?_
    refine z_iinc (pc := 85) (v := (x4 + 1)) (lv' := [(4, .int (x4 + 1)), (1, .int (t0 + t1)), (0, .ref (d 0)), (2, .int x2), (3, .int x3)]) C 4 dX10_notesSo_85 rfl rfl (by decide) rfl ?_
    refine z_goto (pc := 88) (tgt := 25) C dX10_notesSo_88 (by decide) ?_
    refine z_sub (lv' := [(0, .ref (d 0)), (1, .int (t0 + t1)), (2, .int x2), (3, .int x3), (4, .int (x4 + 1))]) [2, 1, 3, 4, 0] rfl ?_
    exact hK25 v (t0 + t1) x2 x3 (x4 + 1) h
  have J82 : ∀ (K4 : Lf → Int32 → Int32 → Prop), (∀ (v : Lf) (x1 : Int32) (x2 : Int32), K4 v x1 x2 → ZZ p l e rmX10_notesSo s m args below meth c D A 5 0 0 QQ 4 (wX10 cI cJ d v g) [(0, .ref (d 0)), (1, .int x1), (2, .int x2)] []) → ∀ (K25 : Lf → Int32 → Int32 → Int32 → Int32 → Prop), (∀ (v : Lf) (x1 : Int32) (x2 : Int32) (x3 : Int32) (x4 : Int32), K25 v x1 x2 x3 x4 → ZZ p l e rmX10_notesSo s m args below meth c D A 5 0 0 QQ 25 (wX10 cI cJ d v g) [(0, .ref (d 0)), (1, .int x1), (2, .int x2), (3, .int x3), (4, .int x4)] []) → ∀ (v : Lf) (x2 : Int32) (x3 : Int32) (x4 : Int32) (t0 : Int32), pX10_notesSo_J82 Q K4 K25 v x2 x3 x4 t0 → ZZ p l e rmX10_notesSo s m args below meth c D A 5 0 0 QQ 82 (wX10 cI cJ d v g) [(0, .ref (d 0)), (2, .int x2), (3, .int x3), (4, .int x4)] [.int t0] := by
    intro K4 hK4 K25 hK25 v x2 x3 x4 t0 h
    refine z_iconst (pc := 82) (v := 0) C dX10_notesSo_82 (by decide) ?_
    exact J83 K4 hK4 K25 hK25 v x2 x3 x4 t0 (0 : Int32) h
  have L25 : ∀ (K4 : Lf → Int32 → Int32 → Prop), (∀ (v : Lf) (x1 : Int32) (x2 : Int32), K4 v x1 x2 → ZZ p l e rmX10_notesSo s m args below meth c D A 5 0 0 QQ 4 (wX10 cI cJ d v g) [(0, .ref (d 0)), (1, .int x1), (2, .int x2)] []) → ∀ (n25 : Nat) (v : Lf) (x1 : Int32) (x2 : Int32) (x3 : Int32) (x4 : Int32), pX10_notesSo_L25 Q K4 n25 v x1 x2 x3 x4 → ZZ p l e rmX10_notesSo s m args below meth c D A 5 0 0 QQ 25 (wX10 cI cJ d v g) [(0, .ref (d 0)), (1, .int x1), (2, .int x2), (3, .int x3), (4, .int x4)] [] := by
    intro K4 hK4
    intro n25
    induction n25 with
    | zero => intro v x1 x2 x3 x4 h; exact False.elim h
    | succ n25 ih25 =>
      intro v x1 x2 x3 x4 h
      refine z_iload (pc := 25) C 4 dX10_notesSo_25 rfl ?_
      refine z_aload_n (pc := 27) C 0 dX10_notesSo_27 rfl ?_
      refine z_get (pc := 28) C uw10 0 rfl rfl 0 (by decide) wq809 rfl dX10_notesSo_28 ?_
      refine z_bipush (pc := 31) (v := 19) C dX10_notesSo_31 (by decide) ?_
      refine z_iald (pc := 33) C 1 0 rfl rfl vi_19_372 (v 1 19) (congrArg _ cl_19) dX10_notesSo_33 ?_
      refine z_icmp_ge (pc := 34) (tgt := 91) C dX10_notesSo_34 (by decide) (fun c5 => ?_) (fun c5 => ?_)
      · have h := h.1 c5
        refine z_iinc (pc := 91) (v := (x2 + 1)) (lv' := [(2, .int (x2 + 1)), (0, .ref (d 0)), (1, .int x1), (3, .int x3), (4, .int x4)]) C 2 dX10_notesSo_91 rfl rfl (by decide) rfl ?_
        refine z_goto (pc := 94) (tgt := 4) C dX10_notesSo_94 (by decide) ?_
        refine z_sub (lv' := [(0, .ref (d 0)), (1, .int x1), (2, .int (x2 + 1))]) [1, 2, 0] rfl ?_
        exact hK4 v x1 (x2 + 1) h
      · have h := h.2 c5
        refine z_iload_n (pc := 37) C 1 dX10_notesSo_37 rfl ?_
        refine z_aload_n (pc := 38) C 0 dX10_notesSo_38 rfl ?_
        refine z_get (pc := 39) C uw10 0 rfl rfl 0 (by decide) wq809 rfl dX10_notesSo_39 ?_
        refine z_sipush (pc := 42) (v := 345) C dX10_notesSo_42 (by decide) ?_
        refine z_iconst (pc := 45) (v := 2) C dX10_notesSo_45 (by decide) ?_
        refine z_iload (pc := 46) C 4 dX10_notesSo_46 rfl ?_
        refine z_imul (pc := 48) C dX10_notesSo_48 ?_
        refine z_iadd (pc := 49) C dX10_notesSo_49 ?_
        obtain ⟨g6, h⟩ := h
        refine z_iald (pc := 50) C 1 0 rfl rfl g6 (v 1 ((345 : Int32) + ((2 : Int32) * x4)).toNatClampNeg) rfl dX10_notesSo_50 ?_
        refine z_iload_n (pc := 51) C 3 dX10_notesSo_51 rfl ?_
        refine z_icmp_ne (pc := 52) (tgt := 82) C dX10_notesSo_52 (by decide) (fun c7 => ?_) (fun c7 => ?_)
        · have h := h.1 c7
          refine z_sub (lv' := [(0, .ref (d 0)), (2, .int x2), (3, .int x3), (4, .int x4)]) [0, 2, 3, 4] rfl ?_
          exact J82 K4 hK4 (fun v x1 x2 x3 x4 => pX10_notesSo_L25 Q K4 n25 v x1 x2 x3 x4) ih25 v x2 x3 x4 x1 h
        · have h := h.2 c7
          refine z_aload_n (pc := 55) C 0 dX10_notesSo_55 rfl ?_
          refine z_get (pc := 56) C uw10 0 rfl rfl 0 (by decide) wq809 rfl dX10_notesSo_56 ?_
          refine z_sipush (pc := 59) (v := 345) C dX10_notesSo_59 (by decide) ?_
          refine z_iconst (pc := 62) (v := 2) C dX10_notesSo_62 (by decide) ?_
          refine z_iload (pc := 63) C 4 dX10_notesSo_63 rfl ?_
          refine z_imul (pc := 65) C dX10_notesSo_65 ?_
          refine z_iadd (pc := 66) C dX10_notesSo_66 ?_
          refine z_iconst (pc := 67) (v := 1) C dX10_notesSo_67 (by decide) ?_
          refine z_iadd (pc := 68) C dX10_notesSo_68 ?_
          obtain ⟨g8, h⟩ := h
          refine z_iald (pc := 69) C 1 0 rfl rfl g8 (v 1 (((345 : Int32) + ((2 : Int32) * x4)) + (1 : Int32)).toNatClampNeg) rfl dX10_notesSo_69 ?_
          refine z_aload_n (pc := 70) C 0 dX10_notesSo_70 rfl ?_
          refine z_iconst (pc := 71) (v := 2) C dX10_notesSo_71 (by decide) ?_
          refine z_callRi (pc := 72) C (z_runV (pc := 72) (wc := (wX10 cI cJ d v g)) (As := [.int (2 : Int32)]) C (fun sz => kX10_lights d v g (2 : Int32) sz h) [0, 1, 2, 3, 4, 5, 6, 7, 8, 9, 10, 11] rfl (by decide) (gdV wq1013 wq1017 wq1018 wq1019 wq814) rfl rfl rfl hdX10_lights 0 rfl rfl rfl ⟨Nat.le_of_ble_eq_true rfl, Nat.le_of_ble_eq_true rfl⟩ rfl (Nat.le_of_ble_eq_true rfl) ⟨Nat.zero_le _, Nat.zero_le _⟩ dX10_notesSo_72) [0, 1, 2, 3, 4, 5, 6, 7, 8, 9, 10, 11] rfl (by decide) (fun r9 u9 h => ?_)
          refine z_icmp_ne (pc := 75) (tgt := 82) C dX10_notesSo_75 (by decide) (fun c10 => ?_) (fun c10 => ?_)
          · have h := h.1 c10
            refine z_sub (lv' := [(0, .ref (d 0)), (2, .int x2), (3, .int x3), (4, .int x4)]) [0, 2, 3, 4] rfl ?_
            exact J82 K4 hK4 (fun v x1 x2 x3 x4 => pX10_notesSo_L25 Q K4 n25 v x1 x2 x3 x4) ih25 v x2 x3 x4 x1 h
          · have h := h.2 c10
            refine z_iconst (pc := 78) (v := 1) C dX10_notesSo_78 (by decide) ?_
            refine z_goto (pc := 79) (tgt := 83) C dX10_notesSo_79 (by decide) ?_
            refine z_sub (lv' := [(0, .ref (d 0)), (2, .int x2), (3, .int x3), (4, .int x4)]) [0, 2, 3, 4] rfl ?_
            exact J83 K4 hK4 (fun v x1 x2 x3 x4 => pX10_notesSo_L25 Q K4 n25 v x1 x2 x3 x4) ih25 v x2 x3 x4 x1 (1 : Int32) h
  have L4 : ∀ (n4 : Nat) (v : Lf) (x1 : Int32) (x2 : Int32), pX10_notesSo_L4 Q n4 v x1 x2 → ZZ p l e rmX10_notesSo s m args below meth c D A 5 0 0 QQ 4 (wX10 cI cJ d v g) [(0, .ref (d 0)), (1, .int x1), (2, .int x2)] [] := by
    intro n4
    induction n4 with
    | zero => intro v x1 x2 h; exact False.elim h
    | succ n4 ih4 =>
      intro v x1 x2 h
      refine z_iload_n (pc := 4) C 2 dX10_notesSo_4 rfl ?_
      refine z_bipush (pc := 5) (v := 60) C dX10_notesSo_5 (by decide) ?_
      refine z_icmp_ge (pc := 7) (tgt := 97) C dX10_notesSo_7 (by decide) (fun c1 => ?_) (fun c1 => ?_)
      · have h := h.1 c1
        refine z_iload_n (pc := 97) C 1 dX10_notesSo_97 rfl ?_
        exact hret 98 _ _ x1 v rfl h dX10_notesSo_98
      · have h := h.2 c1
        refine z_aload_n (pc := 10) C 0 dX10_notesSo_10 rfl ?_
        refine z_get (pc := 11) C uw10 0 rfl rfl 0 (by decide) wq809 rfl dX10_notesSo_11 ?_
        refine z_iconst (pc := 14) (v := 3) C dX10_notesSo_14 (by decide) ?_
        refine z_iald (pc := 15) C 1 0 rfl rfl vi_3_372 (v 1 3) (congrArg _ cl_3) dX10_notesSo_15 ?_
        refine z_istore_n (pc := 16) (lv' := [(3, .int (v 1 3)), (0, .ref (d 0)), (1, .int x1), (2, .int x2)]) C dX10_notesSo_16 (by decide) rfl ?_
        refine z_aload_n (pc := 17) C 1 dX10_notesSo_17 rfl ?_
        refine z_iconst (pc := 18) (v := 1) C dX10_notesSo_18 (by decide) ?_
        refine z_callv (pc := 19) (wr := ([] : va_W)) (w1 := fun (u : Lf) => (wX10 cI cJ d u g)) (w2 := fun (u : Lf) => (wX10 cI cJ d u g)) C (z_runV (pc := 19) (wc := (wX10 cI cJ d v g)) (As := [.int (1 : Int32)]) C (fun sz => kX10_passes d v g (1 : Int32) sz h) [0, 1, 2, 3, 4, 5, 6, 7, 8, 9, 10, 11] rfl (by decide) (gdV wq997 wq1008 wq1009 wq1010 wq814) rfl rfl rfl hdX10_passes 0 rfl rfl rfl ⟨Nat.le_of_ble_eq_true rfl, Nat.le_of_ble_eq_true rfl⟩ rfl (Nat.le_of_ble_eq_true rfl) ⟨Nat.zero_le _, Nat.zero_le _⟩ dX10_notesSo_19) [0, 1, 2, 3, 4, 5, 6, 7, 8, 9, 10, 11] [] [0, 1, 2, 3, 4, 5, 6, 7, 8, 9, 10, 11] rfl rfl (by decide) (by decide) (fun _ => rfl) (by decide) (fun u3 h => ?_)
        obtain ⟨v_3, hu3⟩ : ∃ z, z = u3 := ⟨_, rfl⟩
        subst hu3
        refine z_iconst (pc := 22) (v := 0) C dX10_notesSo_22 (by decide) ?_
        refine z_istore (pc := 23) (lv' := [(4, .int (0 : Int32)), (3, .int (v 1 3)), (0, .ref (d 0)), (1, .int x1), (2, .int x2)]) C dX10_notesSo_23 (by decide) rfl ?_
        obtain ⟨n25, h⟩ := h
        refine z_sub (lv' := [(0, .ref (d 0)), (1, .int x1), (2, .int x2), (3, .int (v 1 3)), (4, .int (0 : Int32))]) [2, 3, 4, 1, 0] rfl ?_
        exact L25 (fun v x1 x2 => pX10_notesSo_L4 Q n4 v x1 x2) ih4 n25 v_3 x1 x2 (v 1 3) (0 : Int32) h
  refine z_iconst (pc := 0) (v := 0) C dX10_notesSo_0 (by decide) ?_
  refine z_istore_n (pc := 1) (lv' := [(1, .int (0 : Int32)), (0, .ref (d 0))]) C dX10_notesSo_1 (by decide) rfl ?_
  refine z_iconst (pc := 2) (v := 0) C dX10_notesSo_2 (by decide) ?_
  refine z_istore_n (pc := 3) (lv' := [(2, .int (0 : Int32)), (1, .int (0 : Int32)), (0, .ref (d 0))]) C dX10_notesSo_3 (by decide) rfl ?_
  obtain ⟨n4, h⟩ := h
  refine z_sub (lv' := [(0, .ref (d 0)), (1, .int (0 : Int32)), (2, .int (0 : Int32))]) [2, 1, 0] rfl ?_
  exact L4  n4 v (0 : Int32) (0 : Int32) h

def pX10_fits_J81 (x1 : Int32) (Q : Int32 → Lf → Prop) (K49 : Lf → Int32 → Int32 → Int32 → Prop) (v : Lf) (x2 : Int32) (x3 : Int32) (x4 : Int32) : Prop := (pX10_forgets v (fun v_14 => (K49 v_14 x2 x3 (x4 + (-1)))))
def pX10_fits_L49 (x1 : Int32) (Q : Int32 → Lf → Prop) : Nat → Lf → Int32 → Int32 → Int32 → Prop
  | 0, _, _, _, _ => False
  | n49 + 1, v, x2, x3, x4 => ((x4 < (1 : Int32) → ((¬ x1 = 0 → (Q x3 v)) ∧ (x1 = 0 → (Q x2 v)))) ∧ (¬ x4 < (1 : Int32) → (pX10_gaps v x4 (fun v_10 => (pX10_notesSo v_10 (fun r11 v_11 => ((¬ r11 = (v_11 1 19) → (pX10_fits_J81 x1 Q (fun v x2 x3 x4 => pX10_fits_L49 x1 Q n49 v x2 x3 x4) v_11 x2 x3 x4)) ∧ (r11 = (v_11 1 19) → (pX10_fits_J81 x1 Q (fun v x2 x3 x4 => pX10_fits_L49 x1 Q n49 v x2 x3 x4) v_11 (x2 + 1) x4 x4)))))))))
def pX10_fits (v : Lf) (x1 : Int32) (Q : Int32 → Lf → Prop) : Prop := (pX10_isIn x1 (0 : Int32) (1 : Int32) (fun r1 => ((¬ r1 = 0 → ((¬ (v 1 2) = 0 → (pX10_counts v (540 : Int32) (fun r5 v_5 => ((¬ r5 = 0 → (pX10_thinks v_5 (fun v_7 => (∃ n49, pX10_fits_L49 x1 Q  n49 v_7 (0 : Int32) (-5 : Int32) (9 : Int32))))) ∧ (r5 = 0 → (Q (-4 : Int32) v_5)))))) ∧ ((v 1 2) = 0 → (Q (-3 : Int32) v)))) ∧ (r1 = 0 → (Q (-1 : Int32) v)))))
abbrev rmX10_fits : Room := { frames := 7, cells := 0, slots := 0, locals := 160 }
abbrev wdX10_fits : List Cond := Cond.code yX10_fits cX10_fits 5 (some .int) :: TB
theorem hdSX10_fits : (yX10_fits).cls ≠ "java/lang/invoke/MethodHandle" ∧ (yX10_fits).cls ≠ "java/lang/invoke/VarHandle" ∧ (parseMethodDescriptor (yX10_fits).desc).map (fun d => d.parameters.length) = some 1 := by decide +kernel
theorem hdX10_fits : (yX10_fits).cls = RX10 ∧ (yX10_fits).cls ≠ "java/lang/invoke/MethodHandle" ∧ (yX10_fits).cls ≠ "java/lang/invoke/VarHandle" ∧ (parseMethodDescriptor (yX10_fits).desc).map (fun d => d.parameters.length) = some 1 := ⟨rfl, hdSX10_fits⟩
set_option maxHeartbeats 4000000 in
set_option maxRecDepth 100000 in
theorem kX10_fits {l : Launch} {D : va_G} {cI cJ cT : ClassId} (d : Nat → Nat)  (v : Lf) (g : Lg) (x1 : Int32) {Q : Int32 → Lf → Prop} (sz : Nat) (h : pX10_fits v x1 Q) : Met l yX10_fits wdX10_fits rmX10_fits (Pz D (tyL cI cJ cT) [.ref (d 0), .int x1] (wX10 cI cJ d v g) sz) (va_Qi (fun (r : Int32) (u : Lf) => Q r u) (Bz D (tyL cI cJ cT) (wX10 cI cJ d v g) sz (fun (u : Lf) => (wX10 cI cJ d u g))) (va_A (wX10 cI cJ d v g) sz)) 0 0 (va_A (wX10 cI cJ d v g) sz) := by
  refine z_meti (cc := cX10_fits) (maxL := 5) (own := RX10) (lv0 := [(0, .ref (d 0)), (1, .int x1)]) (by decide) rfl rfl (Nat.le_of_ble_eq_true rfl) rfl ?_
  intro p e s m args below meth c A QQ C hin hret
  have J81 : ∀ (K49 : Lf → Int32 → Int32 → Int32 → Prop), (∀ (v : Lf) (x2 : Int32) (x3 : Int32) (x4 : Int32), K49 v x2 x3 x4 → ZZ p l e rmX10_fits s m args below meth c D A 5 0 0 QQ 49 (wX10 cI cJ d v g) [(0, .ref (d 0)), (1, .int x1), (2, .int x2), (3, .int x3), (4, .int x4)] []) → ∀ (v : Lf) (x2 : Int32) (x3 : Int32) (x4 : Int32), pX10_fits_J81 x1 Q K49 v x2 x3 x4 → ZZ p l e rmX10_fits s m args below meth c D A 5 0 0 QQ 81 (wX10 cI cJ d v g) [(0, .ref (d 0)), (1, .int x1), (2, .int x2), (3, .int x3), (4, .int x4)] [] := by
    intro K49 hK49 v x2 x3 x4 h
    refine z_aload_n (pc := 81) C 0 dX10_fits_81 rfl ?_
    refine z_callv (pc := 82) (wr := ([] : va_W)) (w1 := fun (u : Lf) => (wX10 cI cJ d u g)) (w2 := fun (u : Lf) => (wX10 cI cJ d u g)) C (z_runV (pc := 82) (wc := (wX10 cI cJ d v g)) (As := []) C (fun sz => kX10_forgets d v g sz h) [0, 1, 2, 3, 4, 5, 6, 7, 8, 9, 10, 11] rfl (by decide) (gdV wq1087 wq1094 wq1095 wq1096 wq814) rfl rfl rfl hdX10_forgets 0 rfl rfl rfl ⟨Nat.le_of_ble_eq_true rfl, Nat.le_of_ble_eq_true rfl⟩ rfl (Nat.le_of_ble_eq_true rfl) ⟨Nat.zero_le _, Nat.zero_le _⟩ dX10_fits_82) [0, 1, 2, 3, 4, 5, 6, 7, 8, 9, 10, 11] [] [0, 1, 2, 3, 4, 5, 6, 7, 8, 9, 10, 11] rfl rfl (by decide) (by decide) (fun _ => rfl) (by decide) (fun u14 h => ?_)
    obtain ⟨v_14, hu14⟩ : ∃ z, z = u14 := ⟨_, rfl⟩
    subst hu14
    refine z_iinc (pc := 85) (v := (x4 + (-1))) (lv' := [(4, .int (x4 + (-1))), (0, .ref (d 0)), (1, .int x1), (2, .int x2), (3, .int x3)]) C 4 dX10_fits_85 rfl rfl (by decide) rfl ?_
    refine z_goto (pc := 88) (tgt := 49) C dX10_fits_88 (by decide) ?_
    refine z_sub (lv' := [(0, .ref (d 0)), (1, .int x1), (2, .int x2), (3, .int x3), (4, .int (x4 + (-1)))]) [1, 2, 3, 4, 0] rfl ?_
    exact hK49 v_14 x2 x3 (x4 + (-1)) h
  have L49 : ∀ (n49 : Nat) (v : Lf) (x2 : Int32) (x3 : Int32) (x4 : Int32), pX10_fits_L49 x1 Q n49 v x2 x3 x4 → ZZ p l e rmX10_fits s m args below meth c D A 5 0 0 QQ 49 (wX10 cI cJ d v g) [(0, .ref (d 0)), (1, .int x1), (2, .int x2), (3, .int x3), (4, .int x4)] [] := by
    intro n49
    induction n49 with
    | zero => intro v x2 x3 x4 h; exact False.elim h
    | succ n49 ih49 =>
      intro v x2 x3 x4 h
      refine z_iload (pc := 49) C 4 dX10_fits_49 rfl ?_
      refine z_iconst (pc := 51) (v := 1) C dX10_fits_51 (by decide) ?_
      refine z_icmp_lt (pc := 52) (tgt := 91) C dX10_fits_52 (by decide) (fun c8 => ?_) (fun c8 => ?_)
      · have h := h.1 c8
        refine z_iload_n (pc := 91) C 1 dX10_fits_91 rfl ?_
        refine z_if_ne (pc := 92) (tgt := 99) C dX10_fits_92 (by decide) (fun c9 => ?_) (fun c9 => ?_)
        · have h := h.1 c9
          refine z_iload_n (pc := 99) C 3 dX10_fits_99 rfl ?_
          exact hret 100 _ _ x3 v rfl h dX10_fits_100
        · have h := h.2 c9
          refine z_iload_n (pc := 95) C 2 dX10_fits_95 rfl ?_
          refine z_goto (pc := 96) (tgt := 100) C dX10_fits_96 (by decide) ?_
          exact hret 100 _ _ x2 v rfl h dX10_fits_100
      · have h := h.2 c8
        refine z_aload_n (pc := 55) C 0 dX10_fits_55 rfl ?_
        refine z_iload (pc := 56) C 4 dX10_fits_56 rfl ?_
        refine z_callv (pc := 58) (wr := ([] : va_W)) (w1 := fun (u : Lf) => (wX10 cI cJ d u g)) (w2 := fun (u : Lf) => (wX10 cI cJ d u g)) C (z_runV (pc := 58) (wc := (wX10 cI cJ d v g)) (As := [.int x4]) C (fun sz => kX10_gaps d v g x4 sz h) [0, 1, 2, 3, 4, 5, 6, 7, 8, 9, 10, 11] rfl (by decide) (gdV wq1099 wq1100 wq1101 wq1102 wq814) rfl rfl rfl hdX10_gaps 0 rfl rfl rfl ⟨Nat.le_of_ble_eq_true rfl, Nat.le_of_ble_eq_true rfl⟩ rfl (Nat.le_of_ble_eq_true rfl) ⟨Nat.zero_le _, Nat.zero_le _⟩ dX10_fits_58) [0, 1, 2, 3, 4, 5, 6, 7, 8, 9, 10, 11] [] [0, 1, 2, 3, 4, 5, 6, 7, 8, 9, 10, 11] rfl rfl (by decide) (by decide) (fun _ => rfl) (by decide) (fun u10 h => ?_)
        obtain ⟨v_10, hu10⟩ : ∃ z, z = u10 := ⟨_, rfl⟩
        subst hu10
        refine z_aload_n (pc := 61) C 0 dX10_fits_61 rfl ?_
        refine z_calli (pc := 62) (wr := ([] : va_W)) (w1 := fun (u : Lf) => (wX10 cI cJ d u g)) (w2 := fun (u : Lf) => (wX10 cI cJ d u g)) C (z_runV (pc := 62) (wc := (wX10 cI cJ d v_10 g)) (As := []) C (fun sz => kX10_notesSo d v_10 g sz h) [0, 1, 2, 3, 4, 5, 6, 7, 8, 9, 10, 11] rfl (by decide) (gdV wq1106 wq1107 wq1108 wq1109 wq814) rfl rfl rfl hdX10_notesSo 0 rfl rfl rfl ⟨Nat.le_of_ble_eq_true rfl, Nat.le_of_ble_eq_true rfl⟩ rfl (Nat.le_of_ble_eq_true rfl) ⟨Nat.zero_le _, Nat.zero_le _⟩ dX10_fits_62) [0, 1, 2, 3, 4, 5, 6, 7, 8, 9, 10, 11] [] [0, 1, 2, 3, 4, 5, 6, 7, 8, 9, 10, 11] rfl rfl (by decide) (by decide) (fun _ => rfl) (by decide) (fun r11 u11 h => ?_)
        obtain ⟨v_11, hu11⟩ : ∃ z, z = u11 := ⟨_, rfl⟩
        subst hu11
        refine z_aload_n (pc := 65) C 0 dX10_fits_65 rfl ?_
        refine z_get (pc := 66) C uw10 0 rfl rfl 0 (by decide) wq809 rfl dX10_fits_66 ?_
        refine z_bipush (pc := 69) (v := 19) C dX10_fits_69 (by decide) ?_
        refine z_iald (pc := 71) C 1 0 rfl rfl vi_19_372 (v_11 1 19) (congrArg _ cl_19) dX10_fits_71 ?_
        refine z_icmp_ne (pc := 72) (tgt := 81) C dX10_fits_72 (by decide) (fun c13 => ?_) (fun c13 => ?_)
        · have h := h.1 c13
          exact J81 (fun v x2 x3 x4 => pX10_fits_L49 x1 Q n49 v x2 x3 x4) ih49 v_11 x2 x3 x4 h
        · have h := h.2 c13
          refine z_iinc (pc := 75) (v := (x2 + 1)) (lv' := [(2, .int (x2 + 1)), (0, .ref (d 0)), (1, .int x1), (3, .int x3), (4, .int x4)]) C 2 dX10_fits_75 rfl rfl (by decide) rfl ?_
          refine z_iload (pc := 78) C 4 dX10_fits_78 rfl ?_
          refine z_istore_n (pc := 80) (lv' := [(3, .int x4), (2, .int (x2 + 1)), (0, .ref (d 0)), (1, .int x1), (4, .int x4)]) C dX10_fits_80 (by decide) rfl ?_
          refine z_sub (lv' := [(0, .ref (d 0)), (1, .int x1), (2, .int (x2 + 1)), (3, .int x4), (4, .int x4)]) [2, 3, 1, 0, 4] rfl ?_
          exact J81 (fun v x2 x3 x4 => pX10_fits_L49 x1 Q n49 v x2 x3 x4) ih49 v_11 (x2 + 1) x4 x4 h
  refine z_iload_n (pc := 0) C 1 dX10_fits_0 rfl ?_
  refine z_iconst (pc := 1) (v := 0) C dX10_fits_1 (by decide) ?_
  refine z_iconst (pc := 2) (v := 1) C dX10_fits_2 (by decide) ?_
  refine z_call0i (pc := 3) C (z_runS (pc := 3) (wc := ([] : va_W)) (As := [.int x1, .int (0 : Int32), .int (1 : Int32)]) C (fun sz => kX10_isIn x1 (0 : Int32) (1 : Int32) sz h) [] rfl (by decide) (gdS wq849 wq852 wq853 wq814) rfl rfl rfl hdSX10_isIn ⟨Nat.le_of_ble_eq_true rfl, Nat.le_of_ble_eq_true rfl⟩ rfl (Nat.le_of_ble_eq_true rfl) ⟨Nat.zero_le _, Nat.zero_le _⟩ dX10_fits_3) (fun r1 u1 h => ?_)
  refine z_if_ne (pc := 6) (tgt := 11) C dX10_fits_6 (by decide) (fun c2 => ?_) (fun c2 => ?_)
  · have h := h.1 c2
    refine z_aload_n (pc := 11) C 0 dX10_fits_11 rfl ?_
    refine z_get (pc := 12) C uw10 0 rfl rfl 0 (by decide) wq809 rfl dX10_fits_12 ?_
    refine z_iconst (pc := 15) (v := 2) C dX10_fits_15 (by decide) ?_
    refine z_iald (pc := 16) C 1 0 rfl rfl vi_2_372 (v 1 2) (congrArg _ cl_2) dX10_fits_16 ?_
    refine z_if_ne (pc := 17) (tgt := 23) C dX10_fits_17 (by decide) (fun c4 => ?_) (fun c4 => ?_)
    · have h := h.1 c4
      refine z_aload_n (pc := 23) C 0 dX10_fits_23 rfl ?_
      refine z_sipush (pc := 24) (v := 540) C dX10_fits_24 (by decide) ?_
      refine z_calli (pc := 27) (wr := ([] : va_W)) (w1 := fun (u : Lf) => (wX10 cI cJ d u g)) (w2 := fun (u : Lf) => (wX10 cI cJ d u g)) C (z_runV (pc := 27) (wc := (wX10 cI cJ d v g)) (As := [.int (540 : Int32)]) C (fun sz => kX10_counts d v g (540 : Int32) sz h) [0, 1, 2, 3, 4, 5, 6, 7, 8, 9, 10, 11] rfl (by decide) (gdV wq998 wq1005 wq1006 wq1007 wq814) rfl rfl rfl hdX10_counts 0 rfl rfl rfl ⟨Nat.le_of_ble_eq_true rfl, Nat.le_of_ble_eq_true rfl⟩ rfl (Nat.le_of_ble_eq_true rfl) ⟨Nat.zero_le _, Nat.zero_le _⟩ dX10_fits_27) [0, 1, 2, 3, 4, 5, 6, 7, 8, 9, 10, 11] [] [0, 1, 2, 3, 4, 5, 6, 7, 8, 9, 10, 11] rfl rfl (by decide) (by decide) (fun _ => rfl) (by decide) (fun r5 u5 h => ?_)
      obtain ⟨v_5, hu5⟩ : ∃ z, z = u5 := ⟨_, rfl⟩
      subst hu5
      refine z_if_ne (pc := 30) (tgt := 36) C dX10_fits_30 (by decide) (fun c6 => ?_) (fun c6 => ?_)
      · have h := h.1 c6
        refine z_aload_n (pc := 36) C 0 dX10_fits_36 rfl ?_
        refine z_callv (pc := 37) (wr := ([] : va_W)) (w1 := fun (u : Lf) => (wX10 cI cJ d u g)) (w2 := fun (u : Lf) => (wX10 cI cJ d u g)) C (z_runV (pc := 37) (wc := (wX10 cI cJ d v_5 g)) (As := []) C (fun sz => kX10_thinks d v_5 g sz h) [0, 1, 2, 3, 4, 5, 6, 7, 8, 9, 10, 11] rfl (by decide) (gdV wq1084 wq1088 wq1089 wq1090 wq814) rfl rfl rfl hdX10_thinks 0 rfl rfl rfl ⟨Nat.le_of_ble_eq_true rfl, Nat.le_of_ble_eq_true rfl⟩ rfl (Nat.le_of_ble_eq_true rfl) ⟨Nat.zero_le _, Nat.zero_le _⟩ dX10_fits_37) [0, 1, 2, 3, 4, 5, 6, 7, 8, 9, 10, 11] [] [0, 1, 2, 3, 4, 5, 6, 7, 8, 9, 10, 11] rfl rfl (by decide) (by decide) (fun _ => rfl) (by decide) (fun u7 h => ?_)
        obtain ⟨v_7, hu7⟩ : ∃ z, z = u7 := ⟨_, rfl⟩
        subst hu7
        refine z_iconst (pc := 40) (v := 0) C dX10_fits_40 (by decide) ?_
        refine z_istore_n (pc := 41) (lv' := [(2, .int (0 : Int32)), (0, .ref (d 0)), (1, .int x1)]) C dX10_fits_41 (by decide) rfl ?_
        refine z_bipush (pc := 42) (v := -5) C dX10_fits_42 (by decide) ?_
        refine z_istore_n (pc := 44) (lv' := [(3, .int (-5 : Int32)), (2, .int (0 : Int32)), (0, .ref (d 0)), (1, .int x1)]) C dX10_fits_44 (by decide) rfl ?_
        refine z_bipush (pc := 45) (v := 9) C dX10_fits_45 (by decide) ?_
        refine z_istore (pc := 47) (lv' := [(4, .int (9 : Int32)), (3, .int (-5 : Int32)), (2, .int (0 : Int32)), (0, .ref (d 0)), (1, .int x1)]) C dX10_fits_47 (by decide) rfl ?_
        obtain ⟨n49, h⟩ := h
        refine z_sub (lv' := [(0, .ref (d 0)), (1, .int x1), (2, .int (0 : Int32)), (3, .int (-5 : Int32)), (4, .int (9 : Int32))]) [3, 4, 2, 1, 0] rfl ?_
        exact L49  n49 v_7 (0 : Int32) (-5 : Int32) (9 : Int32) h
      · have h := h.2 c6
        refine z_bipush (pc := 33) (v := -4) C dX10_fits_33 (by decide) ?_
        exact hret 35 _ _ (-4 : Int32) v_5 rfl h dX10_fits_35
    · have h := h.2 c4
      refine z_bipush (pc := 20) (v := -3) C dX10_fits_20 (by decide) ?_
      exact hret 22 _ _ (-3 : Int32) v rfl h dX10_fits_22
  · have h := h.2 c2
    refine z_iconst (pc := 9) (v := -1) C dX10_fits_9 (by decide) ?_
    exact hret 10 _ _ (-1 : Int32) v rfl h dX10_fits_10

def pX10_dayOf (v : Lf) (x1 : Int32) (x2 : Int32) (Q : Int32 → Lf → Prop) : Prop := (pX10_thinks v (fun v_1 => (pX10_passes (st v_1 1 0 x1) x2 (fun v_4 => (pX10_forgets v_4 (fun v_6 => (Q ((v_4 1 7) - (v_1 1 7)) v_6)))))))
abbrev rmX10_dayOf : Room := { frames := 6, cells := 0, slots := 0, locals := 136 }
abbrev wdX10_dayOf : List Cond := Cond.code yX10_dayOf cX10_dayOf 5 (some .int) :: TB
theorem hdSX10_dayOf : (yX10_dayOf).cls ≠ "java/lang/invoke/MethodHandle" ∧ (yX10_dayOf).cls ≠ "java/lang/invoke/VarHandle" ∧ (parseMethodDescriptor (yX10_dayOf).desc).map (fun d => d.parameters.length) = some 2 := by decide +kernel
theorem hdX10_dayOf : (yX10_dayOf).cls = RX10 ∧ (yX10_dayOf).cls ≠ "java/lang/invoke/MethodHandle" ∧ (yX10_dayOf).cls ≠ "java/lang/invoke/VarHandle" ∧ (parseMethodDescriptor (yX10_dayOf).desc).map (fun d => d.parameters.length) = some 2 := ⟨rfl, hdSX10_dayOf⟩
set_option maxHeartbeats 4000000 in
set_option maxRecDepth 100000 in
theorem kX10_dayOf {l : Launch} {D : va_G} {cI cJ cT : ClassId} (d : Nat → Nat)  (v : Lf) (g : Lg) (x1 : Int32) (x2 : Int32) {Q : Int32 → Lf → Prop} (sz : Nat) (h : pX10_dayOf v x1 x2 Q) : Met l yX10_dayOf wdX10_dayOf rmX10_dayOf (Pz D (tyL cI cJ cT) [.ref (d 0), .int x1, .int x2] (wX10 cI cJ d v g) sz) (va_Qi (fun (r : Int32) (u : Lf) => Q r u) (Bz D (tyL cI cJ cT) (wX10 cI cJ d v g) sz (fun (u : Lf) => (wX10 cI cJ d u g))) (va_A (wX10 cI cJ d v g) sz)) 0 0 (va_A (wX10 cI cJ d v g) sz) := by
  refine z_meti (cc := cX10_dayOf) (maxL := 5) (own := RX10) (lv0 := [(0, .ref (d 0)), (1, .int x1), (2, .int x2)]) (by decide) rfl rfl (Nat.le_of_ble_eq_true rfl) rfl ?_
  intro p e s m args below meth c A QQ C hin hret
  refine z_aload_n (pc := 0) C 0 dX10_dayOf_0 rfl ?_
  refine z_callv (pc := 1) (wr := ([] : va_W)) (w1 := fun (u : Lf) => (wX10 cI cJ d u g)) (w2 := fun (u : Lf) => (wX10 cI cJ d u g)) C (z_runV (pc := 1) (wc := (wX10 cI cJ d v g)) (As := []) C (fun sz => kX10_thinks d v g sz h) [0, 1, 2, 3, 4, 5, 6, 7, 8, 9, 10, 11] rfl (by decide) (gdV wq1084 wq1088 wq1089 wq1090 wq814) rfl rfl rfl hdX10_thinks 0 rfl rfl rfl ⟨Nat.le_of_ble_eq_true rfl, Nat.le_of_ble_eq_true rfl⟩ rfl (Nat.le_of_ble_eq_true rfl) ⟨Nat.zero_le _, Nat.zero_le _⟩ dX10_dayOf_1) [0, 1, 2, 3, 4, 5, 6, 7, 8, 9, 10, 11] [] [0, 1, 2, 3, 4, 5, 6, 7, 8, 9, 10, 11] rfl rfl (by decide) (by decide) (fun _ => rfl) (by decide) (fun u1 h => ?_)
  obtain ⟨v_1, hu1⟩ : ∃ z, z = u1 := ⟨_, rfl⟩
  subst hu1
  refine z_aload_n (pc := 4) C 0 dX10_dayOf_4 rfl ?_
  refine z_get (pc := 5) C uw10 0 rfl rfl 0 (by decide) wq809 rfl dX10_dayOf_5 ?_
  refine z_bipush (pc := 8) (v := 7) C dX10_dayOf_8 (by decide) ?_
  refine z_iald (pc := 10) C 1 0 rfl rfl vi_7_372 (v_1 1 7) (congrArg _ cl_7) dX10_dayOf_10 ?_
  refine z_istore_n (pc := 11) (lv' := [(3, .int (v_1 1 7)), (0, .ref (d 0)), (1, .int x1), (2, .int x2)]) C dX10_dayOf_11 (by decide) rfl ?_
  refine z_aload_n (pc := 12) C 1 dX10_dayOf_12 rfl ?_
  refine z_get (pc := 13) C uw10 0 rfl rfl 0 (by decide) wq809 rfl dX10_dayOf_13 ?_
  refine z_iconst (pc := 16) (v := 0) C dX10_dayOf_16 (by decide) ?_
  refine z_iload_n (pc := 17) C 2 dX10_dayOf_17 rfl ?_
  refine z_iast (pc := 18) (ws' := (wX10 cI cJ d (st v_1 1 0 x1) g)) C 1 0 rfl rfl vi_0_372 dX10_dayOf_18 cl_0 sX10_a1 ?_
  refine z_aload_n (pc := 19) C 1 dX10_dayOf_19 rfl ?_
  refine z_iload_n (pc := 20) C 3 dX10_dayOf_20 rfl ?_
  refine z_callv (pc := 21) (wr := ([] : va_W)) (w1 := fun (u : Lf) => (wX10 cI cJ d u g)) (w2 := fun (u : Lf) => (wX10 cI cJ d u g)) C (z_runV (pc := 21) (wc := (wX10 cI cJ d (st v_1 1 0 x1) g)) (As := [.int x2]) C (fun sz => kX10_passes d (st v_1 1 0 x1) g x2 sz h) [0, 1, 2, 3, 4, 5, 6, 7, 8, 9, 10, 11] rfl (by decide) (gdV wq997 wq1008 wq1009 wq1010 wq814) rfl rfl rfl hdX10_passes 0 rfl rfl rfl ⟨Nat.le_of_ble_eq_true rfl, Nat.le_of_ble_eq_true rfl⟩ rfl (Nat.le_of_ble_eq_true rfl) ⟨Nat.zero_le _, Nat.zero_le _⟩ dX10_dayOf_21) [0, 1, 2, 3, 4, 5, 6, 7, 8, 9, 10, 11] [] [0, 1, 2, 3, 4, 5, 6, 7, 8, 9, 10, 11] rfl rfl (by decide) (by decide) (fun _ => rfl) (by decide) (fun u4 h => ?_)
  obtain ⟨v_4, hu4⟩ : ∃ z, z = u4 := ⟨_, rfl⟩
  subst hu4
  refine z_aload_n (pc := 24) C 1 dX10_dayOf_24 rfl ?_
  refine z_get (pc := 25) C uw10 0 rfl rfl 0 (by decide) wq809 rfl dX10_dayOf_25 ?_
  refine z_bipush (pc := 28) (v := 7) C dX10_dayOf_28 (by decide) ?_
  refine z_iald (pc := 30) C 1 0 rfl rfl vi_7_372 (v_4 1 7) (congrArg _ cl_7) dX10_dayOf_30 ?_
  refine z_iload_n (pc := 31) C 0 dX10_dayOf_31 rfl ?_
  refine z_isub (pc := 32) C dX10_dayOf_32 ?_
  refine z_istore (pc := 33) (lv' := [(4, .int ((v_4 1 7) - (v_1 1 7))), (3, .int (v_1 1 7)), (0, .ref (d 0)), (1, .int x1), (2, .int x2)]) C dX10_dayOf_33 (by decide) rfl ?_
  refine z_aload_n (pc := 35) C 2 dX10_dayOf_35 rfl ?_
  refine z_callv (pc := 36) (wr := ([] : va_W)) (w1 := fun (u : Lf) => (wX10 cI cJ d u g)) (w2 := fun (u : Lf) => (wX10 cI cJ d u g)) C (z_runV (pc := 36) (wc := (wX10 cI cJ d v_4 g)) (As := []) C (fun sz => kX10_forgets d v_4 g sz h) [0, 1, 2, 3, 4, 5, 6, 7, 8, 9, 10, 11] rfl (by decide) (gdV wq1087 wq1094 wq1095 wq1096 wq814) rfl rfl rfl hdX10_forgets 0 rfl rfl rfl ⟨Nat.le_of_ble_eq_true rfl, Nat.le_of_ble_eq_true rfl⟩ rfl (Nat.le_of_ble_eq_true rfl) ⟨Nat.zero_le _, Nat.zero_le _⟩ dX10_dayOf_36) [0, 1, 2, 3, 4, 5, 6, 7, 8, 9, 10, 11] [] [0, 1, 2, 3, 4, 5, 6, 7, 8, 9, 10, 11] rfl rfl (by decide) (by decide) (fun _ => rfl) (by decide) (fun u6 h => ?_)
  obtain ⟨v_6, hu6⟩ : ∃ z, z = u6 := ⟨_, rfl⟩
  subst hu6
  refine z_iload (pc := 39) C 0 dX10_dayOf_39 rfl ?_
  exact hret 41 _ _ ((v_4 1 7) - (v_1 1 7)) v_6 rfl h dX10_dayOf_41

def pX10_day (v : Lf) (x1 : Int32) (x2 : Int32) (Q : Int32 → Lf → Prop) : Prop := (pX10_isIn x2 (0 : Int32) (99 : Int32) (fun r1 => ((¬ r1 = 0 → ((¬ (v 1 2) = 0 → (pX10_counts v x2 (fun r5 v_5 => ((r5 = 0 → (Q (-4 : Int32) v_5)) ∧ (¬ r5 = 0 → (pX10_dayOf v_5 x1 x2 (fun r7 v_7 => (Q r7 v_7)))))))) ∧ ((v 1 2) = 0 → (Q (-3 : Int32) v)))) ∧ (r1 = 0 → (Q (-2 : Int32) v)))))
abbrev rmX10_day : Room := { frames := 7, cells := 0, slots := 0, locals := 160 }
abbrev wdX10_day : List Cond := Cond.code yX10_day cX10_day 3 (some .int) :: TB
theorem hdSX10_day : (yX10_day).cls ≠ "java/lang/invoke/MethodHandle" ∧ (yX10_day).cls ≠ "java/lang/invoke/VarHandle" ∧ (parseMethodDescriptor (yX10_day).desc).map (fun d => d.parameters.length) = some 2 := by decide +kernel
theorem hdX10_day : (yX10_day).cls = RX10 ∧ (yX10_day).cls ≠ "java/lang/invoke/MethodHandle" ∧ (yX10_day).cls ≠ "java/lang/invoke/VarHandle" ∧ (parseMethodDescriptor (yX10_day).desc).map (fun d => d.parameters.length) = some 2 := ⟨rfl, hdSX10_day⟩
set_option maxHeartbeats 4000000 in
set_option maxRecDepth 100000 in
theorem kX10_day {l : Launch} {D : va_G} {cI cJ cT : ClassId} (d : Nat → Nat)  (v : Lf) (g : Lg) (x1 : Int32) (x2 : Int32) {Q : Int32 → Lf → Prop} (sz : Nat) (h : pX10_day v x1 x2 Q) : Met l yX10_day wdX10_day rmX10_day (Pz D (tyL cI cJ cT) [.ref (d 0), .int x1, .int x2] (wX10 cI cJ d v g) sz) (va_Qi (fun (r : Int32) (u : Lf) => Q r u) (Bz D (tyL cI cJ cT) (wX10 cI cJ d v g) sz (fun (u : Lf) => (wX10 cI cJ d u g))) (va_A (wX10 cI cJ d v g) sz)) 0 0 (va_A (wX10 cI cJ d v g) sz) := by
  refine z_meti (cc := cX10_day) (maxL := 3) (own := RX10) (lv0 := [(0, .ref (d 0)), (1, .int x1), (2, .int x2)]) (by decide) rfl rfl (Nat.le_of_ble_eq_true rfl) rfl ?_
  intro p e s m args below meth c A QQ C hin hret
  refine z_iload_n (pc := 0) C 2 dX10_day_0 rfl ?_
  refine z_iconst (pc := 1) (v := 0) C dX10_day_1 (by decide) ?_
  refine z_bipush (pc := 2) (v := 99) C dX10_day_2 (by decide) ?_
  refine z_call0i (pc := 4) C (z_runS (pc := 4) (wc := ([] : va_W)) (As := [.int x2, .int (0 : Int32), .int (99 : Int32)]) C (fun sz => kX10_isIn x2 (0 : Int32) (99 : Int32) sz h) [] rfl (by decide) (gdS wq849 wq852 wq853 wq814) rfl rfl rfl hdSX10_isIn ⟨Nat.le_of_ble_eq_true rfl, Nat.le_of_ble_eq_true rfl⟩ rfl (Nat.le_of_ble_eq_true rfl) ⟨Nat.zero_le _, Nat.zero_le _⟩ dX10_day_4) (fun r1 u1 h => ?_)
  refine z_if_ne (pc := 7) (tgt := 13) C dX10_day_7 (by decide) (fun c2 => ?_) (fun c2 => ?_)
  · have h := h.1 c2
    refine z_aload_n (pc := 13) C 0 dX10_day_13 rfl ?_
    refine z_get (pc := 14) C uw10 0 rfl rfl 0 (by decide) wq809 rfl dX10_day_14 ?_
    refine z_iconst (pc := 17) (v := 2) C dX10_day_17 (by decide) ?_
    refine z_iald (pc := 18) C 1 0 rfl rfl vi_2_372 (v 1 2) (congrArg _ cl_2) dX10_day_18 ?_
    refine z_if_ne (pc := 19) (tgt := 25) C dX10_day_19 (by decide) (fun c4 => ?_) (fun c4 => ?_)
    · have h := h.1 c4
      refine z_aload_n (pc := 25) C 0 dX10_day_25 rfl ?_
      refine z_iload_n (pc := 26) C 2 dX10_day_26 rfl ?_
      refine z_calli (pc := 27) (wr := ([] : va_W)) (w1 := fun (u : Lf) => (wX10 cI cJ d u g)) (w2 := fun (u : Lf) => (wX10 cI cJ d u g)) C (z_runV (pc := 27) (wc := (wX10 cI cJ d v g)) (As := [.int x2]) C (fun sz => kX10_counts d v g x2 sz h) [0, 1, 2, 3, 4, 5, 6, 7, 8, 9, 10, 11] rfl (by decide) (gdV wq998 wq1005 wq1006 wq1007 wq814) rfl rfl rfl hdX10_counts 0 rfl rfl rfl ⟨Nat.le_of_ble_eq_true rfl, Nat.le_of_ble_eq_true rfl⟩ rfl (Nat.le_of_ble_eq_true rfl) ⟨Nat.zero_le _, Nat.zero_le _⟩ dX10_day_27) [0, 1, 2, 3, 4, 5, 6, 7, 8, 9, 10, 11] [] [0, 1, 2, 3, 4, 5, 6, 7, 8, 9, 10, 11] rfl rfl (by decide) (by decide) (fun _ => rfl) (by decide) (fun r5 u5 h => ?_)
      obtain ⟨v_5, hu5⟩ : ∃ z, z = u5 := ⟨_, rfl⟩
      subst hu5
      refine z_if_eq (pc := 30) (tgt := 42) C dX10_day_30 (by decide) (fun c6 => ?_) (fun c6 => ?_)
      · have h := h.1 c6
        refine z_bipush (pc := 42) (v := -4) C dX10_day_42 (by decide) ?_
        exact hret 44 _ _ (-4 : Int32) v_5 rfl h dX10_day_44
      · have h := h.2 c6
        refine z_aload_n (pc := 33) C 0 dX10_day_33 rfl ?_
        refine z_iload_n (pc := 34) C 1 dX10_day_34 rfl ?_
        refine z_iload_n (pc := 35) C 2 dX10_day_35 rfl ?_
        refine z_calli (pc := 36) (wr := ([] : va_W)) (w1 := fun (u : Lf) => (wX10 cI cJ d u g)) (w2 := fun (u : Lf) => (wX10 cI cJ d u g)) C (z_runV (pc := 36) (wc := (wX10 cI cJ d v_5 g)) (As := [.int x1, .int x2]) C (fun sz => kX10_dayOf d v_5 g x1 x2 sz h) [0, 1, 2, 3, 4, 5, 6, 7, 8, 9, 10, 11] rfl (by decide) (gdV wq1111 wq1112 wq1113 wq1114 wq814) rfl rfl rfl hdX10_dayOf 0 rfl rfl rfl ⟨Nat.le_of_ble_eq_true rfl, Nat.le_of_ble_eq_true rfl⟩ rfl (Nat.le_of_ble_eq_true rfl) ⟨Nat.zero_le _, Nat.zero_le _⟩ dX10_day_36) [0, 1, 2, 3, 4, 5, 6, 7, 8, 9, 10, 11] [] [0, 1, 2, 3, 4, 5, 6, 7, 8, 9, 10, 11] rfl rfl (by decide) (by decide) (fun _ => rfl) (by decide) (fun r7 u7 h => ?_)
        obtain ⟨v_7, hu7⟩ : ∃ z, z = u7 := ⟨_, rfl⟩
        subst hu7
        refine z_goto (pc := 39) (tgt := 44) C dX10_day_39 (by decide) ?_
        exact hret 44 _ _ r7 v_7 rfl h dX10_day_44
    · have h := h.2 c4
      refine z_bipush (pc := 22) (v := -3) C dX10_day_22 (by decide) ?_
      exact hret 24 _ _ (-3 : Int32) v rfl h dX10_day_24
  · have h := h.2 c2
    refine z_bipush (pc := 10) (v := -2) C dX10_day_10 (by decide) ?_
    exact hret 12 _ _ (-2 : Int32) v rfl h dX10_day_12

def pX10_part_J9 (x0 : Int32) (x1 : Int32) (x2 : Int32) (Q : Int64 → Prop) (t0 : Int32) : Prop := (pX10_common x0 x1 (fun r2 => (¬ r2 = 0 ∧ (Q (((t0 / r2)).toInt64) ))))
def pX10_part  (x0 : Int32) (x1 : Int32) (x2 : Int32) (Q : Int64 → Prop) : Prop := ((¬ x2 = 0 → (pX10_part_J9 x0 x1 x2 Q  x1)) ∧ (x2 = 0 → (pX10_part_J9 x0 x1 x2 Q  x0)))
abbrev rmX10_part : Room := { frames := 61, cells := 0, slots := 0, locals := 1281 }
abbrev wdX10_part : List Cond := Cond.code yX10_part cX10_part 3 (some .long) :: TB
theorem hdSX10_part : (yX10_part).cls ≠ "java/lang/invoke/MethodHandle" ∧ (yX10_part).cls ≠ "java/lang/invoke/VarHandle" ∧ (parseMethodDescriptor (yX10_part).desc).map (fun d => d.parameters.length) = some 3 := by decide +kernel
theorem hdX10_part : (yX10_part).cls = RX10 ∧ (yX10_part).cls ≠ "java/lang/invoke/MethodHandle" ∧ (yX10_part).cls ≠ "java/lang/invoke/VarHandle" ∧ (parseMethodDescriptor (yX10_part).desc).map (fun d => d.parameters.length) = some 3 := ⟨rfl, hdSX10_part⟩
set_option maxHeartbeats 4000000 in
set_option maxRecDepth 100000 in
theorem kX10_part {l : Launch} {D : va_G} {cI cJ cT : ClassId}    (x0 : Int32) (x1 : Int32) (x2 : Int32) {Q : Int64 → Prop} (sz : Nat) (h : pX10_part x0 x1 x2 Q) : Met l yX10_part wdX10_part rmX10_part (Pz D (tyL cI cJ cT) [.int x0, .int x1, .int x2] ([] : va_W) sz) (va_Ql (fun (r : Int64) (u : Unit) => Q r) (Bz D (tyL cI cJ cT) ([] : va_W) sz (fun (u : Unit) => ([] : va_W))) (va_A ([] : va_W) sz)) 0 0 (va_A ([] : va_W) sz) := by
  refine z_metl (cc := cX10_part) (maxL := 3) (own := RX10) (lv0 := [(0, .int x0), (1, .int x1), (2, .int x2)]) (by decide) rfl rfl (Nat.le_of_ble_eq_true rfl) rfl ?_
  intro p e s m args below meth c A QQ C hin hret
  have J9 : ∀ (t0 : Int32), pX10_part_J9 x0 x1 x2 Q t0 → ZZ p l e rmX10_part s m args below meth c D A 3 0 0 QQ 9 ([] : va_W) [(0, .int x0), (1, .int x1)] [.int t0] := by
    intro  t0 h
    refine z_iload_n (pc := 9) C 0 dX10_part_9 rfl ?_
    refine z_iload_n (pc := 10) C 1 dX10_part_10 rfl ?_
    refine z_call0i (pc := 11) C (z_runS (pc := 11) (wc := ([] : va_W)) (As := [.int x0, .int x1]) C (fun sz => kX10_common x0 x1 sz h) [] rfl (by decide) (gdS wq1116 wq1117 wq1118 wq814) rfl rfl rfl hdSX10_common ⟨Nat.le_of_ble_eq_true rfl, Nat.le_of_ble_eq_true rfl⟩ rfl (Nat.le_of_ble_eq_true rfl) ⟨Nat.zero_le _, Nat.zero_le _⟩ dX10_part_11) (fun r2 u2 h => ?_)
    obtain ⟨g3, h⟩ := h
    refine z_idiv (pc := 14) C dX10_part_14 g3 ?_
    refine z_i2l (pc := 15) C dX10_part_15 ?_
    exact hret 16 _ _ (((t0 / r2)).toInt64) () rfl h dX10_part_16
  refine z_iload_n (pc := 0) C 2 dX10_part_0 rfl ?_
  refine z_if_ne (pc := 1) (tgt := 8) C dX10_part_1 (by decide) (fun c1 => ?_) (fun c1 => ?_)
  · have h := h.1 c1
    refine z_iload_n (pc := 8) C 1 dX10_part_8 rfl ?_
    refine z_sub (lv' := [(0, .int x0), (1, .int x1)]) [0, 1] rfl ?_
    exact J9  x1 h
  · have h := h.2 c1
    refine z_iload_n (pc := 4) C 0 dX10_part_4 rfl ?_
    refine z_goto (pc := 5) (tgt := 9) C dX10_part_5 (by decide) ?_
    refine z_sub (lv' := [(0, .int x0), (1, .int x1)]) [0, 1] rfl ?_
    exact J9  x0 h

def pX10_chance_J97 (x1 : Int32) (x2 : Int32) (x3 : Int32) (x4 : Int32) (x5 : Int32) (Q : Int64 → Lf → Prop) (K70 : Lf → Int32 → Int32 → Prop) (v : Lf) (x7 : Int32) (t0 : Int32) (t1 : Int32) : Prop := (K70 v (t0 + t1) (x7 + 1))
def pX10_chance_L70 (x1 : Int32) (x2 : Int32) (x3 : Int32) (x4 : Int32) (x5 : Int32) (Q : Int64 → Lf → Prop) : Nat → Lf → Int32 → Int32 → Prop
  | 0, _, _, _ => False
  | n70 + 1, v, x6, x7 => ((x3 ≤ x7 → (pX10_part x6 x3 x5 (fun r14 => (Q r14 v)))) ∧ (¬ x3 ≤ x7 → (pX10_dayOf v (x1 + x7) x2 (fun r15 v_15 => ((x4 < r15 → (pX10_chance_J97 x1 x2 x3 x4 x5 Q (fun v x6 x7 => pX10_chance_L70 x1 x2 x3 x4 x5 Q n70 v x6 x7) v_15 x7 x6 (0 : Int32))) ∧ (¬ x4 < r15 → (pX10_chance_J97 x1 x2 x3 x4 x5 Q (fun v x6 x7 => pX10_chance_L70 x1 x2 x3 x4 x5 Q n70 v x6 x7) v_15 x7 x6 (1 : Int32))))))))
def pX10_chance (v : Lf) (x1 : Int32) (x2 : Int32) (x3 : Int32) (x4 : Int32) (x5 : Int32) (Q : Int64 → Lf → Prop) : Prop := (pX10_isIn x2 (0 : Int32) (99 : Int32) (fun r1 => ((r1 = 0 → (Q (-9223372036854775808 : Int64) v)) ∧ (¬ r1 = 0 → (pX10_isIn x3 (1 : Int32) (4 : Int32) (fun r3 => ((r3 = 0 → (Q (-9223372036854775808 : Int64) v)) ∧ (¬ r3 = 0 → (pX10_isIn x4 (0 : Int32) (99999 : Int32) (fun r5 => ((r5 = 0 → (Q (-9223372036854775808 : Int64) v)) ∧ (¬ r5 = 0 → (pX10_isIn x5 (0 : Int32) (1 : Int32) (fun r7 => ((r7 = 0 → (Q (-9223372036854775808 : Int64) v)) ∧ (¬ r7 = 0 → (((v 1 2) = 0 → (Q (-9223372036854775808 : Int64) v)) ∧ (¬ (v 1 2) = 0 → (pX10_counts v (x3 * x2) (fun r11 v_11 => ((¬ r11 = 0 → (∃ n70, pX10_chance_L70 x1 x2 x3 x4 x5 Q  n70 v_11 (0 : Int32) (0 : Int32))) ∧ (r11 = 0 → (Q (-9223372036854775808 : Int64) v_11)))))))))))))))))))))))
abbrev rmX10_chance : Room := { frames := 62, cells := 0, slots := 0, locals := 1303 }
abbrev wdX10_chance : List Cond := Cond.code yX10_chance cX10_chance 8 (some .long) :: TB
theorem hdSX10_chance : (yX10_chance).cls ≠ "java/lang/invoke/MethodHandle" ∧ (yX10_chance).cls ≠ "java/lang/invoke/VarHandle" ∧ (parseMethodDescriptor (yX10_chance).desc).map (fun d => d.parameters.length) = some 5 := by decide +kernel
theorem hdX10_chance : (yX10_chance).cls = RX10 ∧ (yX10_chance).cls ≠ "java/lang/invoke/MethodHandle" ∧ (yX10_chance).cls ≠ "java/lang/invoke/VarHandle" ∧ (parseMethodDescriptor (yX10_chance).desc).map (fun d => d.parameters.length) = some 5 := ⟨rfl, hdSX10_chance⟩
set_option maxHeartbeats 4000000 in
set_option maxRecDepth 100000 in
theorem kX10_chance {l : Launch} {D : va_G} {cI cJ cT : ClassId} (d : Nat → Nat)  (v : Lf) (g : Lg) (x1 : Int32) (x2 : Int32) (x3 : Int32) (x4 : Int32) (x5 : Int32) {Q : Int64 → Lf → Prop} (sz : Nat) (h : pX10_chance v x1 x2 x3 x4 x5 Q) : Met l yX10_chance wdX10_chance rmX10_chance (Pz D (tyL cI cJ cT) [.ref (d 0), .int x1, .int x2, .int x3, .int x4, .int x5] (wX10 cI cJ d v g) sz) (va_Ql (fun (r : Int64) (u : Lf) => Q r u) (Bz D (tyL cI cJ cT) (wX10 cI cJ d v g) sz (fun (u : Lf) => (wX10 cI cJ d u g))) (va_A (wX10 cI cJ d v g) sz)) 0 0 (va_A (wX10 cI cJ d v g) sz) := by
  refine z_metl (cc := cX10_chance) (maxL := 8) (own := RX10) (lv0 := [(0, .ref (d 0)), (1, .int x1), (2, .int x2), (3, .int x3), (4, .int x4), (5, .int x5)]) (by decide) rfl rfl (Nat.le_of_ble_eq_true rfl) rfl ?_
  intro p e s m args below meth c A QQ C hin hret
  have J97 : ∀ (K70 : Lf → Int32 → Int32 → Prop), (∀ (v : Lf) (x6 : Int32) (x7 : Int32), K70 v x6 x7 → ZZ p l e rmX10_chance s m args below meth c D A 8 0 0 QQ 70 (wX10 cI cJ d v g) [(0, .ref (d 0)), (1, .int x1), (2, .int x2), (3, .int x3), (4, .int x4), (5, .int x5), (6, .int x6), (7, .int x7)] []) → ∀ (v : Lf) (x7 : Int32) (t0 : Int32) (t1 : Int32), pX10_chance_J97 x1 x2 x3 x4 x5 Q K70 v x7 t0 t1 → ZZ p l e rmX10_chance s m args below meth c D A 8 0 0 QQ 97 (wX10 cI cJ d v g) [(0, .ref (d 0)), (1, .int x1), (2, .int x2), (3, .int x3), (4, .int x4), (5, .int x5), (7, .int x7)] [.int t1, .int t0] := by
    intro K70 hK70 v x7 t0 t1 h
    refine z_iadd (pc := 97) C dX10_chance_97 ?_
    refine z_istore (pc := 98) (lv' := [(6, .int (t0 + t1)), (0, .ref (d 0)), (1, .int x1), (2, .int x2), (3, .int x3), (4, .int x4), (5, .int x5), (7, .int x7)]) C dX10_chance_98 (by decide) rfl ?_
    refine z_iinc (pc := 100) (v := (x7 + 1)) (lv' := [(7, .int (x7 + 1)), (6, .int (t0 + t1)), (0, .ref (d 0)), (1, .int x1), (2, .int x2), (3, .int x3), (4, .int x4), (5, .int x5)]) C 7 dX10_chance_100 rfl rfl (by decide) rfl ?_
    refine z_goto (pc := 103) (tgt := 70) C dX10_chance_103 (by decide) ?_
    refine z_sub (lv' := [(0, .ref (d 0)), (1, .int x1), (2, .int x2), (3, .int x3), (4, .int x4), (5, .int x5), (6, .int (t0 + t1)), (7, .int (x7 + 1))]) [2, 3, 4, 5, 6, 7, 1, 0] rfl ?_
    exact hK70 v (t0 + t1) (x7 + 1) h
  have L70 : ∀ (n70 : Nat) (v : Lf) (x6 : Int32) (x7 : Int32), pX10_chance_L70 x1 x2 x3 x4 x5 Q n70 v x6 x7 → ZZ p l e rmX10_chance s m args below meth c D A 8 0 0 QQ 70 (wX10 cI cJ d v g) [(0, .ref (d 0)), (1, .int x1), (2, .int x2), (3, .int x3), (4, .int x4), (5, .int x5), (6, .int x6), (7, .int x7)] [] := by
    intro n70
    induction n70 with
    | zero => intro v x6 x7 h; exact False.elim h
    | succ n70 ih70 =>
      intro v x6 x7 h
      refine z_iload (pc := 70) C 7 dX10_chance_70 rfl ?_
      refine z_iload_n (pc := 72) C 3 dX10_chance_72 rfl ?_
      refine z_icmp_ge (pc := 73) (tgt := 106) C dX10_chance_73 (by decide) (fun c13 => ?_) (fun c13 => ?_)
      · have h := h.1 c13
        refine z_iload (pc := 106) C 6 dX10_chance_106 rfl ?_
        refine z_iload_n (pc := 108) C 3 dX10_chance_108 rfl ?_
        refine z_iload (pc := 109) C 5 dX10_chance_109 rfl ?_
        refine z_call0l (pc := 111) C (z_runS (pc := 111) (wc := ([] : va_W)) (As := [.int x6, .int x3, .int x5]) C (fun sz => kX10_part x6 x3 x5 sz h) [] rfl (by decide) (gdS wq1119 wq1121 wq1122 wq814) rfl rfl rfl hdSX10_part ⟨Nat.le_of_ble_eq_true rfl, Nat.le_of_ble_eq_true rfl⟩ rfl (Nat.le_of_ble_eq_true rfl) ⟨Nat.zero_le _, Nat.zero_le _⟩ dX10_chance_111) (fun r14 u14 h => ?_)
        exact hret 114 _ _ r14 v rfl h dX10_chance_114
      · have h := h.2 c13
        refine z_iload (pc := 76) C 6 dX10_chance_76 rfl ?_
        refine z_aload_n (pc := 78) C 0 dX10_chance_78 rfl ?_
        refine z_iload_n (pc := 79) C 1 dX10_chance_79 rfl ?_
        refine z_iload (pc := 80) C 7 dX10_chance_80 rfl ?_
        refine z_iadd (pc := 82) C dX10_chance_82 ?_
        refine z_iload_n (pc := 83) C 2 dX10_chance_83 rfl ?_
        refine z_calli (pc := 84) (wr := ([] : va_W)) (w1 := fun (u : Lf) => (wX10 cI cJ d u g)) (w2 := fun (u : Lf) => (wX10 cI cJ d u g)) C (z_runV (pc := 84) (wc := (wX10 cI cJ d v g)) (As := [.int (x1 + x7), .int x2]) C (fun sz => kX10_dayOf d v g (x1 + x7) x2 sz h) [0, 1, 2, 3, 4, 5, 6, 7, 8, 9, 10, 11] rfl (by decide) (gdV wq1111 wq1112 wq1113 wq1114 wq814) rfl rfl rfl hdX10_dayOf 0 rfl rfl rfl ⟨Nat.le_of_ble_eq_true rfl, Nat.le_of_ble_eq_true rfl⟩ rfl (Nat.le_of_ble_eq_true rfl) ⟨Nat.zero_le _, Nat.zero_le _⟩ dX10_chance_84) [0, 1, 2, 3, 4, 5, 6, 7, 8, 9, 10, 11] [] [0, 1, 2, 3, 4, 5, 6, 7, 8, 9, 10, 11] rfl rfl (by decide) (by decide) (fun _ => rfl) (by decide) (fun r15 u15 h => ?_)
        obtain ⟨v_15, hu15⟩ : ∃ z, z = u15 := ⟨_, rfl⟩
        subst hu15
        refine z_iload (pc := 87) C 4 dX10_chance_87 rfl ?_
        refine z_icmp_gt (pc := 89) (tgt := 96) C dX10_chance_89 (by decide) (fun c16 => ?_) (fun c16 => ?_)
        · have h := h.1 c16
          refine z_iconst (pc := 96) (v := 0) C dX10_chance_96 (by decide) ?_
          refine z_sub (lv' := [(0, .ref (d 0)), (1, .int x1), (2, .int x2), (3, .int x3), (4, .int x4), (5, .int x5), (7, .int x7)]) [0, 1, 2, 3, 4, 5, 7] rfl ?_
          exact J97 (fun v x6 x7 => pX10_chance_L70 x1 x2 x3 x4 x5 Q n70 v x6 x7) ih70 v_15 x7 x6 (0 : Int32) h
        · have h := h.2 c16
          refine z_iconst (pc := 92) (v := 1) C dX10_chance_92 (by decide) ?_
          refine z_goto (pc := 93) (tgt := 97) C dX10_chance_93 (by decide) ?_
          refine z_sub (lv' := [(0, .ref (d 0)), (1, .int x1), (2, .int x2), (3, .int x3), (4, .int x4), (5, .int x5), (7, .int x7)]) [0, 1, 2, 3, 4, 5, 7] rfl ?_
          exact J97 (fun v x6 x7 => pX10_chance_L70 x1 x2 x3 x4 x5 Q n70 v x6 x7) ih70 v_15 x7 x6 (1 : Int32) h
  refine z_iload_n (pc := 0) C 2 dX10_chance_0 rfl ?_
  refine z_iconst (pc := 1) (v := 0) C dX10_chance_1 (by decide) ?_
  refine z_bipush (pc := 2) (v := 99) C dX10_chance_2 (by decide) ?_
  refine z_call0i (pc := 4) C (z_runS (pc := 4) (wc := ([] : va_W)) (As := [.int x2, .int (0 : Int32), .int (99 : Int32)]) C (fun sz => kX10_isIn x2 (0 : Int32) (99 : Int32) sz h) [] rfl (by decide) (gdS wq849 wq852 wq853 wq814) rfl rfl rfl hdSX10_isIn ⟨Nat.le_of_ble_eq_true rfl, Nat.le_of_ble_eq_true rfl⟩ rfl (Nat.le_of_ble_eq_true rfl) ⟨Nat.zero_le _, Nat.zero_le _⟩ dX10_chance_4) (fun r1 u1 h => ?_)
  refine z_if_eq (pc := 7) (tgt := 60) C dX10_chance_7 (by decide) (fun c2 => ?_) (fun c2 => ?_)
  · have h := h.1 c2
    refine z_ldc2 (pc := 60) C wq1120 dX10_chance_60 ?_
    exact hret 63 _ _ (-9223372036854775808 : Int64) v rfl h dX10_chance_63
  · have h := h.2 c2
    refine z_iload_n (pc := 10) C 3 dX10_chance_10 rfl ?_
    refine z_iconst (pc := 11) (v := 1) C dX10_chance_11 (by decide) ?_
    refine z_iconst (pc := 12) (v := 4) C dX10_chance_12 (by decide) ?_
    refine z_call0i (pc := 13) C (z_runS (pc := 13) (wc := ([] : va_W)) (As := [.int x3, .int (1 : Int32), .int (4 : Int32)]) C (fun sz => kX10_isIn x3 (1 : Int32) (4 : Int32) sz h) [] rfl (by decide) (gdS wq849 wq852 wq853 wq814) rfl rfl rfl hdSX10_isIn ⟨Nat.le_of_ble_eq_true rfl, Nat.le_of_ble_eq_true rfl⟩ rfl (Nat.le_of_ble_eq_true rfl) ⟨Nat.zero_le _, Nat.zero_le _⟩ dX10_chance_13) (fun r3 u3 h => ?_)
    refine z_if_eq (pc := 16) (tgt := 60) C dX10_chance_16 (by decide) (fun c4 => ?_) (fun c4 => ?_)
    · have h := h.1 c4
      refine z_ldc2 (pc := 60) C wq1120 dX10_chance_60 ?_
      exact hret 63 _ _ (-9223372036854775808 : Int64) v rfl h dX10_chance_63
    · have h := h.2 c4
      refine z_iload (pc := 19) C 4 dX10_chance_19 rfl ?_
      refine z_iconst (pc := 21) (v := 0) C dX10_chance_21 (by decide) ?_
      refine z_ldcw (pc := 22) C wq1105 dX10_chance_22 ?_
      refine z_call0i (pc := 25) C (z_runS (pc := 25) (wc := ([] : va_W)) (As := [.int x4, .int (0 : Int32), .int (99999 : Int32)]) C (fun sz => kX10_isIn x4 (0 : Int32) (99999 : Int32) sz h) [] rfl (by decide) (gdS wq849 wq852 wq853 wq814) rfl rfl rfl hdSX10_isIn ⟨Nat.le_of_ble_eq_true rfl, Nat.le_of_ble_eq_true rfl⟩ rfl (Nat.le_of_ble_eq_true rfl) ⟨Nat.zero_le _, Nat.zero_le _⟩ dX10_chance_25) (fun r5 u5 h => ?_)
      refine z_if_eq (pc := 28) (tgt := 60) C dX10_chance_28 (by decide) (fun c6 => ?_) (fun c6 => ?_)
      · have h := h.1 c6
        refine z_ldc2 (pc := 60) C wq1120 dX10_chance_60 ?_
        exact hret 63 _ _ (-9223372036854775808 : Int64) v rfl h dX10_chance_63
      · have h := h.2 c6
        refine z_iload (pc := 31) C 5 dX10_chance_31 rfl ?_
        refine z_iconst (pc := 33) (v := 0) C dX10_chance_33 (by decide) ?_
        refine z_iconst (pc := 34) (v := 1) C dX10_chance_34 (by decide) ?_
        refine z_call0i (pc := 35) C (z_runS (pc := 35) (wc := ([] : va_W)) (As := [.int x5, .int (0 : Int32), .int (1 : Int32)]) C (fun sz => kX10_isIn x5 (0 : Int32) (1 : Int32) sz h) [] rfl (by decide) (gdS wq849 wq852 wq853 wq814) rfl rfl rfl hdSX10_isIn ⟨Nat.le_of_ble_eq_true rfl, Nat.le_of_ble_eq_true rfl⟩ rfl (Nat.le_of_ble_eq_true rfl) ⟨Nat.zero_le _, Nat.zero_le _⟩ dX10_chance_35) (fun r7 u7 h => ?_)
        refine z_if_eq (pc := 38) (tgt := 60) C dX10_chance_38 (by decide) (fun c8 => ?_) (fun c8 => ?_)
        · have h := h.1 c8
          refine z_ldc2 (pc := 60) C wq1120 dX10_chance_60 ?_
          exact hret 63 _ _ (-9223372036854775808 : Int64) v rfl h dX10_chance_63
        · have h := h.2 c8
          refine z_aload_n (pc := 41) C 0 dX10_chance_41 rfl ?_
          refine z_get (pc := 42) C uw10 0 rfl rfl 0 (by decide) wq809 rfl dX10_chance_42 ?_
          refine z_iconst (pc := 45) (v := 2) C dX10_chance_45 (by decide) ?_
          refine z_iald (pc := 46) C 1 0 rfl rfl vi_2_372 (v 1 2) (congrArg _ cl_2) dX10_chance_46 ?_
          refine z_if_eq (pc := 47) (tgt := 60) C dX10_chance_47 (by decide) (fun c10 => ?_) (fun c10 => ?_)
          · have h := h.1 c10
            refine z_ldc2 (pc := 60) C wq1120 dX10_chance_60 ?_
            exact hret 63 _ _ (-9223372036854775808 : Int64) v rfl h dX10_chance_63
          · have h := h.2 c10
            refine z_aload_n (pc := 50) C 0 dX10_chance_50 rfl ?_
            refine z_iload_n (pc := 51) C 3 dX10_chance_51 rfl ?_
            refine z_iload_n (pc := 52) C 2 dX10_chance_52 rfl ?_
            refine z_imul (pc := 53) C dX10_chance_53 ?_
            refine z_calli (pc := 54) (wr := ([] : va_W)) (w1 := fun (u : Lf) => (wX10 cI cJ d u g)) (w2 := fun (u : Lf) => (wX10 cI cJ d u g)) C (z_runV (pc := 54) (wc := (wX10 cI cJ d v g)) (As := [.int (x3 * x2)]) C (fun sz => kX10_counts d v g (x3 * x2) sz h) [0, 1, 2, 3, 4, 5, 6, 7, 8, 9, 10, 11] rfl (by decide) (gdV wq998 wq1005 wq1006 wq1007 wq814) rfl rfl rfl hdX10_counts 0 rfl rfl rfl ⟨Nat.le_of_ble_eq_true rfl, Nat.le_of_ble_eq_true rfl⟩ rfl (Nat.le_of_ble_eq_true rfl) ⟨Nat.zero_le _, Nat.zero_le _⟩ dX10_chance_54) [0, 1, 2, 3, 4, 5, 6, 7, 8, 9, 10, 11] [] [0, 1, 2, 3, 4, 5, 6, 7, 8, 9, 10, 11] rfl rfl (by decide) (by decide) (fun _ => rfl) (by decide) (fun r11 u11 h => ?_)
            obtain ⟨v_11, hu11⟩ : ∃ z, z = u11 := ⟨_, rfl⟩
            subst hu11
            refine z_if_ne (pc := 57) (tgt := 64) C dX10_chance_57 (by decide) (fun c12 => ?_) (fun c12 => ?_)
            · have h := h.1 c12
              refine z_iconst (pc := 64) (v := 0) C dX10_chance_64 (by decide) ?_
              refine z_istore (pc := 65) (lv' := [(6, .int (0 : Int32)), (0, .ref (d 0)), (1, .int x1), (2, .int x2), (3, .int x3), (4, .int x4), (5, .int x5)]) C dX10_chance_65 (by decide) rfl ?_
              refine z_iconst (pc := 67) (v := 0) C dX10_chance_67 (by decide) ?_
              refine z_istore (pc := 68) (lv' := [(7, .int (0 : Int32)), (6, .int (0 : Int32)), (0, .ref (d 0)), (1, .int x1), (2, .int x2), (3, .int x3), (4, .int x4), (5, .int x5)]) C dX10_chance_68 (by decide) rfl ?_
              obtain ⟨n70, h⟩ := h
              refine z_sub (lv' := [(0, .ref (d 0)), (1, .int x1), (2, .int x2), (3, .int x3), (4, .int x4), (5, .int x5), (6, .int (0 : Int32)), (7, .int (0 : Int32))]) [2, 3, 4, 5, 6, 7, 1, 0] rfl ?_
              exact L70  n70 v_11 (0 : Int32) (0 : Int32) h
            · have h := h.2 c12
              refine z_ldc2 (pc := 60) C wq1120 dX10_chance_60 ?_
              exact hret 63 _ _ (-9223372036854775808 : Int64) v_11 rfl h dX10_chance_63

def pX10_mean (v : Lf) (x1 : Int32) (Q : Int64 → Prop) : Prop := (pX10_isIn x1 (0 : Int32) (1 : Int32) (fun r1 => ((r1 = 0 → (Q (-9223372036854775808 : Int64) )) ∧ (¬ r1 = 0 → (((v 1 8) ≤ 0 → (Q (-9223372036854775808 : Int64) )) ∧ (¬ (v 1 8) ≤ 0 → (pX10_part (v 1 7) (v 1 8) x1 (fun r7 => (Q r7 )))))))))
abbrev rmX10_mean : Room := { frames := 62, cells := 0, slots := 0, locals := 1303 }
abbrev wdX10_mean : List Cond := Cond.code yX10_mean cX10_mean 2 (some .long) :: TB
theorem hdSX10_mean : (yX10_mean).cls ≠ "java/lang/invoke/MethodHandle" ∧ (yX10_mean).cls ≠ "java/lang/invoke/VarHandle" ∧ (parseMethodDescriptor (yX10_mean).desc).map (fun d => d.parameters.length) = some 1 := by decide +kernel
theorem hdX10_mean : (yX10_mean).cls = RX10 ∧ (yX10_mean).cls ≠ "java/lang/invoke/MethodHandle" ∧ (yX10_mean).cls ≠ "java/lang/invoke/VarHandle" ∧ (parseMethodDescriptor (yX10_mean).desc).map (fun d => d.parameters.length) = some 1 := ⟨rfl, hdSX10_mean⟩
set_option maxHeartbeats 4000000 in
set_option maxRecDepth 100000 in
theorem kX10_mean {l : Launch} {D : va_G} {cI cJ cT : ClassId} (d : Nat → Nat)  (v : Lf) (g : Lg) (x1 : Int32) {Q : Int64 → Prop} (sz : Nat) (h : pX10_mean v x1 Q) : Met l yX10_mean wdX10_mean rmX10_mean (Pz D (tyL cI cJ cT) [.ref (d 0), .int x1] (wX10 cI cJ d v g) sz) (va_Ql (fun (r : Int64) (u : Unit) => Q r) (Bz D (tyL cI cJ cT) (wX10 cI cJ d v g) sz (fun (u : Unit) => (wX10 cI cJ d v g))) (va_A (wX10 cI cJ d v g) sz)) 0 0 (va_A (wX10 cI cJ d v g) sz) := by
  refine z_metl (cc := cX10_mean) (maxL := 2) (own := RX10) (lv0 := [(0, .ref (d 0)), (1, .int x1)]) (by decide) rfl rfl (Nat.le_of_ble_eq_true rfl) rfl ?_
  intro p e s m args below meth c A QQ C hin hret
  refine z_iload_n (pc := 0) C 1 dX10_mean_0 rfl ?_
  refine z_iconst (pc := 1) (v := 0) C dX10_mean_1 (by decide) ?_
  refine z_iconst (pc := 2) (v := 1) C dX10_mean_2 (by decide) ?_
  refine z_call0i (pc := 3) C (z_runS (pc := 3) (wc := ([] : va_W)) (As := [.int x1, .int (0 : Int32), .int (1 : Int32)]) C (fun sz => kX10_isIn x1 (0 : Int32) (1 : Int32) sz h) [] rfl (by decide) (gdS wq849 wq852 wq853 wq814) rfl rfl rfl hdSX10_isIn ⟨Nat.le_of_ble_eq_true rfl, Nat.le_of_ble_eq_true rfl⟩ rfl (Nat.le_of_ble_eq_true rfl) ⟨Nat.zero_le _, Nat.zero_le _⟩ dX10_mean_3) (fun r1 u1 h => ?_)
  refine z_if_eq (pc := 6) (tgt := 40) C dX10_mean_6 (by decide) (fun c2 => ?_) (fun c2 => ?_)
  · have h := h.1 c2
    refine z_ldc2 (pc := 40) C wq1120 dX10_mean_40 ?_
    exact hret 43 _ _ (-9223372036854775808 : Int64) () rfl h dX10_mean_43
  · have h := h.2 c2
    refine z_aload_n (pc := 9) C 0 dX10_mean_9 rfl ?_
    refine z_get (pc := 10) C uw10 0 rfl rfl 0 (by decide) wq809 rfl dX10_mean_10 ?_
    refine z_bipush (pc := 13) (v := 8) C dX10_mean_13 (by decide) ?_
    refine z_iald (pc := 15) C 1 0 rfl rfl vi_8_372 (v 1 8) (congrArg _ cl_8) dX10_mean_15 ?_
    refine z_if_le (pc := 16) (tgt := 40) C dX10_mean_16 (by decide) (fun c4 => ?_) (fun c4 => ?_)
    · have h := h.1 c4
      refine z_ldc2 (pc := 40) C wq1120 dX10_mean_40 ?_
      exact hret 43 _ _ (-9223372036854775808 : Int64) () rfl h dX10_mean_43
    · have h := h.2 c4
      refine z_aload_n (pc := 19) C 0 dX10_mean_19 rfl ?_
      refine z_get (pc := 20) C uw10 0 rfl rfl 0 (by decide) wq809 rfl dX10_mean_20 ?_
      refine z_bipush (pc := 23) (v := 7) C dX10_mean_23 (by decide) ?_
      refine z_iald (pc := 25) C 1 0 rfl rfl vi_7_372 (v 1 7) (congrArg _ cl_7) dX10_mean_25 ?_
      refine z_aload_n (pc := 26) C 0 dX10_mean_26 rfl ?_
      refine z_get (pc := 27) C uw10 0 rfl rfl 0 (by decide) wq809 rfl dX10_mean_27 ?_
      refine z_bipush (pc := 30) (v := 8) C dX10_mean_30 (by decide) ?_
      refine z_iald (pc := 32) C 1 0 rfl rfl vi_8_372 (v 1 8) (congrArg _ cl_8) dX10_mean_32 ?_
      refine z_iload_n (pc := 33) C 1 dX10_mean_33 rfl ?_
      refine z_call0l (pc := 34) C (z_runS (pc := 34) (wc := ([] : va_W)) (As := [.int (v 1 7), .int (v 1 8), .int x1]) C (fun sz => kX10_part (v 1 7) (v 1 8) x1 sz h) [] rfl (by decide) (gdS wq1119 wq1121 wq1122 wq814) rfl rfl rfl hdSX10_part ⟨Nat.le_of_ble_eq_true rfl, Nat.le_of_ble_eq_true rfl⟩ rfl (Nat.le_of_ble_eq_true rfl) ⟨Nat.zero_le _, Nat.zero_le _⟩ dX10_mean_34) (fun r7 u7 h => ?_)
      refine z_goto (pc := 37) (tgt := 43) C dX10_mean_37 (by decide) ?_
      exact hret 43 _ _ r7 () rfl h dX10_mean_43

def pX10_plan_J60 (x1 : Int32) (x2 : Int32) (Q : Int32 → Lf → Prop) (v : Lf) : Prop := ((¬ (v 1 20) = (8 : Int32) → (vp_in ((355 : Int32) + ((2 : Int32) * (v 1 20))) 372 ∧ (vp_in (((355 : Int32) + ((2 : Int32) * ((st v 1 (((355 : Int32) + ((2 : Int32) * (v 1 20))).toNatClampNeg) x1) 1 20))) + (1 : Int32)) 372 ∧ (Q ((st (st (st v 1 (((355 : Int32) + ((2 : Int32) * (v 1 20))).toNatClampNeg) x1) 1 ((((355 : Int32) + ((2 : Int32) * ((st v 1 (((355 : Int32) + ((2 : Int32) * (v 1 20))).toNatClampNeg) x1) 1 20))) + (1 : Int32)).toNatClampNeg) x2) 1 20 (((st (st v 1 (((355 : Int32) + ((2 : Int32) * (v 1 20))).toNatClampNeg) x1) 1 ((((355 : Int32) + ((2 : Int32) * ((st v 1 (((355 : Int32) + ((2 : Int32) * (v 1 20))).toNatClampNeg) x1) 1 20))) + (1 : Int32)).toNatClampNeg) x2) 1 20) + (1 : Int32))) 1 20) (st (st (st v 1 (((355 : Int32) + ((2 : Int32) * (v 1 20))).toNatClampNeg) x1) 1 ((((355 : Int32) + ((2 : Int32) * ((st v 1 (((355 : Int32) + ((2 : Int32) * (v 1 20))).toNatClampNeg) x1) 1 20))) + (1 : Int32)).toNatClampNeg) x2) 1 20 (((st (st v 1 (((355 : Int32) + ((2 : Int32) * (v 1 20))).toNatClampNeg) x1) 1 ((((355 : Int32) + ((2 : Int32) * ((st v 1 (((355 : Int32) + ((2 : Int32) * (v 1 20))).toNatClampNeg) x1) 1 20))) + (1 : Int32)).toNatClampNeg) x2) 1 20) + (1 : Int32))))))) ∧ ((v 1 20) = (8 : Int32) → (Q (-4 : Int32) v)))
def pX10_plan_J40 (x1 : Int32) (x2 : Int32) (Q : Int32 → Lf → Prop) (v : Lf) : Prop := ((¬ (x1 - x1 / (2 : Int32) * (2 : Int32)) = (1 : Int32) → (pX10_plan_J60 x1 x2 Q  v)) ∧ ((x1 - x1 / (2 : Int32) * (2 : Int32)) = (1 : Int32) → (pX10_isIn x2 (0 : Int32) (7 : Int32) (fun r15 => ((¬ r15 = 0 → (pX10_plan_J60 x1 x2 Q  v)) ∧ (r15 = 0 → (Q (-2 : Int32) v)))))))
def pX10_plan (v : Lf) (x1 : Int32) (x2 : Int32) (Q : Int32 → Lf → Prop) : Prop := ((¬ x1 = (-1 : Int32) → (pX10_isIn x1 (0 : Int32) (3 : Int32) (fun r2 => ((¬ r2 = 0 → ((¬ x1 = 0 → (pX10_plan_J40 x1 x2 Q  v)) ∧ (x1 = 0 → (pX10_isIn x2 (0 : Int32) (99 : Int32) (fun r17 => ((r17 = 0 → (Q (-2 : Int32) v)) ∧ (¬ r17 = 0 → (pX10_plan_J40 x1 x2 Q  v)))))))) ∧ (r2 = 0 → (Q (-1 : Int32) v)))))) ∧ (x1 = (-1 : Int32) → (Q (0 : Int32) (st v 1 20 (0 : Int32)))))
abbrev rmX10_plan : Room := { frames := 1, cells := 0, slots := 0, locals := 22 }
abbrev wdX10_plan : List Cond := Cond.code yX10_plan cX10_plan 3 (some .int) :: TB
theorem hdSX10_plan : (yX10_plan).cls ≠ "java/lang/invoke/MethodHandle" ∧ (yX10_plan).cls ≠ "java/lang/invoke/VarHandle" ∧ (parseMethodDescriptor (yX10_plan).desc).map (fun d => d.parameters.length) = some 2 := by decide +kernel
theorem hdX10_plan : (yX10_plan).cls = RX10 ∧ (yX10_plan).cls ≠ "java/lang/invoke/MethodHandle" ∧ (yX10_plan).cls ≠ "java/lang/invoke/VarHandle" ∧ (parseMethodDescriptor (yX10_plan).desc).map (fun d => d.parameters.length) = some 2 := ⟨rfl, hdSX10_plan⟩
set_option maxHeartbeats 4000000 in
set_option maxRecDepth 100000 in
theorem kX10_plan {l : Launch} {D : va_G} {cI cJ cT : ClassId} (d : Nat → Nat)  (v : Lf) (g : Lg) (x1 : Int32) (x2 : Int32) {Q : Int32 → Lf → Prop} (sz : Nat) (h : pX10_plan v x1 x2 Q) : Met l yX10_plan wdX10_plan rmX10_plan (Pz D (tyL cI cJ cT) [.ref (d 0), .int x1, .int x2] (wX10 cI cJ d v g) sz) (va_Qi (fun (r : Int32) (u : Lf) => Q r u) (Bz D (tyL cI cJ cT) (wX10 cI cJ d v g) sz (fun (u : Lf) => (wX10 cI cJ d u g))) (va_A (wX10 cI cJ d v g) sz)) 0 0 (va_A (wX10 cI cJ d v g) sz) := by
  refine z_meti (cc := cX10_plan) (maxL := 3) (own := RX10) (lv0 := [(0, .ref (d 0)), (1, .int x1), (2, .int x2)]) (by decide) rfl rfl (Nat.le_of_ble_eq_true rfl) rfl ?_
  intro p e s m args below meth c A QQ C hin hret
  have J60 : ∀ (v : Lf), pX10_plan_J60 x1 x2 Q v → ZZ p l e rmX10_plan s m args below meth c D A 3 0 0 QQ 60 (wX10 cI cJ d v g) [(0, .ref (d 0)), (1, .int x1), (2, .int x2)] [] := by
    intro  v h
    refine z_aload_n (pc := 60) C 0 dX10_plan_60 rfl ?_
    refine z_get (pc := 61) C uw10 0 rfl rfl 0 (by decide) wq809 rfl dX10_plan_61 ?_
    refine z_bipush (pc := 64) (v := 20) C dX10_plan_64 (by decide) ?_
    refine z_iald (pc := 66) C 1 0 rfl rfl vi_20_372 (v 1 20) (congrArg _ cl_20) dX10_plan_66 ?_
    refine z_bipush (pc := 67) (v := 8) C dX10_plan_67 (by decide) ?_
    refine z_icmp_ne (pc := 69) (tgt := 75) C dX10_plan_69 (by decide) (fun c7 => ?_) (fun c7 => ?_)
    · have h := h.1 c7
      refine z_aload_n (pc := 75) C 0 dX10_plan_75 rfl ?_
      refine z_get (pc := 76) C uw10 0 rfl rfl 0 (by decide) wq809 rfl dX10_plan_76 ?_
      refine z_sipush (pc := 79) (v := 355) C dX10_plan_79 (by decide) ?_
      refine z_iconst (pc := 82) (v := 2) C dX10_plan_82 (by decide) ?_
      refine z_aload_n (pc := 83) C 0 dX10_plan_83 rfl ?_
      refine z_get (pc := 84) C uw10 0 rfl rfl 0 (by decide) wq809 rfl dX10_plan_84 ?_
      refine z_bipush (pc := 87) (v := 20) C dX10_plan_87 (by decide) ?_
      refine z_iald (pc := 89) C 1 0 rfl rfl vi_20_372 (v 1 20) (congrArg _ cl_20) dX10_plan_89 ?_
      refine z_imul (pc := 90) C dX10_plan_90 ?_
      refine z_iadd (pc := 91) C dX10_plan_91 ?_
      refine z_iload_n (pc := 92) C 1 dX10_plan_92 rfl ?_
      obtain ⟨g9, h⟩ := h
      refine z_iast (pc := 93) (ws' := (wX10 cI cJ d (st v 1 (((355 : Int32) + ((2 : Int32) * (v 1 20))).toNatClampNeg) x1) g)) C 1 0 rfl rfl g9 dX10_plan_93 rfl sX10_a1 ?_
      refine z_aload_n (pc := 94) C 0 dX10_plan_94 rfl ?_
      refine z_get (pc := 95) C uw10 0 rfl rfl 0 (by decide) wq809 rfl dX10_plan_95 ?_
      refine z_sipush (pc := 98) (v := 355) C dX10_plan_98 (by decide) ?_
      refine z_iconst (pc := 101) (v := 2) C dX10_plan_101 (by decide) ?_
      refine z_aload_n (pc := 102) C 0 dX10_plan_102 rfl ?_
      refine z_get (pc := 103) C uw10 0 rfl rfl 0 (by decide) wq809 rfl dX10_plan_103 ?_
      refine z_bipush (pc := 106) (v := 20) C dX10_plan_106 (by decide) ?_
      refine z_iald (pc := 108) C 1 0 rfl rfl vi_20_372 ((st v 1 (((355 : Int32) + ((2 : Int32) * (v 1 20))).toNatClampNeg) x1) 1 20) (congrArg _ cl_20) dX10_plan_108 ?_
      refine z_imul (pc := 109) C dX10_plan_109 ?_
      refine z_iadd (pc := 110) C dX10_plan_110 ?_
      refine z_iconst (pc := 111) (v := 1) C dX10_plan_111 (by decide) ?_
      refine z_iadd (pc := 112) C dX10_plan_112 ?_
      refine z_iload_n (pc := 113) C 2 dX10_plan_113 rfl ?_
      obtain ⟨g11, h⟩ := h
      refine z_iast (pc := 114) (ws' := (wX10 cI cJ d (st (st v 1 (((355 : Int32) + ((2 : Int32) * (v 1 20))).toNatClampNeg) x1) 1 ((((355 : Int32) + ((2 : Int32) * ((st v 1 (((355 : Int32) + ((2 : Int32) * (v 1 20))).toNatClampNeg) x1) 1 20))) + (1 : Int32)).toNatClampNeg) x2) g)) C 1 0 rfl rfl g11 dX10_plan_114 rfl sX10_a1 ?_
      refine z_aload_n (pc := 115) C 0 dX10_plan_115 rfl ?_
      refine z_get (pc := 116) C uw10 0 rfl rfl 0 (by decide) wq809 rfl dX10_plan_116 ?_
      refine z_bipush (pc := 119) (v := 20) C dX10_plan_119 (by decide) ?_
      refine z_dup2 (pc := 121) C dX10_plan_121 rfl rfl ?_
      refine z_iald (pc := 122) C 1 0 rfl rfl vi_20_372 ((st (st v 1 (((355 : Int32) + ((2 : Int32) * (v 1 20))).toNatClampNeg) x1) 1 ((((355 : Int32) + ((2 : Int32) * ((st v 1 (((355 : Int32) + ((2 : Int32) * (v 1 20))).toNatClampNeg) x1) 1 20))) + (1 : Int32)).toNatClampNeg) x2) 1 20) (congrArg _ cl_20) dX10_plan_122 ?_
      refine z_iconst (pc := 123) (v := 1) C dX10_plan_123 (by decide) ?_
      refine z_iadd (pc := 124) C dX10_plan_124 ?_
      refine z_iast (pc := 125) (ws' := (wX10 cI cJ d (st (st (st v 1 (((355 : Int32) + ((2 : Int32) * (v 1 20))).toNatClampNeg) x1) 1 ((((355 : Int32) + ((2 : Int32) * ((st v 1 (((355 : Int32) + ((2 : Int32) * (v 1 20))).toNatClampNeg) x1) 1 20))) + (1 : Int32)).toNatClampNeg) x2) 1 20 (((st (st v 1 (((355 : Int32) + ((2 : Int32) * (v 1 20))).toNatClampNeg) x1) 1 ((((355 : Int32) + ((2 : Int32) * ((st v 1 (((355 : Int32) + ((2 : Int32) * (v 1 20))).toNatClampNeg) x1) 1 20))) + (1 : Int32)).toNatClampNeg) x2) 1 20) + (1 : Int32))) g)) C 1 0 rfl rfl vi_20_372 dX10_plan_125 cl_20 sX10_a1 ?_
      refine z_aload_n (pc := 126) C 0 dX10_plan_126 rfl ?_
      refine z_get (pc := 127) C uw10 0 rfl rfl 0 (by decide) wq809 rfl dX10_plan_127 ?_
      refine z_bipush (pc := 130) (v := 20) C dX10_plan_130 (by decide) ?_
      refine z_iald (pc := 132) C 1 0 rfl rfl vi_20_372 ((st (st (st v 1 (((355 : Int32) + ((2 : Int32) * (v 1 20))).toNatClampNeg) x1) 1 ((((355 : Int32) + ((2 : Int32) * ((st v 1 (((355 : Int32) + ((2 : Int32) * (v 1 20))).toNatClampNeg) x1) 1 20))) + (1 : Int32)).toNatClampNeg) x2) 1 20 (((st (st v 1 (((355 : Int32) + ((2 : Int32) * (v 1 20))).toNatClampNeg) x1) 1 ((((355 : Int32) + ((2 : Int32) * ((st v 1 (((355 : Int32) + ((2 : Int32) * (v 1 20))).toNatClampNeg) x1) 1 20))) + (1 : Int32)).toNatClampNeg) x2) 1 20) + (1 : Int32))) 1 20) (congrArg _ cl_20) dX10_plan_132 ?_
      exact hret 133 _ _ ((st (st (st v 1 (((355 : Int32) + ((2 : Int32) * (v 1 20))).toNatClampNeg) x1) 1 ((((355 : Int32) + ((2 : Int32) * ((st v 1 (((355 : Int32) + ((2 : Int32) * (v 1 20))).toNatClampNeg) x1) 1 20))) + (1 : Int32)).toNatClampNeg) x2) 1 20 (((st (st v 1 (((355 : Int32) + ((2 : Int32) * (v 1 20))).toNatClampNeg) x1) 1 ((((355 : Int32) + ((2 : Int32) * ((st v 1 (((355 : Int32) + ((2 : Int32) * (v 1 20))).toNatClampNeg) x1) 1 20))) + (1 : Int32)).toNatClampNeg) x2) 1 20) + (1 : Int32))) 1 20) (st (st (st v 1 (((355 : Int32) + ((2 : Int32) * (v 1 20))).toNatClampNeg) x1) 1 ((((355 : Int32) + ((2 : Int32) * ((st v 1 (((355 : Int32) + ((2 : Int32) * (v 1 20))).toNatClampNeg) x1) 1 20))) + (1 : Int32)).toNatClampNeg) x2) 1 20 (((st (st v 1 (((355 : Int32) + ((2 : Int32) * (v 1 20))).toNatClampNeg) x1) 1 ((((355 : Int32) + ((2 : Int32) * ((st v 1 (((355 : Int32) + ((2 : Int32) * (v 1 20))).toNatClampNeg) x1) 1 20))) + (1 : Int32)).toNatClampNeg) x2) 1 20) + (1 : Int32))) rfl h dX10_plan_133
    · have h := h.2 c7
      refine z_bipush (pc := 72) (v := -4) C dX10_plan_72 (by decide) ?_
      exact hret 74 _ _ (-4 : Int32) v rfl h dX10_plan_74
  have J40 : ∀ (v : Lf), pX10_plan_J40 x1 x2 Q v → ZZ p l e rmX10_plan s m args below meth c D A 3 0 0 QQ 40 (wX10 cI cJ d v g) [(0, .ref (d 0)), (1, .int x1), (2, .int x2)] [] := by
    intro  v h
    refine z_iload_n (pc := 40) C 1 dX10_plan_40 rfl ?_
    refine z_iconst (pc := 41) (v := 2) C dX10_plan_41 (by decide) ?_
    refine z_irem (pc := 42) C dX10_plan_42 (by decide) ?_
    refine z_iconst (pc := 43) (v := 1) C dX10_plan_43 (by decide) ?_
    refine z_icmp_ne (pc := 44) (tgt := 60) C dX10_plan_44 (by decide) (fun c5 => ?_) (fun c5 => ?_)
    · have h := h.1 c5
      exact J60  v h
    · have h := h.2 c5
      refine z_iload_n (pc := 47) C 2 dX10_plan_47 rfl ?_
      refine z_iconst (pc := 48) (v := 0) C dX10_plan_48 (by decide) ?_
      refine z_bipush (pc := 49) (v := 7) C dX10_plan_49 (by decide) ?_
      refine z_call0i (pc := 51) C (z_runS (pc := 51) (wc := ([] : va_W)) (As := [.int x2, .int (0 : Int32), .int (7 : Int32)]) C (fun sz => kX10_isIn x2 (0 : Int32) (7 : Int32) sz h) [] rfl (by decide) (gdS wq849 wq852 wq853 wq814) rfl rfl rfl hdSX10_isIn ⟨Nat.le_of_ble_eq_true rfl, Nat.le_of_ble_eq_true rfl⟩ rfl (Nat.le_of_ble_eq_true rfl) ⟨Nat.zero_le _, Nat.zero_le _⟩ dX10_plan_51) (fun r15 u15 h => ?_)
      refine z_if_ne (pc := 54) (tgt := 60) C dX10_plan_54 (by decide) (fun c16 => ?_) (fun c16 => ?_)
      · have h := h.1 c16
        exact J60  v h
      · have h := h.2 c16
        refine z_bipush (pc := 57) (v := -2) C dX10_plan_57 (by decide) ?_
        exact hret 59 _ _ (-2 : Int32) v rfl h dX10_plan_59
  refine z_iload_n (pc := 0) C 1 dX10_plan_0 rfl ?_
  refine z_iconst (pc := 1) (v := -1) C dX10_plan_1 (by decide) ?_
  refine z_icmp_ne (pc := 2) (tgt := 15) C dX10_plan_2 (by decide) (fun c1 => ?_) (fun c1 => ?_)
  · have h := h.1 c1
    refine z_iload_n (pc := 15) C 1 dX10_plan_15 rfl ?_
    refine z_iconst (pc := 16) (v := 0) C dX10_plan_16 (by decide) ?_
    refine z_iconst (pc := 17) (v := 3) C dX10_plan_17 (by decide) ?_
    refine z_call0i (pc := 18) C (z_runS (pc := 18) (wc := ([] : va_W)) (As := [.int x1, .int (0 : Int32), .int (3 : Int32)]) C (fun sz => kX10_isIn x1 (0 : Int32) (3 : Int32) sz h) [] rfl (by decide) (gdS wq849 wq852 wq853 wq814) rfl rfl rfl hdSX10_isIn ⟨Nat.le_of_ble_eq_true rfl, Nat.le_of_ble_eq_true rfl⟩ rfl (Nat.le_of_ble_eq_true rfl) ⟨Nat.zero_le _, Nat.zero_le _⟩ dX10_plan_18) (fun r2 u2 h => ?_)
    refine z_if_ne (pc := 21) (tgt := 26) C dX10_plan_21 (by decide) (fun c3 => ?_) (fun c3 => ?_)
    · have h := h.1 c3
      refine z_iload_n (pc := 26) C 1 dX10_plan_26 rfl ?_
      refine z_if_ne (pc := 27) (tgt := 40) C dX10_plan_27 (by decide) (fun c4 => ?_) (fun c4 => ?_)
      · have h := h.1 c4
        exact J40  v h
      · have h := h.2 c4
        refine z_iload_n (pc := 30) C 2 dX10_plan_30 rfl ?_
        refine z_iconst (pc := 31) (v := 0) C dX10_plan_31 (by decide) ?_
        refine z_bipush (pc := 32) (v := 99) C dX10_plan_32 (by decide) ?_
        refine z_call0i (pc := 34) C (z_runS (pc := 34) (wc := ([] : va_W)) (As := [.int x2, .int (0 : Int32), .int (99 : Int32)]) C (fun sz => kX10_isIn x2 (0 : Int32) (99 : Int32) sz h) [] rfl (by decide) (gdS wq849 wq852 wq853 wq814) rfl rfl rfl hdSX10_isIn ⟨Nat.le_of_ble_eq_true rfl, Nat.le_of_ble_eq_true rfl⟩ rfl (Nat.le_of_ble_eq_true rfl) ⟨Nat.zero_le _, Nat.zero_le _⟩ dX10_plan_34) (fun r17 u17 h => ?_)
        refine z_if_eq (pc := 37) (tgt := 57) C dX10_plan_37 (by decide) (fun c18 => ?_) (fun c18 => ?_)
        · have h := h.1 c18
          refine z_bipush (pc := 57) (v := -2) C dX10_plan_57 (by decide) ?_
          exact hret 59 _ _ (-2 : Int32) v rfl h dX10_plan_59
        · have h := h.2 c18
          exact J40  v h
    · have h := h.2 c3
      refine z_iconst (pc := 24) (v := -1) C dX10_plan_24 (by decide) ?_
      exact hret 25 _ _ (-1 : Int32) v rfl h dX10_plan_25
  · have h := h.2 c1
    refine z_aload_n (pc := 5) C 0 dX10_plan_5 rfl ?_
    refine z_get (pc := 6) C uw10 0 rfl rfl 0 (by decide) wq809 rfl dX10_plan_6 ?_
    refine z_bipush (pc := 9) (v := 20) C dX10_plan_9 (by decide) ?_
    refine z_iconst (pc := 11) (v := 0) C dX10_plan_11 (by decide) ?_
    refine z_iast (pc := 12) (ws' := (wX10 cI cJ d (st v 1 20 (0 : Int32)) g)) C 1 0 rfl rfl vi_20_372 dX10_plan_12 cl_20 sX10_a1 ?_
    refine z_iconst (pc := 13) (v := 0) C dX10_plan_13 (by decide) ?_
    exact hret 14 _ _ (0 : Int32) (st v 1 20 (0 : Int32)) rfl h dX10_plan_14

def pX10_does_J30 (x1 : Int32) (x2 : Int32) (Q : Lf → Prop) (v : Lf) : Prop := ((¬ x1 = (3 : Int32) → (Q v)) ∧ (x1 = (3 : Int32) → (pX10_isSignal v x2 (fun r5 => ((r5 = 0 → (Q v)) ∧ (¬ r5 = 0 → (pX10_puts v x2 (5 : Int32) (0 : Int32) (fun v_7 => (Q v_7)))))))))
def pX10_does_J20 (x1 : Int32) (x2 : Int32) (Q : Lf → Prop) (v : Lf) : Prop := ((¬ x1 = (2 : Int32) → (pX10_does_J30 x1 x2 Q  v)) ∧ (x1 = (2 : Int32) → (pX10_over v (fun r8 v_8 => (pX10_does_J30 x1 x2 Q  v_8)))))
def pX10_does_J9 (x1 : Int32) (x2 : Int32) (Q : Lf → Prop) (v : Lf) : Prop := ((¬ x1 = (1 : Int32) → (pX10_does_J20 x1 x2 Q  v)) ∧ (x1 = (1 : Int32) → (pX10_emergency v x2 (fun r9 v_9 => (pX10_does_J20 x1 x2 Q  v_9)))))
def pX10_does (v : Lf) (x1 : Int32) (x2 : Int32) (Q : Lf → Prop) : Prop := ((¬ x1 = 0 → (pX10_does_J9 x1 x2 Q  v)) ∧ (x1 = 0 → (pX10_passes v x2 (fun v_10 => (pX10_does_J9 x1 x2 Q  v_10)))))
abbrev rmX10_does : Room := { frames := 6, cells := 0, slots := 0, locals := 136 }
abbrev wdX10_does : List Cond := Cond.code yX10_does cX10_does 3 none :: TB
theorem hdSX10_does : (yX10_does).cls ≠ "java/lang/invoke/MethodHandle" ∧ (yX10_does).cls ≠ "java/lang/invoke/VarHandle" ∧ (parseMethodDescriptor (yX10_does).desc).map (fun d => d.parameters.length) = some 2 := by decide +kernel
theorem hdX10_does : (yX10_does).cls = RX10 ∧ (yX10_does).cls ≠ "java/lang/invoke/MethodHandle" ∧ (yX10_does).cls ≠ "java/lang/invoke/VarHandle" ∧ (parseMethodDescriptor (yX10_does).desc).map (fun d => d.parameters.length) = some 2 := ⟨rfl, hdSX10_does⟩
set_option maxHeartbeats 4000000 in
set_option maxRecDepth 100000 in
theorem kX10_does {l : Launch} {D : va_G} {cI cJ cT : ClassId} (d : Nat → Nat)  (v : Lf) (g : Lg) (x1 : Int32) (x2 : Int32) {Q : Lf → Prop} (sz : Nat) (h : pX10_does v x1 x2 Q) : Met l yX10_does wdX10_does rmX10_does (Pz D (tyL cI cJ cT) [.ref (d 0), .int x1, .int x2] (wX10 cI cJ d v g) sz) (va_Qv (fun (u : Lf) => Q u) (Bz D (tyL cI cJ cT) (wX10 cI cJ d v g) sz (fun (u : Lf) => (wX10 cI cJ d u g))) (va_A (wX10 cI cJ d v g) sz)) 0 0 (va_A (wX10 cI cJ d v g) sz) := by
  refine z_metv (cc := cX10_does) (maxL := 3) (own := RX10) (lv0 := [(0, .ref (d 0)), (1, .int x1), (2, .int x2)]) (by decide) rfl rfl (Nat.le_of_ble_eq_true rfl) rfl ?_
  intro p e s m args below meth c A QQ C hin hret
  have J30 : ∀ (v : Lf), pX10_does_J30 x1 x2 Q v → ZZ p l e rmX10_does s m args below meth c D A 3 0 0 QQ 30 (wX10 cI cJ d v g) [(0, .ref (d 0)), (1, .int x1), (2, .int x2)] [] := by
    intro  v h
    refine z_iload_n (pc := 30) C 1 dX10_does_30 rfl ?_
    refine z_iconst (pc := 31) (v := 3) C dX10_does_31 (by decide) ?_
    refine z_icmp_ne (pc := 32) (tgt := 50) C dX10_does_32 (by decide) (fun c4 => ?_) (fun c4 => ?_)
    · have h := h.1 c4
      exact hret 50 _ _ v rfl h dX10_does_50
    · have h := h.2 c4
      refine z_aload_n (pc := 35) C 0 dX10_does_35 rfl ?_
      refine z_iload_n (pc := 36) C 2 dX10_does_36 rfl ?_
      refine z_callRi (pc := 37) C (z_runV (pc := 37) (wc := (wX10 cI cJ d v g)) (As := [.int x2]) C (fun sz => kX10_isSignal d v g x2 sz h) [0, 1, 2, 3, 4, 5, 6, 7, 8, 9, 10, 11] rfl (by decide) (gdV wq851 wq875 wq876 wq877 wq814) rfl rfl rfl hdX10_isSignal 0 rfl rfl rfl ⟨Nat.le_of_ble_eq_true rfl, Nat.le_of_ble_eq_true rfl⟩ rfl (Nat.le_of_ble_eq_true rfl) ⟨Nat.zero_le _, Nat.zero_le _⟩ dX10_does_37) [0, 1, 2, 3, 4, 5, 6, 7, 8, 9, 10, 11] rfl (by decide) (fun r5 u5 h => ?_)
      refine z_if_eq (pc := 40) (tgt := 50) C dX10_does_40 (by decide) (fun c6 => ?_) (fun c6 => ?_)
      · have h := h.1 c6
        exact hret 50 _ _ v rfl h dX10_does_50
      · have h := h.2 c6
        refine z_aload_n (pc := 43) C 0 dX10_does_43 rfl ?_
        refine z_iload_n (pc := 44) C 2 dX10_does_44 rfl ?_
        refine z_iconst (pc := 45) (v := 5) C dX10_does_45 (by decide) ?_
        refine z_iconst (pc := 46) (v := 0) C dX10_does_46 (by decide) ?_
        refine z_callv (pc := 47) (wr := ([] : va_W)) (w1 := fun (u : Lf) => (wX10 cI cJ d u g)) (w2 := fun (u : Lf) => (wX10 cI cJ d u g)) C (z_runV (pc := 47) (wc := (wX10 cI cJ d v g)) (As := [.int x2, .int (5 : Int32), .int (0 : Int32)]) C (fun sz => kX10_puts d v g x2 (5 : Int32) (0 : Int32) sz h) [0, 1, 2, 3, 4, 5, 6, 7, 8, 9, 10, 11] rfl (by decide) (gdV wq855 wq864 wq865 wq866 wq814) rfl rfl rfl hdX10_puts 0 rfl rfl rfl ⟨Nat.le_of_ble_eq_true rfl, Nat.le_of_ble_eq_true rfl⟩ rfl (Nat.le_of_ble_eq_true rfl) ⟨Nat.zero_le _, Nat.zero_le _⟩ dX10_does_47) [0, 1, 2, 3, 4, 5, 6, 7, 8, 9, 10, 11] [] [0, 1, 2, 3, 4, 5, 6, 7, 8, 9, 10, 11] rfl rfl (by decide) (by decide) (fun _ => rfl) (by decide) (fun u7 h => ?_)
        obtain ⟨v_7, hu7⟩ : ∃ z, z = u7 := ⟨_, rfl⟩
        subst hu7
        exact hret 50 _ _ v_7 rfl h dX10_does_50
  have J20 : ∀ (v : Lf), pX10_does_J20 x1 x2 Q v → ZZ p l e rmX10_does s m args below meth c D A 3 0 0 QQ 20 (wX10 cI cJ d v g) [(0, .ref (d 0)), (1, .int x1), (2, .int x2)] [] := by
    intro  v h
    refine z_iload_n (pc := 20) C 1 dX10_does_20 rfl ?_
    refine z_iconst (pc := 21) (v := 2) C dX10_does_21 (by decide) ?_
    refine z_icmp_ne (pc := 22) (tgt := 30) C dX10_does_22 (by decide) (fun c3 => ?_) (fun c3 => ?_)
    · have h := h.1 c3
      exact J30  v h
    · have h := h.2 c3
      refine z_aload_n (pc := 25) C 0 dX10_does_25 rfl ?_
      refine z_calli (pc := 26) (wr := ([] : va_W)) (w1 := fun (u : Lf) => (wX10 cI cJ d u g)) (w2 := fun (u : Lf) => (wX10 cI cJ d u g)) C (z_runV (pc := 26) (wc := (wX10 cI cJ d v g)) (As := []) C (fun sz => kX10_over d v g sz h) [0, 1, 2, 3, 4, 5, 6, 7, 8, 9, 10, 11] rfl (by decide) (gdV wq1004 wq1129 wq1130 wq1131 wq814) rfl rfl rfl hdX10_over 0 rfl rfl rfl ⟨Nat.le_of_ble_eq_true rfl, Nat.le_of_ble_eq_true rfl⟩ rfl (Nat.le_of_ble_eq_true rfl) ⟨Nat.zero_le _, Nat.zero_le _⟩ dX10_does_26) [0, 1, 2, 3, 4, 5, 6, 7, 8, 9, 10, 11] [] [0, 1, 2, 3, 4, 5, 6, 7, 8, 9, 10, 11] rfl rfl (by decide) (by decide) (fun _ => rfl) (by decide) (fun r8 u8 h => ?_)
      obtain ⟨v_8, hu8⟩ : ∃ z, z = u8 := ⟨_, rfl⟩
      subst hu8
      refine z_pop (pc := 29) C dX10_does_29 rfl ?_
      exact J30  v_8 h
  have J9 : ∀ (v : Lf), pX10_does_J9 x1 x2 Q v → ZZ p l e rmX10_does s m args below meth c D A 3 0 0 QQ 9 (wX10 cI cJ d v g) [(0, .ref (d 0)), (1, .int x1), (2, .int x2)] [] := by
    intro  v h
    refine z_iload_n (pc := 9) C 1 dX10_does_9 rfl ?_
    refine z_iconst (pc := 10) (v := 1) C dX10_does_10 (by decide) ?_
    refine z_icmp_ne (pc := 11) (tgt := 20) C dX10_does_11 (by decide) (fun c2 => ?_) (fun c2 => ?_)
    · have h := h.1 c2
      exact J20  v h
    · have h := h.2 c2
      refine z_aload_n (pc := 14) C 0 dX10_does_14 rfl ?_
      refine z_iload_n (pc := 15) C 2 dX10_does_15 rfl ?_
      refine z_calli (pc := 16) (wr := ([] : va_W)) (w1 := fun (u : Lf) => (wX10 cI cJ d u g)) (w2 := fun (u : Lf) => (wX10 cI cJ d u g)) C (z_runV (pc := 16) (wc := (wX10 cI cJ d v g)) (As := [.int x2]) C (fun sz => kX10_emergency d v g x2 sz h) [0, 1, 2, 3, 4, 5, 6, 7, 8, 9, 10, 11] rfl (by decide) (gdV wq1003 wq1126 wq1127 wq1128 wq814) rfl rfl rfl hdX10_emergency 0 rfl rfl rfl ⟨Nat.le_of_ble_eq_true rfl, Nat.le_of_ble_eq_true rfl⟩ rfl (Nat.le_of_ble_eq_true rfl) ⟨Nat.zero_le _, Nat.zero_le _⟩ dX10_does_16) [0, 1, 2, 3, 4, 5, 6, 7, 8, 9, 10, 11] [] [0, 1, 2, 3, 4, 5, 6, 7, 8, 9, 10, 11] rfl rfl (by decide) (by decide) (fun _ => rfl) (by decide) (fun r9 u9 h => ?_)
      obtain ⟨v_9, hu9⟩ : ∃ z, z = u9 := ⟨_, rfl⟩
      subst hu9
      refine z_pop (pc := 19) C dX10_does_19 rfl ?_
      exact J20  v_9 h
  refine z_iload_n (pc := 0) C 1 dX10_does_0 rfl ?_
  refine z_if_ne (pc := 1) (tgt := 9) C dX10_does_1 (by decide) (fun c1 => ?_) (fun c1 => ?_)
  · have h := h.1 c1
    exact J9  v h
  · have h := h.2 c1
    refine z_aload_n (pc := 4) C 0 dX10_does_4 rfl ?_
    refine z_iload_n (pc := 5) C 2 dX10_does_5 rfl ?_
    refine z_callv (pc := 6) (wr := ([] : va_W)) (w1 := fun (u : Lf) => (wX10 cI cJ d u g)) (w2 := fun (u : Lf) => (wX10 cI cJ d u g)) C (z_runV (pc := 6) (wc := (wX10 cI cJ d v g)) (As := [.int x2]) C (fun sz => kX10_passes d v g x2 sz h) [0, 1, 2, 3, 4, 5, 6, 7, 8, 9, 10, 11] rfl (by decide) (gdV wq997 wq1008 wq1009 wq1010 wq814) rfl rfl rfl hdX10_passes 0 rfl rfl rfl ⟨Nat.le_of_ble_eq_true rfl, Nat.le_of_ble_eq_true rfl⟩ rfl (Nat.le_of_ble_eq_true rfl) ⟨Nat.zero_le _, Nat.zero_le _⟩ dX10_does_6) [0, 1, 2, 3, 4, 5, 6, 7, 8, 9, 10, 11] [] [0, 1, 2, 3, 4, 5, 6, 7, 8, 9, 10, 11] rfl rfl (by decide) (by decide) (fun _ => rfl) (by decide) (fun u10 h => ?_)
    obtain ⟨v_10, hu10⟩ : ∃ z, z = u10 := ⟨_, rfl⟩
    subst hu10
    exact J9  v_10 h

def pX10_ends__J159 (x1 : Int32) (Q : Int32 → Lf → Prop) (v : Lf) (t1 : Int32) : Prop := (vp_in t1 372 ∧ (pX10_forgets v (fun v_14 => (Q (v 1 t1.toNatClampNeg) v_14))))
def pX10_ends__L97 (x1 : Int32) (Q : Int32 → Lf → Prop) : Nat → Lf → Int32 → Prop
  | 0, _, _ => False
  | n97 + 1, v, x3 => (((v 1 20) ≤ x3 → ((¬ x1 = 0 → (pX10_ends__J159 x1 Q  v (8 : Int32))) ∧ (x1 = 0 → (pX10_ends__J159 x1 Q  v (7 : Int32))))) ∧ (¬ (v 1 20) ≤ x3 → (vp_in ((355 : Int32) + ((2 : Int32) * x3)) 372 ∧ (vp_in (((355 : Int32) + ((2 : Int32) * x3)) + (1 : Int32)) 372 ∧ (pX10_does v (v 1 ((355 : Int32) + ((2 : Int32) * x3)).toNatClampNeg) (v 1 (((355 : Int32) + ((2 : Int32) * x3)) + (1 : Int32)).toNatClampNeg) (fun v_17 => (pX10_ends__L97 x1 Q n97 v_17 (x3 + 1))))))))
def pX10_ends__J72 (x1 : Int32) (Q : Int32 → Lf → Prop) (K27 : Lf → Int32 → Int32 → Prop) (v : Lf) (x3 : Int32) (t0 : Int32) (t1 : Int32) : Prop := (K27 v (t0 + t1) (x3 + 1))
def pX10_ends__L27 (x1 : Int32) (Q : Int32 → Lf → Prop) : Nat → Lf → Int32 → Int32 → Prop
  | 0, _, _, _ => False
  | n27 + 1, v, x2, x3 => (((v 1 20) ≤ x3 → (pX10_counts v x2 (fun r7 v_7 => ((¬ r7 = 0 → (pX10_thinks v_7 (fun v_9 => (∃ n97, pX10_ends__L97 x1 Q  n97 v_9 (0 : Int32))))) ∧ (r7 = 0 → (Q (-4 : Int32) v_7)))))) ∧ (¬ (v 1 20) ≤ x3 → (vp_in ((355 : Int32) + ((2 : Int32) * x3)) 372 ∧ ((¬ (v 1 ((355 : Int32) + ((2 : Int32) * x3)).toNatClampNeg) = 0 → (pX10_ends__J72 x1 Q (fun v x2 x3 => pX10_ends__L27 x1 Q n27 v x2 x3) v x3 x2 (0 : Int32))) ∧ ((v 1 ((355 : Int32) + ((2 : Int32) * x3)).toNatClampNeg) = 0 → (vp_in (((355 : Int32) + ((2 : Int32) * x3)) + (1 : Int32)) 372 ∧ (pX10_ends__J72 x1 Q (fun v x2 x3 => pX10_ends__L27 x1 Q n27 v x2 x3) v x3 x2 (v 1 (((355 : Int32) + ((2 : Int32) * x3)) + (1 : Int32)).toNatClampNeg))))))))
def pX10_ends_ (v : Lf) (x1 : Int32) (Q : Int32 → Lf → Prop) : Prop := (pX10_isIn x1 (0 : Int32) (1 : Int32) (fun r1 => ((¬ r1 = 0 → ((¬ (v 1 2) = 0 → (∃ n27, pX10_ends__L27 x1 Q  n27 v (0 : Int32) (0 : Int32))) ∧ ((v 1 2) = 0 → (Q (-3 : Int32) v)))) ∧ (r1 = 0 → (Q (-1 : Int32) v)))))
abbrev rmX10_ends_ : Room := { frames := 7, cells := 0, slots := 0, locals := 158 }
abbrev wdX10_ends_ : List Cond := Cond.code yX10_ends_ cX10_ends_ 4 (some .int) :: TB
theorem hdSX10_ends_ : (yX10_ends_).cls ≠ "java/lang/invoke/MethodHandle" ∧ (yX10_ends_).cls ≠ "java/lang/invoke/VarHandle" ∧ (parseMethodDescriptor (yX10_ends_).desc).map (fun d => d.parameters.length) = some 1 := by decide +kernel
theorem hdX10_ends_ : (yX10_ends_).cls = RX10 ∧ (yX10_ends_).cls ≠ "java/lang/invoke/MethodHandle" ∧ (yX10_ends_).cls ≠ "java/lang/invoke/VarHandle" ∧ (parseMethodDescriptor (yX10_ends_).desc).map (fun d => d.parameters.length) = some 1 := ⟨rfl, hdSX10_ends_⟩
set_option maxHeartbeats 4000000 in
set_option maxRecDepth 100000 in
theorem kX10_ends_ {l : Launch} {D : va_G} {cI cJ cT : ClassId} (d : Nat → Nat)  (v : Lf) (g : Lg) (x1 : Int32) {Q : Int32 → Lf → Prop} (sz : Nat) (h : pX10_ends_ v x1 Q) : Met l yX10_ends_ wdX10_ends_ rmX10_ends_ (Pz D (tyL cI cJ cT) [.ref (d 0), .int x1] (wX10 cI cJ d v g) sz) (va_Qi (fun (r : Int32) (u : Lf) => Q r u) (Bz D (tyL cI cJ cT) (wX10 cI cJ d v g) sz (fun (u : Lf) => (wX10 cI cJ d u g))) (va_A (wX10 cI cJ d v g) sz)) 0 0 (va_A (wX10 cI cJ d v g) sz) := by
  refine z_meti (cc := cX10_ends_) (maxL := 4) (own := RX10) (lv0 := [(0, .ref (d 0)), (1, .int x1)]) (by decide) rfl rfl (Nat.le_of_ble_eq_true rfl) rfl ?_
  intro p e s m args below meth c A QQ C hin hret
  have J159 : ∀ (v : Lf) (t1 : Int32), pX10_ends__J159 x1 Q v t1 → ZZ p l e rmX10_ends_ s m args below meth c D A 4 0 0 QQ 159 (wX10 cI cJ d v g) [(0, .ref (d 0))] [.int t1, .ref (d 1)] := by
    intro  v t1 h
    obtain ⟨g13, h⟩ := h
    refine z_iald (pc := 159) C 1 0 rfl rfl g13 (v 1 t1.toNatClampNeg) rfl dX10_ends__159 ?_
    refine z_istore_n (pc := 160) (lv' := [(3, .int (v 1 t1.toNatClampNeg)), (0, .ref (d 0))]) C dX10_ends__160 (by decide) rfl ?_
    refine z_aload_n (pc := 161) C 1 dX10_ends__161 rfl ?_
    refine z_callv (pc := 162) (wr := ([] : va_W)) (w1 := fun (u : Lf) => (wX10 cI cJ d u g)) (w2 := fun (u : Lf) => (wX10 cI cJ d u g)) C (z_runV (pc := 162) (wc := (wX10 cI cJ d v g)) (As := []) C (fun sz => kX10_forgets d v g sz h) [0, 1, 2, 3, 4, 5, 6, 7, 8, 9, 10, 11] rfl (by decide) (gdV wq1087 wq1094 wq1095 wq1096 wq814) rfl rfl rfl hdX10_forgets 0 rfl rfl rfl ⟨Nat.le_of_ble_eq_true rfl, Nat.le_of_ble_eq_true rfl⟩ rfl (Nat.le_of_ble_eq_true rfl) ⟨Nat.zero_le _, Nat.zero_le _⟩ dX10_ends__162) [0, 1, 2, 3, 4, 5, 6, 7, 8, 9, 10, 11] [] [0, 1, 2, 3, 4, 5, 6, 7, 8, 9, 10, 11] rfl rfl (by decide) (by decide) (fun _ => rfl) (by decide) (fun u14 h => ?_)
    obtain ⟨v_14, hu14⟩ : ∃ z, z = u14 := ⟨_, rfl⟩
    subst hu14
    refine z_iload_n (pc := 165) C 0 dX10_ends__165 rfl ?_
    exact hret 166 _ _ (v 1 t1.toNatClampNeg) v_14 rfl h dX10_ends__166
  have L97 : ∀ (n97 : Nat) (v : Lf) (x3 : Int32), pX10_ends__L97 x1 Q n97 v x3 → ZZ p l e rmX10_ends_ s m args below meth c D A 4 0 0 QQ 97 (wX10 cI cJ d v g) [(0, .ref (d 0)), (1, .int x1), (3, .int x3)] [] := by
    intro n97
    induction n97 with
    | zero => intro v x3 h; exact False.elim h
    | succ n97 ih97 =>
      intro v x3 h
      refine z_iload_n (pc := 97) C 2 dX10_ends__97 rfl ?_
      refine z_aload_n (pc := 98) C 0 dX10_ends__98 rfl ?_
      refine z_get (pc := 99) C uw10 0 rfl rfl 0 (by decide) wq809 rfl dX10_ends__99 ?_
      refine z_bipush (pc := 102) (v := 20) C dX10_ends__102 (by decide) ?_
      refine z_iald (pc := 104) C 1 0 rfl rfl vi_20_372 (v 1 20) (congrArg _ cl_20) dX10_ends__104 ?_
      refine z_icmp_ge (pc := 105) (tgt := 144) C dX10_ends__105 (by decide) (fun c11 => ?_) (fun c11 => ?_)
      · have h := h.1 c11
        refine z_aload_n (pc := 144) C 0 dX10_ends__144 rfl ?_
        refine z_get (pc := 145) C uw10 0 rfl rfl 0 (by decide) wq809 rfl dX10_ends__145 ?_
        refine z_iload_n (pc := 148) C 1 dX10_ends__148 rfl ?_
        refine z_if_ne (pc := 149) (tgt := 157) C dX10_ends__149 (by decide) (fun c12 => ?_) (fun c12 => ?_)
        · have h := h.1 c12
          refine z_bipush (pc := 157) (v := 8) C dX10_ends__157 (by decide) ?_
          refine z_sub (lv' := [(0, .ref (d 0))]) [0] rfl ?_
          exact J159  v (8 : Int32) h
        · have h := h.2 c12
          refine z_bipush (pc := 152) (v := 7) C dX10_ends__152 (by decide) ?_
          refine z_goto (pc := 154) (tgt := 159) C dX10_ends__154 (by decide) ?_
          refine z_sub (lv' := [(0, .ref (d 0))]) [0] rfl ?_
          exact J159  v (7 : Int32) h
      · have h := h.2 c11
        refine z_aload_n (pc := 108) C 0 dX10_ends__108 rfl ?_
        refine z_aload_n (pc := 109) C 0 dX10_ends__109 rfl ?_
        refine z_get (pc := 110) C uw10 0 rfl rfl 0 (by decide) wq809 rfl dX10_ends__110 ?_
        refine z_sipush (pc := 113) (v := 355) C dX10_ends__113 (by decide) ?_
        refine z_iconst (pc := 116) (v := 2) C dX10_ends__116 (by decide) ?_
        refine z_iload_n (pc := 117) C 2 dX10_ends__117 rfl ?_
        refine z_imul (pc := 118) C dX10_ends__118 ?_
        refine z_iadd (pc := 119) C dX10_ends__119 ?_
        obtain ⟨g15, h⟩ := h
        refine z_iald (pc := 120) C 1 0 rfl rfl g15 (v 1 ((355 : Int32) + ((2 : Int32) * x3)).toNatClampNeg) rfl dX10_ends__120 ?_
        refine z_aload_n (pc := 121) C 0 dX10_ends__121 rfl ?_
        refine z_get (pc := 122) C uw10 0 rfl rfl 0 (by decide) wq809 rfl dX10_ends__122 ?_
        refine z_sipush (pc := 125) (v := 355) C dX10_ends__125 (by decide) ?_
        refine z_iconst (pc := 128) (v := 2) C dX10_ends__128 (by decide) ?_
        refine z_iload_n (pc := 129) C 2 dX10_ends__129 rfl ?_
        refine z_imul (pc := 130) C dX10_ends__130 ?_
        refine z_iadd (pc := 131) C dX10_ends__131 ?_
        refine z_iconst (pc := 132) (v := 1) C dX10_ends__132 (by decide) ?_
        refine z_iadd (pc := 133) C dX10_ends__133 ?_
        obtain ⟨g16, h⟩ := h
        refine z_iald (pc := 134) C 1 0 rfl rfl g16 (v 1 (((355 : Int32) + ((2 : Int32) * x3)) + (1 : Int32)).toNatClampNeg) rfl dX10_ends__134 ?_
        refine z_callv (pc := 135) (wr := ([] : va_W)) (w1 := fun (u : Lf) => (wX10 cI cJ d u g)) (w2 := fun (u : Lf) => (wX10 cI cJ d u g)) C (z_runV (pc := 135) (wc := (wX10 cI cJ d v g)) (As := [.int (v 1 ((355 : Int32) + ((2 : Int32) * x3)).toNatClampNeg), .int (v 1 (((355 : Int32) + ((2 : Int32) * x3)) + (1 : Int32)).toNatClampNeg)]) C (fun sz => kX10_does d v g (v 1 ((355 : Int32) + ((2 : Int32) * x3)).toNatClampNeg) (v 1 (((355 : Int32) + ((2 : Int32) * x3)) + (1 : Int32)).toNatClampNeg) sz h) [0, 1, 2, 3, 4, 5, 6, 7, 8, 9, 10, 11] rfl (by decide) (gdV wq1132 wq1133 wq1134 wq1135 wq814) rfl rfl rfl hdX10_does 0 rfl rfl rfl ⟨Nat.le_of_ble_eq_true rfl, Nat.le_of_ble_eq_true rfl⟩ rfl (Nat.le_of_ble_eq_true rfl) ⟨Nat.zero_le _, Nat.zero_le _⟩ dX10_ends__135) [0, 1, 2, 3, 4, 5, 6, 7, 8, 9, 10, 11] [] [0, 1, 2, 3, 4, 5, 6, 7, 8, 9, 10, 11] rfl rfl (by decide) (by decide) (fun _ => rfl) (by decide) (fun u17 h => ?_)
        obtain ⟨v_17, hu17⟩ : ∃ z, z = u17 := ⟨_, rfl⟩
        subst hu17
        refine z_iinc (pc := 138) (v := (x3 + 1)) (lv' := [(3, .int (x3 + 1)), (0, .ref (d 0)), (1, .int x1)]) C 2 dX10_ends__138 rfl rfl (by decide) rfl ?_
        refine z_goto (pc := 141) (tgt := 97) C dX10_ends__141 (by decide) ?_
        refine z_sub (lv' := [(0, .ref (d 0)), (1, .int x1), (3, .int (x3 + 1))]) [1, 2, 0] rfl ?_
        exact ih97 v_17 (x3 + 1) h
  have J72 : ∀ (K27 : Lf → Int32 → Int32 → Prop), (∀ (v : Lf) (x2 : Int32) (x3 : Int32), K27 v x2 x3 → ZZ p l e rmX10_ends_ s m args below meth c D A 4 0 0 QQ 27 (wX10 cI cJ d v g) [(0, .ref (d 0)), (1, .int x1), (2, .int x2), (3, .int x3)] []) → ∀ (v : Lf) (x3 : Int32) (t0 : Int32) (t1 : Int32), pX10_ends__J72 x1 Q K27 v x3 t0 t1 → ZZ p l e rmX10_ends_ s m args below meth c D A 4 0 0 QQ 72 (wX10 cI cJ d v g) [(0, .ref (d 0)), (1, .int x1), (3, .int x3)] [.int t1, .int t0] := by
    intro K27 hK27 v x3 t0 t1 h
    refine z_iadd (pc := 72) C dX10_ends__72 ?_
    refine z_istore_n (pc := 73) (lv' := [(2, .int (t0 + t1)), (0, .ref (d 0)), (1, .int x1), (3, .int x3)]) C dX10_ends__73 (by decide) rfl ?_
    refine z_iinc (pc := 74) (v := (x3 + 1)) (lv' := [(3, .int (x3 + 1)), (2, .int (t0 + t1)), (0, .ref (d 0)), (1, .int x1)]) C 3 dX10_ends__74 rfl rfl (by decide) rfl ?_
    refine z_goto (pc := 77) (tgt := 27) C dX10_ends__77 (by decide) ?_
    refine z_sub (lv' := [(0, .ref (d 0)), (1, .int x1), (2, .int (t0 + t1)), (3, .int (x3 + 1))]) [2, 3, 1, 0] rfl ?_
    exact hK27 v (t0 + t1) (x3 + 1) h
  have L27 : ∀ (n27 : Nat) (v : Lf) (x2 : Int32) (x3 : Int32), pX10_ends__L27 x1 Q n27 v x2 x3 → ZZ p l e rmX10_ends_ s m args below meth c D A 4 0 0 QQ 27 (wX10 cI cJ d v g) [(0, .ref (d 0)), (1, .int x1), (2, .int x2), (3, .int x3)] [] := by
    intro n27
    induction n27 with
    | zero => intro v x2 x3 h; exact False.elim h
    | succ n27 ih27 =>
      intro v x2 x3 h
      refine z_iload_n (pc := 27) C 3 dX10_ends__27 rfl ?_
      refine z_aload_n (pc := 28) C 0 dX10_ends__28 rfl ?_
      refine z_get (pc := 29) C uw10 0 rfl rfl 0 (by decide) wq809 rfl dX10_ends__29 ?_
      refine z_bipush (pc := 32) (v := 20) C dX10_ends__32 (by decide) ?_
      refine z_iald (pc := 34) C 1 0 rfl rfl vi_20_372 (v 1 20) (congrArg _ cl_20) dX10_ends__34 ?_
      refine z_icmp_ge (pc := 35) (tgt := 80) C dX10_ends__35 (by decide) (fun c6 => ?_) (fun c6 => ?_)
      · have h := h.1 c6
        refine z_aload_n (pc := 80) C 0 dX10_ends__80 rfl ?_
        refine z_iload_n (pc := 81) C 2 dX10_ends__81 rfl ?_
        refine z_calli (pc := 82) (wr := ([] : va_W)) (w1 := fun (u : Lf) => (wX10 cI cJ d u g)) (w2 := fun (u : Lf) => (wX10 cI cJ d u g)) C (z_runV (pc := 82) (wc := (wX10 cI cJ d v g)) (As := [.int x2]) C (fun sz => kX10_counts d v g x2 sz h) [0, 1, 2, 3, 4, 5, 6, 7, 8, 9, 10, 11] rfl (by decide) (gdV wq998 wq1005 wq1006 wq1007 wq814) rfl rfl rfl hdX10_counts 0 rfl rfl rfl ⟨Nat.le_of_ble_eq_true rfl, Nat.le_of_ble_eq_true rfl⟩ rfl (Nat.le_of_ble_eq_true rfl) ⟨Nat.zero_le _, Nat.zero_le _⟩ dX10_ends__82) [0, 1, 2, 3, 4, 5, 6, 7, 8, 9, 10, 11] [] [0, 1, 2, 3, 4, 5, 6, 7, 8, 9, 10, 11] rfl rfl (by decide) (by decide) (fun _ => rfl) (by decide) (fun r7 u7 h => ?_)
        obtain ⟨v_7, hu7⟩ : ∃ z, z = u7 := ⟨_, rfl⟩
        subst hu7
        refine z_if_ne (pc := 85) (tgt := 91) C dX10_ends__85 (by decide) (fun c8 => ?_) (fun c8 => ?_)
        · have h := h.1 c8
          refine z_aload_n (pc := 91) C 0 dX10_ends__91 rfl ?_
          refine z_callv (pc := 92) (wr := ([] : va_W)) (w1 := fun (u : Lf) => (wX10 cI cJ d u g)) (w2 := fun (u : Lf) => (wX10 cI cJ d u g)) C (z_runV (pc := 92) (wc := (wX10 cI cJ d v_7 g)) (As := []) C (fun sz => kX10_thinks d v_7 g sz h) [0, 1, 2, 3, 4, 5, 6, 7, 8, 9, 10, 11] rfl (by decide) (gdV wq1084 wq1088 wq1089 wq1090 wq814) rfl rfl rfl hdX10_thinks 0 rfl rfl rfl ⟨Nat.le_of_ble_eq_true rfl, Nat.le_of_ble_eq_true rfl⟩ rfl (Nat.le_of_ble_eq_true rfl) ⟨Nat.zero_le _, Nat.zero_le _⟩ dX10_ends__92) [0, 1, 2, 3, 4, 5, 6, 7, 8, 9, 10, 11] [] [0, 1, 2, 3, 4, 5, 6, 7, 8, 9, 10, 11] rfl rfl (by decide) (by decide) (fun _ => rfl) (by decide) (fun u9 h => ?_)
          obtain ⟨v_9, hu9⟩ : ∃ z, z = u9 := ⟨_, rfl⟩
          subst hu9
          refine z_iconst (pc := 95) (v := 0) C dX10_ends__95 (by decide) ?_
          refine z_istore_n (pc := 96) (lv' := [(3, .int (0 : Int32)), (0, .ref (d 0)), (1, .int x1), (2, .int x2)]) C dX10_ends__96 (by decide) rfl ?_
          obtain ⟨n97, h⟩ := h
          refine z_sub (lv' := [(0, .ref (d 0)), (1, .int x1), (3, .int (0 : Int32))]) [1, 2, 0] rfl ?_
          exact L97  n97 v_9 (0 : Int32) h
        · have h := h.2 c8
          refine z_bipush (pc := 88) (v := -4) C dX10_ends__88 (by decide) ?_
          exact hret 90 _ _ (-4 : Int32) v_7 rfl h dX10_ends__90
      · have h := h.2 c6
        refine z_iload_n (pc := 38) C 2 dX10_ends__38 rfl ?_
        refine z_aload_n (pc := 39) C 0 dX10_ends__39 rfl ?_
        refine z_get (pc := 40) C uw10 0 rfl rfl 0 (by decide) wq809 rfl dX10_ends__40 ?_
        refine z_sipush (pc := 43) (v := 355) C dX10_ends__43 (by decide) ?_
        refine z_iconst (pc := 46) (v := 2) C dX10_ends__46 (by decide) ?_
        refine z_iload_n (pc := 47) C 3 dX10_ends__47 rfl ?_
        refine z_imul (pc := 48) C dX10_ends__48 ?_
        refine z_iadd (pc := 49) C dX10_ends__49 ?_
        obtain ⟨g18, h⟩ := h
        refine z_iald (pc := 50) C 1 0 rfl rfl g18 (v 1 ((355 : Int32) + ((2 : Int32) * x3)).toNatClampNeg) rfl dX10_ends__50 ?_
        refine z_if_ne (pc := 51) (tgt := 71) C dX10_ends__51 (by decide) (fun c19 => ?_) (fun c19 => ?_)
        · have h := h.1 c19
          refine z_iconst (pc := 71) (v := 0) C dX10_ends__71 (by decide) ?_
          refine z_sub (lv' := [(0, .ref (d 0)), (1, .int x1), (3, .int x3)]) [0, 1, 3] rfl ?_
          exact J72 (fun v x2 x3 => pX10_ends__L27 x1 Q n27 v x2 x3) ih27 v x3 x2 (0 : Int32) h
        · have h := h.2 c19
          refine z_aload_n (pc := 54) C 0 dX10_ends__54 rfl ?_
          refine z_get (pc := 55) C uw10 0 rfl rfl 0 (by decide) wq809 rfl dX10_ends__55 ?_
          refine z_sipush (pc := 58) (v := 355) C dX10_ends__58 (by decide) ?_
          refine z_iconst (pc := 61) (v := 2) C dX10_ends__61 (by decide) ?_
          refine z_iload_n (pc := 62) C 3 dX10_ends__62 rfl ?_
          refine z_imul (pc := 63) C dX10_ends__63 ?_
          refine z_iadd (pc := 64) C dX10_ends__64 ?_
          refine z_iconst (pc := 65) (v := 1) C dX10_ends__65 (by decide) ?_
          refine z_iadd (pc := 66) C dX10_ends__66 ?_
          obtain ⟨g20, h⟩ := h
          refine z_iald (pc := 67) C 1 0 rfl rfl g20 (v 1 (((355 : Int32) + ((2 : Int32) * x3)) + (1 : Int32)).toNatClampNeg) rfl dX10_ends__67 ?_
          refine z_goto (pc := 68) (tgt := 72) C dX10_ends__68 (by decide) ?_
          refine z_sub (lv' := [(0, .ref (d 0)), (1, .int x1), (3, .int x3)]) [0, 1, 3] rfl ?_
          exact J72 (fun v x2 x3 => pX10_ends__L27 x1 Q n27 v x2 x3) ih27 v x3 x2 (v 1 (((355 : Int32) + ((2 : Int32) * x3)) + (1 : Int32)).toNatClampNeg) h
  refine z_iload_n (pc := 0) C 1 dX10_ends__0 rfl ?_
  refine z_iconst (pc := 1) (v := 0) C dX10_ends__1 (by decide) ?_
  refine z_iconst (pc := 2) (v := 1) C dX10_ends__2 (by decide) ?_
  refine z_call0i (pc := 3) C (z_runS (pc := 3) (wc := ([] : va_W)) (As := [.int x1, .int (0 : Int32), .int (1 : Int32)]) C (fun sz => kX10_isIn x1 (0 : Int32) (1 : Int32) sz h) [] rfl (by decide) (gdS wq849 wq852 wq853 wq814) rfl rfl rfl hdSX10_isIn ⟨Nat.le_of_ble_eq_true rfl, Nat.le_of_ble_eq_true rfl⟩ rfl (Nat.le_of_ble_eq_true rfl) ⟨Nat.zero_le _, Nat.zero_le _⟩ dX10_ends__3) (fun r1 u1 h => ?_)
  refine z_if_ne (pc := 6) (tgt := 11) C dX10_ends__6 (by decide) (fun c2 => ?_) (fun c2 => ?_)
  · have h := h.1 c2
    refine z_aload_n (pc := 11) C 0 dX10_ends__11 rfl ?_
    refine z_get (pc := 12) C uw10 0 rfl rfl 0 (by decide) wq809 rfl dX10_ends__12 ?_
    refine z_iconst (pc := 15) (v := 2) C dX10_ends__15 (by decide) ?_
    refine z_iald (pc := 16) C 1 0 rfl rfl vi_2_372 (v 1 2) (congrArg _ cl_2) dX10_ends__16 ?_
    refine z_if_ne (pc := 17) (tgt := 23) C dX10_ends__17 (by decide) (fun c4 => ?_) (fun c4 => ?_)
    · have h := h.1 c4
      refine z_iconst (pc := 23) (v := 0) C dX10_ends__23 (by decide) ?_
      refine z_istore_n (pc := 24) (lv' := [(2, .int (0 : Int32)), (0, .ref (d 0)), (1, .int x1)]) C dX10_ends__24 (by decide) rfl ?_
      refine z_iconst (pc := 25) (v := 0) C dX10_ends__25 (by decide) ?_
      refine z_istore_n (pc := 26) (lv' := [(3, .int (0 : Int32)), (2, .int (0 : Int32)), (0, .ref (d 0)), (1, .int x1)]) C dX10_ends__26 (by decide) rfl ?_
      obtain ⟨n27, h⟩ := h
      refine z_sub (lv' := [(0, .ref (d 0)), (1, .int x1), (2, .int (0 : Int32)), (3, .int (0 : Int32))]) [2, 3, 1, 0] rfl ?_
      exact L27  n27 v (0 : Int32) (0 : Int32) h
    · have h := h.2 c4
      refine z_bipush (pc := 20) (v := -3) C dX10_ends__20 (by decide) ?_
      exact hret 22 _ _ (-3 : Int32) v rfl h dX10_ends__22
  · have h := h.2 c2
    refine z_iconst (pc := 9) (v := -1) C dX10_ends__9 (by decide) ?_
    exact hret 10 _ _ (-1 : Int32) v rfl h dX10_ends__10

def pX10_isTape  (x0 : Int32) (Q : Int32 → Prop) : Prop := (pX10_isIn x0 (0 : Int32) (5 : Int32) (fun r1 => (narrow .boolean (.int r1) = .int r1 ∧ (Q r1 ))))
abbrev rmX10_isTape : Room := { frames := 1, cells := 0, slots := 0, locals := 22 }
abbrev wdX10_isTape : List Cond := Cond.code yX10_isTape cX10_isTape 1 (some .boolean) :: TB
theorem hdSX10_isTape : (yX10_isTape).cls ≠ "java/lang/invoke/MethodHandle" ∧ (yX10_isTape).cls ≠ "java/lang/invoke/VarHandle" ∧ (parseMethodDescriptor (yX10_isTape).desc).map (fun d => d.parameters.length) = some 1 := by decide +kernel
theorem hdX10_isTape : (yX10_isTape).cls = RX10 ∧ (yX10_isTape).cls ≠ "java/lang/invoke/MethodHandle" ∧ (yX10_isTape).cls ≠ "java/lang/invoke/VarHandle" ∧ (parseMethodDescriptor (yX10_isTape).desc).map (fun d => d.parameters.length) = some 1 := ⟨rfl, hdSX10_isTape⟩
set_option maxHeartbeats 4000000 in
set_option maxRecDepth 100000 in
theorem kX10_isTape {l : Launch} {D : va_G} {cI cJ cT : ClassId}    (x0 : Int32) {Q : Int32 → Prop} (sz : Nat) (h : pX10_isTape x0 Q) : Met l yX10_isTape wdX10_isTape rmX10_isTape (Pz D (tyL cI cJ cT) [.int x0] ([] : va_W) sz) (va_Qi (fun (r : Int32) (u : Unit) => Q r) (Bz D (tyL cI cJ cT) ([] : va_W) sz (fun (u : Unit) => ([] : va_W))) (va_A ([] : va_W) sz)) 0 0 (va_A ([] : va_W) sz) := by
  refine z_metz (cc := cX10_isTape) (maxL := 1) (own := RX10) (lv0 := [(0, .int x0)]) (by decide) rfl rfl (Nat.le_of_ble_eq_true rfl) rfl ?_
  intro p e s m args below meth c A QQ C hin hret
  refine z_iload_n (pc := 0) C 0 dX10_isTape_0 rfl ?_
  refine z_iconst (pc := 1) (v := 0) C dX10_isTape_1 (by decide) ?_
  refine z_iconst (pc := 2) (v := 5) C dX10_isTape_2 (by decide) ?_
  refine z_call0i (pc := 3) C (z_runS (pc := 3) (wc := ([] : va_W)) (As := [.int x0, .int (0 : Int32), .int (5 : Int32)]) C (fun sz => kX10_isIn x0 (0 : Int32) (5 : Int32) sz h) [] rfl (by decide) (gdS wq849 wq852 wq853 wq814) rfl rfl rfl hdSX10_isIn ⟨Nat.le_of_ble_eq_true rfl, Nat.le_of_ble_eq_true rfl⟩ rfl (Nat.le_of_ble_eq_true rfl) ⟨Nat.zero_le _, Nat.zero_le _⟩ dX10_isTape_3) (fun r1 u1 h => ?_)
  obtain ⟨g2, h⟩ := h
  exact hret 6 _ _ r1 g2 () rfl h dX10_isTape_6

def pX10_judge_J61 (v : Lf) (g : Lg) (x1 : Int32) (x2 : Int32) (Q : Int32 → Prop) (x3 : Int32) : Prop := (Q ((100 : Int32) + x3) )
def pX10_judge_L23 (v : Lf) (g : Lg) (x1 : Int32) (x2 : Int32) (Q : Int32 → Prop) : Nat → Int32 → Prop
  | 0, _ => False
  | n23 + 1, x3 => (((v 1 13) ≤ x3 → (Q (-5 : Int32) )) ∧ (¬ (v 1 13) ≤ x3 → (vp_in x1 6 ∧ (((v 8 x1.toNatClampNeg) < 0 → (pX10_judge_J61 v g x1 x2 Q  x3)) ∧ (¬ (v 8 x1.toNatClampNeg) < 0 → (vp_in x1 6 ∧ (pX10_isIn x2 (0 : Int32) (((v 9 x1.toNatClampNeg) - (1 : Int32)) - x3) (fun r10 => ((¬ r10 = 0 → (vp_in ((((60 : Int32) * x1) + x2) + x3) 360 ∧ (pX10_light v x3 (fun r13 => (((lg_cmp (g 10 ((((60 : Int32) * x1) + x2) + x3).toNatClampNeg) ((r13).toInt64)) = 0 → (pX10_judge_L23 v g x1 x2 Q n23 (x3 + 1))) ∧ (¬ (lg_cmp (g 10 ((((60 : Int32) * x1) + x2) + x3).toNatClampNeg) ((r13).toInt64)) = 0 → (Q x3 ))))))) ∧ (r10 = 0 → (pX10_judge_J61 v g x1 x2 Q  x3)))))))))))
def pX10_judge (v : Lf) (g : Lg) (x1 : Int32) (x2 : Int32) (Q : Int32 → Prop) : Prop := (pX10_isTape x1 (fun r1 => ((¬ r1 = 0 → (vp_in x1 6 ∧ (((v 8 x1.toNatClampNeg) ≤ 0 → (∃ n23, pX10_judge_L23 v g x1 x2 Q  n23 (0 : Int32))) ∧ (¬ (v 8 x1.toNatClampNeg) ≤ 0 → (Q (-12 : Int32) ))))) ∧ (r1 = 0 → (Q (-1 : Int32) )))))
abbrev rmX10_judge : Room := { frames := 3, cells := 0, slots := 0, locals := 64 }
abbrev wdX10_judge : List Cond := Cond.code yX10_judge cX10_judge 4 (some .int) :: TB
theorem hdSX10_judge : (yX10_judge).cls ≠ "java/lang/invoke/MethodHandle" ∧ (yX10_judge).cls ≠ "java/lang/invoke/VarHandle" ∧ (parseMethodDescriptor (yX10_judge).desc).map (fun d => d.parameters.length) = some 2 := by decide +kernel
theorem hdX10_judge : (yX10_judge).cls = RX10 ∧ (yX10_judge).cls ≠ "java/lang/invoke/MethodHandle" ∧ (yX10_judge).cls ≠ "java/lang/invoke/VarHandle" ∧ (parseMethodDescriptor (yX10_judge).desc).map (fun d => d.parameters.length) = some 2 := ⟨rfl, hdSX10_judge⟩
set_option maxHeartbeats 4000000 in
set_option maxRecDepth 100000 in
theorem kX10_judge {l : Launch} {D : va_G} {cI cJ cT : ClassId} (d : Nat → Nat)  (v : Lf) (g : Lg) (x1 : Int32) (x2 : Int32) {Q : Int32 → Prop} (sz : Nat) (h : pX10_judge v g x1 x2 Q) : Met l yX10_judge wdX10_judge rmX10_judge (Pz D (tyL cI cJ cT) [.ref (d 0), .int x1, .int x2] (wX10 cI cJ d v g) sz) (va_Qi (fun (r : Int32) (u : Unit) => Q r) (Bz D (tyL cI cJ cT) (wX10 cI cJ d v g) sz (fun (u : Unit) => (wX10 cI cJ d v g))) (va_A (wX10 cI cJ d v g) sz)) 0 0 (va_A (wX10 cI cJ d v g) sz) := by
  refine z_meti (cc := cX10_judge) (maxL := 4) (own := RX10) (lv0 := [(0, .ref (d 0)), (1, .int x1), (2, .int x2)]) (by decide) rfl rfl (Nat.le_of_ble_eq_true rfl) rfl ?_
  intro p e s m args below meth c A QQ C hin hret
  have J61 : ∀ (x3 : Int32), pX10_judge_J61 v g x1 x2 Q x3 → ZZ p l e rmX10_judge s m args below meth c D A 4 0 0 QQ 61 (wX10 cI cJ d v g) [(3, .int x3)] [] := by
    intro  x3 h
    refine z_bipush (pc := 61) (v := 100) C dX10_judge_61 (by decide) ?_
    refine z_iload_n (pc := 63) C 0 dX10_judge_63 rfl ?_
    refine z_iadd (pc := 64) C dX10_judge_64 ?_
    exact hret 65 _ _ ((100 : Int32) + x3) () rfl h dX10_judge_65
  have L23 : ∀ (n23 : Nat) (x3 : Int32), pX10_judge_L23 v g x1 x2 Q n23 x3 → ZZ p l e rmX10_judge s m args below meth c D A 4 0 0 QQ 23 (wX10 cI cJ d v g) [(0, .ref (d 0)), (1, .int x1), (2, .int x2), (3, .int x3)] [] := by
    intro n23
    induction n23 with
    | zero => intro x3 h; exact False.elim h
    | succ n23 ih23 =>
      intro x3 h
      refine z_iload_n (pc := 23) C 3 dX10_judge_23 rfl ?_
      refine z_aload_n (pc := 24) C 0 dX10_judge_24 rfl ?_
      refine z_get (pc := 25) C uw10 0 rfl rfl 0 (by decide) wq809 rfl dX10_judge_25 ?_
      refine z_bipush (pc := 28) (v := 13) C dX10_judge_28 (by decide) ?_
      refine z_iald (pc := 30) C 1 0 rfl rfl vi_13_372 (v 1 13) (congrArg _ cl_13) dX10_judge_30 ?_
      refine z_icmp_ge (pc := 31) (tgt := 97) C dX10_judge_31 (by decide) (fun c6 => ?_) (fun c6 => ?_)
      · have h := h.1 c6
        refine z_bipush (pc := 97) (v := -5) C dX10_judge_97 (by decide) ?_
        exact hret 99 _ _ (-5 : Int32) () rfl h dX10_judge_99
      · have h := h.2 c6
        refine z_aload_n (pc := 34) C 0 dX10_judge_34 rfl ?_
        refine z_get (pc := 35) C uw10 0 rfl rfl 12 (by decide) wq841 rfl dX10_judge_35 ?_
        refine z_iload_n (pc := 38) C 1 dX10_judge_38 rfl ?_
        obtain ⟨g7, h⟩ := h
        refine z_iald (pc := 39) C 8 0 rfl rfl g7 (v 8 x1.toNatClampNeg) rfl dX10_judge_39 ?_
        refine z_if_lt (pc := 40) (tgt := 61) C dX10_judge_40 (by decide) (fun c8 => ?_) (fun c8 => ?_)
        · have h := h.1 c8
          refine z_sub (lv' := [(3, .int x3)]) [3] rfl ?_
          exact J61  x3 h
        · have h := h.2 c8
          refine z_iload_n (pc := 43) C 2 dX10_judge_43 rfl ?_
          refine z_iconst (pc := 44) (v := 0) C dX10_judge_44 (by decide) ?_
          refine z_aload_n (pc := 45) C 0 dX10_judge_45 rfl ?_
          refine z_get (pc := 46) C uw10 0 rfl rfl 13 (by decide) wq842 rfl dX10_judge_46 ?_
          refine z_iload_n (pc := 49) C 1 dX10_judge_49 rfl ?_
          obtain ⟨g9, h⟩ := h
          refine z_iald (pc := 50) C 9 0 rfl rfl g9 (v 9 x1.toNatClampNeg) rfl dX10_judge_50 ?_
          refine z_iconst (pc := 51) (v := 1) C dX10_judge_51 (by decide) ?_
          refine z_isub (pc := 52) C dX10_judge_52 ?_
          refine z_iload_n (pc := 53) C 3 dX10_judge_53 rfl ?_
          refine z_isub (pc := 54) C dX10_judge_54 ?_
          refine z_call0i (pc := 55) C (z_runS (pc := 55) (wc := ([] : va_W)) (As := [.int x2, .int (0 : Int32), .int (((v 9 x1.toNatClampNeg) - (1 : Int32)) - x3)]) C (fun sz => kX10_isIn x2 (0 : Int32) (((v 9 x1.toNatClampNeg) - (1 : Int32)) - x3) sz h) [] rfl (by decide) (gdS wq849 wq852 wq853 wq814) rfl rfl rfl hdSX10_isIn ⟨Nat.le_of_ble_eq_true rfl, Nat.le_of_ble_eq_true rfl⟩ rfl (Nat.le_of_ble_eq_true rfl) ⟨Nat.zero_le _, Nat.zero_le _⟩ dX10_judge_55) (fun r10 u10 h => ?_)
          refine z_if_ne (pc := 58) (tgt := 66) C dX10_judge_58 (by decide) (fun c11 => ?_) (fun c11 => ?_)
          · have h := h.1 c11
            refine z_aload_n (pc := 66) C 0 dX10_judge_66 rfl ?_
            refine z_get (pc := 67) C uw10 0 rfl rfl 14 (by decide) wq843 rfl dX10_judge_67 ?_
            refine z_bipush (pc := 70) (v := 60) C dX10_judge_70 (by decide) ?_
            refine z_iload_n (pc := 72) C 1 dX10_judge_72 rfl ?_
            refine z_imul (pc := 73) C dX10_judge_73 ?_
            refine z_iload_n (pc := 74) C 2 dX10_judge_74 rfl ?_
            refine z_iadd (pc := 75) C dX10_judge_75 ?_
            refine z_iload_n (pc := 76) C 3 dX10_judge_76 rfl ?_
            refine z_iadd (pc := 77) C dX10_judge_77 ?_
            obtain ⟨g12, h⟩ := h
            refine z_lald (pc := 78) C 10 1 rfl rfl g12 (g 10 ((((60 : Int32) * x1) + x2) + x3).toNatClampNeg) rfl dX10_judge_78 ?_
            refine z_aload_n (pc := 79) C 0 dX10_judge_79 rfl ?_
            refine z_iload_n (pc := 80) C 3 dX10_judge_80 rfl ?_
            refine z_callRi (pc := 81) C (z_runV (pc := 81) (wc := (wX10 cI cJ d v g)) (As := [.int x3]) C (fun sz => kX10_light d v g x3 sz h) [0, 1, 2, 3, 4, 5, 6, 7, 8, 9, 10, 11] rfl (by decide) (gdV wq1012 wq1014 wq1015 wq1016 wq814) rfl rfl rfl hdX10_light 0 rfl rfl rfl ⟨Nat.le_of_ble_eq_true rfl, Nat.le_of_ble_eq_true rfl⟩ rfl (Nat.le_of_ble_eq_true rfl) ⟨Nat.zero_le _, Nat.zero_le _⟩ dX10_judge_81) [0, 1, 2, 3, 4, 5, 6, 7, 8, 9, 10, 11] rfl (by decide) (fun r13 u13 h => ?_)
            refine z_i2l (pc := 84) C dX10_judge_84 ?_
            refine z_lcmp (pc := 85) C dX10_judge_85 ?_
            refine z_if_eq (pc := 86) (tgt := 91) C dX10_judge_86 (by decide) (fun c14 => ?_) (fun c14 => ?_)
            · have h := h.1 c14
              refine z_iinc (pc := 91) (v := (x3 + 1)) (lv' := [(3, .int (x3 + 1)), (0, .ref (d 0)), (1, .int x1), (2, .int x2)]) C 3 dX10_judge_91 rfl rfl (by decide) rfl ?_
              refine z_goto (pc := 94) (tgt := 23) C dX10_judge_94 (by decide) ?_
              refine z_sub (lv' := [(0, .ref (d 0)), (1, .int x1), (2, .int x2), (3, .int (x3 + 1))]) [1, 2, 3, 0] rfl ?_
              exact ih23 (x3 + 1) h
            · have h := h.2 c14
              refine z_iload_n (pc := 89) C 3 dX10_judge_89 rfl ?_
              exact hret 90 _ _ x3 () rfl h dX10_judge_90
          · have h := h.2 c11
            refine z_sub (lv' := [(3, .int x3)]) [3] rfl ?_
            exact J61  x3 h
  refine z_iload_n (pc := 0) C 1 dX10_judge_0 rfl ?_
  refine z_call0i (pc := 1) C (z_runS (pc := 1) (wc := ([] : va_W)) (As := [.int x1]) C (fun sz => kX10_isTape x1 sz h) [] rfl (by decide) (gdS wq1137 wq1139 wq1140 wq814) rfl rfl rfl hdSX10_isTape ⟨Nat.le_of_ble_eq_true rfl, Nat.le_of_ble_eq_true rfl⟩ rfl (Nat.le_of_ble_eq_true rfl) ⟨Nat.zero_le _, Nat.zero_le _⟩ dX10_judge_1) (fun r1 u1 h => ?_)
  refine z_if_ne (pc := 4) (tgt := 9) C dX10_judge_4 (by decide) (fun c2 => ?_) (fun c2 => ?_)
  · have h := h.1 c2
    refine z_aload_n (pc := 9) C 0 dX10_judge_9 rfl ?_
    refine z_get (pc := 10) C uw10 0 rfl rfl 12 (by decide) wq841 rfl dX10_judge_10 ?_
    refine z_iload_n (pc := 13) C 1 dX10_judge_13 rfl ?_
    obtain ⟨g3, h⟩ := h
    refine z_iald (pc := 14) C 8 0 rfl rfl g3 (v 8 x1.toNatClampNeg) rfl dX10_judge_14 ?_
    refine z_if_le (pc := 15) (tgt := 21) C dX10_judge_15 (by decide) (fun c4 => ?_) (fun c4 => ?_)
    · have h := h.1 c4
      refine z_iconst (pc := 21) (v := 0) C dX10_judge_21 (by decide) ?_
      refine z_istore_n (pc := 22) (lv' := [(3, .int (0 : Int32)), (0, .ref (d 0)), (1, .int x1), (2, .int x2)]) C dX10_judge_22 (by decide) rfl ?_
      obtain ⟨n23, h⟩ := h
      refine z_sub (lv' := [(0, .ref (d 0)), (1, .int x1), (2, .int x2), (3, .int (0 : Int32))]) [1, 2, 3, 0] rfl ?_
      exact L23  n23 (0 : Int32) h
    · have h := h.2 c4
      refine z_bipush (pc := 18) (v := -12) C dX10_judge_18 (by decide) ?_
      exact hret 20 _ _ (-12 : Int32) () rfl h dX10_judge_20
  · have h := h.2 c2
    refine z_iconst (pc := 7) (v := -1) C dX10_judge_7 (by decide) ?_
    exact hret 8 _ _ (-1 : Int32) () rfl h dX10_judge_8

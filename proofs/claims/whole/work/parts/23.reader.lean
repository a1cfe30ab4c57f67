def pX3_append (v : Lf) (x1 : Int32) (Q : Int32 → Lf → Prop) : Prop := (vp_in (v 0 1) 100 ∧ (Q ((st (st v 1 ((v 0 1).toNatClampNeg) x1) 0 1 (((st v 1 ((v 0 1).toNatClampNeg) x1) 0 1) + (1 : Int32))) 0 1) (st (st v 1 ((v 0 1).toNatClampNeg) x1) 0 1 (((st v 1 ((v 0 1).toNatClampNeg) x1) 0 1) + (1 : Int32)))))
abbrev rmX3_append : Room := { frames := 0, cells := 0, slots := 0, locals := 0 }
abbrev wdX3_append : List Cond := Cond.code yX3_append cX3_append 2 (some .int) :: TB
theorem hdSX3_append : (yX3_append).cls ≠ "java/lang/invoke/MethodHandle" ∧ (yX3_append).cls ≠ "java/lang/invoke/VarHandle" ∧ (parseMethodDescriptor (yX3_append).desc).map (fun d => d.parameters.length) = some 1 := by decide +kernel
theorem hdX3_append : (yX3_append).cls = RX3 ∧ (yX3_append).cls ≠ "java/lang/invoke/MethodHandle" ∧ (yX3_append).cls ≠ "java/lang/invoke/VarHandle" ∧ (parseMethodDescriptor (yX3_append).desc).map (fun d => d.parameters.length) = some 1 := ⟨rfl, hdSX3_append⟩
set_option maxHeartbeats 4000000 in
set_option maxRecDepth 100000 in
theorem kX3_append {l : Launch} {D : va_G} {cI cJ cT : ClassId} (d : Nat → Nat)  (v : Lf) (x1 : Int32) {Q : Int32 → Lf → Prop} (sz : Nat) (h : pX3_append v x1 Q) : Met l yX3_append wdX3_append rmX3_append (Pz D (tyL cI cJ cT) [.ref (d 0), .int x1] (wX3 cI d v) sz) (va_Qi (fun (r : Int32) (u : Lf) => Q r u) (Bz D (tyL cI cJ cT) (wX3 cI d v) sz (fun (u : Lf) => (wX3 cI d u))) (va_A (wX3 cI d v) sz)) 0 0 (va_A (wX3 cI d v) sz) := by
  refine z_meti (cc := cX3_append) (maxL := 2) (own := RX3) (lv0 := [(0, .ref (d 0)), (1, .int x1)]) (by decide) rfl rfl (Nat.le_of_ble_eq_true rfl) rfl ?_
  intro p e s m args below meth c A QQ C hin hret
  refine z_aload_n (pc := 0) C 0 dX3_append_0 rfl ?_
  refine z_get (pc := 1) C uw3 0 rfl rfl 0 (by decide) wq354 rfl dX3_append_1 ?_
  refine z_aload_n (pc := 4) C 0 dX3_append_4 rfl ?_
  refine z_get (pc := 5) C uw3 0 rfl rfl 1 (by decide) wq360 rfl dX3_append_5 ?_
  refine z_iload_n (pc := 8) C 1 dX3_append_8 rfl ?_
  obtain ⟨g1, h⟩ := h
  refine z_iast (pc := 9) (ws' := (wX3 cI d (st v 1 ((v 0 1).toNatClampNeg) x1))) C 1 0 rfl rfl g1 dX3_append_9 rfl sX3_a1 ?_
  refine z_aload_n (pc := 10) C 0 dX3_append_10 rfl ?_
  refine z_dup (pc := 11) C dX3_append_11 rfl ?_
  refine z_get (pc := 12) C uw3 0 rfl rfl 1 (by decide) wq360 rfl dX3_append_12 ?_
  refine z_iconst (pc := 15) (v := 1) C dX3_append_15 (by decide) ?_
  refine z_iadd (pc := 16) C dX3_append_16 ?_
  refine z_put (pc := 17) (ws' := (wX3 cI d (st (st v 1 ((v 0 1).toNatClampNeg) x1) 0 1 (((st v 1 ((v 0 1).toNatClampNeg) x1) 0 1) + (1 : Int32))))) C uw3 tyX3 tyX3_ok nmX3 0 rfl rfl 1 (by decide) wq360 rfl rfl rfl (Nat.le_of_ble_eq_true rfl) dX3_append_17 sX3_f1 ?_
  refine z_aload_n (pc := 20) C 0 dX3_append_20 rfl ?_
  refine z_get (pc := 21) C uw3 0 rfl rfl 1 (by decide) wq360 rfl dX3_append_21 ?_
  exact hret 24 _ _ ((st (st v 1 ((v 0 1).toNatClampNeg) x1) 0 1 (((st v 1 ((v 0 1).toNatClampNeg) x1) 0 1) + (1 : Int32))) 0 1) (st (st v 1 ((v 0 1).toNatClampNeg) x1) 0 1 (((st v 1 ((v 0 1).toNatClampNeg) x1) 0 1) + (1 : Int32))) rfl h dX3_append_24

def pX3_sign (v : Lf)  (Q : Int32 → Prop) : Prop := (((v 0 1) ≤ (v 0 2) → (Q (-1 : Int32) )) ∧ (¬ (v 0 1) ≤ (v 0 2) → (vp_in (v 0 2) 100 ∧ (Q (v 1 (v 0 2).toNatClampNeg) ))))
abbrev rmX3_sign : Room := { frames := 0, cells := 0, slots := 0, locals := 0 }
abbrev wdX3_sign : List Cond := Cond.code yX3_sign cX3_sign 1 (some .int) :: TB
theorem hdSX3_sign : (yX3_sign).cls ≠ "java/lang/invoke/MethodHandle" ∧ (yX3_sign).cls ≠ "java/lang/invoke/VarHandle" ∧ (parseMethodDescriptor (yX3_sign).desc).map (fun d => d.parameters.length) = some 0 := by decide +kernel
theorem hdX3_sign : (yX3_sign).cls = RX3 ∧ (yX3_sign).cls ≠ "java/lang/invoke/MethodHandle" ∧ (yX3_sign).cls ≠ "java/lang/invoke/VarHandle" ∧ (parseMethodDescriptor (yX3_sign).desc).map (fun d => d.parameters.length) = some 0 := ⟨rfl, hdSX3_sign⟩
set_option maxHeartbeats 4000000 in
set_option maxRecDepth 100000 in
theorem kX3_sign {l : Launch} {D : va_G} {cI cJ cT : ClassId} (d : Nat → Nat)  (v : Lf)  {Q : Int32 → Prop} (sz : Nat) (h : pX3_sign v Q) : Met l yX3_sign wdX3_sign rmX3_sign (Pz D (tyL cI cJ cT) [.ref (d 0)] (wX3 cI d v) sz) (va_Qi (fun (r : Int32) (u : Unit) => Q r) (Bz D (tyL cI cJ cT) (wX3 cI d v) sz (fun (u : Unit) => (wX3 cI d v))) (va_A (wX3 cI d v) sz)) 0 0 (va_A (wX3 cI d v) sz) := by
  refine z_meti (cc := cX3_sign) (maxL := 1) (own := RX3) (lv0 := [(0, .ref (d 0))]) (by decide) rfl rfl (Nat.le_of_ble_eq_true rfl) rfl ?_
  intro p e s m args below meth c A QQ C hin hret
  refine z_aload_n (pc := 0) C 0 dX3_sign_0 rfl ?_
  refine z_get (pc := 1) C uw3 0 rfl rfl 2 (by decide) wq362 rfl dX3_sign_1 ?_
  refine z_aload_n (pc := 4) C 0 dX3_sign_4 rfl ?_
  refine z_get (pc := 5) C uw3 0 rfl rfl 1 (by decide) wq360 rfl dX3_sign_5 ?_
  refine z_icmp_ge (pc := 8) (tgt := 23) C dX3_sign_8 (by decide) (fun c1 => ?_) (fun c1 => ?_)
  · have h := h.1 c1
    refine z_iconst (pc := 23) (v := -1) C dX3_sign_23 (by decide) ?_
    exact hret 24 _ _ (-1 : Int32) () rfl h dX3_sign_24
  · have h := h.2 c1
    refine z_aload_n (pc := 11) C 0 dX3_sign_11 rfl ?_
    refine z_get (pc := 12) C uw3 0 rfl rfl 0 (by decide) wq354 rfl dX3_sign_12 ?_
    refine z_aload_n (pc := 15) C 0 dX3_sign_15 rfl ?_
    refine z_get (pc := 16) C uw3 0 rfl rfl 2 (by decide) wq362 rfl dX3_sign_16 ?_
    obtain ⟨g2, h⟩ := h
    refine z_iald (pc := 19) C 1 0 rfl rfl g2 (v 1 (v 0 2).toNatClampNeg) rfl dX3_sign_19 ?_
    refine z_goto (pc := 20) (tgt := 24) C dX3_sign_20 (by decide) ?_
    exact hret 24 _ _ (v 1 (v 0 2).toNatClampNeg) () rfl h dX3_sign_24

def pX3_kindOf  (x0 : Int32) (Q : Int32 → Prop) : Prop := ((x0 = 98 → (Q (3 : Int32) )) ∧ (¬ x0 = 98 → ((x0 = 99 → (Q (0 : Int32) )) ∧ (¬ x0 = 99 → ((x0 = 116 → (Q (2 : Int32) )) ∧ (¬ x0 = 116 → ((x0 = 119 → (Q (1 : Int32) )) ∧ (¬ x0 = 119 → (Q (-5 : Int32) )))))))))
abbrev rmX3_kindOf : Room := { frames := 0, cells := 0, slots := 0, locals := 0 }
abbrev wdX3_kindOf : List Cond := Cond.code yX3_kindOf cX3_kindOf 1 (some .int) :: TB
theorem hdSX3_kindOf : (yX3_kindOf).cls ≠ "java/lang/invoke/MethodHandle" ∧ (yX3_kindOf).cls ≠ "java/lang/invoke/VarHandle" ∧ (parseMethodDescriptor (yX3_kindOf).desc).map (fun d => d.parameters.length) = some 1 := by decide +kernel
theorem hdX3_kindOf : (yX3_kindOf).cls = RX3 ∧ (yX3_kindOf).cls ≠ "java/lang/invoke/MethodHandle" ∧ (yX3_kindOf).cls ≠ "java/lang/invoke/VarHandle" ∧ (parseMethodDescriptor (yX3_kindOf).desc).map (fun d => d.parameters.length) = some 1 := ⟨rfl, hdSX3_kindOf⟩
set_option maxHeartbeats 4000000 in
set_option maxRecDepth 100000 in
theorem kX3_kindOf {l : Launch} {D : va_G} {cI cJ cT : ClassId}    (x0 : Int32) {Q : Int32 → Prop} (sz : Nat) (h : pX3_kindOf x0 Q) : Met l yX3_kindOf wdX3_kindOf rmX3_kindOf (Pz D (tyL cI cJ cT) [.int x0] ([] : va_W) sz) (va_Qi (fun (r : Int32) (u : Unit) => Q r) (Bz D (tyL cI cJ cT) ([] : va_W) sz (fun (u : Unit) => ([] : va_W))) (va_A ([] : va_W) sz)) 0 0 (va_A ([] : va_W) sz) := by
  refine z_meti (cc := cX3_kindOf) (maxL := 1) (own := RX3) (lv0 := [(0, .int x0)]) (by decide) rfl rfl (Nat.le_of_ble_eq_true rfl) rfl ?_
  intro p e s m args below meth c A QQ C hin hret
  refine z_iload_n (pc := 0) C 0 dX3_kindOf_0 rfl ?_
  by_cases c1_98 : x0 = 98
  · have h := h.1 c1_98
    refine z_lkp (pc := 1) (tgt := 50) C dX3_kindOf_1 (by decide) (off := 49) (by rw [c1_98]; decide) (by decide) ?_
    refine z_iconst (pc := 50) (v := 3) C dX3_kindOf_50 (by decide) ?_
    exact hret 51 _ _ (3 : Int32) () rfl h dX3_kindOf_51
  · have h := h.2 c1_98
    by_cases c1_99 : x0 = 99
    · have h := h.1 c1_99
      refine z_lkp (pc := 1) (tgt := 44) C dX3_kindOf_1 (by decide) (off := 43) (by rw [c1_99]; decide) (by decide) ?_
      refine z_iconst (pc := 44) (v := 0) C dX3_kindOf_44 (by decide) ?_
      exact hret 45 _ _ (0 : Int32) () rfl h dX3_kindOf_45
    · have h := h.2 c1_99
      by_cases c1_116 : x0 = 116
      · have h := h.1 c1_116
        refine z_lkp (pc := 1) (tgt := 48) C dX3_kindOf_1 (by decide) (off := 47) (by rw [c1_116]; decide) (by decide) ?_
        refine z_iconst (pc := 48) (v := 2) C dX3_kindOf_48 (by decide) ?_
        exact hret 49 _ _ (2 : Int32) () rfl h dX3_kindOf_49
      · have h := h.2 c1_116
        by_cases c1_119 : x0 = 119
        · have h := h.1 c1_119
          refine z_lkp (pc := 1) (tgt := 46) C dX3_kindOf_1 (by decide) (off := 45) (by rw [c1_119]; decide) (by decide) ?_
          refine z_iconst (pc := 46) (v := 1) C dX3_kindOf_46 (by decide) ?_
          exact hret 47 _ _ (1 : Int32) () rfl h dX3_kindOf_47
        · have h := h.2 c1_119
          refine z_lkp (pc := 1) (tgt := 52) C dX3_kindOf_1 (by decide) (off := 51) (by show Op.lookupswitch.offset [(98, 49), (99, 43), (116, 47), (119, 45)] _ _ = _; rw [lv_osw c1_98 (show (98 : Int32).toInt = 98 by decide), lv_osw c1_99 (show (99 : Int32).toInt = 99 by decide), lv_osw c1_116 (show (116 : Int32).toInt = 116 by decide), lv_osw c1_119 (show (119 : Int32).toInt = 119 by decide)]; rfl) (by decide) ?_
          refine z_bipush (pc := 52) (v := -5) C dX3_kindOf_52 (by decide) ?_
          exact hret 54 _ _ (-5 : Int32) () rfl h dX3_kindOf_54

def pX3_failAt (v : Lf) (x1 : Int32) (Q : Int32 → Lf → Prop) : Prop := (Q (0 : Int32) (st v 0 3 x1))
abbrev rmX3_failAt : Room := { frames := 0, cells := 0, slots := 0, locals := 0 }
abbrev wdX3_failAt : List Cond := Cond.code yX3_failAt cX3_failAt 2 (some .boolean) :: TB
theorem hdSX3_failAt : (yX3_failAt).cls ≠ "java/lang/invoke/MethodHandle" ∧ (yX3_failAt).cls ≠ "java/lang/invoke/VarHandle" ∧ (parseMethodDescriptor (yX3_failAt).desc).map (fun d => d.parameters.length) = some 1 := by decide +kernel
theorem hdX3_failAt : (yX3_failAt).cls = RX3 ∧ (yX3_failAt).cls ≠ "java/lang/invoke/MethodHandle" ∧ (yX3_failAt).cls ≠ "java/lang/invoke/VarHandle" ∧ (parseMethodDescriptor (yX3_failAt).desc).map (fun d => d.parameters.length) = some 1 := ⟨rfl, hdSX3_failAt⟩
set_option maxHeartbeats 4000000 in
set_option maxRecDepth 100000 in
theorem kX3_failAt {l : Launch} {D : va_G} {cI cJ cT : ClassId} (d : Nat → Nat)  (v : Lf) (x1 : Int32) {Q : Int32 → Lf → Prop} (sz : Nat) (h : pX3_failAt v x1 Q) : Met l yX3_failAt wdX3_failAt rmX3_failAt (Pz D (tyL cI cJ cT) [.ref (d 0), .int x1] (wX3 cI d v) sz) (va_Qi (fun (r : Int32) (u : Lf) => Q r u) (Bz D (tyL cI cJ cT) (wX3 cI d v) sz (fun (u : Lf) => (wX3 cI d u))) (va_A (wX3 cI d v) sz)) 0 0 (va_A (wX3 cI d v) sz) := by
  refine z_metz (cc := cX3_failAt) (maxL := 2) (own := RX3) (lv0 := [(0, .ref (d 0)), (1, .int x1)]) (by decide) rfl rfl (Nat.le_of_ble_eq_true rfl) rfl ?_
  intro p e s m args below meth c A QQ C hin hret
  refine z_aload_n (pc := 0) C 0 dX3_failAt_0 rfl ?_
  refine z_iload_n (pc := 1) C 1 dX3_failAt_1 rfl ?_
  refine z_put (pc := 2) (ws' := (wX3 cI d (st v 0 3 x1))) C uw3 tyX3 tyX3_ok nmX3 0 rfl rfl 3 (by decide) wq365 rfl rfl rfl (Nat.le_of_ble_eq_true rfl) dX3_failAt_2 sX3_f3 ?_
  refine z_iconst (pc := 5) (v := 0) C dX3_failAt_5 (by decide) ?_
  exact hret 6 _ _ (0 : Int32) rfl (st v 0 3 x1) rfl h dX3_failAt_6

def pX3_hasCell_L2 (v : Lf) (x1 : Int32) (x2 : Int32) (Q : Int32 → Prop) : Nat → Int32 → Prop
  | 0, _ => False
  | n2 + 1, x3 => (vp_in x1 4 ∧ (((v 3 x1.toNatClampNeg) ≤ x3 → (Q (0 : Int32) )) ∧ (¬ (v 3 x1.toNatClampNeg) ≤ x3 → (vp_in ((x1 * (8 : Int32)) + x3) 32 ∧ ((¬ (v 4 ((x1 * (8 : Int32)) + x3).toNatClampNeg) = x2 → (pX3_hasCell_L2 v x1 x2 Q n2 (x3 + 1))) ∧ ((v 4 ((x1 * (8 : Int32)) + x3).toNatClampNeg) = x2 → (Q (1 : Int32) )))))))
def pX3_hasCell (v : Lf) (x1 : Int32) (x2 : Int32) (Q : Int32 → Prop) : Prop := (∃ n2, pX3_hasCell_L2 v x1 x2 Q  n2 (0 : Int32))
abbrev rmX3_hasCell : Room := { frames := 0, cells := 0, slots := 0, locals := 0 }
abbrev wdX3_hasCell : List Cond := Cond.code yX3_hasCell cX3_hasCell 4 (some .boolean) :: TB
theorem hdSX3_hasCell : (yX3_hasCell).cls ≠ "java/lang/invoke/MethodHandle" ∧ (yX3_hasCell).cls ≠ "java/lang/invoke/VarHandle" ∧ (parseMethodDescriptor (yX3_hasCell).desc).map (fun d => d.parameters.length) = some 2 := by decide +kernel
theorem hdX3_hasCell : (yX3_hasCell).cls = RX3 ∧ (yX3_hasCell).cls ≠ "java/lang/invoke/MethodHandle" ∧ (yX3_hasCell).cls ≠ "java/lang/invoke/VarHandle" ∧ (parseMethodDescriptor (yX3_hasCell).desc).map (fun d => d.parameters.length) = some 2 := ⟨rfl, hdSX3_hasCell⟩
set_option maxHeartbeats 4000000 in
set_option maxRecDepth 100000 in
theorem kX3_hasCell {l : Launch} {D : va_G} {cI cJ cT : ClassId} (d : Nat → Nat)  (v : Lf) (x1 : Int32) (x2 : Int32) {Q : Int32 → Prop} (sz : Nat) (h : pX3_hasCell v x1 x2 Q) : Met l yX3_hasCell wdX3_hasCell rmX3_hasCell (Pz D (tyL cI cJ cT) [.ref (d 0), .int x1, .int x2] (wX3 cI d v) sz) (va_Qi (fun (r : Int32) (u : Unit) => Q r) (Bz D (tyL cI cJ cT) (wX3 cI d v) sz (fun (u : Unit) => (wX3 cI d v))) (va_A (wX3 cI d v) sz)) 0 0 (va_A (wX3 cI d v) sz) := by
  refine z_metz (cc := cX3_hasCell) (maxL := 4) (own := RX3) (lv0 := [(0, .ref (d 0)), (1, .int x1), (2, .int x2)]) (by decide) rfl rfl (Nat.le_of_ble_eq_true rfl) rfl ?_
  intro p e s m args below meth c A QQ C hin hret
  have L2 : ∀ (n2 : Nat) (x3 : Int32), pX3_hasCell_L2 v x1 x2 Q n2 x3 → ZZ p l e rmX3_hasCell s m args below meth c D A 4 0 0 QQ 2 (wX3 cI d v) [(0, .ref (d 0)), (1, .int x1), (2, .int x2), (3, .int x3)] [] := by
    intro n2
    induction n2 with
    | zero => intro x3 h; exact False.elim h
    | succ n2 ih2 =>
      intro x3 h
      refine z_iload_n (pc := 2) C 3 dX3_hasCell_2 rfl ?_
      refine z_aload_n (pc := 3) C 0 dX3_hasCell_3 rfl ?_
      refine z_get (pc := 4) C uw3 0 rfl rfl 6 (by decide) wq356 rfl dX3_hasCell_4 ?_
      refine z_iload_n (pc := 7) C 1 dX3_hasCell_7 rfl ?_
      obtain ⟨g1, h⟩ := h
      refine z_iald (pc := 8) C 3 0 rfl rfl g1 (v 3 x1.toNatClampNeg) rfl dX3_hasCell_8 ?_
      refine z_icmp_ge (pc := 9) (tgt := 35) C dX3_hasCell_9 (by decide) (fun c2 => ?_) (fun c2 => ?_)
      · have h := h.1 c2
        refine z_iconst (pc := 35) (v := 0) C dX3_hasCell_35 (by decide) ?_
        exact hret 36 _ _ (0 : Int32) rfl () rfl h dX3_hasCell_36
      · have h := h.2 c2
        refine z_aload_n (pc := 12) C 0 dX3_hasCell_12 rfl ?_
        refine z_get (pc := 13) C uw3 0 rfl rfl 7 (by decide) wq357 rfl dX3_hasCell_13 ?_
        refine z_iload_n (pc := 16) C 1 dX3_hasCell_16 rfl ?_
        refine z_bipush (pc := 17) (v := 8) C dX3_hasCell_17 (by decide) ?_
        refine z_imul (pc := 19) C dX3_hasCell_19 ?_
        refine z_iload_n (pc := 20) C 3 dX3_hasCell_20 rfl ?_
        refine z_iadd (pc := 21) C dX3_hasCell_21 ?_
        obtain ⟨g3, h⟩ := h
        refine z_iald (pc := 22) C 4 0 rfl rfl g3 (v 4 ((x1 * (8 : Int32)) + x3).toNatClampNeg) rfl dX3_hasCell_22 ?_
        refine z_iload_n (pc := 23) C 2 dX3_hasCell_23 rfl ?_
        refine z_icmp_ne (pc := 24) (tgt := 29) C dX3_hasCell_24 (by decide) (fun c4 => ?_) (fun c4 => ?_)
        · have h := h.1 c4
          refine z_iinc (pc := 29) (v := (x3 + 1)) (lv' := [(3, .int (x3 + 1)), (0, .ref (d 0)), (1, .int x1), (2, .int x2)]) C 3 dX3_hasCell_29 rfl rfl (by decide) rfl ?_
          refine z_goto (pc := 32) (tgt := 2) C dX3_hasCell_32 (by decide) ?_
          refine z_sub (lv' := [(0, .ref (d 0)), (1, .int x1), (2, .int x2), (3, .int (x3 + 1))]) [1, 2, 3, 0] rfl ?_
          exact ih2 (x3 + 1) h
        · have h := h.2 c4
          refine z_iconst (pc := 27) (v := 1) C dX3_hasCell_27 (by decide) ?_
          exact hret 28 _ _ (1 : Int32) rfl () rfl h dX3_hasCell_28
  refine z_iconst (pc := 0) (v := 0) C dX3_hasCell_0 (by decide) ?_
  refine z_istore_n (pc := 1) (lv' := [(3, .int (0 : Int32)), (0, .ref (d 0)), (1, .int x1), (2, .int x2)]) C dX3_hasCell_1 (by decide) rfl ?_
  obtain ⟨n2, h⟩ := h
  refine z_sub (lv' := [(0, .ref (d 0)), (1, .int x1), (2, .int x2), (3, .int (0 : Int32))]) [1, 2, 3, 0] rfl ?_
  exact L2  n2 (0 : Int32) h

def pX3_parseWay_J99 (x1 : Int32) (Q : Int32 → Lf → Prop) (v : Lf) : Prop := (pX3_failAt v (v 0 2) (fun r9 v_9 => (narrow .boolean (.int r9) = .int r9 ∧ (Q r9 v_9))))
def pX3_parseWay_J48 (x1 : Int32) (Q : Int32 → Lf → Prop) (v : Lf) : Prop := (Q (1 : Int32) v)
def pX3_parseWay_L9 (x1 : Int32) (Q : Int32 → Lf → Prop) : Nat → Lf → Int32 → Prop
  | 0, _, _ => False
  | n9 + 1, v, x2 => (((8 : Int32) ≤ x2 → (Q (1 : Int32) v)) ∧ (¬ (8 : Int32) ≤ x2 → (pX3_sign v (fun r3 => (pX9_within (r3 - (97 : Int32)) (0 : Int32) (7 : Int32) (fun r4 => ((¬ r4 = 0 → (pX3_sign (st v 0 2 ((v 0 2) + (1 : Int32))) (fun r6 => (pX9_within (r6 - (49 : Int32)) (0 : Int32) (7 : Int32) (fun r7 => ((r7 = 0 → (pX3_parseWay_J99 x1 Q  (st v 0 2 ((v 0 2) + (1 : Int32))))) ∧ (¬ r7 = 0 → (pX3_hasCell (st v 0 2 ((v 0 2) + (1 : Int32))) x1 ((r3 - (97 : Int32)) + ((8 : Int32) * (r6 - (49 : Int32)))) (fun r11 => ((r11 = 0 → (vp_in ((x1 * (8 : Int32)) + x2) 32 ∧ (vp_in x1 4 ∧ (pX3_parseWay_L9 x1 Q n9 (st (st (st (st v 0 2 ((v 0 2) + (1 : Int32))) 0 2 (((st v 0 2 ((v 0 2) + (1 : Int32))) 0 2) + (1 : Int32))) 4 (((x1 * (8 : Int32)) + x2).toNatClampNeg) ((r3 - (97 : Int32)) + ((8 : Int32) * (r6 - (49 : Int32))))) 3 x1.toNatClampNeg (x2 + (1 : Int32))) (x2 + 1))))) ∧ (¬ r11 = 0 → (pX3_parseWay_J99 x1 Q  (st v 0 2 ((v 0 2) + (1 : Int32))))))))))))))) ∧ (r4 = 0 → ((0 < x2 → (pX3_parseWay_J48 x1 Q  v)) ∧ (¬ 0 < x2 → (pX3_failAt v (v 0 2) (fun r16 v_16 => ((r16 = 0 → (Q (0 : Int32) v_16)) ∧ (¬ r16 = 0 → (pX3_parseWay_J48 x1 Q  v_16)))))))))))))))
def pX3_parseWay (v : Lf) (x1 : Int32) (Q : Int32 → Lf → Prop) : Prop := (vp_in x1 4 ∧ (∃ n9, pX3_parseWay_L9 x1 Q  n9 (st v 3 x1.toNatClampNeg (0 : Int32)) (0 : Int32)))
abbrev rmX3_parseWay : Room := { frames := 1, cells := 0, slots := 0, locals := 23 }
abbrev wdX3_parseWay : List Cond := Cond.code yX3_parseWay cX3_parseWay 5 (some .boolean) :: TB
theorem hdSX3_parseWay : (yX3_parseWay).cls ≠ "java/lang/invoke/MethodHandle" ∧ (yX3_parseWay).cls ≠ "java/lang/invoke/VarHandle" ∧ (parseMethodDescriptor (yX3_parseWay).desc).map (fun d => d.parameters.length) = some 1 := by decide +kernel
theorem hdX3_parseWay : (yX3_parseWay).cls = RX3 ∧ (yX3_parseWay).cls ≠ "java/lang/invoke/MethodHandle" ∧ (yX3_parseWay).cls ≠ "java/lang/invoke/VarHandle" ∧ (parseMethodDescriptor (yX3_parseWay).desc).map (fun d => d.parameters.length) = some 1 := ⟨rfl, hdSX3_parseWay⟩
set_option maxHeartbeats 4000000 in
set_option maxRecDepth 100000 in
theorem kX3_parseWay {l : Launch} {D : va_G} {cI cJ cT : ClassId} (d : Nat → Nat)  (v : Lf) (x1 : Int32) {Q : Int32 → Lf → Prop} (sz : Nat) (h : pX3_parseWay v x1 Q) : Met l yX3_parseWay wdX3_parseWay rmX3_parseWay (Pz D (tyL cI cJ cT) [.ref (d 0), .int x1] (wX3 cI d v) sz) (va_Qi (fun (r : Int32) (u : Lf) => Q r u) (Bz D (tyL cI cJ cT) (wX3 cI d v) sz (fun (u : Lf) => (wX3 cI d u))) (va_A (wX3 cI d v) sz)) 0 0 (va_A (wX3 cI d v) sz) := by
  refine z_metz (cc := cX3_parseWay) (maxL := 5) (own := RX3) (lv0 := [(0, .ref (d 0)), (1, .int x1)]) (by decide) rfl rfl (Nat.le_of_ble_eq_true rfl) rfl ?_
  intro p e s m args below meth c A QQ C hin hret
  have J99 : ∀ (v : Lf), pX3_parseWay_J99 x1 Q v → ZZ p l e rmX3_parseWay s m args below meth c D A 5 0 0 QQ 99 (wX3 cI d v) [(0, .ref (d 0))] [] := by
    intro  v h
    refine z_aload_n (pc := 99) C 0 dX3_parseWay_99 rfl ?_
    refine z_aload_n (pc := 100) C 0 dX3_parseWay_100 rfl ?_
    refine z_get (pc := 101) C uw3 0 rfl rfl 2 (by decide) wq362 rfl dX3_parseWay_101 ?_
    refine z_calli (pc := 104) (wr := ([] : va_W)) (w1 := fun (u : Lf) => (wX3 cI d u)) (w2 := fun (u : Lf) => (wX3 cI d u)) C (z_runV (pc := 104) (wc := (wX3 cI d v)) (As := [.int (v 0 2)]) C (fun sz => kX3_failAt d v (v 0 2) sz h) [0, 1, 2, 3, 4, 5] rfl (by decide) (gdV wq364 wq374 wq375 wq376 wq372) rfl rfl rfl hdX3_failAt 0 rfl rfl rfl ⟨Nat.le_of_ble_eq_true rfl, Nat.le_of_ble_eq_true rfl⟩ rfl (Nat.le_of_ble_eq_true rfl) ⟨Nat.zero_le _, Nat.zero_le _⟩ dX3_parseWay_104) [0, 1, 2, 3, 4, 5] [] [0, 1, 2, 3, 4, 5] rfl rfl (by decide) (by decide) (fun _ => rfl) (by decide) (fun r9 u9 h => ?_)
    obtain ⟨v_9, hu9⟩ : ∃ z, z = u9 := ⟨_, rfl⟩
    subst hu9
    obtain ⟨g10, h⟩ := h
    exact hret 107 _ _ r9 g10 v_9 rfl h dX3_parseWay_107
  have J48 : ∀ (v : Lf), pX3_parseWay_J48 x1 Q v → ZZ p l e rmX3_parseWay s m args below meth c D A 5 0 0 QQ 48 (wX3 cI d v) [] [] := by
    intro  v h
    refine z_iconst (pc := 48) (v := 1) C dX3_parseWay_48 (by decide) ?_
    refine z_goto (pc := 49) (tgt := 53) C dX3_parseWay_49 (by decide) ?_
    exact hret 53 _ _ (1 : Int32) rfl v rfl h dX3_parseWay_53
  have L9 : ∀ (n9 : Nat) (v : Lf) (x2 : Int32), pX3_parseWay_L9 x1 Q n9 v x2 → ZZ p l e rmX3_parseWay s m args below meth c D A 5 0 0 QQ 9 (wX3 cI d v) [(0, .ref (d 0)), (1, .int x1), (2, .int x2)] [] := by
    intro n9
    induction n9 with
    | zero => intro v x2 h; exact False.elim h
    | succ n9 ih9 =>
      intro v x2 h
      refine z_iload_n (pc := 9) C 2 dX3_parseWay_9 rfl ?_
      refine z_bipush (pc := 10) (v := 8) C dX3_parseWay_10 (by decide) ?_
      refine z_icmp_ge (pc := 12) (tgt := 151) C dX3_parseWay_12 (by decide) (fun c2 => ?_) (fun c2 => ?_)
      · have h := h.1 c2
        refine z_iconst (pc := 151) (v := 1) C dX3_parseWay_151 (by decide) ?_
        exact hret 152 _ _ (1 : Int32) rfl v rfl h dX3_parseWay_152
      · have h := h.2 c2
        refine z_aload_n (pc := 15) C 0 dX3_parseWay_15 rfl ?_
        refine z_callRi (pc := 16) C (z_runV (pc := 16) (wc := (wX3 cI d v)) (As := []) C (fun sz => kX3_sign d v sz h) [0, 1, 2, 3, 4, 5] rfl (by decide) (gdV wq361 wq369 wq370 wq371 wq372) rfl rfl rfl hdX3_sign 0 rfl rfl rfl ⟨Nat.le_of_ble_eq_true rfl, Nat.le_of_ble_eq_true rfl⟩ rfl (Nat.le_of_ble_eq_true rfl) ⟨Nat.zero_le _, Nat.zero_le _⟩ dX3_parseWay_16) [0, 1, 2, 3, 4, 5] rfl (by decide) (fun r3 u3 h => ?_)
        refine z_bipush (pc := 19) (v := 97) C dX3_parseWay_19 (by decide) ?_
        refine z_isub (pc := 21) C dX3_parseWay_21 ?_
        refine z_istore_n (pc := 22) (lv' := [(3, .int (r3 - (97 : Int32))), (0, .ref (d 0)), (1, .int x1), (2, .int x2)]) C dX3_parseWay_22 (by decide) rfl ?_
        refine z_iload_n (pc := 23) C 0 dX3_parseWay_23 rfl ?_
        refine z_iconst (pc := 24) (v := 0) C dX3_parseWay_24 (by decide) ?_
        refine z_bipush (pc := 25) (v := 7) C dX3_parseWay_25 (by decide) ?_
        refine z_call0i (pc := 27) C (z_runSN (pc := 27) (wc := ([] : va_W)) (As := [.int (r3 - (97 : Int32)), .int (0 : Int32), .int (7 : Int32)]) (host := "SafeClears") C (fun sz => kX9_within (r3 - (97 : Int32)) (0 : Int32) (7 : Int32) sz h) [] rfl (by decide) (gdC wq366) (by decide +kernel) rfl rfl rfl wq373 wq112 hdSX9_within ⟨Nat.le_of_ble_eq_true rfl, Nat.le_of_ble_eq_true rfl⟩ rfl (Nat.le_of_ble_eq_true rfl) ⟨Nat.zero_le _, Nat.zero_le _⟩ dX3_parseWay_27) (fun r4 u4 h => ?_)
        refine z_if_ne (pc := 30) (tgt := 54) C dX3_parseWay_30 (by decide) (fun c5 => ?_) (fun c5 => ?_)
        · have h := h.1 c5
          refine z_aload_n (pc := 54) C 1 dX3_parseWay_54 rfl ?_
          refine z_dup (pc := 55) C dX3_parseWay_55 rfl ?_
          refine z_get (pc := 56) C uw3 0 rfl rfl 2 (by decide) wq362 rfl dX3_parseWay_56 ?_
          refine z_iconst (pc := 59) (v := 1) C dX3_parseWay_59 (by decide) ?_
          refine z_iadd (pc := 60) C dX3_parseWay_60 ?_
          refine z_put (pc := 61) (ws' := (wX3 cI d (st v 0 2 ((v 0 2) + (1 : Int32))))) C uw3 tyX3 tyX3_ok nmX3 0 rfl rfl 2 (by decide) wq362 rfl rfl rfl (Nat.le_of_ble_eq_true rfl) dX3_parseWay_61 sX3_f2 ?_
          refine z_aload_n (pc := 64) C 1 dX3_parseWay_64 rfl ?_
          refine z_callRi (pc := 65) C (z_runV (pc := 65) (wc := (wX3 cI d (st v 0 2 ((v 0 2) + (1 : Int32))))) (As := []) C (fun sz => kX3_sign d (st v 0 2 ((v 0 2) + (1 : Int32))) sz h) [0, 1, 2, 3, 4, 5] rfl (by decide) (gdV wq361 wq369 wq370 wq371 wq372) rfl rfl rfl hdX3_sign 0 rfl rfl rfl ⟨Nat.le_of_ble_eq_true rfl, Nat.le_of_ble_eq_true rfl⟩ rfl (Nat.le_of_ble_eq_true rfl) ⟨Nat.zero_le _, Nat.zero_le _⟩ dX3_parseWay_65) [0, 1, 2, 3, 4, 5] rfl (by decide) (fun r6 u6 h => ?_)
          refine z_bipush (pc := 68) (v := 49) C dX3_parseWay_68 (by decide) ?_
          refine z_isub (pc := 70) C dX3_parseWay_70 ?_
          refine z_istore (pc := 71) (lv' := [(4, .int (r6 - (49 : Int32))), (3, .int (r3 - (97 : Int32))), (0, .ref (d 0)), (1, .int x1), (2, .int x2)]) C dX3_parseWay_71 (by decide) rfl ?_
          refine z_iload (pc := 73) C 0 dX3_parseWay_73 rfl ?_
          refine z_iconst (pc := 75) (v := 0) C dX3_parseWay_75 (by decide) ?_
          refine z_bipush (pc := 76) (v := 7) C dX3_parseWay_76 (by decide) ?_
          refine z_call0i (pc := 78) C (z_runSN (pc := 78) (wc := ([] : va_W)) (As := [.int (r6 - (49 : Int32)), .int (0 : Int32), .int (7 : Int32)]) (host := "SafeClears") C (fun sz => kX9_within (r6 - (49 : Int32)) (0 : Int32) (7 : Int32) sz h) [] rfl (by decide) (gdC wq366) (by decide +kernel) rfl rfl rfl wq373 wq112 hdSX9_within ⟨Nat.le_of_ble_eq_true rfl, Nat.le_of_ble_eq_true rfl⟩ rfl (Nat.le_of_ble_eq_true rfl) ⟨Nat.zero_le _, Nat.zero_le _⟩ dX3_parseWay_78) (fun r7 u7 h => ?_)
          refine z_if_eq (pc := 81) (tgt := 99) C dX3_parseWay_81 (by decide) (fun c8 => ?_) (fun c8 => ?_)
          · have h := h.1 c8
            refine z_sub (lv' := [(0, .ref (d 0))]) [2] rfl ?_
            exact J99  (st v 0 2 ((v 0 2) + (1 : Int32))) h
          · have h := h.2 c8
            refine z_aload_n (pc := 84) C 2 dX3_parseWay_84 rfl ?_
            refine z_iload_n (pc := 85) C 3 dX3_parseWay_85 rfl ?_
            refine z_iload_n (pc := 86) C 1 dX3_parseWay_86 rfl ?_
            refine z_bipush (pc := 87) (v := 8) C dX3_parseWay_87 (by decide) ?_
            refine z_iload (pc := 89) C 0 dX3_parseWay_89 rfl ?_
            refine z_imul (pc := 91) C dX3_parseWay_91 ?_
            refine z_iadd (pc := 92) C dX3_parseWay_92 ?_
            refine z_callRi (pc := 93) C (z_runV (pc := 93) (wc := (wX3 cI d (st v 0 2 ((v 0 2) + (1 : Int32))))) (As := [.int x1, .int ((r3 - (97 : Int32)) + ((8 : Int32) * (r6 - (49 : Int32))))]) C (fun sz => kX3_hasCell d (st v 0 2 ((v 0 2) + (1 : Int32))) x1 ((r3 - (97 : Int32)) + ((8 : Int32) * (r6 - (49 : Int32)))) sz h) [0, 1, 2, 3, 4, 5] rfl (by decide) (gdV wq367 wq377 wq378 wq379 wq372) rfl rfl rfl hdX3_hasCell 0 rfl rfl rfl ⟨Nat.le_of_ble_eq_true rfl, Nat.le_of_ble_eq_true rfl⟩ rfl (Nat.le_of_ble_eq_true rfl) ⟨Nat.zero_le _, Nat.zero_le _⟩ dX3_parseWay_93) [0, 1, 2, 3, 4, 5] rfl (by decide) (fun r11 u11 h => ?_)
            refine z_if_eq (pc := 96) (tgt := 108) C dX3_parseWay_96 (by decide) (fun c12 => ?_) (fun c12 => ?_)
            · have h := h.1 c12
              refine z_aload_n (pc := 108) C 2 dX3_parseWay_108 rfl ?_
              refine z_dup (pc := 109) C dX3_parseWay_109 rfl ?_
              refine z_get (pc := 110) C uw3 0 rfl rfl 2 (by decide) wq362 rfl dX3_parseWay_110 ?_
              refine z_iconst (pc := 113) (v := 1) C dX3_parseWay_113 (by decide) ?_
              refine z_iadd (pc := 114) C dX3_parseWay_114 ?_
              refine z_put (pc := 115) (ws' := (wX3 cI d (st (st v 0 2 ((v 0 2) + (1 : Int32))) 0 2 (((st v 0 2 ((v 0 2) + (1 : Int32))) 0 2) + (1 : Int32))))) C uw3 tyX3 tyX3_ok nmX3 0 rfl rfl 2 (by decide) wq362 rfl rfl rfl (Nat.le_of_ble_eq_true rfl) dX3_parseWay_115 sX3_f2 ?_
              refine z_aload_n (pc := 118) C 2 dX3_parseWay_118 rfl ?_
              refine z_get (pc := 119) C uw3 0 rfl rfl 7 (by decide) wq357 rfl dX3_parseWay_119 ?_
              refine z_iload_n (pc := 122) C 3 dX3_parseWay_122 rfl ?_
              refine z_bipush (pc := 123) (v := 8) C dX3_parseWay_123 (by decide) ?_
              refine z_imul (pc := 125) C dX3_parseWay_125 ?_
              refine z_iload_n (pc := 126) C 4 dX3_parseWay_126 rfl ?_
              refine z_iadd (pc := 127) C dX3_parseWay_127 ?_
              refine z_iload_n (pc := 128) C 1 dX3_parseWay_128 rfl ?_
              refine z_bipush (pc := 129) (v := 8) C dX3_parseWay_129 (by decide) ?_
              refine z_iload (pc := 131) C 0 dX3_parseWay_131 rfl ?_
              refine z_imul (pc := 133) C dX3_parseWay_133 ?_
              refine z_iadd (pc := 134) C dX3_parseWay_134 ?_
              obtain ⟨g13, h⟩ := h
              refine z_iast (pc := 135) (ws' := (wX3 cI d (st (st (st v 0 2 ((v 0 2) + (1 : Int32))) 0 2 (((st v 0 2 ((v 0 2) + (1 : Int32))) 0 2) + (1 : Int32))) 4 (((x1 * (8 : Int32)) + x2).toNatClampNeg) ((r3 - (97 : Int32)) + ((8 : Int32) * (r6 - (49 : Int32))))))) C 4 0 rfl rfl g13 dX3_parseWay_135 rfl sX3_a4 ?_
              refine z_aload_n (pc := 136) C 2 dX3_parseWay_136 rfl ?_
              refine z_get (pc := 137) C uw3 0 rfl rfl 6 (by decide) wq356 rfl dX3_parseWay_137 ?_
              refine z_iload_n (pc := 140) C 3 dX3_parseWay_140 rfl ?_
              refine z_iload_n (pc := 141) C 4 dX3_parseWay_141 rfl ?_
              refine z_iconst (pc := 142) (v := 1) C dX3_parseWay_142 (by decide) ?_
              refine z_iadd (pc := 143) C dX3_parseWay_143 ?_
              obtain ⟨g14, h⟩ := h
              refine z_iast (pc := 144) (ws' := (wX3 cI d (st (st (st (st v 0 2 ((v 0 2) + (1 : Int32))) 0 2 (((st v 0 2 ((v 0 2) + (1 : Int32))) 0 2) + (1 : Int32))) 4 (((x1 * (8 : Int32)) + x2).toNatClampNeg) ((r3 - (97 : Int32)) + ((8 : Int32) * (r6 - (49 : Int32))))) 3 x1.toNatClampNeg (x2 + (1 : Int32))))) C 3 0 rfl rfl g14 dX3_parseWay_144 rfl sX3_a3 ?_
              refine z_iinc (pc := 145) (v := (x2 + 1)) (lv' := [(2, .int (x2 + 1)), (4, .int (r6 - (49 : Int32))), (3, .int (r3 - (97 : Int32))), (0, .ref (d 0)), (1, .int x1)]) C 4 dX3_parseWay_145 rfl rfl (by decide) rfl ?_
              refine z_goto (pc := 148) (tgt := 9) C dX3_parseWay_148 (by decide) ?_
              refine z_sub (lv' := [(0, .ref (d 0)), (1, .int x1), (2, .int (x2 + 1))]) [3, 4, 0] rfl ?_
              exact ih9 (st (st (st (st v 0 2 ((v 0 2) + (1 : Int32))) 0 2 (((st v 0 2 ((v 0 2) + (1 : Int32))) 0 2) + (1 : Int32))) 4 (((x1 * (8 : Int32)) + x2).toNatClampNeg) ((r3 - (97 : Int32)) + ((8 : Int32) * (r6 - (49 : Int32))))) 3 x1.toNatClampNeg (x2 + (1 : Int32))) (x2 + 1) h
            · have h := h.2 c12
              refine z_sub (lv' := [(0, .ref (d 0))]) [2] rfl ?_
              exact J99  (st v 0 2 ((v 0 2) + (1 : Int32))) h
        · have h := h.2 c5
          refine z_iload_n (pc := 33) C 3 dX3_parseWay_33 rfl ?_
          refine z_if_gt (pc := 34) (tgt := 48) C dX3_parseWay_34 (by decide) (fun c15 => ?_) (fun c15 => ?_)
          · have h := h.1 c15
            refine z_sub (lv' := []) [] rfl ?_
            exact J48  v h
          · have h := h.2 c15
            refine z_aload_n (pc := 37) C 1 dX3_parseWay_37 rfl ?_
            refine z_aload_n (pc := 38) C 1 dX3_parseWay_38 rfl ?_
            refine z_get (pc := 39) C uw3 0 rfl rfl 2 (by decide) wq362 rfl dX3_parseWay_39 ?_
            refine z_calli (pc := 42) (wr := ([] : va_W)) (w1 := fun (u : Lf) => (wX3 cI d u)) (w2 := fun (u : Lf) => (wX3 cI d u)) C (z_runV (pc := 42) (wc := (wX3 cI d v)) (As := [.int (v 0 2)]) C (fun sz => kX3_failAt d v (v 0 2) sz h) [0, 1, 2, 3, 4, 5] rfl (by decide) (gdV wq364 wq374 wq375 wq376 wq372) rfl rfl rfl hdX3_failAt 0 rfl rfl rfl ⟨Nat.le_of_ble_eq_true rfl, Nat.le_of_ble_eq_true rfl⟩ rfl (Nat.le_of_ble_eq_true rfl) ⟨Nat.zero_le _, Nat.zero_le _⟩ dX3_parseWay_42) [0, 1, 2, 3, 4, 5] [] [0, 1, 2, 3, 4, 5] rfl rfl (by decide) (by decide) (fun _ => rfl) (by decide) (fun r16 u16 h => ?_)
            obtain ⟨v_16, hu16⟩ : ∃ z, z = u16 := ⟨_, rfl⟩
            subst hu16
            refine z_if_eq (pc := 45) (tgt := 52) C dX3_parseWay_45 (by decide) (fun c17 => ?_) (fun c17 => ?_)
            · have h := h.1 c17
              refine z_iconst (pc := 52) (v := 0) C dX3_parseWay_52 (by decide) ?_
              exact hret 53 _ _ (0 : Int32) rfl v_16 rfl h dX3_parseWay_53
            · have h := h.2 c17
              refine z_sub (lv' := []) [] rfl ?_
              exact J48  v_16 h
  refine z_aload_n (pc := 0) C 0 dX3_parseWay_0 rfl ?_
  refine z_get (pc := 1) C uw3 0 rfl rfl 6 (by decide) wq356 rfl dX3_parseWay_1 ?_
  refine z_iload_n (pc := 4) C 1 dX3_parseWay_4 rfl ?_
  refine z_iconst (pc := 5) (v := 0) C dX3_parseWay_5 (by decide) ?_
  obtain ⟨g1, h⟩ := h
  refine z_iast (pc := 6) (ws' := (wX3 cI d (st v 3 x1.toNatClampNeg (0 : Int32)))) C 3 0 rfl rfl g1 dX3_parseWay_6 rfl sX3_a3 ?_
  refine z_iconst (pc := 7) (v := 0) C dX3_parseWay_7 (by decide) ?_
  refine z_istore_n (pc := 8) (lv' := [(2, .int (0 : Int32)), (0, .ref (d 0)), (1, .int x1)]) C dX3_parseWay_8 (by decide) rfl ?_
  obtain ⟨n9, h⟩ := h
  refine z_sub (lv' := [(0, .ref (d 0)), (1, .int x1), (2, .int (0 : Int32))]) [1, 2, 0] rfl ?_
  exact L9  n9 (st v 3 x1.toNatClampNeg (0 : Int32)) (0 : Int32) h

def pX3_parseNumber_J133 (x1 : Int32) (x2 : Int32) (x3 : Int32) (x4 : Int32) (x5 : Int32) (Q : Int32 → Lf → Prop) (v : Lf) : Prop := (Q (1 : Int32) v)
def pX3_parseNumber_J100 (x1 : Int32) (x2 : Int32) (x3 : Int32) (x4 : Int32) (x5 : Int32) (Q : Int32 → Lf → Prop) (v : Lf) (x6 : Int32) : Prop := (vp_in x2 16 ∧ (pX9_within x6 x4 x5 (fun r8 => ((¬ r8 = 0 → (pX3_parseNumber_J133 x1 x2 x3 x4 x5 Q  (st v 5 x2.toNatClampNeg x6))) ∧ (r8 = 0 → (pX3_failAt (st v 5 x2.toNatClampNeg x6) (((st v 5 x2.toNatClampNeg x6) 0 2) - (1 : Int32)) (fun r10 v_10 => ((r10 = 0 → (Q (0 : Int32) v_10)) ∧ (¬ r10 = 0 → (pX3_parseNumber_J133 x1 x2 x3 x4 x5 Q  v_10))))))))))
def pX3_parseNumber_L49 (x1 : Int32) (x2 : Int32) (x3 : Int32) (x4 : Int32) (x5 : Int32) (Q : Int32 → Lf → Prop) : Nat → Lf → Int32 → Int32 → Prop
  | 0, _, _, _ => False
  | n49 + 1, v, x6, x7 => ((x3 ≤ x7 → (pX3_parseNumber_J100 x1 x2 x3 x4 x5 Q  v x6)) ∧ (¬ x3 ≤ x7 → (pX3_sign v (fun r12 => (pX9_within r12 (48 : Int32) (57 : Int32) (fun r13 => ((r13 = 0 → (pX3_parseNumber_J100 x1 x2 x3 x4 x5 Q  v x6)) ∧ (¬ r13 = 0 → (pX3_sign v (fun r15 => (pX3_parseNumber_L49 x1 x2 x3 x4 x5 Q n49 (st v 0 2 ((v 0 2) + (1 : Int32))) (((x6 * (10 : Int32)) + r15) - (48 : Int32)) (x7 + 1))))))))))))
def pX3_parseNumber (v : Lf) (x1 : Int32) (x2 : Int32) (x3 : Int32) (x4 : Int32) (x5 : Int32) (Q : Int32 → Lf → Prop) : Prop := (pX3_sign v (fun r1 => ((r1 = x1 → (pX3_sign (st v 0 2 ((v 0 2) + (1 : Int32))) (fun r3 => (pX9_within r3 (48 : Int32) (57 : Int32) (fun r4 => ((¬ r4 = 0 → (∃ n49, pX3_parseNumber_L49 x1 x2 x3 x4 x5 Q  n49 (st v 0 2 ((v 0 2) + (1 : Int32))) (0 : Int32) (0 : Int32))) ∧ (r4 = 0 → (pX3_failAt (st v 0 2 ((v 0 2) + (1 : Int32))) ((st v 0 2 ((v 0 2) + (1 : Int32))) 0 2) (fun r16 v_16 => (narrow .boolean (.int r16) = .int r16 ∧ (Q r16 v_16))))))))))) ∧ (¬ r1 = x1 → (Q (1 : Int32) v)))))
abbrev rmX3_parseNumber : Room := { frames := 1, cells := 0, slots := 0, locals := 22 }
abbrev wdX3_parseNumber : List Cond := Cond.code yX3_parseNumber cX3_parseNumber 8 (some .boolean) :: TB
theorem hdSX3_parseNumber : (yX3_parseNumber).cls ≠ "java/lang/invoke/MethodHandle" ∧ (yX3_parseNumber).cls ≠ "java/lang/invoke/VarHandle" ∧ (parseMethodDescriptor (yX3_parseNumber).desc).map (fun d => d.parameters.length) = some 5 := by decide +kernel
theorem hdX3_parseNumber : (yX3_parseNumber).cls = RX3 ∧ (yX3_parseNumber).cls ≠ "java/lang/invoke/MethodHandle" ∧ (yX3_parseNumber).cls ≠ "java/lang/invoke/VarHandle" ∧ (parseMethodDescriptor (yX3_parseNumber).desc).map (fun d => d.parameters.length) = some 5 := ⟨rfl, hdSX3_parseNumber⟩
set_option maxHeartbeats 4000000 in
set_option maxRecDepth 100000 in
theorem kX3_parseNumber {l : Launch} {D : va_G} {cI cJ cT : ClassId} (d : Nat → Nat)  (v : Lf) (x1 : Int32) (x2 : Int32) (x3 : Int32) (x4 : Int32) (x5 : Int32) {Q : Int32 → Lf → Prop} (sz : Nat) (h : pX3_parseNumber v x1 x2 x3 x4 x5 Q) : Met l yX3_parseNumber wdX3_parseNumber rmX3_parseNumber (Pz D (tyL cI cJ cT) [.ref (d 0), .int x1, .int x2, .int x3, .int x4, .int x5] (wX3 cI d v) sz) (va_Qi (fun (r : Int32) (u : Lf) => Q r u) (Bz D (tyL cI cJ cT) (wX3 cI d v) sz (fun (u : Lf) => (wX3 cI d u))) (va_A (wX3 cI d v) sz)) 0 0 (va_A (wX3 cI d v) sz) := by
  refine z_metz (cc := cX3_parseNumber) (maxL := 8) (own := RX3) (lv0 := [(0, .ref (d 0)), (1, .int x1), (2, .int x2), (3, .int x3), (4, .int x4), (5, .int x5)]) (by decide) rfl rfl (Nat.le_of_ble_eq_true rfl) rfl ?_
  intro p e s m args below meth c A QQ C hin hret
  have J133 : ∀ (v : Lf), pX3_parseNumber_J133 x1 x2 x3 x4 x5 Q v → ZZ p l e rmX3_parseNumber s m args below meth c D A 8 0 0 QQ 133 (wX3 cI d v) [] [] := by
    intro  v h
    refine z_iconst (pc := 133) (v := 1) C dX3_parseNumber_133 (by decide) ?_
    refine z_goto (pc := 134) (tgt := 138) C dX3_parseNumber_134 (by decide) ?_
    exact hret 138 _ _ (1 : Int32) rfl v rfl h dX3_parseNumber_138
  have J100 : ∀ (v : Lf) (x6 : Int32), pX3_parseNumber_J100 x1 x2 x3 x4 x5 Q v x6 → ZZ p l e rmX3_parseNumber s m args below meth c D A 8 0 0 QQ 100 (wX3 cI d v) [(0, .ref (d 0)), (2, .int x2), (4, .int x4), (5, .int x5), (6, .int x6)] [] := by
    intro  v x6 h
    refine z_aload_n (pc := 100) C 0 dX3_parseNumber_100 rfl ?_
    refine z_get (pc := 101) C uw3 0 rfl rfl 8 (by decide) wq358 rfl dX3_parseNumber_101 ?_
    refine z_iload_n (pc := 104) C 1 dX3_parseNumber_104 rfl ?_
    refine z_iload (pc := 105) C 4 dX3_parseNumber_105 rfl ?_
    obtain ⟨g7, h⟩ := h
    refine z_iast (pc := 107) (ws' := (wX3 cI d (st v 5 x2.toNatClampNeg x6))) C 5 0 rfl rfl g7 dX3_parseNumber_107 rfl sX3_a5 ?_
    refine z_iload (pc := 108) C 4 dX3_parseNumber_108 rfl ?_
    refine z_iload (pc := 110) C 2 dX3_parseNumber_110 rfl ?_
    refine z_iload (pc := 112) C 3 dX3_parseNumber_112 rfl ?_
    refine z_call0i (pc := 114) C (z_runSN (pc := 114) (wc := ([] : va_W)) (As := [.int x6, .int x4, .int x5]) (host := "SafeClears") C (fun sz => kX9_within x6 x4 x5 sz h) [] rfl (by decide) (gdC wq366) (by decide +kernel) rfl rfl rfl wq373 wq112 hdSX9_within ⟨Nat.le_of_ble_eq_true rfl, Nat.le_of_ble_eq_true rfl⟩ rfl (Nat.le_of_ble_eq_true rfl) ⟨Nat.zero_le _, Nat.zero_le _⟩ dX3_parseNumber_114) (fun r8 u8 h => ?_)
    refine z_if_ne (pc := 117) (tgt := 133) C dX3_parseNumber_117 (by decide) (fun c9 => ?_) (fun c9 => ?_)
    · have h := h.1 c9
      refine z_sub (lv' := []) [] rfl ?_
      exact J133  (st v 5 x2.toNatClampNeg x6) h
    · have h := h.2 c9
      refine z_aload_n (pc := 120) C 0 dX3_parseNumber_120 rfl ?_
      refine z_aload_n (pc := 121) C 0 dX3_parseNumber_121 rfl ?_
      refine z_get (pc := 122) C uw3 0 rfl rfl 2 (by decide) wq362 rfl dX3_parseNumber_122 ?_
      refine z_iconst (pc := 125) (v := 1) C dX3_parseNumber_125 (by decide) ?_
      refine z_isub (pc := 126) C dX3_parseNumber_126 ?_
      refine z_calli (pc := 127) (wr := ([] : va_W)) (w1 := fun (u : Lf) => (wX3 cI d u)) (w2 := fun (u : Lf) => (wX3 cI d u)) C (z_runV (pc := 127) (wc := (wX3 cI d (st v 5 x2.toNatClampNeg x6))) (As := [.int (((st v 5 x2.toNatClampNeg x6) 0 2) - (1 : Int32))]) C (fun sz => kX3_failAt d (st v 5 x2.toNatClampNeg x6) (((st v 5 x2.toNatClampNeg x6) 0 2) - (1 : Int32)) sz h) [0, 1, 2, 3, 4, 5] rfl (by decide) (gdV wq364 wq374 wq375 wq376 wq372) rfl rfl rfl hdX3_failAt 0 rfl rfl rfl ⟨Nat.le_of_ble_eq_true rfl, Nat.le_of_ble_eq_true rfl⟩ rfl (Nat.le_of_ble_eq_true rfl) ⟨Nat.zero_le _, Nat.zero_le _⟩ dX3_parseNumber_127) [0, 1, 2, 3, 4, 5] [] [0, 1, 2, 3, 4, 5] rfl rfl (by decide) (by decide) (fun _ => rfl) (by decide) (fun r10 u10 h => ?_)
      obtain ⟨v_10, hu10⟩ : ∃ z, z = u10 := ⟨_, rfl⟩
      subst hu10
      refine z_if_eq (pc := 130) (tgt := 137) C dX3_parseNumber_130 (by decide) (fun c11 => ?_) (fun c11 => ?_)
      · have h := h.1 c11
        refine z_iconst (pc := 137) (v := 0) C dX3_parseNumber_137 (by decide) ?_
        exact hret 138 _ _ (0 : Int32) rfl v_10 rfl h dX3_parseNumber_138
      · have h := h.2 c11
        refine z_sub (lv' := []) [] rfl ?_
        exact J133  v_10 h
  have L49 : ∀ (n49 : Nat) (v : Lf) (x6 : Int32) (x7 : Int32), pX3_parseNumber_L49 x1 x2 x3 x4 x5 Q n49 v x6 x7 → ZZ p l e rmX3_parseNumber s m args below meth c D A 8 0 0 QQ 49 (wX3 cI d v) [(0, .ref (d 0)), (2, .int x2), (3, .int x3), (4, .int x4), (5, .int x5), (6, .int x6), (7, .int x7)] [] := by
    intro n49
    induction n49 with
    | zero => intro v x6 x7 h; exact False.elim h
    | succ n49 ih49 =>
      intro v x6 x7 h
      refine z_iload (pc := 49) C 6 dX3_parseNumber_49 rfl ?_
      refine z_iload_n (pc := 51) C 2 dX3_parseNumber_51 rfl ?_
      refine z_icmp_ge (pc := 52) (tgt := 100) C dX3_parseNumber_52 (by decide) (fun c6 => ?_) (fun c6 => ?_)
      · have h := h.1 c6
        refine z_sub (lv' := [(0, .ref (d 0)), (2, .int x2), (4, .int x4), (5, .int x5), (6, .int x6)]) [0, 1, 3, 4, 5] rfl ?_
        exact J100  v x6 h
      · have h := h.2 c6
        refine z_aload_n (pc := 55) C 0 dX3_parseNumber_55 rfl ?_
        refine z_callRi (pc := 56) C (z_runV (pc := 56) (wc := (wX3 cI d v)) (As := []) C (fun sz => kX3_sign d v sz h) [0, 1, 2, 3, 4, 5] rfl (by decide) (gdV wq361 wq369 wq370 wq371 wq372) rfl rfl rfl hdX3_sign 0 rfl rfl rfl ⟨Nat.le_of_ble_eq_true rfl, Nat.le_of_ble_eq_true rfl⟩ rfl (Nat.le_of_ble_eq_true rfl) ⟨Nat.zero_le _, Nat.zero_le _⟩ dX3_parseNumber_56) [0, 1, 2, 3, 4, 5] rfl (by decide) (fun r12 u12 h => ?_)
        refine z_bipush (pc := 59) (v := 48) C dX3_parseNumber_59 (by decide) ?_
        refine z_bipush (pc := 61) (v := 57) C dX3_parseNumber_61 (by decide) ?_
        refine z_call0i (pc := 63) C (z_runSN (pc := 63) (wc := ([] : va_W)) (As := [.int r12, .int (48 : Int32), .int (57 : Int32)]) (host := "SafeClears") C (fun sz => kX9_within r12 (48 : Int32) (57 : Int32) sz h) [] rfl (by decide) (gdC wq366) (by decide +kernel) rfl rfl rfl wq373 wq112 hdSX9_within ⟨Nat.le_of_ble_eq_true rfl, Nat.le_of_ble_eq_true rfl⟩ rfl (Nat.le_of_ble_eq_true rfl) ⟨Nat.zero_le _, Nat.zero_le _⟩ dX3_parseNumber_63) (fun r13 u13 h => ?_)
        refine z_if_eq (pc := 66) (tgt := 100) C dX3_parseNumber_66 (by decide) (fun c14 => ?_) (fun c14 => ?_)
        · have h := h.1 c14
          refine z_sub (lv' := [(0, .ref (d 0)), (2, .int x2), (4, .int x4), (5, .int x5), (6, .int x6)]) [0, 1, 3, 4, 5] rfl ?_
          exact J100  v x6 h
        · have h := h.2 c14
          refine z_iload (pc := 69) C 5 dX3_parseNumber_69 rfl ?_
          refine z_bipush (pc := 71) (v := 10) C dX3_parseNumber_71 (by decide) ?_
          refine z_imul (pc := 73) C dX3_parseNumber_73 ?_
          refine z_aload_n (pc := 74) C 0 dX3_parseNumber_74 rfl ?_
          refine z_callRi (pc := 75) C (z_runV (pc := 75) (wc := (wX3 cI d v)) (As := []) C (fun sz => kX3_sign d v sz h) [0, 1, 2, 3, 4, 5] rfl (by decide) (gdV wq361 wq369 wq370 wq371 wq372) rfl rfl rfl hdX3_sign 0 rfl rfl rfl ⟨Nat.le_of_ble_eq_true rfl, Nat.le_of_ble_eq_true rfl⟩ rfl (Nat.le_of_ble_eq_true rfl) ⟨Nat.zero_le _, Nat.zero_le _⟩ dX3_parseNumber_75) [0, 1, 2, 3, 4, 5] rfl (by decide) (fun r15 u15 h => ?_)
          refine z_iadd (pc := 78) C dX3_parseNumber_78 ?_
          refine z_bipush (pc := 79) (v := 48) C dX3_parseNumber_79 (by decide) ?_
          refine z_isub (pc := 81) C dX3_parseNumber_81 ?_
          refine z_istore (pc := 82) (lv' := [(6, .int (((x6 * (10 : Int32)) + r15) - (48 : Int32))), (0, .ref (d 0)), (2, .int x2), (3, .int x3), (4, .int x4), (5, .int x5), (7, .int x7)]) C dX3_parseNumber_82 (by decide) rfl ?_
          refine z_aload_n (pc := 84) C 1 dX3_parseNumber_84 rfl ?_
          refine z_dup (pc := 85) C dX3_parseNumber_85 rfl ?_
          refine z_get (pc := 86) C uw3 0 rfl rfl 2 (by decide) wq362 rfl dX3_parseNumber_86 ?_
          refine z_iconst (pc := 89) (v := 1) C dX3_parseNumber_89 (by decide) ?_
          refine z_iadd (pc := 90) C dX3_parseNumber_90 ?_
          refine z_put (pc := 91) (ws' := (wX3 cI d (st v 0 2 ((v 0 2) + (1 : Int32))))) C uw3 tyX3 tyX3_ok nmX3 0 rfl rfl 2 (by decide) wq362 rfl rfl rfl (Nat.le_of_ble_eq_true rfl) dX3_parseNumber_91 sX3_f2 ?_
          refine z_iinc (pc := 94) (v := (x7 + 1)) (lv' := [(7, .int (x7 + 1)), (6, .int (((x6 * (10 : Int32)) + r15) - (48 : Int32))), (0, .ref (d 0)), (2, .int x2), (3, .int x3), (4, .int x4), (5, .int x5)]) C 6 dX3_parseNumber_94 rfl rfl (by decide) rfl ?_
          refine z_goto (pc := 97) (tgt := 49) C dX3_parseNumber_97 (by decide) ?_
          refine z_sub (lv' := [(0, .ref (d 0)), (2, .int x2), (3, .int x3), (4, .int x4), (5, .int x5), (6, .int (((x6 * (10 : Int32)) + r15) - (48 : Int32))), (7, .int (x7 + 1))]) [2, 3, 4, 5, 6, 1, 0] rfl ?_
          exact ih49 (st v 0 2 ((v 0 2) + (1 : Int32))) (((x6 * (10 : Int32)) + r15) - (48 : Int32)) (x7 + 1) h
  refine z_aload_n (pc := 0) C 0 dX3_parseNumber_0 rfl ?_
  refine z_callRi (pc := 1) C (z_runV (pc := 1) (wc := (wX3 cI d v)) (As := []) C (fun sz => kX3_sign d v sz h) [0, 1, 2, 3, 4, 5] rfl (by decide) (gdV wq361 wq369 wq370 wq371 wq372) rfl rfl rfl hdX3_sign 0 rfl rfl rfl ⟨Nat.le_of_ble_eq_true rfl, Nat.le_of_ble_eq_true rfl⟩ rfl (Nat.le_of_ble_eq_true rfl) ⟨Nat.zero_le _, Nat.zero_le _⟩ dX3_parseNumber_1) [0, 1, 2, 3, 4, 5] rfl (by decide) (fun r1 u1 h => ?_)
  refine z_iload_n (pc := 4) C 1 dX3_parseNumber_4 rfl ?_
  refine z_icmp_eq (pc := 5) (tgt := 10) C dX3_parseNumber_5 (by decide) (fun c2 => ?_) (fun c2 => ?_)
  · have h := h.1 c2
    refine z_aload_n (pc := 10) C 0 dX3_parseNumber_10 rfl ?_
    refine z_dup (pc := 11) C dX3_parseNumber_11 rfl ?_
    refine z_get (pc := 12) C uw3 0 rfl rfl 2 (by decide) wq362 rfl dX3_parseNumber_12 ?_
    refine z_iconst (pc := 15) (v := 1) C dX3_parseNumber_15 (by decide) ?_
    refine z_iadd (pc := 16) C dX3_parseNumber_16 ?_
    refine z_put (pc := 17) (ws' := (wX3 cI d (st v 0 2 ((v 0 2) + (1 : Int32))))) C uw3 tyX3 tyX3_ok nmX3 0 rfl rfl 2 (by decide) wq362 rfl rfl rfl (Nat.le_of_ble_eq_true rfl) dX3_parseNumber_17 sX3_f2 ?_
    refine z_aload_n (pc := 20) C 0 dX3_parseNumber_20 rfl ?_
    refine z_callRi (pc := 21) C (z_runV (pc := 21) (wc := (wX3 cI d (st v 0 2 ((v 0 2) + (1 : Int32))))) (As := []) C (fun sz => kX3_sign d (st v 0 2 ((v 0 2) + (1 : Int32))) sz h) [0, 1, 2, 3, 4, 5] rfl (by decide) (gdV wq361 wq369 wq370 wq371 wq372) rfl rfl rfl hdX3_sign 0 rfl rfl rfl ⟨Nat.le_of_ble_eq_true rfl, Nat.le_of_ble_eq_true rfl⟩ rfl (Nat.le_of_ble_eq_true rfl) ⟨Nat.zero_le _, Nat.zero_le _⟩ dX3_parseNumber_21) [0, 1, 2, 3, 4, 5] rfl (by decide) (fun r3 u3 h => ?_)
    refine z_bipush (pc := 24) (v := 48) C dX3_parseNumber_24 (by decide) ?_
    refine z_bipush (pc := 26) (v := 57) C dX3_parseNumber_26 (by decide) ?_
    refine z_call0i (pc := 28) C (z_runSN (pc := 28) (wc := ([] : va_W)) (As := [.int r3, .int (48 : Int32), .int (57 : Int32)]) (host := "SafeClears") C (fun sz => kX9_within r3 (48 : Int32) (57 : Int32) sz h) [] rfl (by decide) (gdC wq366) (by decide +kernel) rfl rfl rfl wq373 wq112 hdSX9_within ⟨Nat.le_of_ble_eq_true rfl, Nat.le_of_ble_eq_true rfl⟩ rfl (Nat.le_of_ble_eq_true rfl) ⟨Nat.zero_le _, Nat.zero_le _⟩ dX3_parseNumber_28) (fun r4 u4 h => ?_)
    refine z_if_ne (pc := 31) (tgt := 43) C dX3_parseNumber_31 (by decide) (fun c5 => ?_) (fun c5 => ?_)
    · have h := h.1 c5
      refine z_iconst (pc := 43) (v := 0) C dX3_parseNumber_43 (by decide) ?_
      refine z_istore (pc := 44) (lv' := [(6, .int (0 : Int32)), (0, .ref (d 0)), (1, .int x1), (2, .int x2), (3, .int x3), (4, .int x4), (5, .int x5)]) C dX3_parseNumber_44 (by decide) rfl ?_
      refine z_iconst (pc := 46) (v := 0) C dX3_parseNumber_46 (by decide) ?_
      refine z_istore (pc := 47) (lv' := [(7, .int (0 : Int32)), (6, .int (0 : Int32)), (0, .ref (d 0)), (1, .int x1), (2, .int x2), (3, .int x3), (4, .int x4), (5, .int x5)]) C dX3_parseNumber_47 (by decide) rfl ?_
      obtain ⟨n49, h⟩ := h
      refine z_sub (lv' := [(0, .ref (d 0)), (2, .int x2), (3, .int x3), (4, .int x4), (5, .int x5), (6, .int (0 : Int32)), (7, .int (0 : Int32))]) [2, 4, 5, 6, 7, 1, 0] rfl ?_
      exact L49  n49 (st v 0 2 ((v 0 2) + (1 : Int32))) (0 : Int32) (0 : Int32) h
    · have h := h.2 c5
      refine z_aload_n (pc := 34) C 0 dX3_parseNumber_34 rfl ?_
      refine z_aload_n (pc := 35) C 0 dX3_parseNumber_35 rfl ?_
      refine z_get (pc := 36) C uw3 0 rfl rfl 2 (by decide) wq362 rfl dX3_parseNumber_36 ?_
      refine z_calli (pc := 39) (wr := ([] : va_W)) (w1 := fun (u : Lf) => (wX3 cI d u)) (w2 := fun (u : Lf) => (wX3 cI d u)) C (z_runV (pc := 39) (wc := (wX3 cI d (st v 0 2 ((v 0 2) + (1 : Int32))))) (As := [.int ((st v 0 2 ((v 0 2) + (1 : Int32))) 0 2)]) C (fun sz => kX3_failAt d (st v 0 2 ((v 0 2) + (1 : Int32))) ((st v 0 2 ((v 0 2) + (1 : Int32))) 0 2) sz h) [0, 1, 2, 3, 4, 5] rfl (by decide) (gdV wq364 wq374 wq375 wq376 wq372) rfl rfl rfl hdX3_failAt 0 rfl rfl rfl ⟨Nat.le_of_ble_eq_true rfl, Nat.le_of_ble_eq_true rfl⟩ rfl (Nat.le_of_ble_eq_true rfl) ⟨Nat.zero_le _, Nat.zero_le _⟩ dX3_parseNumber_39) [0, 1, 2, 3, 4, 5] [] [0, 1, 2, 3, 4, 5] rfl rfl (by decide) (by decide) (fun _ => rfl) (by decide) (fun r16 u16 h => ?_)
      obtain ⟨v_16, hu16⟩ : ∃ z, z = u16 := ⟨_, rfl⟩
      subst hu16
      obtain ⟨g17, h⟩ := h
      exact hret 42 _ _ r16 g17 v_16 rfl h dX3_parseNumber_42
  · have h := h.2 c2
    refine z_iconst (pc := 8) (v := 1) C dX3_parseNumber_8 (by decide) ?_
    exact hret 9 _ _ (1 : Int32) rfl v rfl h dX3_parseNumber_9

def pX3_parseNumbers (v : Lf) (x1 : Int32) (Q : Int32 → Lf → Prop) : Prop := (vp_in ((x1 * (4 : Int32)) + (0 : Int32)) 16 ∧ (vp_in ((x1 * (4 : Int32)) + (1 : Int32)) 16 ∧ (vp_in ((x1 * (4 : Int32)) + (2 : Int32)) 16 ∧ (vp_in ((x1 * (4 : Int32)) + (3 : Int32)) 16 ∧ (pX3_parseNumber (st (st (st (st v 5 (((x1 * (4 : Int32)) + (0 : Int32)).toNatClampNeg) (5 : Int32)) 5 (((x1 * (4 : Int32)) + (1 : Int32)).toNatClampNeg) (40 : Int32)) 5 (((x1 * (4 : Int32)) + (2 : Int32)).toNatClampNeg) (3 : Int32)) 5 (((x1 * (4 : Int32)) + (3 : Int32)).toNatClampNeg) (0 : Int32)) (42 : Int32) ((x1 * (4 : Int32)) + (0 : Int32)) (2 : Int32) (1 : Int32) (20 : Int32) (fun r5 v_5 => ((r5 = 0 → (Q (0 : Int32) v_5)) ∧ (¬ r5 = 0 → (vp_in ((x1 * (4 : Int32)) + (0 : Int32)) 16 ∧ (pX3_parseNumber v_5 (47 : Int32) ((x1 * (4 : Int32)) + (1 : Int32)) (2 : Int32) (v_5 5 ((x1 * (4 : Int32)) + (0 : Int32)).toNatClampNeg) (99 : Int32) (fun r8 v_8 => ((r8 = 0 → (Q (0 : Int32) v_8)) ∧ (¬ r8 = 0 → (pX3_parseNumber v_8 (126 : Int32) ((x1 * (4 : Int32)) + (2 : Int32)) (1 : Int32) (1 : Int32) (9 : Int32) (fun r10 v_10 => ((r10 = 0 → (Q (0 : Int32) v_10)) ∧ (¬ r10 = 0 → (pX3_parseNumber v_10 (64 : Int32) ((x1 * (4 : Int32)) + (3 : Int32)) (2 : Int32) (0 : Int32) (60 : Int32) (fun r12 v_12 => ((r12 = 0 → (Q (0 : Int32) v_12)) ∧ (¬ r12 = 0 → (Q (1 : Int32) v_12))))))))))))))))))))))
abbrev rmX3_parseNumbers : Room := { frames := 2, cells := 0, slots := 0, locals := 49 }
abbrev wdX3_parseNumbers : List Cond := Cond.code yX3_parseNumbers cX3_parseNumbers 3 (some .boolean) :: TB
theorem hdSX3_parseNumbers : (yX3_parseNumbers).cls ≠ "java/lang/invoke/MethodHandle" ∧ (yX3_parseNumbers).cls ≠ "java/lang/invoke/VarHandle" ∧ (parseMethodDescriptor (yX3_parseNumbers).desc).map (fun d => d.parameters.length) = some 1 := by decide +kernel
theorem hdX3_parseNumbers : (yX3_parseNumbers).cls = RX3 ∧ (yX3_parseNumbers).cls ≠ "java/lang/invoke/MethodHandle" ∧ (yX3_parseNumbers).cls ≠ "java/lang/invoke/VarHandle" ∧ (parseMethodDescriptor (yX3_parseNumbers).desc).map (fun d => d.parameters.length) = some 1 := ⟨rfl, hdSX3_parseNumbers⟩
set_option maxHeartbeats 4000000 in
set_option maxRecDepth 100000 in
theorem kX3_parseNumbers {l : Launch} {D : va_G} {cI cJ cT : ClassId} (d : Nat → Nat)  (v : Lf) (x1 : Int32) {Q : Int32 → Lf → Prop} (sz : Nat) (h : pX3_parseNumbers v x1 Q) : Met l yX3_parseNumbers wdX3_parseNumbers rmX3_parseNumbers (Pz D (tyL cI cJ cT) [.ref (d 0), .int x1] (wX3 cI d v) sz) (va_Qi (fun (r : Int32) (u : Lf) => Q r u) (Bz D (tyL cI cJ cT) (wX3 cI d v) sz (fun (u : Lf) => (wX3 cI d u))) (va_A (wX3 cI d v) sz)) 0 0 (va_A (wX3 cI d v) sz) := by
  refine z_metz (cc := cX3_parseNumbers) (maxL := 3) (own := RX3) (lv0 := [(0, .ref (d 0)), (1, .int x1)]) (by decide) rfl rfl (Nat.le_of_ble_eq_true rfl) rfl ?_
  intro p e s m args below meth c A QQ C hin hret
  refine z_iload_n (pc := 0) C 1 dX3_parseNumbers_0 rfl ?_
  refine z_iconst (pc := 1) (v := 4) C dX3_parseNumbers_1 (by decide) ?_
  refine z_imul (pc := 2) C dX3_parseNumbers_2 ?_
  refine z_istore_n (pc := 3) (lv' := [(2, .int (x1 * (4 : Int32))), (0, .ref (d 0)), (1, .int x1)]) C dX3_parseNumbers_3 (by decide) rfl ?_
  refine z_aload_n (pc := 4) C 1 dX3_parseNumbers_4 rfl ?_
  refine z_get (pc := 5) C uw3 0 rfl rfl 8 (by decide) wq358 rfl dX3_parseNumbers_5 ?_
  refine z_iload_n (pc := 8) C 0 dX3_parseNumbers_8 rfl ?_
  refine z_iconst (pc := 9) (v := 0) C dX3_parseNumbers_9 (by decide) ?_
  refine z_iadd (pc := 10) C dX3_parseNumbers_10 ?_
  refine z_iconst (pc := 11) (v := 5) C dX3_parseNumbers_11 (by decide) ?_
  obtain ⟨g1, h⟩ := h
  refine z_iast (pc := 12) (ws' := (wX3 cI d (st v 5 (((x1 * (4 : Int32)) + (0 : Int32)).toNatClampNeg) (5 : Int32)))) C 5 0 rfl rfl g1 dX3_parseNumbers_12 rfl sX3_a5 ?_
  refine z_aload_n (pc := 13) C 1 dX3_parseNumbers_13 rfl ?_
  refine z_get (pc := 14) C uw3 0 rfl rfl 8 (by decide) wq358 rfl dX3_parseNumbers_14 ?_
  refine z_iload_n (pc := 17) C 0 dX3_parseNumbers_17 rfl ?_
  refine z_iconst (pc := 18) (v := 1) C dX3_parseNumbers_18 (by decide) ?_
  refine z_iadd (pc := 19) C dX3_parseNumbers_19 ?_
  refine z_bipush (pc := 20) (v := 40) C dX3_parseNumbers_20 (by decide) ?_
  obtain ⟨g2, h⟩ := h
  refine z_iast (pc := 22) (ws' := (wX3 cI d (st (st v 5 (((x1 * (4 : Int32)) + (0 : Int32)).toNatClampNeg) (5 : Int32)) 5 (((x1 * (4 : Int32)) + (1 : Int32)).toNatClampNeg) (40 : Int32)))) C 5 0 rfl rfl g2 dX3_parseNumbers_22 rfl sX3_a5 ?_
  refine z_aload_n (pc := 23) C 1 dX3_parseNumbers_23 rfl ?_
  refine z_get (pc := 24) C uw3 0 rfl rfl 8 (by decide) wq358 rfl dX3_parseNumbers_24 ?_
  refine z_iload_n (pc := 27) C 0 dX3_parseNumbers_27 rfl ?_
  refine z_iconst (pc := 28) (v := 2) C dX3_parseNumbers_28 (by decide) ?_
  refine z_iadd (pc := 29) C dX3_parseNumbers_29 ?_
  refine z_iconst (pc := 30) (v := 3) C dX3_parseNumbers_30 (by decide) ?_
  obtain ⟨g3, h⟩ := h
  refine z_iast (pc := 31) (ws' := (wX3 cI d (st (st (st v 5 (((x1 * (4 : Int32)) + (0 : Int32)).toNatClampNeg) (5 : Int32)) 5 (((x1 * (4 : Int32)) + (1 : Int32)).toNatClampNeg) (40 : Int32)) 5 (((x1 * (4 : Int32)) + (2 : Int32)).toNatClampNeg) (3 : Int32)))) C 5 0 rfl rfl g3 dX3_parseNumbers_31 rfl sX3_a5 ?_
  refine z_aload_n (pc := 32) C 1 dX3_parseNumbers_32 rfl ?_
  refine z_get (pc := 33) C uw3 0 rfl rfl 8 (by decide) wq358 rfl dX3_parseNumbers_33 ?_
  refine z_iload_n (pc := 36) C 0 dX3_parseNumbers_36 rfl ?_
  refine z_iconst (pc := 37) (v := 3) C dX3_parseNumbers_37 (by decide) ?_
  refine z_iadd (pc := 38) C dX3_parseNumbers_38 ?_
  refine z_iconst (pc := 39) (v := 0) C dX3_parseNumbers_39 (by decide) ?_
  obtain ⟨g4, h⟩ := h
  refine z_iast (pc := 40) (ws' := (wX3 cI d (st (st (st (st v 5 (((x1 * (4 : Int32)) + (0 : Int32)).toNatClampNeg) (5 : Int32)) 5 (((x1 * (4 : Int32)) + (1 : Int32)).toNatClampNeg) (40 : Int32)) 5 (((x1 * (4 : Int32)) + (2 : Int32)).toNatClampNeg) (3 : Int32)) 5 (((x1 * (4 : Int32)) + (3 : Int32)).toNatClampNeg) (0 : Int32)))) C 5 0 rfl rfl g4 dX3_parseNumbers_40 rfl sX3_a5 ?_
  refine z_aload_n (pc := 41) C 1 dX3_parseNumbers_41 rfl ?_
  refine z_bipush (pc := 42) (v := 42) C dX3_parseNumbers_42 (by decide) ?_
  refine z_iload_n (pc := 44) C 0 dX3_parseNumbers_44 rfl ?_
  refine z_iconst (pc := 45) (v := 0) C dX3_parseNumbers_45 (by decide) ?_
  refine z_iadd (pc := 46) C dX3_parseNumbers_46 ?_
  refine z_iconst (pc := 47) (v := 2) C dX3_parseNumbers_47 (by decide) ?_
  refine z_iconst (pc := 48) (v := 1) C dX3_parseNumbers_48 (by decide) ?_
  refine z_bipush (pc := 49) (v := 20) C dX3_parseNumbers_49 (by decide) ?_
  refine z_calli (pc := 51) (wr := ([] : va_W)) (w1 := fun (u : Lf) => (wX3 cI d u)) (w2 := fun (u : Lf) => (wX3 cI d u)) C (z_runV (pc := 51) (wc := (wX3 cI d (st (st (st (st v 5 (((x1 * (4 : Int32)) + (0 : Int32)).toNatClampNeg) (5 : Int32)) 5 (((x1 * (4 : Int32)) + (1 : Int32)).toNatClampNeg) (40 : Int32)) 5 (((x1 * (4 : Int32)) + (2 : Int32)).toNatClampNeg) (3 : Int32)) 5 (((x1 * (4 : Int32)) + (3 : Int32)).toNatClampNeg) (0 : Int32)))) (As := [.int (42 : Int32), .int ((x1 * (4 : Int32)) + (0 : Int32)), .int (2 : Int32), .int (1 : Int32), .int (20 : Int32)]) C (fun sz => kX3_parseNumber d (st (st (st (st v 5 (((x1 * (4 : Int32)) + (0 : Int32)).toNatClampNeg) (5 : Int32)) 5 (((x1 * (4 : Int32)) + (1 : Int32)).toNatClampNeg) (40 : Int32)) 5 (((x1 * (4 : Int32)) + (2 : Int32)).toNatClampNeg) (3 : Int32)) 5 (((x1 * (4 : Int32)) + (3 : Int32)).toNatClampNeg) (0 : Int32)) (42 : Int32) ((x1 * (4 : Int32)) + (0 : Int32)) (2 : Int32) (1 : Int32) (20 : Int32) sz h) [0, 1, 2, 3, 4, 5] rfl (by decide) (gdV wq380 wq382 wq383 wq384 wq372) rfl rfl rfl hdX3_parseNumber 0 rfl rfl rfl ⟨Nat.le_of_ble_eq_true rfl, Nat.le_of_ble_eq_true rfl⟩ rfl (Nat.le_of_ble_eq_true rfl) ⟨Nat.zero_le _, Nat.zero_le _⟩ dX3_parseNumbers_51) [0, 1, 2, 3, 4, 5] [] [0, 1, 2, 3, 4, 5] rfl rfl (by decide) (by decide) (fun _ => rfl) (by decide) (fun r5 u5 h => ?_)
  obtain ⟨v_5, hu5⟩ : ∃ z, z = u5 := ⟨_, rfl⟩
  subst hu5
  refine z_if_eq (pc := 54) (tgt := 116) C dX3_parseNumbers_54 (by decide) (fun c6 => ?_) (fun c6 => ?_)
  · have h := h.1 c6
    refine z_iconst (pc := 116) (v := 0) C dX3_parseNumbers_116 (by decide) ?_
    exact hret 117 _ _ (0 : Int32) rfl v_5 rfl h dX3_parseNumbers_117
  · have h := h.2 c6
    refine z_aload_n (pc := 57) C 1 dX3_parseNumbers_57 rfl ?_
    refine z_bipush (pc := 58) (v := 47) C dX3_parseNumbers_58 (by decide) ?_
    refine z_iload_n (pc := 60) C 0 dX3_parseNumbers_60 rfl ?_
    refine z_iconst (pc := 61) (v := 1) C dX3_parseNumbers_61 (by decide) ?_
    refine z_iadd (pc := 62) C dX3_parseNumbers_62 ?_
    refine z_iconst (pc := 63) (v := 2) C dX3_parseNumbers_63 (by decide) ?_
    refine z_aload_n (pc := 64) C 1 dX3_parseNumbers_64 rfl ?_
    refine z_get (pc := 65) C uw3 0 rfl rfl 8 (by decide) wq358 rfl dX3_parseNumbers_65 ?_
    refine z_iload_n (pc := 68) C 0 dX3_parseNumbers_68 rfl ?_
    refine z_iconst (pc := 69) (v := 0) C dX3_parseNumbers_69 (by decide) ?_
    refine z_iadd (pc := 70) C dX3_parseNumbers_70 ?_
    obtain ⟨g7, h⟩ := h
    refine z_iald (pc := 71) C 5 0 rfl rfl g7 (v_5 5 ((x1 * (4 : Int32)) + (0 : Int32)).toNatClampNeg) rfl dX3_parseNumbers_71 ?_
    refine z_bipush (pc := 72) (v := 99) C dX3_parseNumbers_72 (by decide) ?_
    refine z_calli (pc := 74) (wr := ([] : va_W)) (w1 := fun (u : Lf) => (wX3 cI d u)) (w2 := fun (u : Lf) => (wX3 cI d u)) C (z_runV (pc := 74) (wc := (wX3 cI d v_5)) (As := [.int (47 : Int32), .int ((x1 * (4 : Int32)) + (1 : Int32)), .int (2 : Int32), .int (v_5 5 ((x1 * (4 : Int32)) + (0 : Int32)).toNatClampNeg), .int (99 : Int32)]) C (fun sz => kX3_parseNumber d v_5 (47 : Int32) ((x1 * (4 : Int32)) + (1 : Int32)) (2 : Int32) (v_5 5 ((x1 * (4 : Int32)) + (0 : Int32)).toNatClampNeg) (99 : Int32) sz h) [0, 1, 2, 3, 4, 5] rfl (by decide) (gdV wq380 wq382 wq383 wq384 wq372) rfl rfl rfl hdX3_parseNumber 0 rfl rfl rfl ⟨Nat.le_of_ble_eq_true rfl, Nat.le_of_ble_eq_true rfl⟩ rfl (Nat.le_of_ble_eq_true rfl) ⟨Nat.zero_le _, Nat.zero_le _⟩ dX3_parseNumbers_74) [0, 1, 2, 3, 4, 5] [] [0, 1, 2, 3, 4, 5] rfl rfl (by decide) (by decide) (fun _ => rfl) (by decide) (fun r8 u8 h => ?_)
    obtain ⟨v_8, hu8⟩ : ∃ z, z = u8 := ⟨_, rfl⟩
    subst hu8
    refine z_if_eq (pc := 77) (tgt := 116) C dX3_parseNumbers_77 (by decide) (fun c9 => ?_) (fun c9 => ?_)
    · have h := h.1 c9
      refine z_iconst (pc := 116) (v := 0) C dX3_parseNumbers_116 (by decide) ?_
      exact hret 117 _ _ (0 : Int32) rfl v_8 rfl h dX3_parseNumbers_117
    · have h := h.2 c9
      refine z_aload_n (pc := 80) C 1 dX3_parseNumbers_80 rfl ?_
      refine z_bipush (pc := 81) (v := 126) C dX3_parseNumbers_81 (by decide) ?_
      refine z_iload_n (pc := 83) C 0 dX3_parseNumbers_83 rfl ?_
      refine z_iconst (pc := 84) (v := 2) C dX3_parseNumbers_84 (by decide) ?_
      refine z_iadd (pc := 85) C dX3_parseNumbers_85 ?_
      refine z_iconst (pc := 86) (v := 1) C dX3_parseNumbers_86 (by decide) ?_
      refine z_iconst (pc := 87) (v := 1) C dX3_parseNumbers_87 (by decide) ?_
      refine z_bipush (pc := 88) (v := 9) C dX3_parseNumbers_88 (by decide) ?_
      refine z_calli (pc := 90) (wr := ([] : va_W)) (w1 := fun (u : Lf) => (wX3 cI d u)) (w2 := fun (u : Lf) => (wX3 cI d u)) C (z_runV (pc := 90) (wc := (wX3 cI d v_8)) (As := [.int (126 : Int32), .int ((x1 * (4 : Int32)) + (2 : Int32)), .int (1 : Int32), .int (1 : Int32), .int (9 : Int32)]) C (fun sz => kX3_parseNumber d v_8 (126 : Int32) ((x1 * (4 : Int32)) + (2 : Int32)) (1 : Int32) (1 : Int32) (9 : Int32) sz h) [0, 1, 2, 3, 4, 5] rfl (by decide) (gdV wq380 wq382 wq383 wq384 wq372) rfl rfl rfl hdX3_parseNumber 0 rfl rfl rfl ⟨Nat.le_of_ble_eq_true rfl, Nat.le_of_ble_eq_true rfl⟩ rfl (Nat.le_of_ble_eq_true rfl) ⟨Nat.zero_le _, Nat.zero_le _⟩ dX3_parseNumbers_90) [0, 1, 2, 3, 4, 5] [] [0, 1, 2, 3, 4, 5] rfl rfl (by decide) (by decide) (fun _ => rfl) (by decide) (fun r10 u10 h => ?_)
      obtain ⟨v_10, hu10⟩ : ∃ z, z = u10 := ⟨_, rfl⟩
      subst hu10
      refine z_if_eq (pc := 93) (tgt := 116) C dX3_parseNumbers_93 (by decide) (fun c11 => ?_) (fun c11 => ?_)
      · have h := h.1 c11
        refine z_iconst (pc := 116) (v := 0) C dX3_parseNumbers_116 (by decide) ?_
        exact hret 117 _ _ (0 : Int32) rfl v_10 rfl h dX3_parseNumbers_117
      · have h := h.2 c11
        refine z_aload_n (pc := 96) C 1 dX3_parseNumbers_96 rfl ?_
        refine z_bipush (pc := 97) (v := 64) C dX3_parseNumbers_97 (by decide) ?_
        refine z_iload_n (pc := 99) C 0 dX3_parseNumbers_99 rfl ?_
        refine z_iconst (pc := 100) (v := 3) C dX3_parseNumbers_100 (by decide) ?_
        refine z_iadd (pc := 101) C dX3_parseNumbers_101 ?_
        refine z_iconst (pc := 102) (v := 2) C dX3_parseNumbers_102 (by decide) ?_
        refine z_iconst (pc := 103) (v := 0) C dX3_parseNumbers_103 (by decide) ?_
        refine z_bipush (pc := 104) (v := 60) C dX3_parseNumbers_104 (by decide) ?_
        refine z_calli (pc := 106) (wr := ([] : va_W)) (w1 := fun (u : Lf) => (wX3 cI d u)) (w2 := fun (u : Lf) => (wX3 cI d u)) C (z_runV (pc := 106) (wc := (wX3 cI d v_10)) (As := [.int (64 : Int32), .int ((x1 * (4 : Int32)) + (3 : Int32)), .int (2 : Int32), .int (0 : Int32), .int (60 : Int32)]) C (fun sz => kX3_parseNumber d v_10 (64 : Int32) ((x1 * (4 : Int32)) + (3 : Int32)) (2 : Int32) (0 : Int32) (60 : Int32) sz h) [0, 1, 2, 3, 4, 5] rfl (by decide) (gdV wq380 wq382 wq383 wq384 wq372) rfl rfl rfl hdX3_parseNumber 0 rfl rfl rfl ⟨Nat.le_of_ble_eq_true rfl, Nat.le_of_ble_eq_true rfl⟩ rfl (Nat.le_of_ble_eq_true rfl) ⟨Nat.zero_le _, Nat.zero_le _⟩ dX3_parseNumbers_106) [0, 1, 2, 3, 4, 5] [] [0, 1, 2, 3, 4, 5] rfl rfl (by decide) (by decide) (fun _ => rfl) (by decide) (fun r12 u12 h => ?_)
        obtain ⟨v_12, hu12⟩ : ∃ z, z = u12 := ⟨_, rfl⟩
        subst hu12
        refine z_if_eq (pc := 109) (tgt := 116) C dX3_parseNumbers_109 (by decide) (fun c13 => ?_) (fun c13 => ?_)
        · have h := h.1 c13
          refine z_iconst (pc := 116) (v := 0) C dX3_parseNumbers_116 (by decide) ?_
          exact hret 117 _ _ (0 : Int32) rfl v_12 rfl h dX3_parseNumbers_117
        · have h := h.2 c13
          refine z_iconst (pc := 112) (v := 1) C dX3_parseNumbers_112 (by decide) ?_
          refine z_goto (pc := 113) (tgt := 117) C dX3_parseNumbers_113 (by decide) ?_
          exact hret 117 _ _ (1 : Int32) rfl v_12 rfl h dX3_parseNumbers_117

def pX3_parseClause (v : Lf) (x1 : Int32) (Q : Int32 → Lf → Prop) : Prop := (pX3_sign v (fun r1 => (pX3_kindOf r1 (fun r2 => ((¬ r2 = (-5 : Int32) → (vp_in x1 4 ∧ (pX3_parseWay (st (st v 2 x1.toNatClampNeg r2) 0 2 (((st v 2 x1.toNatClampNeg r2) 0 2) + (1 : Int32))) x1 (fun r5 v_5 => ((r5 = 0 → (Q (0 : Int32) v_5)) ∧ (¬ r5 = 0 → (pX3_parseNumbers v_5 x1 (fun r7 v_7 => ((r7 = 0 → (Q (0 : Int32) v_7)) ∧ (¬ r7 = 0 → (Q (1 : Int32) v_7))))))))))) ∧ (r2 = (-5 : Int32) → (pX3_failAt v (v 0 2) (fun r9 v_9 => (narrow .boolean (.int r9) = .int r9 ∧ (Q r9 v_9))))))))))
abbrev rmX3_parseClause : Room := { frames := 3, cells := 0, slots := 0, locals := 71 }
abbrev wdX3_parseClause : List Cond := Cond.code yX3_parseClause cX3_parseClause 3 (some .boolean) :: TB
theorem hdSX3_parseClause : (yX3_parseClause).cls ≠ "java/lang/invoke/MethodHandle" ∧ (yX3_parseClause).cls ≠ "java/lang/invoke/VarHandle" ∧ (parseMethodDescriptor (yX3_parseClause).desc).map (fun d => d.parameters.length) = some 1 := by decide +kernel
theorem hdX3_parseClause : (yX3_parseClause).cls = RX3 ∧ (yX3_parseClause).cls ≠ "java/lang/invoke/MethodHandle" ∧ (yX3_parseClause).cls ≠ "java/lang/invoke/VarHandle" ∧ (parseMethodDescriptor (yX3_parseClause).desc).map (fun d => d.parameters.length) = some 1 := ⟨rfl, hdSX3_parseClause⟩
set_option maxHeartbeats 4000000 in
set_option maxRecDepth 100000 in
theorem kX3_parseClause {l : Launch} {D : va_G} {cI cJ cT : ClassId} (d : Nat → Nat)  (v : Lf) (x1 : Int32) {Q : Int32 → Lf → Prop} (sz : Nat) (h : pX3_parseClause v x1 Q) : Met l yX3_parseClause wdX3_parseClause rmX3_parseClause (Pz D (tyL cI cJ cT) [.ref (d 0), .int x1] (wX3 cI d v) sz) (va_Qi (fun (r : Int32) (u : Lf) => Q r u) (Bz D (tyL cI cJ cT) (wX3 cI d v) sz (fun (u : Lf) => (wX3 cI d u))) (va_A (wX3 cI d v) sz)) 0 0 (va_A (wX3 cI d v) sz) := by
  refine z_metz (cc := cX3_parseClause) (maxL := 3) (own := RX3) (lv0 := [(0, .ref (d 0)), (1, .int x1)]) (by decide) rfl rfl (Nat.le_of_ble_eq_true rfl) rfl ?_
  intro p e s m args below meth c A QQ C hin hret
  refine z_aload_n (pc := 0) C 0 dX3_parseClause_0 rfl ?_
  refine z_callRi (pc := 1) C (z_runV (pc := 1) (wc := (wX3 cI d v)) (As := []) C (fun sz => kX3_sign d v sz h) [0, 1, 2, 3, 4, 5] rfl (by decide) (gdV wq361 wq369 wq370 wq371 wq372) rfl rfl rfl hdX3_sign 0 rfl rfl rfl ⟨Nat.le_of_ble_eq_true rfl, Nat.le_of_ble_eq_true rfl⟩ rfl (Nat.le_of_ble_eq_true rfl) ⟨Nat.zero_le _, Nat.zero_le _⟩ dX3_parseClause_1) [0, 1, 2, 3, 4, 5] rfl (by decide) (fun r1 u1 h => ?_)
  refine z_call0i (pc := 4) C (z_runS (pc := 4) (wc := ([] : va_W)) (As := [.int r1]) C (fun sz => kX3_kindOf r1 sz h) [] rfl (by decide) (gdS wq363 wq385 wq386 wq372) rfl rfl rfl hdSX3_kindOf ⟨Nat.le_of_ble_eq_true rfl, Nat.le_of_ble_eq_true rfl⟩ rfl (Nat.le_of_ble_eq_true rfl) ⟨Nat.zero_le _, Nat.zero_le _⟩ dX3_parseClause_4) (fun r2 u2 h => ?_)
  refine z_istore_n (pc := 7) (lv' := [(2, .int r2), (0, .ref (d 0)), (1, .int x1)]) C dX3_parseClause_7 (by decide) rfl ?_
  refine z_iload_n (pc := 8) C 0 dX3_parseClause_8 rfl ?_
  refine z_bipush (pc := 9) (v := -5) C dX3_parseClause_9 (by decide) ?_
  refine z_icmp_ne (pc := 11) (tgt := 23) C dX3_parseClause_11 (by decide) (fun c3 => ?_) (fun c3 => ?_)
  · have h := h.1 c3
    refine z_aload_n (pc := 23) C 1 dX3_parseClause_23 rfl ?_
    refine z_get (pc := 24) C uw3 0 rfl rfl 5 (by decide) wq355 rfl dX3_parseClause_24 ?_
    refine z_iload_n (pc := 27) C 2 dX3_parseClause_27 rfl ?_
    refine z_iload_n (pc := 28) C 0 dX3_parseClause_28 rfl ?_
    obtain ⟨g4, h⟩ := h
    refine z_iast (pc := 29) (ws' := (wX3 cI d (st v 2 x1.toNatClampNeg r2))) C 2 0 rfl rfl g4 dX3_parseClause_29 rfl sX3_a2 ?_
    refine z_aload_n (pc := 30) C 1 dX3_parseClause_30 rfl ?_
    refine z_dup (pc := 31) C dX3_parseClause_31 rfl ?_
    refine z_get (pc := 32) C uw3 0 rfl rfl 2 (by decide) wq362 rfl dX3_parseClause_32 ?_
    refine z_iconst (pc := 35) (v := 1) C dX3_parseClause_35 (by decide) ?_
    refine z_iadd (pc := 36) C dX3_parseClause_36 ?_
    refine z_put (pc := 37) (ws' := (wX3 cI d (st (st v 2 x1.toNatClampNeg r2) 0 2 (((st v 2 x1.toNatClampNeg r2) 0 2) + (1 : Int32))))) C uw3 tyX3 tyX3_ok nmX3 0 rfl rfl 2 (by decide) wq362 rfl rfl rfl (Nat.le_of_ble_eq_true rfl) dX3_parseClause_37 sX3_f2 ?_
    refine z_aload_n (pc := 40) C 1 dX3_parseClause_40 rfl ?_
    refine z_iload_n (pc := 41) C 2 dX3_parseClause_41 rfl ?_
    refine z_calli (pc := 42) (wr := ([] : va_W)) (w1 := fun (u : Lf) => (wX3 cI d u)) (w2 := fun (u : Lf) => (wX3 cI d u)) C (z_runV (pc := 42) (wc := (wX3 cI d (st (st v 2 x1.toNatClampNeg r2) 0 2 (((st v 2 x1.toNatClampNeg r2) 0 2) + (1 : Int32))))) (As := [.int x1]) C (fun sz => kX3_parseWay d (st (st v 2 x1.toNatClampNeg r2) 0 2 (((st v 2 x1.toNatClampNeg r2) 0 2) + (1 : Int32))) x1 sz h) [0, 1, 2, 3, 4, 5] rfl (by decide) (gdV wq368 wq387 wq388 wq389 wq372) rfl rfl rfl hdX3_parseWay 0 rfl rfl rfl ⟨Nat.le_of_ble_eq_true rfl, Nat.le_of_ble_eq_true rfl⟩ rfl (Nat.le_of_ble_eq_true rfl) ⟨Nat.zero_le _, Nat.zero_le _⟩ dX3_parseClause_42) [0, 1, 2, 3, 4, 5] [] [0, 1, 2, 3, 4, 5] rfl rfl (by decide) (by decide) (fun _ => rfl) (by decide) (fun r5 u5 h => ?_)
    obtain ⟨v_5, hu5⟩ : ∃ z, z = u5 := ⟨_, rfl⟩
    subst hu5
    refine z_if_eq (pc := 45) (tgt := 60) C dX3_parseClause_45 (by decide) (fun c6 => ?_) (fun c6 => ?_)
    · have h := h.1 c6
      refine z_iconst (pc := 60) (v := 0) C dX3_parseClause_60 (by decide) ?_
      exact hret 61 _ _ (0 : Int32) rfl v_5 rfl h dX3_parseClause_61
    · have h := h.2 c6
      refine z_aload_n (pc := 48) C 1 dX3_parseClause_48 rfl ?_
      refine z_iload_n (pc := 49) C 2 dX3_parseClause_49 rfl ?_
      refine z_calli (pc := 50) (wr := ([] : va_W)) (w1 := fun (u : Lf) => (wX3 cI d u)) (w2 := fun (u : Lf) => (wX3 cI d u)) C (z_runV (pc := 50) (wc := (wX3 cI d v_5)) (As := [.int x1]) C (fun sz => kX3_parseNumbers d v_5 x1 sz h) [0, 1, 2, 3, 4, 5] rfl (by decide) (gdV wq381 wq390 wq391 wq392 wq372) rfl rfl rfl hdX3_parseNumbers 0 rfl rfl rfl ⟨Nat.le_of_ble_eq_true rfl, Nat.le_of_ble_eq_true rfl⟩ rfl (Nat.le_of_ble_eq_true rfl) ⟨Nat.zero_le _, Nat.zero_le _⟩ dX3_parseClause_50) [0, 1, 2, 3, 4, 5] [] [0, 1, 2, 3, 4, 5] rfl rfl (by decide) (by decide) (fun _ => rfl) (by decide) (fun r7 u7 h => ?_)
      obtain ⟨v_7, hu7⟩ : ∃ z, z = u7 := ⟨_, rfl⟩
      subst hu7
      refine z_if_eq (pc := 53) (tgt := 60) C dX3_parseClause_53 (by decide) (fun c8 => ?_) (fun c8 => ?_)
      · have h := h.1 c8
        refine z_iconst (pc := 60) (v := 0) C dX3_parseClause_60 (by decide) ?_
        exact hret 61 _ _ (0 : Int32) rfl v_7 rfl h dX3_parseClause_61
      · have h := h.2 c8
        refine z_iconst (pc := 56) (v := 1) C dX3_parseClause_56 (by decide) ?_
        refine z_goto (pc := 57) (tgt := 61) C dX3_parseClause_57 (by decide) ?_
        exact hret 61 _ _ (1 : Int32) rfl v_7 rfl h dX3_parseClause_61
  · have h := h.2 c3
    refine z_aload_n (pc := 14) C 1 dX3_parseClause_14 rfl ?_
    refine z_aload_n (pc := 15) C 1 dX3_parseClause_15 rfl ?_
    refine z_get (pc := 16) C uw3 0 rfl rfl 2 (by decide) wq362 rfl dX3_parseClause_16 ?_
    refine z_calli (pc := 19) (wr := ([] : va_W)) (w1 := fun (u : Lf) => (wX3 cI d u)) (w2 := fun (u : Lf) => (wX3 cI d u)) C (z_runV (pc := 19) (wc := (wX3 cI d v)) (As := [.int (v 0 2)]) C (fun sz => kX3_failAt d v (v 0 2) sz h) [0, 1, 2, 3, 4, 5] rfl (by decide) (gdV wq364 wq374 wq375 wq376 wq372) rfl rfl rfl hdX3_failAt 0 rfl rfl rfl ⟨Nat.le_of_ble_eq_true rfl, Nat.le_of_ble_eq_true rfl⟩ rfl (Nat.le_of_ble_eq_true rfl) ⟨Nat.zero_le _, Nat.zero_le _⟩ dX3_parseClause_19) [0, 1, 2, 3, 4, 5] [] [0, 1, 2, 3, 4, 5] rfl rfl (by decide) (by decide) (fun _ => rfl) (by decide) (fun r9 u9 h => ?_)
    obtain ⟨v_9, hu9⟩ : ∃ z, z = u9 := ⟨_, rfl⟩
    subst hu9
    obtain ⟨g10, h⟩ := h
    exact hret 22 _ _ r9 g10 v_9 rfl h dX3_parseClause_22

def pX3_parse_J67 (Q : Int32 → Lf → Prop) (v : Lf) : Prop := (pX3_failAt v (v 0 2) (fun r8 v_8 => (narrow .boolean (.int r8) = .int r8 ∧ (Q r8 v_8))))
def pX3_parse_L12 (Q : Int32 → Lf → Prop) : Nat → Lf → Int32 → Prop
  | 0, _, _ => False
  | n12 + 1, v, x1 => (((4 : Int32) ≤ x1 → (pX3_failAt v (v 0 2) (fun r2 v_2 => (narrow .boolean (.int r2) = .int r2 ∧ (Q r2 v_2))))) ∧ (¬ (4 : Int32) ≤ x1 → (pX3_parseClause v x1 (fun r4 v_4 => ((¬ r4 = 0 → ((¬ ((st v_4 0 4 ((v_4 0 4) + (1 : Int32))) 0 2) = ((st v_4 0 4 ((v_4 0 4) + (1 : Int32))) 0 1) → ((((st v_4 0 4 ((v_4 0 4) + (1 : Int32))) 0 4) = (4 : Int32) → (pX3_parse_J67  Q  (st v_4 0 4 ((v_4 0 4) + (1 : Int32))))) ∧ (¬ ((st v_4 0 4 ((v_4 0 4) + (1 : Int32))) 0 4) = (4 : Int32) → (pX3_sign (st v_4 0 4 ((v_4 0 4) + (1 : Int32))) (fun r10 => ((r10 = (59 : Int32) → (pX3_parse_L12 Q n12 (st (st v_4 0 4 ((v_4 0 4) + (1 : Int32))) 0 2 (((st v_4 0 4 ((v_4 0 4) + (1 : Int32))) 0 2) + (1 : Int32))) (x1 + 1))) ∧ (¬ r10 = (59 : Int32) → (pX3_parse_J67  Q  (st v_4 0 4 ((v_4 0 4) + (1 : Int32))))))))))) ∧ (((st v_4 0 4 ((v_4 0 4) + (1 : Int32))) 0 2) = ((st v_4 0 4 ((v_4 0 4) + (1 : Int32))) 0 1) → (Q (1 : Int32) (st v_4 0 4 ((v_4 0 4) + (1 : Int32))))))) ∧ (r4 = 0 → (Q (0 : Int32) v_4)))))))
def pX3_parse (v : Lf)  (Q : Int32 → Lf → Prop) : Prop := (∃ n12, pX3_parse_L12  Q  n12 (st (st v 0 2 (0 : Int32)) 0 4 (0 : Int32)) (0 : Int32))
abbrev rmX3_parse : Room := { frames := 4, cells := 0, slots := 0, locals := 93 }
abbrev wdX3_parse : List Cond := Cond.code yX3_parse cX3_parse 2 (some .boolean) :: TB
theorem hdSX3_parse : (yX3_parse).cls ≠ "java/lang/invoke/MethodHandle" ∧ (yX3_parse).cls ≠ "java/lang/invoke/VarHandle" ∧ (parseMethodDescriptor (yX3_parse).desc).map (fun d => d.parameters.length) = some 0 := by decide +kernel
theorem hdX3_parse : (yX3_parse).cls = RX3 ∧ (yX3_parse).cls ≠ "java/lang/invoke/MethodHandle" ∧ (yX3_parse).cls ≠ "java/lang/invoke/VarHandle" ∧ (parseMethodDescriptor (yX3_parse).desc).map (fun d => d.parameters.length) = some 0 := ⟨rfl, hdSX3_parse⟩
set_option maxHeartbeats 4000000 in
set_option maxRecDepth 100000 in
theorem kX3_parse {l : Launch} {D : va_G} {cI cJ cT : ClassId} (d : Nat → Nat)  (v : Lf)  {Q : Int32 → Lf → Prop} (sz : Nat) (h : pX3_parse v Q) : Met l yX3_parse wdX3_parse rmX3_parse (Pz D (tyL cI cJ cT) [.ref (d 0)] (wX3 cI d v) sz) (va_Qi (fun (r : Int32) (u : Lf) => Q r u) (Bz D (tyL cI cJ cT) (wX3 cI d v) sz (fun (u : Lf) => (wX3 cI d u))) (va_A (wX3 cI d v) sz)) 0 0 (va_A (wX3 cI d v) sz) := by
  refine z_metz (cc := cX3_parse) (maxL := 2) (own := RX3) (lv0 := [(0, .ref (d 0))]) (by decide) rfl rfl (Nat.le_of_ble_eq_true rfl) rfl ?_
  intro p e s m args below meth c A QQ C hin hret
  have J67 : ∀ (v : Lf), pX3_parse_J67 Q v → ZZ p l e rmX3_parse s m args below meth c D A 2 0 0 QQ 67 (wX3 cI d v) [(0, .ref (d 0))] [] := by
    intro  v h
    refine z_aload_n (pc := 67) C 0 dX3_parse_67 rfl ?_
    refine z_aload_n (pc := 68) C 0 dX3_parse_68 rfl ?_
    refine z_get (pc := 69) C uw3 0 rfl rfl 2 (by decide) wq362 rfl dX3_parse_69 ?_
    refine z_calli (pc := 72) (wr := ([] : va_W)) (w1 := fun (u : Lf) => (wX3 cI d u)) (w2 := fun (u : Lf) => (wX3 cI d u)) C (z_runV (pc := 72) (wc := (wX3 cI d v)) (As := [.int (v 0 2)]) C (fun sz => kX3_failAt d v (v 0 2) sz h) [0, 1, 2, 3, 4, 5] rfl (by decide) (gdV wq364 wq374 wq375 wq376 wq372) rfl rfl rfl hdX3_failAt 0 rfl rfl rfl ⟨Nat.le_of_ble_eq_true rfl, Nat.le_of_ble_eq_true rfl⟩ rfl (Nat.le_of_ble_eq_true rfl) ⟨Nat.zero_le _, Nat.zero_le _⟩ dX3_parse_72) [0, 1, 2, 3, 4, 5] [] [0, 1, 2, 3, 4, 5] rfl rfl (by decide) (by decide) (fun _ => rfl) (by decide) (fun r8 u8 h => ?_)
    obtain ⟨v_8, hu8⟩ : ∃ z, z = u8 := ⟨_, rfl⟩
    subst hu8
    obtain ⟨g9, h⟩ := h
    exact hret 75 _ _ r8 g9 v_8 rfl h dX3_parse_75
  have L12 : ∀ (n12 : Nat) (v : Lf) (x1 : Int32), pX3_parse_L12 Q n12 v x1 → ZZ p l e rmX3_parse s m args below meth c D A 2 0 0 QQ 12 (wX3 cI d v) [(0, .ref (d 0)), (1, .int x1)] [] := by
    intro n12
    induction n12 with
    | zero => intro v x1 h; exact False.elim h
    | succ n12 ih12 =>
      intro v x1 h
      refine z_iload_n (pc := 12) C 1 dX3_parse_12 rfl ?_
      refine z_iconst (pc := 13) (v := 4) C dX3_parse_13 (by decide) ?_
      refine z_icmp_ge (pc := 14) (tgt := 92) C dX3_parse_14 (by decide) (fun c1 => ?_) (fun c1 => ?_)
      · have h := h.1 c1
        refine z_aload_n (pc := 92) C 0 dX3_parse_92 rfl ?_
        refine z_aload_n (pc := 93) C 0 dX3_parse_93 rfl ?_
        refine z_get (pc := 94) C uw3 0 rfl rfl 2 (by decide) wq362 rfl dX3_parse_94 ?_
        refine z_calli (pc := 97) (wr := ([] : va_W)) (w1 := fun (u : Lf) => (wX3 cI d u)) (w2 := fun (u : Lf) => (wX3 cI d u)) C (z_runV (pc := 97) (wc := (wX3 cI d v)) (As := [.int (v 0 2)]) C (fun sz => kX3_failAt d v (v 0 2) sz h) [0, 1, 2, 3, 4, 5] rfl (by decide) (gdV wq364 wq374 wq375 wq376 wq372) rfl rfl rfl hdX3_failAt 0 rfl rfl rfl ⟨Nat.le_of_ble_eq_true rfl, Nat.le_of_ble_eq_true rfl⟩ rfl (Nat.le_of_ble_eq_true rfl) ⟨Nat.zero_le _, Nat.zero_le _⟩ dX3_parse_97) [0, 1, 2, 3, 4, 5] [] [0, 1, 2, 3, 4, 5] rfl rfl (by decide) (by decide) (fun _ => rfl) (by decide) (fun r2 u2 h => ?_)
        obtain ⟨v_2, hu2⟩ : ∃ z, z = u2 := ⟨_, rfl⟩
        subst hu2
        obtain ⟨g3, h⟩ := h
        exact hret 100 _ _ r2 g3 v_2 rfl h dX3_parse_100
      · have h := h.2 c1
        refine z_aload_n (pc := 17) C 0 dX3_parse_17 rfl ?_
        refine z_iload_n (pc := 18) C 1 dX3_parse_18 rfl ?_
        refine z_calli (pc := 19) (wr := ([] : va_W)) (w1 := fun (u : Lf) => (wX3 cI d u)) (w2 := fun (u : Lf) => (wX3 cI d u)) C (z_runV (pc := 19) (wc := (wX3 cI d v)) (As := [.int x1]) C (fun sz => kX3_parseClause d v x1 sz h) [0, 1, 2, 3, 4, 5] rfl (by decide) (gdV wq393 wq395 wq396 wq397 wq372) rfl rfl rfl hdX3_parseClause 0 rfl rfl rfl ⟨Nat.le_of_ble_eq_true rfl, Nat.le_of_ble_eq_true rfl⟩ rfl (Nat.le_of_ble_eq_true rfl) ⟨Nat.zero_le _, Nat.zero_le _⟩ dX3_parse_19) [0, 1, 2, 3, 4, 5] [] [0, 1, 2, 3, 4, 5] rfl rfl (by decide) (by decide) (fun _ => rfl) (by decide) (fun r4 u4 h => ?_)
        obtain ⟨v_4, hu4⟩ : ∃ z, z = u4 := ⟨_, rfl⟩
        subst hu4
        refine z_if_ne (pc := 22) (tgt := 27) C dX3_parse_22 (by decide) (fun c5 => ?_) (fun c5 => ?_)
        · have h := h.1 c5
          refine z_aload_n (pc := 27) C 0 dX3_parse_27 rfl ?_
          refine z_dup (pc := 28) C dX3_parse_28 rfl ?_
          refine z_get (pc := 29) C uw3 0 rfl rfl 4 (by decide) wq394 rfl dX3_parse_29 ?_
          refine z_iconst (pc := 32) (v := 1) C dX3_parse_32 (by decide) ?_
          refine z_iadd (pc := 33) C dX3_parse_33 ?_
          refine z_put (pc := 34) (ws' := (wX3 cI d (st v_4 0 4 ((v_4 0 4) + (1 : Int32))))) C uw3 tyX3 tyX3_ok nmX3 0 rfl rfl 4 (by decide) wq394 rfl rfl rfl (Nat.le_of_ble_eq_true rfl) dX3_parse_34 sX3_f4 ?_
          refine z_aload_n (pc := 37) C 0 dX3_parse_37 rfl ?_
          refine z_get (pc := 38) C uw3 0 rfl rfl 2 (by decide) wq362 rfl dX3_parse_38 ?_
          refine z_aload_n (pc := 41) C 0 dX3_parse_41 rfl ?_
          refine z_get (pc := 42) C uw3 0 rfl rfl 1 (by decide) wq360 rfl dX3_parse_42 ?_
          refine z_icmp_ne (pc := 45) (tgt := 50) C dX3_parse_45 (by decide) (fun c6 => ?_) (fun c6 => ?_)
          · have h := h.1 c6
            refine z_aload_n (pc := 50) C 0 dX3_parse_50 rfl ?_
            refine z_get (pc := 51) C uw3 0 rfl rfl 4 (by decide) wq394 rfl dX3_parse_51 ?_
            refine z_iconst (pc := 54) (v := 4) C dX3_parse_54 (by decide) ?_
            refine z_icmp_eq (pc := 55) (tgt := 67) C dX3_parse_55 (by decide) (fun c7 => ?_) (fun c7 => ?_)
            · have h := h.1 c7
              refine z_sub (lv' := [(0, .ref (d 0))]) [0] rfl ?_
              exact J67  (st v_4 0 4 ((v_4 0 4) + (1 : Int32))) h
            · have h := h.2 c7
              refine z_aload_n (pc := 58) C 0 dX3_parse_58 rfl ?_
              refine z_callRi (pc := 59) C (z_runV (pc := 59) (wc := (wX3 cI d (st v_4 0 4 ((v_4 0 4) + (1 : Int32))))) (As := []) C (fun sz => kX3_sign d (st v_4 0 4 ((v_4 0 4) + (1 : Int32))) sz h) [0, 1, 2, 3, 4, 5] rfl (by decide) (gdV wq361 wq369 wq370 wq371 wq372) rfl rfl rfl hdX3_sign 0 rfl rfl rfl ⟨Nat.le_of_ble_eq_true rfl, Nat.le_of_ble_eq_true rfl⟩ rfl (Nat.le_of_ble_eq_true rfl) ⟨Nat.zero_le _, Nat.zero_le _⟩ dX3_parse_59) [0, 1, 2, 3, 4, 5] rfl (by decide) (fun r10 u10 h => ?_)
              refine z_bipush (pc := 62) (v := 59) C dX3_parse_62 (by decide) ?_
              refine z_icmp_eq (pc := 64) (tgt := 76) C dX3_parse_64 (by decide) (fun c11 => ?_) (fun c11 => ?_)
              · have h := h.1 c11
                refine z_aload_n (pc := 76) C 0 dX3_parse_76 rfl ?_
                refine z_dup (pc := 77) C dX3_parse_77 rfl ?_
                refine z_get (pc := 78) C uw3 0 rfl rfl 2 (by decide) wq362 rfl dX3_parse_78 ?_
                refine z_iconst (pc := 81) (v := 1) C dX3_parse_81 (by decide) ?_
                refine z_iadd (pc := 82) C dX3_parse_82 ?_
                refine z_put (pc := 83) (ws' := (wX3 cI d (st (st v_4 0 4 ((v_4 0 4) + (1 : Int32))) 0 2 (((st v_4 0 4 ((v_4 0 4) + (1 : Int32))) 0 2) + (1 : Int32))))) C uw3 tyX3 tyX3_ok nmX3 0 rfl rfl 2 (by decide) wq362 rfl rfl rfl (Nat.le_of_ble_eq_true rfl) dX3_parse_83 sX3_f2 ?_
                refine z_iinc (pc := 86) (v := (x1 + 1)) (lv' := [(1, .int (x1 + 1)), (0, .ref (d 0))]) C 1 dX3_parse_86 rfl rfl (by decide) rfl ?_
                refine z_goto (pc := 89) (tgt := 12) C dX3_parse_89 (by decide) ?_
                refine z_sub (lv' := [(0, .ref (d 0)), (1, .int (x1 + 1))]) [1, 0] rfl ?_
                exact ih12 (st (st v_4 0 4 ((v_4 0 4) + (1 : Int32))) 0 2 (((st v_4 0 4 ((v_4 0 4) + (1 : Int32))) 0 2) + (1 : Int32))) (x1 + 1) h
              · have h := h.2 c11
                refine z_sub (lv' := [(0, .ref (d 0))]) [0] rfl ?_
                exact J67  (st v_4 0 4 ((v_4 0 4) + (1 : Int32))) h
          · have h := h.2 c6
            refine z_iconst (pc := 48) (v := 1) C dX3_parse_48 (by decide) ?_
            exact hret 49 _ _ (1 : Int32) rfl (st v_4 0 4 ((v_4 0 4) + (1 : Int32))) rfl h dX3_parse_49
        · have h := h.2 c5
          refine z_iconst (pc := 25) (v := 0) C dX3_parse_25 (by decide) ?_
          exact hret 26 _ _ (0 : Int32) rfl v_4 rfl h dX3_parse_26
  refine z_aload_n (pc := 0) C 0 dX3_parse_0 rfl ?_
  refine z_iconst (pc := 1) (v := 0) C dX3_parse_1 (by decide) ?_
  refine z_put (pc := 2) (ws' := (wX3 cI d (st v 0 2 (0 : Int32)))) C uw3 tyX3 tyX3_ok nmX3 0 rfl rfl 2 (by decide) wq362 rfl rfl rfl (Nat.le_of_ble_eq_true rfl) dX3_parse_2 sX3_f2 ?_
  refine z_aload_n (pc := 5) C 0 dX3_parse_5 rfl ?_
  refine z_iconst (pc := 6) (v := 0) C dX3_parse_6 (by decide) ?_
  refine z_put (pc := 7) (ws' := (wX3 cI d (st (st v 0 2 (0 : Int32)) 0 4 (0 : Int32)))) C uw3 tyX3 tyX3_ok nmX3 0 rfl rfl 4 (by decide) wq394 rfl rfl rfl (Nat.le_of_ble_eq_true rfl) dX3_parse_7 sX3_f4 ?_
  refine z_iconst (pc := 10) (v := 0) C dX3_parse_10 (by decide) ?_
  refine z_istore_n (pc := 11) (lv' := [(1, .int (0 : Int32)), (0, .ref (d 0))]) C dX3_parse_11 (by decide) rfl ?_
  obtain ⟨n12, h⟩ := h
  refine z_sub (lv' := [(0, .ref (d 0)), (1, .int (0 : Int32))]) [1, 0] rfl ?_
  exact L12  n12 (st (st v 0 2 (0 : Int32)) 0 4 (0 : Int32)) (0 : Int32) h

def pX10_light (v : Lf) (x1 : Int32) (Q : Int32 → Prop) : Prop := (pX10_at v x1 (6 : Int32) (fun r1 => ((¬ r1 = (1 : Int32) → (pX10_at v x1 (8 : Int32) (fun r3 => ((r3 < 0 → (Q (0 : Int32) )) ∧ (¬ r3 < 0 → (pX10_at v x1 (8 : Int32) (fun r6 => (pX10_amber v x1 (fun r7 => (((r6 + r7) ≤ (v 1 3) → (Q (0 : Int32) )) ∧ (¬ (r6 + r7) ≤ (v 1 3) → (Q (1 : Int32) )))))))))))) ∧ (r1 = (1 : Int32) → (Q (2 : Int32) )))))
abbrev rmX10_light : Room := { frames := 2, cells := 0, slots := 0, locals := 43 }
abbrev wdX10_light : List Cond := Cond.code yX10_light cX10_light 2 (some .int) :: TB
theorem hdSX10_light : (yX10_light).cls ≠ "java/lang/invoke/MethodHandle" ∧ (yX10_light).cls ≠ "java/lang/invoke/VarHandle" ∧ (parseMethodDescriptor (yX10_light).desc).map (fun d => d.parameters.length) = some 1 := by decide +kernel
theorem hdX10_light : (yX10_light).cls = RX10 ∧ (yX10_light).cls ≠ "java/lang/invoke/MethodHandle" ∧ (yX10_light).cls ≠ "java/lang/invoke/VarHandle" ∧ (parseMethodDescriptor (yX10_light).desc).map (fun d => d.parameters.length) = some 1 := ⟨rfl, hdSX10_light⟩
set_option maxHeartbeats 4000000 in
set_option maxRecDepth 100000 in
theorem kX10_light {l : Launch} {D : va_G} {cI cJ cT : ClassId} (d : Nat → Nat)  (v : Lf) (g : Lg) (x1 : Int32) {Q : Int32 → Prop} (sz : Nat) (h : pX10_light v x1 Q) : Met l yX10_light wdX10_light rmX10_light (Pz D (tyL cI cJ cT) [.ref (d 0), .int x1] (wX10 cI cJ d v g) sz) (va_Qi (fun (r : Int32) (u : Unit) => Q r) (Bz D (tyL cI cJ cT) (wX10 cI cJ d v g) sz (fun (u : Unit) => (wX10 cI cJ d v g))) (va_A (wX10 cI cJ d v g) sz)) 0 0 (va_A (wX10 cI cJ d v g) sz) := by
  refine z_meti (cc := cX10_light) (maxL := 2) (own := RX10) (lv0 := [(0, .ref (d 0)), (1, .int x1)]) (by decide) rfl rfl (Nat.le_of_ble_eq_true rfl) rfl ?_
  intro p e s m args below meth c A QQ C hin hret
  refine z_aload_n (pc := 0) C 0 dX10_light_0 rfl ?_
  refine z_iload_n (pc := 1) C 1 dX10_light_1 rfl ?_
  refine z_bipush (pc := 2) (v := 6) C dX10_light_2 (by decide) ?_
  refine z_callRi (pc := 4) C (z_runV (pc := 4) (wc := (wX10 cI cJ d v g)) (As := [.int x1, .int (6 : Int32)]) C (fun sz => kX10_at d v g x1 (6 : Int32) sz h) [0, 1, 2, 3, 4, 5, 6, 7, 8, 9, 10, 11] rfl (by decide) (gdV wq808 wq811 wq812 wq813 wq814) rfl rfl rfl hdX10_at 0 rfl rfl rfl ⟨Nat.le_of_ble_eq_true rfl, Nat.le_of_ble_eq_true rfl⟩ rfl (Nat.le_of_ble_eq_true rfl) ⟨Nat.zero_le _, Nat.zero_le _⟩ dX10_light_4) [0, 1, 2, 3, 4, 5, 6, 7, 8, 9, 10, 11] rfl (by decide) (fun r1 u1 h => ?_)
  refine z_iconst (pc := 7) (v := 1) C dX10_light_7 (by decide) ?_
  refine z_icmp_ne (pc := 8) (tgt := 13) C dX10_light_8 (by decide) (fun c2 => ?_) (fun c2 => ?_)
  · have h := h.1 c2
    refine z_aload_n (pc := 13) C 0 dX10_light_13 rfl ?_
    refine z_iload_n (pc := 14) C 1 dX10_light_14 rfl ?_
    refine z_bipush (pc := 15) (v := 8) C dX10_light_15 (by decide) ?_
    refine z_callRi (pc := 17) C (z_runV (pc := 17) (wc := (wX10 cI cJ d v g)) (As := [.int x1, .int (8 : Int32)]) C (fun sz => kX10_at d v g x1 (8 : Int32) sz h) [0, 1, 2, 3, 4, 5, 6, 7, 8, 9, 10, 11] rfl (by decide) (gdV wq808 wq811 wq812 wq813 wq814) rfl rfl rfl hdX10_at 0 rfl rfl rfl ⟨Nat.le_of_ble_eq_true rfl, Nat.le_of_ble_eq_true rfl⟩ rfl (Nat.le_of_ble_eq_true rfl) ⟨Nat.zero_le _, Nat.zero_le _⟩ dX10_light_17) [0, 1, 2, 3, 4, 5, 6, 7, 8, 9, 10, 11] rfl (by decide) (fun r3 u3 h => ?_)
    refine z_if_lt (pc := 20) (tgt := 49) C dX10_light_20 (by decide) (fun c4 => ?_) (fun c4 => ?_)
    · have h := h.1 c4
      refine z_iconst (pc := 49) (v := 0) C dX10_light_49 (by decide) ?_
      exact hret 50 _ _ (0 : Int32) () rfl h dX10_light_50
    · have h := h.2 c4
      refine z_aload_n (pc := 23) C 0 dX10_light_23 rfl ?_
      refine z_get (pc := 24) C uw10 0 rfl rfl 0 (by decide) wq809 rfl dX10_light_24 ?_
      refine z_iconst (pc := 27) (v := 3) C dX10_light_27 (by decide) ?_
      refine z_iald (pc := 28) C 1 0 rfl rfl vi_3_372 (v 1 3) (congrArg _ cl_3) dX10_light_28 ?_
      refine z_aload_n (pc := 29) C 0 dX10_light_29 rfl ?_
      refine z_iload_n (pc := 30) C 1 dX10_light_30 rfl ?_
      refine z_bipush (pc := 31) (v := 8) C dX10_light_31 (by decide) ?_
      refine z_callRi (pc := 33) C (z_runV (pc := 33) (wc := (wX10 cI cJ d v g)) (As := [.int x1, .int (8 : Int32)]) C (fun sz => kX10_at d v g x1 (8 : Int32) sz h) [0, 1, 2, 3, 4, 5, 6, 7, 8, 9, 10, 11] rfl (by decide) (gdV wq808 wq811 wq812 wq813 wq814) rfl rfl rfl hdX10_at 0 rfl rfl rfl ⟨Nat.le_of_ble_eq_true rfl, Nat.le_of_ble_eq_true rfl⟩ rfl (Nat.le_of_ble_eq_true rfl) ⟨Nat.zero_le _, Nat.zero_le _⟩ dX10_light_33) [0, 1, 2, 3, 4, 5, 6, 7, 8, 9, 10, 11] rfl (by decide) (fun r6 u6 h => ?_)
      refine z_aload_n (pc := 36) C 0 dX10_light_36 rfl ?_
      refine z_iload_n (pc := 37) C 1 dX10_light_37 rfl ?_
      refine z_callRi (pc := 38) C (z_runV (pc := 38) (wc := (wX10 cI cJ d v g)) (As := [.int x1]) C (fun sz => kX10_amber d v g x1 sz h) [0, 1, 2, 3, 4, 5, 6, 7, 8, 9, 10, 11] rfl (by decide) (gdV wq815 wq825 wq826 wq827 wq814) rfl rfl rfl hdX10_amber 0 rfl rfl rfl ⟨Nat.le_of_ble_eq_true rfl, Nat.le_of_ble_eq_true rfl⟩ rfl (Nat.le_of_ble_eq_true rfl) ⟨Nat.zero_le _, Nat.zero_le _⟩ dX10_light_38) [0, 1, 2, 3, 4, 5, 6, 7, 8, 9, 10, 11] rfl (by decide) (fun r7 u7 h => ?_)
      refine z_iadd (pc := 41) C dX10_light_41 ?_
      refine z_icmp_ge (pc := 42) (tgt := 49) C dX10_light_42 (by decide) (fun c8 => ?_) (fun c8 => ?_)
      · have h := h.1 c8
        refine z_iconst (pc := 49) (v := 0) C dX10_light_49 (by decide) ?_
        exact hret 50 _ _ (0 : Int32) () rfl h dX10_light_50
      · have h := h.2 c8
        refine z_iconst (pc := 45) (v := 1) C dX10_light_45 (by decide) ?_
        refine z_goto (pc := 46) (tgt := 50) C dX10_light_46 (by decide) ?_
        exact hret 50 _ _ (1 : Int32) () rfl h dX10_light_50
  · have h := h.2 c2
    refine z_iconst (pc := 11) (v := 2) C dX10_light_11 (by decide) ?_
    exact hret 12 _ _ (2 : Int32) () rfl h dX10_light_12

def pX10_lights_J32 (v : Lf) (x1 : Int32) (Q : Int32 → Prop) (K4 : Int32 → Int32 → Prop) (x3 : Int32) (t0 : Int32) (t1 : Int32) : Prop := (K4 (t0 ||| t1) (x3 + 1))
def pX10_lights_L4 (v : Lf) (x1 : Int32) (Q : Int32 → Prop) : Nat → Int32 → Int32 → Prop
  | 0, _, _ => False
  | n4 + 1, x2, x3 => (((v 1 13) ≤ x3 → (Q x2 )) ∧ (¬ (v 1 13) ≤ x3 → (pX10_light v x3 (fun r3 => ((¬ r3 = x1 → (pX10_lights_J32 v x1 Q (fun x2 x3 => pX10_lights_L4 v x1 Q n4 x2 x3) x3 x2 (0 : Int32))) ∧ (r3 = x1 → (pX10_lights_J32 v x1 Q (fun x2 x3 => pX10_lights_L4 v x1 Q n4 x2 x3) x3 x2 ((1 : Int32) <<< (x3 &&& 31)))))))))
def pX10_lights (v : Lf) (x1 : Int32) (Q : Int32 → Prop) : Prop := (∃ n4, pX10_lights_L4 v x1 Q  n4 (0 : Int32) (0 : Int32))
abbrev rmX10_lights : Room := { frames := 3, cells := 0, slots := 0, locals := 64 }
abbrev wdX10_lights : List Cond := Cond.code yX10_lights cX10_lights 4 (some .int) :: TB
theorem hdSX10_lights : (yX10_lights).cls ≠ "java/lang/invoke/MethodHandle" ∧ (yX10_lights).cls ≠ "java/lang/invoke/VarHandle" ∧ (parseMethodDescriptor (yX10_lights).desc).map (fun d => d.parameters.length) = some 1 := by decide +kernel
theorem hdX10_lights : (yX10_lights).cls = RX10 ∧ (yX10_lights).cls ≠ "java/lang/invoke/MethodHandle" ∧ (yX10_lights).cls ≠ "java/lang/invoke/VarHandle" ∧ (parseMethodDescriptor (yX10_lights).desc).map (fun d => d.parameters.length) = some 1 := ⟨rfl, hdSX10_lights⟩
set_option maxHeartbeats 4000000 in
set_option maxRecDepth 100000 in
theorem kX10_lights {l : Launch} {D : va_G} {cI cJ cT : ClassId} (d : Nat → Nat)  (v : Lf) (g : Lg) (x1 : Int32) {Q : Int32 → Prop} (sz : Nat) (h : pX10_lights v x1 Q) : Met l yX10_lights wdX10_lights rmX10_lights (Pz D (tyL cI cJ cT) [.ref (d 0), .int x1] (wX10 cI cJ d v g) sz) (va_Qi (fun (r : Int32) (u : Unit) => Q r) (Bz D (tyL cI cJ cT) (wX10 cI cJ d v g) sz (fun (u : Unit) => (wX10 cI cJ d v g))) (va_A (wX10 cI cJ d v g) sz)) 0 0 (va_A (wX10 cI cJ d v g) sz) := by
  refine z_meti (cc := cX10_lights) (maxL := 4) (own := RX10) (lv0 := [(0, .ref (d 0)), (1, .int x1)]) (by decide) rfl rfl (Nat.le_of_ble_eq_true rfl) rfl ?_
  intro p e s m args below meth c A QQ C hin hret
  have J32 : ∀ (K4 : Int32 → Int32 → Prop), (∀ (x2 : Int32) (x3 : Int32), K4 x2 x3 → ZZ p l e rmX10_lights s m args below meth c D A 4 0 0 QQ 4 (wX10 cI cJ d v g) [(0, .ref (d 0)), (1, .int x1), (2, .int x2), (3, .int x3)] []) → ∀ (x3 : Int32) (t0 : Int32) (t1 : Int32), pX10_lights_J32 v x1 Q K4 x3 t0 t1 → ZZ p l e rmX10_lights s m args below meth c D A 4 0 0 QQ 32 (wX10 cI cJ d v g) [(0, .ref (d 0)), (1, .int x1), (3, .int x3)] [.int t1, .int t0] := by
    intro K4 hK4 x3 t0 t1 h
    refine z_ior (pc := 32) C dX10_lights_32 ?_
    refine z_istore_n (pc := 33) (lv' := [(2, .int (t0 ||| t1)), (0, .ref (d 0)), (1, .int x1), (3, .int x3)]) C dX10_lights_33 (by decide) rfl ?_
    refine z_iinc (pc := 34) (v := (x3 + 1)) (lv' := [(3, .int (x3 + 1)), (2, .int (t0 ||| t1)), (0, .ref (d 0)), (1, .int x1)]) C 3 dX10_lights_34 rfl rfl (by decide) rfl ?_
    refine z_goto (pc := 37) (tgt := 4) C dX10_lights_37 (by decide) ?_
    refine z_sub (lv' := [(0, .ref (d 0)), (1, .int x1), (2, .int (t0 ||| t1)), (3, .int (x3 + 1))]) [2, 3, 1, 0] rfl ?_
    exact hK4 (t0 ||| t1) (x3 + 1) h
  have L4 : ∀ (n4 : Nat) (x2 : Int32) (x3 : Int32), pX10_lights_L4 v x1 Q n4 x2 x3 → ZZ p l e rmX10_lights s m args below meth c D A 4 0 0 QQ 4 (wX10 cI cJ d v g) [(0, .ref (d 0)), (1, .int x1), (2, .int x2), (3, .int x3)] [] := by
    intro n4
    induction n4 with
    | zero => intro x2 x3 h; exact False.elim h
    | succ n4 ih4 =>
      intro x2 x3 h
      refine z_iload_n (pc := 4) C 3 dX10_lights_4 rfl ?_
      refine z_aload_n (pc := 5) C 0 dX10_lights_5 rfl ?_
      refine z_get (pc := 6) C uw10 0 rfl rfl 0 (by decide) wq809 rfl dX10_lights_6 ?_
      refine z_bipush (pc := 9) (v := 13) C dX10_lights_9 (by decide) ?_
      refine z_iald (pc := 11) C 1 0 rfl rfl vi_13_372 (v 1 13) (congrArg _ cl_13) dX10_lights_11 ?_
      refine z_icmp_ge (pc := 12) (tgt := 40) C dX10_lights_12 (by decide) (fun c2 => ?_) (fun c2 => ?_)
      · have h := h.1 c2
        refine z_iload_n (pc := 40) C 2 dX10_lights_40 rfl ?_
        exact hret 41 _ _ x2 () rfl h dX10_lights_41
      · have h := h.2 c2
        refine z_iload_n (pc := 15) C 2 dX10_lights_15 rfl ?_
        refine z_aload_n (pc := 16) C 0 dX10_lights_16 rfl ?_
        refine z_iload_n (pc := 17) C 3 dX10_lights_17 rfl ?_
        refine z_callRi (pc := 18) C (z_runV (pc := 18) (wc := (wX10 cI cJ d v g)) (As := [.int x3]) C (fun sz => kX10_light d v g x3 sz h) [0, 1, 2, 3, 4, 5, 6, 7, 8, 9, 10, 11] rfl (by decide) (gdV wq1012 wq1014 wq1015 wq1016 wq814) rfl rfl rfl hdX10_light 0 rfl rfl rfl ⟨Nat.le_of_ble_eq_true rfl, Nat.le_of_ble_eq_true rfl⟩ rfl (Nat.le_of_ble_eq_true rfl) ⟨Nat.zero_le _, Nat.zero_le _⟩ dX10_lights_18) [0, 1, 2, 3, 4, 5, 6, 7, 8, 9, 10, 11] rfl (by decide) (fun r3 u3 h => ?_)
        refine z_iload_n (pc := 21) C 1 dX10_lights_21 rfl ?_
        refine z_icmp_ne (pc := 22) (tgt := 31) C dX10_lights_22 (by decide) (fun c4 => ?_) (fun c4 => ?_)
        · have h := h.1 c4
          refine z_iconst (pc := 31) (v := 0) C dX10_lights_31 (by decide) ?_
          refine z_sub (lv' := [(0, .ref (d 0)), (1, .int x1), (3, .int x3)]) [0, 1, 3] rfl ?_
          exact J32 (fun x2 x3 => pX10_lights_L4 v x1 Q n4 x2 x3) ih4 x3 x2 (0 : Int32) h
        · have h := h.2 c4
          refine z_iconst (pc := 25) (v := 1) C dX10_lights_25 (by decide) ?_
          refine z_iload_n (pc := 26) C 3 dX10_lights_26 rfl ?_
          refine z_ishl (pc := 27) C dX10_lights_27 ?_
          refine z_goto (pc := 28) (tgt := 32) C dX10_lights_28 (by decide) ?_
          refine z_sub (lv' := [(0, .ref (d 0)), (1, .int x1), (3, .int x3)]) [0, 1, 3] rfl ?_
          exact J32 (fun x2 x3 => pX10_lights_L4 v x1 Q n4 x2 x3) ih4 x3 x2 ((1 : Int32) <<< (x3 &&& 31)) h
  refine z_iconst (pc := 0) (v := 0) C dX10_lights_0 (by decide) ?_
  refine z_istore_n (pc := 1) (lv' := [(2, .int (0 : Int32)), (0, .ref (d 0)), (1, .int x1)]) C dX10_lights_1 (by decide) rfl ?_
  refine z_iconst (pc := 2) (v := 0) C dX10_lights_2 (by decide) ?_
  refine z_istore_n (pc := 3) (lv' := [(3, .int (0 : Int32)), (2, .int (0 : Int32)), (0, .ref (d 0)), (1, .int x1)]) C dX10_lights_3 (by decide) rfl ?_
  obtain ⟨n4, h⟩ := h
  refine z_sub (lv' := [(0, .ref (d 0)), (1, .int x1), (2, .int (0 : Int32)), (3, .int (0 : Int32))]) [2, 3, 1, 0] rfl ?_
  exact L4  n4 (0 : Int32) (0 : Int32) h

def pX10_told_J176 (v : Lf) (x1 : Int32) (Q : Int32 → Prop)  : Prop := (vp_in (((10 : Int32) + x1) - (12 : Int32)) 372 ∧ (Q (v 1 (((10 : Int32) + x1) - (12 : Int32)).toNatClampNeg) ))
def pX10_told (v : Lf) (x1 : Int32) (Q : Int32 → Prop) : Prop := ((x1 = 0 → (Q (v 1 3) )) ∧ (¬ x1 = 0 → ((x1 = 1 → (Q (v 1 4) )) ∧ (¬ x1 = 1 → ((x1 = 2 → (Q (v 1 5) )) ∧ (¬ x1 = 2 → ((x1 = 3 → (Q (v 1 6) )) ∧ (¬ x1 = 3 → ((x1 = 4 → (Q (v 1 7) )) ∧ (¬ x1 = 4 → ((x1 = 5 → (Q (v 1 8) )) ∧ (¬ x1 = 5 → ((x1 = 6 → (Q (v 1 9) )) ∧ (¬ x1 = 6 → ((x1 = 7 → (pX10_lights v (2 : Int32) (fun r9 => (Q r9 )))) ∧ (¬ x1 = 7 → ((x1 = 8 → (pX10_lights v (1 : Int32) (fun r10 => (Q r10 )))) ∧ (¬ x1 = 8 → ((x1 = 9 → (pX10_called v (fun r11 => (Q r11 )))) ∧ (¬ x1 = 9 → ((x1 = 10 → (Q (v 1 0) )) ∧ (¬ x1 = 10 → ((x1 = 11 → (Q (v 1 1) )) ∧ (¬ x1 = 11 → ((x1 = 12 → (pX10_told_J176 v x1 Q  )) ∧ (¬ x1 = 12 → ((x1 = 13 → (pX10_told_J176 v x1 Q  )) ∧ (¬ x1 = 13 → ((x1 = 14 → (pX10_told_J176 v x1 Q  )) ∧ (¬ x1 = 14 → ((x1 = 15 → ((¬ (v 1 10) = 0 → (pX10_local v (fun r17 => (Q r17 )))) ∧ ((v 1 10) = 0 → (Q (-5 : Int32) )))) ∧ (¬ x1 = 15 → ((x1 = 16 → (Q (v 1 13) )) ∧ (¬ x1 = 16 → ((x1 = 17 → (Q (v 1 14) )) ∧ (¬ x1 = 17 → ((x1 = 18 → (pX10_queues v (fun r20 => (Q r20 )))) ∧ (¬ x1 = 18 → (Q (-1 : Int32) )))))))))))))))))))))))))))))))))))))))
abbrev rmX10_told : Room := { frames := 4, cells := 0, slots := 0, locals := 87 }
abbrev wdX10_told : List Cond := Cond.code yX10_told cX10_told 2 (some .int) :: TB
theorem hdSX10_told : (yX10_told).cls ≠ "java/lang/invoke/MethodHandle" ∧ (yX10_told).cls ≠ "java/lang/invoke/VarHandle" ∧ (parseMethodDescriptor (yX10_told).desc).map (fun d => d.parameters.length) = some 1 := by decide +kernel
theorem hdX10_told : (yX10_told).cls = RX10 ∧ (yX10_told).cls ≠ "java/lang/invoke/MethodHandle" ∧ (yX10_told).cls ≠ "java/lang/invoke/VarHandle" ∧ (parseMethodDescriptor (yX10_told).desc).map (fun d => d.parameters.length) = some 1 := ⟨rfl, hdSX10_told⟩
set_option maxHeartbeats 4000000 in
set_option maxRecDepth 100000 in
theorem kX10_told {l : Launch} {D : va_G} {cI cJ cT : ClassId} (d : Nat → Nat)  (v : Lf) (g : Lg) (x1 : Int32) {Q : Int32 → Prop} (sz : Nat) (h : pX10_told v x1 Q) : Met l yX10_told wdX10_told rmX10_told (Pz D (tyL cI cJ cT) [.ref (d 0), .int x1] (wX10 cI cJ d v g) sz) (va_Qi (fun (r : Int32) (u : Unit) => Q r) (Bz D (tyL cI cJ cT) (wX10 cI cJ d v g) sz (fun (u : Unit) => (wX10 cI cJ d v g))) (va_A (wX10 cI cJ d v g) sz)) 0 0 (va_A (wX10 cI cJ d v g) sz) := by
  refine z_meti (cc := cX10_told) (maxL := 2) (own := RX10) (lv0 := [(0, .ref (d 0)), (1, .int x1)]) (by decide) rfl rfl (Nat.le_of_ble_eq_true rfl) rfl ?_
  intro p e s m args below meth c A QQ C hin hret
  have J176 :  pX10_told_J176 v x1 Q  → ZZ p l e rmX10_told s m args below meth c D A 2 0 0 QQ 176 (wX10 cI cJ d v g) [(0, .ref (d 0)), (1, .int x1)] [] := by
    intro   h
    refine z_aload_n (pc := 176) C 0 dX10_told_176 rfl ?_
    refine z_get (pc := 177) C uw10 0 rfl rfl 0 (by decide) wq809 rfl dX10_told_177 ?_
    refine z_bipush (pc := 180) (v := 10) C dX10_told_180 (by decide) ?_
    refine z_iload_n (pc := 182) C 1 dX10_told_182 rfl ?_
    refine z_iadd (pc := 183) C dX10_told_183 ?_
    refine z_bipush (pc := 184) (v := 12) C dX10_told_184 (by decide) ?_
    refine z_isub (pc := 186) C dX10_told_186 ?_
    obtain ⟨g14, h⟩ := h
    refine z_iald (pc := 187) C 1 0 rfl rfl g14 (v 1 (((10 : Int32) + x1) - (12 : Int32)).toNatClampNeg) rfl dX10_told_187 ?_
    exact hret 188 _ _ (v 1 (((10 : Int32) + x1) - (12 : Int32)).toNatClampNeg) () rfl h dX10_told_188
  refine z_iload_n (pc := 0) C 1 dX10_told_0 rfl ?_
  by_cases c1_0 : x1 = 0
  · have h := h.1 c1_0
    refine z_tbl (pc := 1) (tgt := 92) C dX10_told_1 0 c1_0 (by decide) (by decide) rfl (by decide) ?_
    refine z_aload_n (pc := 92) C 0 dX10_told_92 rfl ?_
    refine z_get (pc := 93) C uw10 0 rfl rfl 0 (by decide) wq809 rfl dX10_told_93 ?_
    refine z_iconst (pc := 96) (v := 3) C dX10_told_96 (by decide) ?_
    refine z_iald (pc := 97) C 1 0 rfl rfl vi_3_372 (v 1 3) (congrArg _ cl_3) dX10_told_97 ?_
    exact hret 98 _ _ (v 1 3) () rfl h dX10_told_98
  · have h := h.2 c1_0
    by_cases c1_1 : x1 = 1
    · have h := h.1 c1_1
      refine z_tbl (pc := 1) (tgt := 99) C dX10_told_1 1 c1_1 (by decide) (by decide) rfl (by decide) ?_
      refine z_aload_n (pc := 99) C 0 dX10_told_99 rfl ?_
      refine z_get (pc := 100) C uw10 0 rfl rfl 0 (by decide) wq809 rfl dX10_told_100 ?_
      refine z_iconst (pc := 103) (v := 4) C dX10_told_103 (by decide) ?_
      refine z_iald (pc := 104) C 1 0 rfl rfl vi_4_372 (v 1 4) (congrArg _ cl_4) dX10_told_104 ?_
      exact hret 105 _ _ (v 1 4) () rfl h dX10_told_105
    · have h := h.2 c1_1
      by_cases c1_2 : x1 = 2
      · have h := h.1 c1_2
        refine z_tbl (pc := 1) (tgt := 106) C dX10_told_1 2 c1_2 (by decide) (by decide) rfl (by decide) ?_
        refine z_aload_n (pc := 106) C 0 dX10_told_106 rfl ?_
        refine z_get (pc := 107) C uw10 0 rfl rfl 0 (by decide) wq809 rfl dX10_told_107 ?_
        refine z_iconst (pc := 110) (v := 5) C dX10_told_110 (by decide) ?_
        refine z_iald (pc := 111) C 1 0 rfl rfl vi_5_372 (v 1 5) (congrArg _ cl_5) dX10_told_111 ?_
        exact hret 112 _ _ (v 1 5) () rfl h dX10_told_112
      · have h := h.2 c1_2
        by_cases c1_3 : x1 = 3
        · have h := h.1 c1_3
          refine z_tbl (pc := 1) (tgt := 113) C dX10_told_1 3 c1_3 (by decide) (by decide) rfl (by decide) ?_
          refine z_aload_n (pc := 113) C 0 dX10_told_113 rfl ?_
          refine z_get (pc := 114) C uw10 0 rfl rfl 0 (by decide) wq809 rfl dX10_told_114 ?_
          refine z_bipush (pc := 117) (v := 6) C dX10_told_117 (by decide) ?_
          refine z_iald (pc := 119) C 1 0 rfl rfl vi_6_372 (v 1 6) (congrArg _ cl_6) dX10_told_119 ?_
          exact hret 120 _ _ (v 1 6) () rfl h dX10_told_120
        · have h := h.2 c1_3
          by_cases c1_4 : x1 = 4
          · have h := h.1 c1_4
            refine z_tbl (pc := 1) (tgt := 121) C dX10_told_1 4 c1_4 (by decide) (by decide) rfl (by decide) ?_
            refine z_aload_n (pc := 121) C 0 dX10_told_121 rfl ?_
            refine z_get (pc := 122) C uw10 0 rfl rfl 0 (by decide) wq809 rfl dX10_told_122 ?_
            refine z_bipush (pc := 125) (v := 7) C dX10_told_125 (by decide) ?_
            refine z_iald (pc := 127) C 1 0 rfl rfl vi_7_372 (v 1 7) (congrArg _ cl_7) dX10_told_127 ?_
            exact hret 128 _ _ (v 1 7) () rfl h dX10_told_128
          · have h := h.2 c1_4
            by_cases c1_5 : x1 = 5
            · have h := h.1 c1_5
              refine z_tbl (pc := 1) (tgt := 129) C dX10_told_1 5 c1_5 (by decide) (by decide) rfl (by decide) ?_
              refine z_aload_n (pc := 129) C 0 dX10_told_129 rfl ?_
              refine z_get (pc := 130) C uw10 0 rfl rfl 0 (by decide) wq809 rfl dX10_told_130 ?_
              refine z_bipush (pc := 133) (v := 8) C dX10_told_133 (by decide) ?_
              refine z_iald (pc := 135) C 1 0 rfl rfl vi_8_372 (v 1 8) (congrArg _ cl_8) dX10_told_135 ?_
              exact hret 136 _ _ (v 1 8) () rfl h dX10_told_136
            · have h := h.2 c1_5
              by_cases c1_6 : x1 = 6
              · have h := h.1 c1_6
                refine z_tbl (pc := 1) (tgt := 137) C dX10_told_1 6 c1_6 (by decide) (by decide) rfl (by decide) ?_
                refine z_aload_n (pc := 137) C 0 dX10_told_137 rfl ?_
                refine z_get (pc := 138) C uw10 0 rfl rfl 0 (by decide) wq809 rfl dX10_told_138 ?_
                refine z_bipush (pc := 141) (v := 9) C dX10_told_141 (by decide) ?_
                refine z_iald (pc := 143) C 1 0 rfl rfl vi_9_372 (v 1 9) (congrArg _ cl_9) dX10_told_143 ?_
                exact hret 144 _ _ (v 1 9) () rfl h dX10_told_144
              · have h := h.2 c1_6
                by_cases c1_7 : x1 = 7
                · have h := h.1 c1_7
                  refine z_tbl (pc := 1) (tgt := 145) C dX10_told_1 7 c1_7 (by decide) (by decide) rfl (by decide) ?_
                  refine z_aload_n (pc := 145) C 0 dX10_told_145 rfl ?_
                  refine z_iconst (pc := 146) (v := 2) C dX10_told_146 (by decide) ?_
                  refine z_callRi (pc := 147) C (z_runV (pc := 147) (wc := (wX10 cI cJ d v g)) (As := [.int (2 : Int32)]) C (fun sz => kX10_lights d v g (2 : Int32) sz h) [0, 1, 2, 3, 4, 5, 6, 7, 8, 9, 10, 11] rfl (by decide) (gdV wq1013 wq1017 wq1018 wq1019 wq814) rfl rfl rfl hdX10_lights 0 rfl rfl rfl ⟨Nat.le_of_ble_eq_true rfl, Nat.le_of_ble_eq_true rfl⟩ rfl (Nat.le_of_ble_eq_true rfl) ⟨Nat.zero_le _, Nat.zero_le _⟩ dX10_told_147) [0, 1, 2, 3, 4, 5, 6, 7, 8, 9, 10, 11] rfl (by decide) (fun r9 u9 h => ?_)
                  exact hret 150 _ _ r9 () rfl h dX10_told_150
                · have h := h.2 c1_7
                  by_cases c1_8 : x1 = 8
                  · have h := h.1 c1_8
                    refine z_tbl (pc := 1) (tgt := 151) C dX10_told_1 8 c1_8 (by decide) (by decide) rfl (by decide) ?_
                    refine z_aload_n (pc := 151) C 0 dX10_told_151 rfl ?_
                    refine z_iconst (pc := 152) (v := 1) C dX10_told_152 (by decide) ?_
                    refine z_callRi (pc := 153) C (z_runV (pc := 153) (wc := (wX10 cI cJ d v g)) (As := [.int (1 : Int32)]) C (fun sz => kX10_lights d v g (1 : Int32) sz h) [0, 1, 2, 3, 4, 5, 6, 7, 8, 9, 10, 11] rfl (by decide) (gdV wq1013 wq1017 wq1018 wq1019 wq814) rfl rfl rfl hdX10_lights 0 rfl rfl rfl ⟨Nat.le_of_ble_eq_true rfl, Nat.le_of_ble_eq_true rfl⟩ rfl (Nat.le_of_ble_eq_true rfl) ⟨Nat.zero_le _, Nat.zero_le _⟩ dX10_told_153) [0, 1, 2, 3, 4, 5, 6, 7, 8, 9, 10, 11] rfl (by decide) (fun r10 u10 h => ?_)
                    exact hret 156 _ _ r10 () rfl h dX10_told_156
                  · have h := h.2 c1_8
                    by_cases c1_9 : x1 = 9
                    · have h := h.1 c1_9
                      refine z_tbl (pc := 1) (tgt := 157) C dX10_told_1 9 c1_9 (by decide) (by decide) rfl (by decide) ?_
                      refine z_aload_n (pc := 157) C 0 dX10_told_157 rfl ?_
                      refine z_callRi (pc := 158) C (z_runV (pc := 158) (wc := (wX10 cI cJ d v g)) (As := []) C (fun sz => kX10_called d v g sz h) [0, 1, 2, 3, 4, 5, 6, 7, 8, 9, 10, 11] rfl (by decide) (gdV wq940 wq957 wq958 wq959 wq814) rfl rfl rfl hdX10_called 0 rfl rfl rfl ⟨Nat.le_of_ble_eq_true rfl, Nat.le_of_ble_eq_true rfl⟩ rfl (Nat.le_of_ble_eq_true rfl) ⟨Nat.zero_le _, Nat.zero_le _⟩ dX10_told_158) [0, 1, 2, 3, 4, 5, 6, 7, 8, 9, 10, 11] rfl (by decide) (fun r11 u11 h => ?_)
                      exact hret 161 _ _ r11 () rfl h dX10_told_161
                    · have h := h.2 c1_9
                      by_cases c1_10 : x1 = 10
                      · have h := h.1 c1_10
                        refine z_tbl (pc := 1) (tgt := 162) C dX10_told_1 10 c1_10 (by decide) (by decide) rfl (by decide) ?_
                        refine z_aload_n (pc := 162) C 0 dX10_told_162 rfl ?_
                        refine z_get (pc := 163) C uw10 0 rfl rfl 0 (by decide) wq809 rfl dX10_told_163 ?_
                        refine z_iconst (pc := 166) (v := 0) C dX10_told_166 (by decide) ?_
                        refine z_iald (pc := 167) C 1 0 rfl rfl vi_0_372 (v 1 0) (congrArg _ cl_0) dX10_told_167 ?_
                        exact hret 168 _ _ (v 1 0) () rfl h dX10_told_168
                      · have h := h.2 c1_10
                        by_cases c1_11 : x1 = 11
                        · have h := h.1 c1_11
                          refine z_tbl (pc := 1) (tgt := 169) C dX10_told_1 11 c1_11 (by decide) (by decide) rfl (by decide) ?_
                          refine z_aload_n (pc := 169) C 0 dX10_told_169 rfl ?_
                          refine z_get (pc := 170) C uw10 0 rfl rfl 0 (by decide) wq809 rfl dX10_told_170 ?_
                          refine z_iconst (pc := 173) (v := 1) C dX10_told_173 (by decide) ?_
                          refine z_iald (pc := 174) C 1 0 rfl rfl vi_1_372 (v 1 1) (congrArg _ cl_1) dX10_told_174 ?_
                          exact hret 175 _ _ (v 1 1) () rfl h dX10_told_175
                        · have h := h.2 c1_11
                          by_cases c1_12 : x1 = 12
                          · have h := h.1 c1_12
                            refine z_tbl (pc := 1) (tgt := 176) C dX10_told_1 12 c1_12 (by decide) (by decide) rfl (by decide) ?_
                            exact J176   h
                          · have h := h.2 c1_12
                            by_cases c1_13 : x1 = 13
                            · have h := h.1 c1_13
                              refine z_tbl (pc := 1) (tgt := 176) C dX10_told_1 13 c1_13 (by decide) (by decide) rfl (by decide) ?_
                              exact J176   h
                            · have h := h.2 c1_13
                              by_cases c1_14 : x1 = 14
                              · have h := h.1 c1_14
                                refine z_tbl (pc := 1) (tgt := 176) C dX10_told_1 14 c1_14 (by decide) (by decide) rfl (by decide) ?_
                                exact J176   h
                              · have h := h.2 c1_14
                                by_cases c1_15 : x1 = 15
                                · have h := h.1 c1_15
                                  refine z_tbl (pc := 1) (tgt := 189) C dX10_told_1 15 c1_15 (by decide) (by decide) rfl (by decide) ?_
                                  refine z_aload_n (pc := 189) C 0 dX10_told_189 rfl ?_
                                  refine z_get (pc := 190) C uw10 0 rfl rfl 0 (by decide) wq809 rfl dX10_told_190 ?_
                                  refine z_bipush (pc := 193) (v := 10) C dX10_told_193 (by decide) ?_
                                  refine z_iald (pc := 195) C 1 0 rfl rfl vi_10_372 (v 1 10) (congrArg _ cl_10) dX10_told_195 ?_
                                  refine z_if_ne (pc := 196) (tgt := 204) C dX10_told_196 (by decide) (fun c16 => ?_) (fun c16 => ?_)
                                  · have h := h.1 c16
                                    refine z_aload_n (pc := 204) C 0 dX10_told_204 rfl ?_
                                    refine z_callRi (pc := 205) C (z_runV (pc := 205) (wc := (wX10 cI cJ d v g)) (As := []) C (fun sz => kX10_local d v g sz h) [0, 1, 2, 3, 4, 5, 6, 7, 8, 9, 10, 11] rfl (by decide) (gdV wq935 wq960 wq961 wq962 wq814) rfl rfl rfl hdX10_local 0 rfl rfl rfl ⟨Nat.le_of_ble_eq_true rfl, Nat.le_of_ble_eq_true rfl⟩ rfl (Nat.le_of_ble_eq_true rfl) ⟨Nat.zero_le _, Nat.zero_le _⟩ dX10_told_205) [0, 1, 2, 3, 4, 5, 6, 7, 8, 9, 10, 11] rfl (by decide) (fun r17 u17 h => ?_)
                                    exact hret 208 _ _ r17 () rfl h dX10_told_208
                                  · have h := h.2 c16
                                    refine z_bipush (pc := 199) (v := -5) C dX10_told_199 (by decide) ?_
                                    refine z_goto (pc := 201) (tgt := 208) C dX10_told_201 (by decide) ?_
                                    exact hret 208 _ _ (-5 : Int32) () rfl h dX10_told_208
                                · have h := h.2 c1_15
                                  by_cases c1_16 : x1 = 16
                                  · have h := h.1 c1_16
                                    refine z_tbl (pc := 1) (tgt := 209) C dX10_told_1 16 c1_16 (by decide) (by decide) rfl (by decide) ?_
                                    refine z_aload_n (pc := 209) C 0 dX10_told_209 rfl ?_
                                    refine z_get (pc := 210) C uw10 0 rfl rfl 0 (by decide) wq809 rfl dX10_told_210 ?_
                                    refine z_bipush (pc := 213) (v := 13) C dX10_told_213 (by decide) ?_
                                    refine z_iald (pc := 215) C 1 0 rfl rfl vi_13_372 (v 1 13) (congrArg _ cl_13) dX10_told_215 ?_
                                    exact hret 216 _ _ (v 1 13) () rfl h dX10_told_216
                                  · have h := h.2 c1_16
                                    by_cases c1_17 : x1 = 17
                                    · have h := h.1 c1_17
                                      refine z_tbl (pc := 1) (tgt := 217) C dX10_told_1 17 c1_17 (by decide) (by decide) rfl (by decide) ?_
                                      refine z_aload_n (pc := 217) C 0 dX10_told_217 rfl ?_
                                      refine z_get (pc := 218) C uw10 0 rfl rfl 0 (by decide) wq809 rfl dX10_told_218 ?_
                                      refine z_bipush (pc := 221) (v := 14) C dX10_told_221 (by decide) ?_
                                      refine z_iald (pc := 223) C 1 0 rfl rfl vi_14_372 (v 1 14) (congrArg _ cl_14) dX10_told_223 ?_
                                      exact hret 224 _ _ (v 1 14) () rfl h dX10_told_224
                                    · have h := h.2 c1_17
                                      by_cases c1_18 : x1 = 18
                                      · have h := h.1 c1_18
                                        refine z_tbl (pc := 1) (tgt := 225) C dX10_told_1 18 c1_18 (by decide) (by decide) rfl (by decide) ?_
                                        refine z_aload_n (pc := 225) C 0 dX10_told_225 rfl ?_
                                        refine z_callRi (pc := 226) C (z_runV (pc := 226) (wc := (wX10 cI cJ d v g)) (As := []) C (fun sz => kX10_queues d v g sz h) [0, 1, 2, 3, 4, 5, 6, 7, 8, 9, 10, 11] rfl (by decide) (gdV wq970 wq987 wq988 wq989 wq814) rfl rfl rfl hdX10_queues 0 rfl rfl rfl ⟨Nat.le_of_ble_eq_true rfl, Nat.le_of_ble_eq_true rfl⟩ rfl (Nat.le_of_ble_eq_true rfl) ⟨Nat.zero_le _, Nat.zero_le _⟩ dX10_told_226) [0, 1, 2, 3, 4, 5, 6, 7, 8, 9, 10, 11] rfl (by decide) (fun r20 u20 h => ?_)
                                        exact hret 229 _ _ r20 () rfl h dX10_told_229
                                      · have h := h.2 c1_18
                                        refine z_tblo (pc := 1) (tgt := 230) C dX10_told_1 (z_out0_18 c1_0 c1_1 c1_2 c1_3 c1_4 c1_5 c1_6 c1_7 c1_8 c1_9 c1_10 c1_11 c1_12 c1_13 c1_14 c1_15 c1_16 c1_17 c1_18) (by decide) ?_
                                        refine z_iconst (pc := 230) (v := -1) C dX10_told_230 (by decide) ?_
                                        exact hret 231 _ _ (-1 : Int32) () rfl h dX10_told_231

def pX10_of (v : Lf) (x1 : Int32) (x2 : Int32) (Q : Int32 → Prop) : Prop := (pX10_isSignal v x1 (fun r1 => ((r1 = 0 → (Q (-1 : Int32) )) ∧ (¬ r1 = 0 → (pX10_isIn x2 (0 : Int32) (13 : Int32) (fun r3 => ((¬ r3 = 0 → (((6 : Int32) ≤ x2 → ((¬ x2 = (6 : Int32) → (((10 : Int32) ≤ x2 → ((¬ x2 = (10 : Int32) → ((¬ x2 = (11 : Int32) → ((¬ x2 = (12 : Int32) → (pX10_at v x1 (20 : Int32) (fun r11 => (Q r11 )))) ∧ (x2 = (12 : Int32) → (pX10_meets v x1 (fun r12 => (Q r12 )))))) ∧ (x2 = (11 : Int32) → (pX10_at v x1 (11 : Int32) (fun r13 => (Q r13 )))))) ∧ (x2 = (10 : Int32) → (pX10_at v x1 (10 : Int32) (fun r14 => (Q r14 )))))) ∧ (¬ (10 : Int32) ≤ x2 → (pX10_at v x1 (((7 : Int32) + x2) - (7 : Int32)) (fun r15 => (Q r15 )))))) ∧ (x2 = (6 : Int32) → (pX10_light v x1 (fun r16 => (Q r16 )))))) ∧ (¬ (6 : Int32) ≤ x2 → (pX10_at v x1 x2 (fun r17 => (Q r17 )))))) ∧ (r3 = 0 → (Q (-1 : Int32) )))))))))
abbrev rmX10_of : Room := { frames := 3, cells := 0, slots := 0, locals := 64 }
abbrev wdX10_of : List Cond := Cond.code yX10_of cX10_of 3 (some .int) :: TB
theorem hdSX10_of : (yX10_of).cls ≠ "java/lang/invoke/MethodHandle" ∧ (yX10_of).cls ≠ "java/lang/invoke/VarHandle" ∧ (parseMethodDescriptor (yX10_of).desc).map (fun d => d.parameters.length) = some 2 := by decide +kernel
theorem hdX10_of : (yX10_of).cls = RX10 ∧ (yX10_of).cls ≠ "java/lang/invoke/MethodHandle" ∧ (yX10_of).cls ≠ "java/lang/invoke/VarHandle" ∧ (parseMethodDescriptor (yX10_of).desc).map (fun d => d.parameters.length) = some 2 := ⟨rfl, hdSX10_of⟩
set_option maxHeartbeats 4000000 in
set_option maxRecDepth 100000 in
theorem kX10_of {l : Launch} {D : va_G} {cI cJ cT : ClassId} (d : Nat → Nat)  (v : Lf) (g : Lg) (x1 : Int32) (x2 : Int32) {Q : Int32 → Prop} (sz : Nat) (h : pX10_of v x1 x2 Q) : Met l yX10_of wdX10_of rmX10_of (Pz D (tyL cI cJ cT) [.ref (d 0), .int x1, .int x2] (wX10 cI cJ d v g) sz) (va_Qi (fun (r : Int32) (u : Unit) => Q r) (Bz D (tyL cI cJ cT) (wX10 cI cJ d v g) sz (fun (u : Unit) => (wX10 cI cJ d v g))) (va_A (wX10 cI cJ d v g) sz)) 0 0 (va_A (wX10 cI cJ d v g) sz) := by
  refine z_meti (cc := cX10_of) (maxL := 3) (own := RX10) (lv0 := [(0, .ref (d 0)), (1, .int x1), (2, .int x2)]) (by decide) rfl rfl (Nat.le_of_ble_eq_true rfl) rfl ?_
  intro p e s m args below meth c A QQ C hin hret
  refine z_aload_n (pc := 0) C 0 dX10_of_0 rfl ?_
  refine z_iload_n (pc := 1) C 1 dX10_of_1 rfl ?_
  refine z_callRi (pc := 2) C (z_runV (pc := 2) (wc := (wX10 cI cJ d v g)) (As := [.int x1]) C (fun sz => kX10_isSignal d v g x1 sz h) [0, 1, 2, 3, 4, 5, 6, 7, 8, 9, 10, 11] rfl (by decide) (gdV wq851 wq875 wq876 wq877 wq814) rfl rfl rfl hdX10_isSignal 0 rfl rfl rfl ⟨Nat.le_of_ble_eq_true rfl, Nat.le_of_ble_eq_true rfl⟩ rfl (Nat.le_of_ble_eq_true rfl) ⟨Nat.zero_le _, Nat.zero_le _⟩ dX10_of_2) [0, 1, 2, 3, 4, 5, 6, 7, 8, 9, 10, 11] rfl (by decide) (fun r1 u1 h => ?_)
  refine z_if_eq (pc := 5) (tgt := 18) C dX10_of_5 (by decide) (fun c2 => ?_) (fun c2 => ?_)
  · have h := h.1 c2
    refine z_iconst (pc := 18) (v := -1) C dX10_of_18 (by decide) ?_
    exact hret 19 _ _ (-1 : Int32) () rfl h dX10_of_19
  · have h := h.2 c2
    refine z_iload_n (pc := 8) C 2 dX10_of_8 rfl ?_
    refine z_iconst (pc := 9) (v := 0) C dX10_of_9 (by decide) ?_
    refine z_bipush (pc := 10) (v := 13) C dX10_of_10 (by decide) ?_
    refine z_call0i (pc := 12) C (z_runS (pc := 12) (wc := ([] : va_W)) (As := [.int x2, .int (0 : Int32), .int (13 : Int32)]) C (fun sz => kX10_isIn x2 (0 : Int32) (13 : Int32) sz h) [] rfl (by decide) (gdS wq849 wq852 wq853 wq814) rfl rfl rfl hdSX10_isIn ⟨Nat.le_of_ble_eq_true rfl, Nat.le_of_ble_eq_true rfl⟩ rfl (Nat.le_of_ble_eq_true rfl) ⟨Nat.zero_le _, Nat.zero_le _⟩ dX10_of_12) (fun r3 u3 h => ?_)
    refine z_if_ne (pc := 15) (tgt := 20) C dX10_of_15 (by decide) (fun c4 => ?_) (fun c4 => ?_)
    · have h := h.1 c4
      refine z_iload_n (pc := 20) C 2 dX10_of_20 rfl ?_
      refine z_bipush (pc := 21) (v := 6) C dX10_of_21 (by decide) ?_
      refine z_icmp_ge (pc := 23) (tgt := 33) C dX10_of_23 (by decide) (fun c5 => ?_) (fun c5 => ?_)
      · have h := h.1 c5
        refine z_iload_n (pc := 33) C 2 dX10_of_33 rfl ?_
        refine z_bipush (pc := 34) (v := 6) C dX10_of_34 (by decide) ?_
        refine z_icmp_ne (pc := 36) (tgt := 45) C dX10_of_36 (by decide) (fun c6 => ?_) (fun c6 => ?_)
        · have h := h.1 c6
          refine z_iload_n (pc := 45) C 2 dX10_of_45 rfl ?_
          refine z_bipush (pc := 46) (v := 10) C dX10_of_46 (by decide) ?_
          refine z_icmp_ge (pc := 48) (tgt := 64) C dX10_of_48 (by decide) (fun c7 => ?_) (fun c7 => ?_)
          · have h := h.1 c7
            refine z_iload_n (pc := 64) C 2 dX10_of_64 rfl ?_
            refine z_bipush (pc := 65) (v := 10) C dX10_of_65 (by decide) ?_
            refine z_icmp_ne (pc := 67) (tgt := 80) C dX10_of_67 (by decide) (fun c8 => ?_) (fun c8 => ?_)
            · have h := h.1 c8
              refine z_iload_n (pc := 80) C 2 dX10_of_80 rfl ?_
              refine z_bipush (pc := 81) (v := 11) C dX10_of_81 (by decide) ?_
              refine z_icmp_ne (pc := 83) (tgt := 96) C dX10_of_83 (by decide) (fun c9 => ?_) (fun c9 => ?_)
              · have h := h.1 c9
                refine z_iload_n (pc := 96) C 2 dX10_of_96 rfl ?_
                refine z_bipush (pc := 97) (v := 12) C dX10_of_97 (by decide) ?_
                refine z_icmp_ne (pc := 99) (tgt := 110) C dX10_of_99 (by decide) (fun c10 => ?_) (fun c10 => ?_)
                · have h := h.1 c10
                  refine z_aload_n (pc := 110) C 0 dX10_of_110 rfl ?_
                  refine z_iload_n (pc := 111) C 1 dX10_of_111 rfl ?_
                  refine z_bipush (pc := 112) (v := 20) C dX10_of_112 (by decide) ?_
                  refine z_callRi (pc := 114) C (z_runV (pc := 114) (wc := (wX10 cI cJ d v g)) (As := [.int x1, .int (20 : Int32)]) C (fun sz => kX10_at d v g x1 (20 : Int32) sz h) [0, 1, 2, 3, 4, 5, 6, 7, 8, 9, 10, 11] rfl (by decide) (gdV wq808 wq811 wq812 wq813 wq814) rfl rfl rfl hdX10_at 0 rfl rfl rfl ⟨Nat.le_of_ble_eq_true rfl, Nat.le_of_ble_eq_true rfl⟩ rfl (Nat.le_of_ble_eq_true rfl) ⟨Nat.zero_le _, Nat.zero_le _⟩ dX10_of_114) [0, 1, 2, 3, 4, 5, 6, 7, 8, 9, 10, 11] rfl (by decide) (fun r11 u11 h => ?_)
                  exact hret 117 _ _ r11 () rfl h dX10_of_117
                · have h := h.2 c10
                  refine z_aload_n (pc := 102) C 0 dX10_of_102 rfl ?_
                  refine z_iload_n (pc := 103) C 1 dX10_of_103 rfl ?_
                  refine z_callRi (pc := 104) C (z_runV (pc := 104) (wc := (wX10 cI cJ d v g)) (As := [.int x1]) C (fun sz => kX10_meets d v g x1 sz h) [0, 1, 2, 3, 4, 5, 6, 7, 8, 9, 10, 11] rfl (by decide) (gdV wq859 wq913 wq914 wq915 wq814) rfl rfl rfl hdX10_meets 0 rfl rfl rfl ⟨Nat.le_of_ble_eq_true rfl, Nat.le_of_ble_eq_true rfl⟩ rfl (Nat.le_of_ble_eq_true rfl) ⟨Nat.zero_le _, Nat.zero_le _⟩ dX10_of_104) [0, 1, 2, 3, 4, 5, 6, 7, 8, 9, 10, 11] rfl (by decide) (fun r12 u12 h => ?_)
                  refine z_goto (pc := 107) (tgt := 117) C dX10_of_107 (by decide) ?_
                  exact hret 117 _ _ r12 () rfl h dX10_of_117
              · have h := h.2 c9
                refine z_aload_n (pc := 86) C 0 dX10_of_86 rfl ?_
                refine z_iload_n (pc := 87) C 1 dX10_of_87 rfl ?_
                refine z_bipush (pc := 88) (v := 11) C dX10_of_88 (by decide) ?_
                refine z_callRi (pc := 90) C (z_runV (pc := 90) (wc := (wX10 cI cJ d v g)) (As := [.int x1, .int (11 : Int32)]) C (fun sz => kX10_at d v g x1 (11 : Int32) sz h) [0, 1, 2, 3, 4, 5, 6, 7, 8, 9, 10, 11] rfl (by decide) (gdV wq808 wq811 wq812 wq813 wq814) rfl rfl rfl hdX10_at 0 rfl rfl rfl ⟨Nat.le_of_ble_eq_true rfl, Nat.le_of_ble_eq_true rfl⟩ rfl (Nat.le_of_ble_eq_true rfl) ⟨Nat.zero_le _, Nat.zero_le _⟩ dX10_of_90) [0, 1, 2, 3, 4, 5, 6, 7, 8, 9, 10, 11] rfl (by decide) (fun r13 u13 h => ?_)
                refine z_goto (pc := 93) (tgt := 117) C dX10_of_93 (by decide) ?_
                exact hret 117 _ _ r13 () rfl h dX10_of_117
            · have h := h.2 c8
              refine z_aload_n (pc := 70) C 0 dX10_of_70 rfl ?_
              refine z_iload_n (pc := 71) C 1 dX10_of_71 rfl ?_
              refine z_bipush (pc := 72) (v := 10) C dX10_of_72 (by decide) ?_
              refine z_callRi (pc := 74) C (z_runV (pc := 74) (wc := (wX10 cI cJ d v g)) (As := [.int x1, .int (10 : Int32)]) C (fun sz => kX10_at d v g x1 (10 : Int32) sz h) [0, 1, 2, 3, 4, 5, 6, 7, 8, 9, 10, 11] rfl (by decide) (gdV wq808 wq811 wq812 wq813 wq814) rfl rfl rfl hdX10_at 0 rfl rfl rfl ⟨Nat.le_of_ble_eq_true rfl, Nat.le_of_ble_eq_true rfl⟩ rfl (Nat.le_of_ble_eq_true rfl) ⟨Nat.zero_le _, Nat.zero_le _⟩ dX10_of_74) [0, 1, 2, 3, 4, 5, 6, 7, 8, 9, 10, 11] rfl (by decide) (fun r14 u14 h => ?_)
              refine z_goto (pc := 77) (tgt := 117) C dX10_of_77 (by decide) ?_
              exact hret 117 _ _ r14 () rfl h dX10_of_117
          · have h := h.2 c7
            refine z_aload_n (pc := 51) C 0 dX10_of_51 rfl ?_
            refine z_iload_n (pc := 52) C 1 dX10_of_52 rfl ?_
            refine z_bipush (pc := 53) (v := 7) C dX10_of_53 (by decide) ?_
            refine z_iload_n (pc := 55) C 2 dX10_of_55 rfl ?_
            refine z_iadd (pc := 56) C dX10_of_56 ?_
            refine z_bipush (pc := 57) (v := 7) C dX10_of_57 (by decide) ?_
            refine z_isub (pc := 59) C dX10_of_59 ?_
            refine z_callRi (pc := 60) C (z_runV (pc := 60) (wc := (wX10 cI cJ d v g)) (As := [.int x1, .int (((7 : Int32) + x2) - (7 : Int32))]) C (fun sz => kX10_at d v g x1 (((7 : Int32) + x2) - (7 : Int32)) sz h) [0, 1, 2, 3, 4, 5, 6, 7, 8, 9, 10, 11] rfl (by decide) (gdV wq808 wq811 wq812 wq813 wq814) rfl rfl rfl hdX10_at 0 rfl rfl rfl ⟨Nat.le_of_ble_eq_true rfl, Nat.le_of_ble_eq_true rfl⟩ rfl (Nat.le_of_ble_eq_true rfl) ⟨Nat.zero_le _, Nat.zero_le _⟩ dX10_of_60) [0, 1, 2, 3, 4, 5, 6, 7, 8, 9, 10, 11] rfl (by decide) (fun r15 u15 h => ?_)
            exact hret 63 _ _ r15 () rfl h dX10_of_63
        · have h := h.2 c6
          refine z_aload_n (pc := 39) C 0 dX10_of_39 rfl ?_
          refine z_iload_n (pc := 40) C 1 dX10_of_40 rfl ?_
          refine z_callRi (pc := 41) C (z_runV (pc := 41) (wc := (wX10 cI cJ d v g)) (As := [.int x1]) C (fun sz => kX10_light d v g x1 sz h) [0, 1, 2, 3, 4, 5, 6, 7, 8, 9, 10, 11] rfl (by decide) (gdV wq1012 wq1014 wq1015 wq1016 wq814) rfl rfl rfl hdX10_light 0 rfl rfl rfl ⟨Nat.le_of_ble_eq_true rfl, Nat.le_of_ble_eq_true rfl⟩ rfl (Nat.le_of_ble_eq_true rfl) ⟨Nat.zero_le _, Nat.zero_le _⟩ dX10_of_41) [0, 1, 2, 3, 4, 5, 6, 7, 8, 9, 10, 11] rfl (by decide) (fun r16 u16 h => ?_)
          exact hret 44 _ _ r16 () rfl h dX10_of_44
      · have h := h.2 c5
        refine z_aload_n (pc := 26) C 0 dX10_of_26 rfl ?_
        refine z_iload_n (pc := 27) C 1 dX10_of_27 rfl ?_
        refine z_iload_n (pc := 28) C 2 dX10_of_28 rfl ?_
        refine z_callRi (pc := 29) C (z_runV (pc := 29) (wc := (wX10 cI cJ d v g)) (As := [.int x1, .int x2]) C (fun sz => kX10_at d v g x1 x2 sz h) [0, 1, 2, 3, 4, 5, 6, 7, 8, 9, 10, 11] rfl (by decide) (gdV wq808 wq811 wq812 wq813 wq814) rfl rfl rfl hdX10_at 0 rfl rfl rfl ⟨Nat.le_of_ble_eq_true rfl, Nat.le_of_ble_eq_true rfl⟩ rfl (Nat.le_of_ble_eq_true rfl) ⟨Nat.zero_le _, Nat.zero_le _⟩ dX10_of_29) [0, 1, 2, 3, 4, 5, 6, 7, 8, 9, 10, 11] rfl (by decide) (fun r17 u17 h => ?_)
        exact hret 32 _ _ r17 () rfl h dX10_of_32
    · have h := h.2 c4
      refine z_iconst (pc := 18) (v := -1) C dX10_of_18 (by decide) ?_
      exact hret 19 _ _ (-1 : Int32) () rfl h dX10_of_19

def pX10_way (v : Lf) (x1 : Int32) (x2 : Int32) (Q : Int32 → Prop) : Prop := (pX10_isSignal v x1 (fun r1 => ((¬ r1 = 0 → (pX10_at v x1 (11 : Int32) (fun r3 => (pX10_isIn x2 (0 : Int32) (r3 - (1 : Int32)) (fun r4 => ((r4 = 0 → (Q (-2 : Int32) )) ∧ (¬ r4 = 0 → (pX10_at v x1 ((12 : Int32) + x2) (fun r6 => (Q r6 )))))))))) ∧ (r1 = 0 → (Q (-1 : Int32) )))))
abbrev rmX10_way : Room := { frames := 2, cells := 0, slots := 0, locals := 43 }
abbrev wdX10_way : List Cond := Cond.code yX10_way cX10_way 3 (some .int) :: TB
theorem hdSX10_way : (yX10_way).cls ≠ "java/lang/invoke/MethodHandle" ∧ (yX10_way).cls ≠ "java/lang/invoke/VarHandle" ∧ (parseMethodDescriptor (yX10_way).desc).map (fun d => d.parameters.length) = some 2 := by decide +kernel
theorem hdX10_way : (yX10_way).cls = RX10 ∧ (yX10_way).cls ≠ "java/lang/invoke/MethodHandle" ∧ (yX10_way).cls ≠ "java/lang/invoke/VarHandle" ∧ (parseMethodDescriptor (yX10_way).desc).map (fun d => d.parameters.length) = some 2 := ⟨rfl, hdSX10_way⟩
set_option maxHeartbeats 4000000 in
set_option maxRecDepth 100000 in
theorem kX10_way {l : Launch} {D : va_G} {cI cJ cT : ClassId} (d : Nat → Nat)  (v : Lf) (g : Lg) (x1 : Int32) (x2 : Int32) {Q : Int32 → Prop} (sz : Nat) (h : pX10_way v x1 x2 Q) : Met l yX10_way wdX10_way rmX10_way (Pz D (tyL cI cJ cT) [.ref (d 0), .int x1, .int x2] (wX10 cI cJ d v g) sz) (va_Qi (fun (r : Int32) (u : Unit) => Q r) (Bz D (tyL cI cJ cT) (wX10 cI cJ d v g) sz (fun (u : Unit) => (wX10 cI cJ d v g))) (va_A (wX10 cI cJ d v g) sz)) 0 0 (va_A (wX10 cI cJ d v g) sz) := by
  refine z_meti (cc := cX10_way) (maxL := 3) (own := RX10) (lv0 := [(0, .ref (d 0)), (1, .int x1), (2, .int x2)]) (by decide) rfl rfl (Nat.le_of_ble_eq_true rfl) rfl ?_
  intro p e s m args below meth c A QQ C hin hret
  refine z_aload_n (pc := 0) C 0 dX10_way_0 rfl ?_
  refine z_iload_n (pc := 1) C 1 dX10_way_1 rfl ?_
  refine z_callRi (pc := 2) C (z_runV (pc := 2) (wc := (wX10 cI cJ d v g)) (As := [.int x1]) C (fun sz => kX10_isSignal d v g x1 sz h) [0, 1, 2, 3, 4, 5, 6, 7, 8, 9, 10, 11] rfl (by decide) (gdV wq851 wq875 wq876 wq877 wq814) rfl rfl rfl hdX10_isSignal 0 rfl rfl rfl ⟨Nat.le_of_ble_eq_true rfl, Nat.le_of_ble_eq_true rfl⟩ rfl (Nat.le_of_ble_eq_true rfl) ⟨Nat.zero_le _, Nat.zero_le _⟩ dX10_way_2) [0, 1, 2, 3, 4, 5, 6, 7, 8, 9, 10, 11] rfl (by decide) (fun r1 u1 h => ?_)
  refine z_if_ne (pc := 5) (tgt := 10) C dX10_way_5 (by decide) (fun c2 => ?_) (fun c2 => ?_)
  · have h := h.1 c2
    refine z_iload_n (pc := 10) C 2 dX10_way_10 rfl ?_
    refine z_iconst (pc := 11) (v := 0) C dX10_way_11 (by decide) ?_
    refine z_aload_n (pc := 12) C 0 dX10_way_12 rfl ?_
    refine z_iload_n (pc := 13) C 1 dX10_way_13 rfl ?_
    refine z_bipush (pc := 14) (v := 11) C dX10_way_14 (by decide) ?_
    refine z_callRi (pc := 16) C (z_runV (pc := 16) (wc := (wX10 cI cJ d v g)) (As := [.int x1, .int (11 : Int32)]) C (fun sz => kX10_at d v g x1 (11 : Int32) sz h) [0, 1, 2, 3, 4, 5, 6, 7, 8, 9, 10, 11] rfl (by decide) (gdV wq808 wq811 wq812 wq813 wq814) rfl rfl rfl hdX10_at 0 rfl rfl rfl ⟨Nat.le_of_ble_eq_true rfl, Nat.le_of_ble_eq_true rfl⟩ rfl (Nat.le_of_ble_eq_true rfl) ⟨Nat.zero_le _, Nat.zero_le _⟩ dX10_way_16) [0, 1, 2, 3, 4, 5, 6, 7, 8, 9, 10, 11] rfl (by decide) (fun r3 u3 h => ?_)
    refine z_iconst (pc := 19) (v := 1) C dX10_way_19 (by decide) ?_
    refine z_isub (pc := 20) C dX10_way_20 ?_
    refine z_call0i (pc := 21) C (z_runS (pc := 21) (wc := ([] : va_W)) (As := [.int x2, .int (0 : Int32), .int (r3 - (1 : Int32))]) C (fun sz => kX10_isIn x2 (0 : Int32) (r3 - (1 : Int32)) sz h) [] rfl (by decide) (gdS wq849 wq852 wq853 wq814) rfl rfl rfl hdSX10_isIn ⟨Nat.le_of_ble_eq_true rfl, Nat.le_of_ble_eq_true rfl⟩ rfl (Nat.le_of_ble_eq_true rfl) ⟨Nat.zero_le _, Nat.zero_le _⟩ dX10_way_21) (fun r4 u4 h => ?_)
    refine z_if_eq (pc := 24) (tgt := 39) C dX10_way_24 (by decide) (fun c5 => ?_) (fun c5 => ?_)
    · have h := h.1 c5
      refine z_bipush (pc := 39) (v := -2) C dX10_way_39 (by decide) ?_
      exact hret 41 _ _ (-2 : Int32) () rfl h dX10_way_41
    · have h := h.2 c5
      refine z_aload_n (pc := 27) C 0 dX10_way_27 rfl ?_
      refine z_iload_n (pc := 28) C 1 dX10_way_28 rfl ?_
      refine z_bipush (pc := 29) (v := 12) C dX10_way_29 (by decide) ?_
      refine z_iload_n (pc := 31) C 2 dX10_way_31 rfl ?_
      refine z_iadd (pc := 32) C dX10_way_32 ?_
      refine z_callRi (pc := 33) C (z_runV (pc := 33) (wc := (wX10 cI cJ d v g)) (As := [.int x1, .int ((12 : Int32) + x2)]) C (fun sz => kX10_at d v g x1 ((12 : Int32) + x2) sz h) [0, 1, 2, 3, 4, 5, 6, 7, 8, 9, 10, 11] rfl (by decide) (gdV wq808 wq811 wq812 wq813 wq814) rfl rfl rfl hdX10_at 0 rfl rfl rfl ⟨Nat.le_of_ble_eq_true rfl, Nat.le_of_ble_eq_true rfl⟩ rfl (Nat.le_of_ble_eq_true rfl) ⟨Nat.zero_le _, Nat.zero_le _⟩ dX10_way_33) [0, 1, 2, 3, 4, 5, 6, 7, 8, 9, 10, 11] rfl (by decide) (fun r6 u6 h => ?_)
      refine z_goto (pc := 36) (tgt := 41) C dX10_way_36 (by decide) ?_
      exact hret 41 _ _ r6 () rfl h dX10_way_41
  · have h := h.2 c2
    refine z_iconst (pc := 8) (v := -1) C dX10_way_8 (by decide) ?_
    exact hret 9 _ _ (-1 : Int32) () rfl h dX10_way_9

def pX10_clear (v : Lf) (x1 : Int32) (x2 : Int32) (Q : Int32 → Prop) : Prop := (pX10_isSignal v x1 (fun r1 => ((r1 = 0 → (Q (-1 : Int32) )) ∧ (¬ r1 = 0 → (pX10_isSignal v x2 (fun r3 => ((r3 = 0 → (Q (-1 : Int32) )) ∧ (¬ r3 = 0 → (vp_in (((8 : Int32) * x1) + x2) 64 ∧ (Q (v 4 (((8 : Int32) * x1) + x2).toNatClampNeg) ))))))))))
abbrev rmX10_clear : Room := { frames := 2, cells := 0, slots := 0, locals := 43 }
abbrev wdX10_clear : List Cond := Cond.code yX10_clear cX10_clear 3 (some .int) :: TB
theorem hdSX10_clear : (yX10_clear).cls ≠ "java/lang/invoke/MethodHandle" ∧ (yX10_clear).cls ≠ "java/lang/invoke/VarHandle" ∧ (parseMethodDescriptor (yX10_clear).desc).map (fun d => d.parameters.length) = some 2 := by decide +kernel
theorem hdX10_clear : (yX10_clear).cls = RX10 ∧ (yX10_clear).cls ≠ "java/lang/invoke/MethodHandle" ∧ (yX10_clear).cls ≠ "java/lang/invoke/VarHandle" ∧ (parseMethodDescriptor (yX10_clear).desc).map (fun d => d.parameters.length) = some 2 := ⟨rfl, hdSX10_clear⟩
set_option maxHeartbeats 4000000 in
set_option maxRecDepth 100000 in
theorem kX10_clear {l : Launch} {D : va_G} {cI cJ cT : ClassId} (d : Nat → Nat)  (v : Lf) (g : Lg) (x1 : Int32) (x2 : Int32) {Q : Int32 → Prop} (sz : Nat) (h : pX10_clear v x1 x2 Q) : Met l yX10_clear wdX10_clear rmX10_clear (Pz D (tyL cI cJ cT) [.ref (d 0), .int x1, .int x2] (wX10 cI cJ d v g) sz) (va_Qi (fun (r : Int32) (u : Unit) => Q r) (Bz D (tyL cI cJ cT) (wX10 cI cJ d v g) sz (fun (u : Unit) => (wX10 cI cJ d v g))) (va_A (wX10 cI cJ d v g) sz)) 0 0 (va_A (wX10 cI cJ d v g) sz) := by
  refine z_meti (cc := cX10_clear) (maxL := 3) (own := RX10) (lv0 := [(0, .ref (d 0)), (1, .int x1), (2, .int x2)]) (by decide) rfl rfl (Nat.le_of_ble_eq_true rfl) rfl ?_
  intro p e s m args below meth c A QQ C hin hret
  refine z_aload_n (pc := 0) C 0 dX10_clear_0 rfl ?_
  refine z_iload_n (pc := 1) C 1 dX10_clear_1 rfl ?_
  refine z_callRi (pc := 2) C (z_runV (pc := 2) (wc := (wX10 cI cJ d v g)) (As := [.int x1]) C (fun sz => kX10_isSignal d v g x1 sz h) [0, 1, 2, 3, 4, 5, 6, 7, 8, 9, 10, 11] rfl (by decide) (gdV wq851 wq875 wq876 wq877 wq814) rfl rfl rfl hdX10_isSignal 0 rfl rfl rfl ⟨Nat.le_of_ble_eq_true rfl, Nat.le_of_ble_eq_true rfl⟩ rfl (Nat.le_of_ble_eq_true rfl) ⟨Nat.zero_le _, Nat.zero_le _⟩ dX10_clear_2) [0, 1, 2, 3, 4, 5, 6, 7, 8, 9, 10, 11] rfl (by decide) (fun r1 u1 h => ?_)
  refine z_if_eq (pc := 5) (tgt := 30) C dX10_clear_5 (by decide) (fun c2 => ?_) (fun c2 => ?_)
  · have h := h.1 c2
    refine z_iconst (pc := 30) (v := -1) C dX10_clear_30 (by decide) ?_
    exact hret 31 _ _ (-1 : Int32) () rfl h dX10_clear_31
  · have h := h.2 c2
    refine z_aload_n (pc := 8) C 0 dX10_clear_8 rfl ?_
    refine z_iload_n (pc := 9) C 2 dX10_clear_9 rfl ?_
    refine z_callRi (pc := 10) C (z_runV (pc := 10) (wc := (wX10 cI cJ d v g)) (As := [.int x2]) C (fun sz => kX10_isSignal d v g x2 sz h) [0, 1, 2, 3, 4, 5, 6, 7, 8, 9, 10, 11] rfl (by decide) (gdV wq851 wq875 wq876 wq877 wq814) rfl rfl rfl hdX10_isSignal 0 rfl rfl rfl ⟨Nat.le_of_ble_eq_true rfl, Nat.le_of_ble_eq_true rfl⟩ rfl (Nat.le_of_ble_eq_true rfl) ⟨Nat.zero_le _, Nat.zero_le _⟩ dX10_clear_10) [0, 1, 2, 3, 4, 5, 6, 7, 8, 9, 10, 11] rfl (by decide) (fun r3 u3 h => ?_)
    refine z_if_eq (pc := 13) (tgt := 30) C dX10_clear_13 (by decide) (fun c4 => ?_) (fun c4 => ?_)
    · have h := h.1 c4
      refine z_iconst (pc := 30) (v := -1) C dX10_clear_30 (by decide) ?_
      exact hret 31 _ _ (-1 : Int32) () rfl h dX10_clear_31
    · have h := h.2 c4
      refine z_aload_n (pc := 16) C 0 dX10_clear_16 rfl ?_
      refine z_get (pc := 17) C uw10 0 rfl rfl 5 (by decide) wq820 rfl dX10_clear_17 ?_
      refine z_bipush (pc := 20) (v := 8) C dX10_clear_20 (by decide) ?_
      refine z_iload_n (pc := 22) C 1 dX10_clear_22 rfl ?_
      refine z_imul (pc := 23) C dX10_clear_23 ?_
      refine z_iload_n (pc := 24) C 2 dX10_clear_24 rfl ?_
      refine z_iadd (pc := 25) C dX10_clear_25 ?_
      obtain ⟨g5, h⟩ := h
      refine z_iald (pc := 26) C 4 0 rfl rfl g5 (v 4 (((8 : Int32) * x1) + x2).toNatClampNeg) rfl dX10_clear_26 ?_
      refine z_goto (pc := 27) (tgt := 31) C dX10_clear_27 (by decide) ?_
      exact hret 31 _ _ (v 4 (((8 : Int32) * x1) + x2).toNatClampNeg) () rfl h dX10_clear_31

def pX10_narrow (v : Lf) (x1 : Int32) (x2 : Int32) (Q : Int32 → Prop) : Prop := (pX10_isSignal v x1 (fun r1 => ((r1 = 0 → (Q (-1 : Int32) )) ∧ (¬ r1 = 0 → (pX10_isSignal v x2 (fun r3 => ((r3 = 0 → (Q (-1 : Int32) )) ∧ (¬ r3 = 0 → (vp_in (((8 : Int32) * x1) + x2) 64 ∧ (Q (v 5 (((8 : Int32) * x1) + x2).toNatClampNeg) ))))))))))
abbrev rmX10_narrow : Room := { frames := 2, cells := 0, slots := 0, locals := 43 }
abbrev wdX10_narrow : List Cond := Cond.code yX10_narrow cX10_narrow 3 (some .int) :: TB
theorem hdSX10_narrow : (yX10_narrow).cls ≠ "java/lang/invoke/MethodHandle" ∧ (yX10_narrow).cls ≠ "java/lang/invoke/VarHandle" ∧ (parseMethodDescriptor (yX10_narrow).desc).map (fun d => d.parameters.length) = some 2 := by decide +kernel
theorem hdX10_narrow : (yX10_narrow).cls = RX10 ∧ (yX10_narrow).cls ≠ "java/lang/invoke/MethodHandle" ∧ (yX10_narrow).cls ≠ "java/lang/invoke/VarHandle" ∧ (parseMethodDescriptor (yX10_narrow).desc).map (fun d => d.parameters.length) = some 2 := ⟨rfl, hdSX10_narrow⟩
set_option maxHeartbeats 4000000 in
set_option maxRecDepth 100000 in
theorem kX10_narrow {l : Launch} {D : va_G} {cI cJ cT : ClassId} (d : Nat → Nat)  (v : Lf) (g : Lg) (x1 : Int32) (x2 : Int32) {Q : Int32 → Prop} (sz : Nat) (h : pX10_narrow v x1 x2 Q) : Met l yX10_narrow wdX10_narrow rmX10_narrow (Pz D (tyL cI cJ cT) [.ref (d 0), .int x1, .int x2] (wX10 cI cJ d v g) sz) (va_Qi (fun (r : Int32) (u : Unit) => Q r) (Bz D (tyL cI cJ cT) (wX10 cI cJ d v g) sz (fun (u : Unit) => (wX10 cI cJ d v g))) (va_A (wX10 cI cJ d v g) sz)) 0 0 (va_A (wX10 cI cJ d v g) sz) := by
  refine z_meti (cc := cX10_narrow) (maxL := 3) (own := RX10) (lv0 := [(0, .ref (d 0)), (1, .int x1), (2, .int x2)]) (by decide) rfl rfl (Nat.le_of_ble_eq_true rfl) rfl ?_
  intro p e s m args below meth c A QQ C hin hret
  refine z_aload_n (pc := 0) C 0 dX10_narrow_0 rfl ?_
  refine z_iload_n (pc := 1) C 1 dX10_narrow_1 rfl ?_
  refine z_callRi (pc := 2) C (z_runV (pc := 2) (wc := (wX10 cI cJ d v g)) (As := [.int x1]) C (fun sz => kX10_isSignal d v g x1 sz h) [0, 1, 2, 3, 4, 5, 6, 7, 8, 9, 10, 11] rfl (by decide) (gdV wq851 wq875 wq876 wq877 wq814) rfl rfl rfl hdX10_isSignal 0 rfl rfl rfl ⟨Nat.le_of_ble_eq_true rfl, Nat.le_of_ble_eq_true rfl⟩ rfl (Nat.le_of_ble_eq_true rfl) ⟨Nat.zero_le _, Nat.zero_le _⟩ dX10_narrow_2) [0, 1, 2, 3, 4, 5, 6, 7, 8, 9, 10, 11] rfl (by decide) (fun r1 u1 h => ?_)
  refine z_if_eq (pc := 5) (tgt := 30) C dX10_narrow_5 (by decide) (fun c2 => ?_) (fun c2 => ?_)
  · have h := h.1 c2
    refine z_iconst (pc := 30) (v := -1) C dX10_narrow_30 (by decide) ?_
    exact hret 31 _ _ (-1 : Int32) () rfl h dX10_narrow_31
  · have h := h.2 c2
    refine z_aload_n (pc := 8) C 0 dX10_narrow_8 rfl ?_
    refine z_iload_n (pc := 9) C 2 dX10_narrow_9 rfl ?_
    refine z_callRi (pc := 10) C (z_runV (pc := 10) (wc := (wX10 cI cJ d v g)) (As := [.int x2]) C (fun sz => kX10_isSignal d v g x2 sz h) [0, 1, 2, 3, 4, 5, 6, 7, 8, 9, 10, 11] rfl (by decide) (gdV wq851 wq875 wq876 wq877 wq814) rfl rfl rfl hdX10_isSignal 0 rfl rfl rfl ⟨Nat.le_of_ble_eq_true rfl, Nat.le_of_ble_eq_true rfl⟩ rfl (Nat.le_of_ble_eq_true rfl) ⟨Nat.zero_le _, Nat.zero_le _⟩ dX10_narrow_10) [0, 1, 2, 3, 4, 5, 6, 7, 8, 9, 10, 11] rfl (by decide) (fun r3 u3 h => ?_)
    refine z_if_eq (pc := 13) (tgt := 30) C dX10_narrow_13 (by decide) (fun c4 => ?_) (fun c4 => ?_)
    · have h := h.1 c4
      refine z_iconst (pc := 30) (v := -1) C dX10_narrow_30 (by decide) ?_
      exact hret 31 _ _ (-1 : Int32) () rfl h dX10_narrow_31
    · have h := h.2 c4
      refine z_aload_n (pc := 16) C 0 dX10_narrow_16 rfl ?_
      refine z_get (pc := 17) C uw10 0 rfl rfl 6 (by decide) wq819 rfl dX10_narrow_17 ?_
      refine z_bipush (pc := 20) (v := 8) C dX10_narrow_20 (by decide) ?_
      refine z_iload_n (pc := 22) C 1 dX10_narrow_22 rfl ?_
      refine z_imul (pc := 23) C dX10_narrow_23 ?_
      refine z_iload_n (pc := 24) C 2 dX10_narrow_24 rfl ?_
      refine z_iadd (pc := 25) C dX10_narrow_25 ?_
      obtain ⟨g5, h⟩ := h
      refine z_iald (pc := 26) C 5 0 rfl rfl g5 (v 5 (((8 : Int32) * x1) + x2).toNatClampNeg) rfl dX10_narrow_26 ?_
      refine z_goto (pc := 27) (tgt := 31) C dX10_narrow_27 (by decide) ?_
      exact hret 31 _ _ (v 5 (((8 : Int32) * x1) + x2).toNatClampNeg) () rfl h dX10_narrow_31

def pX10_table_J130 (v : Lf) (x1 : Int32) (Q : Int32 → Prop) (K24 : Int32 → Int32 → Int32 → Int32 → Int32 → Prop) (K53 : Int32 → Int32 → Int32 → Int32 → Int32 → Int32 → Prop) (x2 : Int32) (x3 : Int32) (x4 : Int32) (x5 : Int32) (x6 : Int32) (x7 : Int32) : Prop := (K53 x2 x3 x4 x5 x6 (x7 + 1))
def pX10_table_J92 (v : Lf) (x1 : Int32) (Q : Int32 → Prop) (K24 : Int32 → Int32 → Int32 → Int32 → Int32 → Prop) (K53 : Int32 → Int32 → Int32 → Int32 → Int32 → Int32 → Prop) (x3 : Int32) (x4 : Int32) (x5 : Int32) (x6 : Int32) (x7 : Int32) (t0 : Int32) (t1 : Int32) : Prop := (vp_in (((8 : Int32) * x6) + x7) 64 ∧ (vp_in (((8 : Int32) * x6) + x7) 64 ∧ (pX10_table_J130 v x1 Q K24 K53 (t0 + t1) (if x3 < (v 4 (((8 : Int32) * x6) + x7).toNatClampNeg) then (v 4 (((8 : Int32) * x6) + x7).toNatClampNeg) else x3) (x4 + (v 4 (((8 : Int32) * x6) + x7).toNatClampNeg)) x5 x6 x7)))
def pX10_table_L53 (v : Lf) (x1 : Int32) (Q : Int32 → Prop) (K24 : Int32 → Int32 → Int32 → Int32 → Int32 → Prop) : Nat → Int32 → Int32 → Int32 → Int32 → Int32 → Int32 → Prop
  | 0, _, _, _, _, _, _ => False
  | n53 + 1, x2, x3, x4, x5, x6, x7 => (((v 1 13) ≤ x7 → (K24 x2 x3 x4 x5 (x6 + 1))) ∧ (¬ (v 1 13) ≤ x7 → (pX10_meet v x6 x7 (fun r12 => ((¬ r12 = 0 → ((x7 ≤ x6 → (pX10_table_J92 v x1 Q K24 (fun x2 x3 x4 x5 x6 x7 => pX10_table_L53 v x1 Q K24 n53 x2 x3 x4 x5 x6 x7) x3 x4 x5 x6 x7 x2 (0 : Int32))) ∧ (¬ x7 ≤ x6 → (pX10_table_J92 v x1 Q K24 (fun x2 x3 x4 x5 x6 x7 => pX10_table_L53 v x1 Q K24 n53 x2 x3 x4 x5 x6 x7) x3 x4 x5 x6 x7 x2 (1 : Int32))))) ∧ (r12 = 0 → (pX10_table_J130 v x1 Q K24 (fun x2 x3 x4 x5 x6 x7 => pX10_table_L53 v x1 Q K24 n53 x2 x3 x4 x5 x6 x7) x2 x3 x4 x5 x6 x7)))))))
def pX10_table_L24 (v : Lf) (x1 : Int32) (Q : Int32 → Prop) : Nat → Int32 → Int32 → Int32 → Int32 → Int32 → Prop
  | 0, _, _, _, _, _ => False
  | n24 + 1, x2, x3, x4, x5, x6 => (((v 1 13) ≤ x6 → ((¬ x1 = 0 → ((¬ x1 = (1 : Int32) → ((¬ x1 = (2 : Int32) → (Q (((v 1 14) + (1 : Int32)) * ((x3 + x5) + (1 : Int32))) )) ∧ (x1 = (2 : Int32) → (Q x4 )))) ∧ (x1 = (1 : Int32) → (Q x3 )))) ∧ (x1 = 0 → (Q x2 )))) ∧ (¬ (v 1 13) ≤ x6 → (pX10_at v x6 (2 : Int32) (fun r9 => (∃ n53, pX10_table_L53 v x1 Q (fun x2 x3 x4 x5 x6 => pX10_table_L24 v x1 Q n24 x2 x3 x4 x5 x6) n53 x2 x3 x4 (if x5 < r9 then r9 else x5) x6 (0 : Int32))))))
def pX10_table (v : Lf) (x1 : Int32) (Q : Int32 → Prop) : Prop := (pX10_isIn x1 (0 : Int32) (3 : Int32) (fun r1 => ((¬ r1 = 0 → (∃ n24, pX10_table_L24 v x1 Q  n24 (0 : Int32) (0 : Int32) (0 : Int32) (0 : Int32) (0 : Int32))) ∧ (r1 = 0 → (Q (-1 : Int32) )))))
abbrev rmX10_table : Room := { frames := 1, cells := 0, slots := 0, locals := 40 }
abbrev wdX10_table : List Cond := Cond.code yX10_table cX10_table 8 (some .int) :: TB
theorem hdSX10_table : (yX10_table).cls ≠ "java/lang/invoke/MethodHandle" ∧ (yX10_table).cls ≠ "java/lang/invoke/VarHandle" ∧ (parseMethodDescriptor (yX10_table).desc).map (fun d => d.parameters.length) = some 1 := by decide +kernel
theorem hdX10_table : (yX10_table).cls = RX10 ∧ (yX10_table).cls ≠ "java/lang/invoke/MethodHandle" ∧ (yX10_table).cls ≠ "java/lang/invoke/VarHandle" ∧ (parseMethodDescriptor (yX10_table).desc).map (fun d => d.parameters.length) = some 1 := ⟨rfl, hdSX10_table⟩
set_option maxHeartbeats 4000000 in
set_option maxRecDepth 100000 in
theorem kX10_table {l : Launch} {D : va_G} {cI cJ cT : ClassId} (d : Nat → Nat)  (v : Lf) (g : Lg) (x1 : Int32) {Q : Int32 → Prop} (sz : Nat) (h : pX10_table v x1 Q) : Met l yX10_table wdX10_table rmX10_table (Pz D (tyL cI cJ cT) [.ref (d 0), .int x1] (wX10 cI cJ d v g) sz) (va_Qi (fun (r : Int32) (u : Unit) => Q r) (Bz D (tyL cI cJ cT) (wX10 cI cJ d v g) sz (fun (u : Unit) => (wX10 cI cJ d v g))) (va_A (wX10 cI cJ d v g) sz)) 0 0 (va_A (wX10 cI cJ d v g) sz) := by
  refine z_meti (cc := cX10_table) (maxL := 8) (own := RX10) (lv0 := [(0, .ref (d 0)), (1, .int x1)]) (by decide) rfl rfl (Nat.le_of_ble_eq_true rfl) rfl ?_
  intro p e s m args below meth c A QQ C hin hret
  have J130 : ∀ (K24 : Int32 → Int32 → Int32 → Int32 → Int32 → Prop), (∀ (x2 : Int32) (x3 : Int32) (x4 : Int32) (x5 : Int32) (x6 : Int32), K24 x2 x3 x4 x5 x6 → ZZ p l e rmX10_table s m args below meth c D A 8 0 0 QQ 24 (wX10 cI cJ d v g) [(0, .ref (d 0)), (1, .int x1), (2, .int x2), (3, .int x3), (4, .int x4), (5, .int x5), (6, .int x6)] []) → ∀ (K53 : Int32 → Int32 → Int32 → Int32 → Int32 → Int32 → Prop), (∀ (x2 : Int32) (x3 : Int32) (x4 : Int32) (x5 : Int32) (x6 : Int32) (x7 : Int32), K53 x2 x3 x4 x5 x6 x7 → ZZ p l e rmX10_table s m args below meth c D A 8 0 0 QQ 53 (wX10 cI cJ d v g) [(0, .ref (d 0)), (1, .int x1), (2, .int x2), (3, .int x3), (4, .int x4), (5, .int x5), (6, .int x6), (7, .int x7)] []) → ∀ (x2 : Int32) (x3 : Int32) (x4 : Int32) (x5 : Int32) (x6 : Int32) (x7 : Int32), pX10_table_J130 v x1 Q K24 K53 x2 x3 x4 x5 x6 x7 → ZZ p l e rmX10_table s m args below meth c D A 8 0 0 QQ 130 (wX10 cI cJ d v g) [(0, .ref (d 0)), (1, .int x1), (2, .int x2), (3, .int x3), (4, .int x4), (5, .int x5), (6, .int x6), (7, .int x7)] [] := by
    intro K24 hK24 K53 hK53 x2 x3 x4 x5 x6 x7 h
    refine z_iinc (pc := 130) (v := (x7 + 1)) (lv' := [(7, .int (x7 + 1)), (0, .ref (d 0)), (1, .int x1), (2, .int x2), (3, .int x3), (4, .int x4), (5, .int x5), (6, .int x6)]) C 7 dX10_table_130 rfl rfl (by decide) rfl ?_
    refine z_goto (pc := 133) (tgt := 53) C dX10_table_133 (by decide) ?_
    refine z_sub (lv' := [(0, .ref (d 0)), (1, .int x1), (2, .int x2), (3, .int x3), (4, .int x4), (5, .int x5), (6, .int x6), (7, .int (x7 + 1))]) [1, 2, 3, 4, 5, 6, 7, 0] rfl ?_
    exact hK53 x2 x3 x4 x5 x6 (x7 + 1) h
  have J92 : ∀ (K24 : Int32 → Int32 → Int32 → Int32 → Int32 → Prop), (∀ (x2 : Int32) (x3 : Int32) (x4 : Int32) (x5 : Int32) (x6 : Int32), K24 x2 x3 x4 x5 x6 → ZZ p l e rmX10_table s m args below meth c D A 8 0 0 QQ 24 (wX10 cI cJ d v g) [(0, .ref (d 0)), (1, .int x1), (2, .int x2), (3, .int x3), (4, .int x4), (5, .int x5), (6, .int x6)] []) → ∀ (K53 : Int32 → Int32 → Int32 → Int32 → Int32 → Int32 → Prop), (∀ (x2 : Int32) (x3 : Int32) (x4 : Int32) (x5 : Int32) (x6 : Int32) (x7 : Int32), K53 x2 x3 x4 x5 x6 x7 → ZZ p l e rmX10_table s m args below meth c D A 8 0 0 QQ 53 (wX10 cI cJ d v g) [(0, .ref (d 0)), (1, .int x1), (2, .int x2), (3, .int x3), (4, .int x4), (5, .int x5), (6, .int x6), (7, .int x7)] []) → ∀ (x3 : Int32) (x4 : Int32) (x5 : Int32) (x6 : Int32) (x7 : Int32) (t0 : Int32) (t1 : Int32), pX10_table_J92 v x1 Q K24 K53 x3 x4 x5 x6 x7 t0 t1 → ZZ p l e rmX10_table s m args below meth c D A 8 0 0 QQ 92 (wX10 cI cJ d v g) [(0, .ref (d 0)), (1, .int x1), (3, .int x3), (4, .int x4), (5, .int x5), (6, .int x6), (7, .int x7)] [.int t1, .int t0] := by
    intro K24 hK24 K53 hK53 x3 x4 x5 x6 x7 t0 t1 h
    refine z_iadd (pc := 92) C dX10_table_92 ?_
    refine z_istore_n (pc := 93) (lv' := [(2, .int (t0 + t1)), (0, .ref (d 0)), (1, .int x1), (3, .int x3), (4, .int x4), (5, .int x5), (6, .int x6), (7, .int x7)]) C dX10_table_93 (by decide) rfl ?_
    refine z_iload_n (pc := 94) C 3 dX10_table_94 rfl ?_
    refine z_aload_n (pc := 95) C 1 dX10_table_95 rfl ?_
    refine z_get (pc := 96) C uw10 0 rfl rfl 5 (by decide) wq820 rfl dX10_table_96 ?_
    refine z_bipush (pc := 99) (v := 8) C dX10_table_99 (by decide) ?_
    refine z_iload (pc := 101) C 6 dX10_table_101 rfl ?_
    refine z_imul (pc := 103) C dX10_table_103 ?_
    refine z_iload (pc := 104) C 7 dX10_table_104 rfl ?_
    refine z_iadd (pc := 106) C dX10_table_106 ?_
    obtain ⟨g15, h⟩ := h
    refine z_iald (pc := 107) C 4 0 rfl rfl g15 (v 4 (((8 : Int32) * x6) + x7).toNatClampNeg) rfl dX10_table_107 ?_
    refine z_mmax (pc := 108) C wq821 wq302 wq78 wq303 (Nat.le_of_ble_eq_true rfl) (Nat.le_of_ble_eq_true rfl) (Nat.zero_le _) (Nat.zero_le _) dX10_table_108 ?_
    refine z_istore_n (pc := 111) (lv' := [(3, .int (if x3 < (v 4 (((8 : Int32) * x6) + x7).toNatClampNeg) then (v 4 (((8 : Int32) * x6) + x7).toNatClampNeg) else x3)), (2, .int (t0 + t1)), (0, .ref (d 0)), (1, .int x1), (4, .int x4), (5, .int x5), (6, .int x6), (7, .int x7)]) C dX10_table_111 (by decide) rfl ?_
    refine z_iload (pc := 112) C 4 dX10_table_112 rfl ?_
    refine z_aload_n (pc := 114) C 2 dX10_table_114 rfl ?_
    refine z_get (pc := 115) C uw10 0 rfl rfl 5 (by decide) wq820 rfl dX10_table_115 ?_
    refine z_bipush (pc := 118) (v := 8) C dX10_table_118 (by decide) ?_
    refine z_iload (pc := 120) C 6 dX10_table_120 rfl ?_
    refine z_imul (pc := 122) C dX10_table_122 ?_
    refine z_iload (pc := 123) C 7 dX10_table_123 rfl ?_
    refine z_iadd (pc := 125) C dX10_table_125 ?_
    obtain ⟨g16, h⟩ := h
    refine z_iald (pc := 126) C 4 0 rfl rfl g16 (v 4 (((8 : Int32) * x6) + x7).toNatClampNeg) rfl dX10_table_126 ?_
    refine z_iadd (pc := 127) C dX10_table_127 ?_
    refine z_istore (pc := 128) (lv' := [(4, .int (x4 + (v 4 (((8 : Int32) * x6) + x7).toNatClampNeg))), (3, .int (if x3 < (v 4 (((8 : Int32) * x6) + x7).toNatClampNeg) then (v 4 (((8 : Int32) * x6) + x7).toNatClampNeg) else x3)), (2, .int (t0 + t1)), (0, .ref (d 0)), (1, .int x1), (5, .int x5), (6, .int x6), (7, .int x7)]) C dX10_table_128 (by decide) rfl ?_
    refine z_sub (lv' := [(0, .ref (d 0)), (1, .int x1), (2, .int (t0 + t1)), (3, .int (if x3 < (v 4 (((8 : Int32) * x6) + x7).toNatClampNeg) then (v 4 (((8 : Int32) * x6) + x7).toNatClampNeg) else x3)), (4, .int (x4 + (v 4 (((8 : Int32) * x6) + x7).toNatClampNeg))), (5, .int x5), (6, .int x6), (7, .int x7)]) [3, 4, 2, 1, 0, 5, 6, 7] rfl ?_
    exact J130 K24 hK24 K53 hK53 (t0 + t1) (if x3 < (v 4 (((8 : Int32) * x6) + x7).toNatClampNeg) then (v 4 (((8 : Int32) * x6) + x7).toNatClampNeg) else x3) (x4 + (v 4 (((8 : Int32) * x6) + x7).toNatClampNeg)) x5 x6 x7 h
  have L53 : ∀ (K24 : Int32 → Int32 → Int32 → Int32 → Int32 → Prop), (∀ (x2 : Int32) (x3 : Int32) (x4 : Int32) (x5 : Int32) (x6 : Int32), K24 x2 x3 x4 x5 x6 → ZZ p l e rmX10_table s m args below meth c D A 8 0 0 QQ 24 (wX10 cI cJ d v g) [(0, .ref (d 0)), (1, .int x1), (2, .int x2), (3, .int x3), (4, .int x4), (5, .int x5), (6, .int x6)] []) → ∀ (n53 : Nat) (x2 : Int32) (x3 : Int32) (x4 : Int32) (x5 : Int32) (x6 : Int32) (x7 : Int32), pX10_table_L53 v x1 Q K24 n53 x2 x3 x4 x5 x6 x7 → ZZ p l e rmX10_table s m args below meth c D A 8 0 0 QQ 53 (wX10 cI cJ d v g) [(0, .ref (d 0)), (1, .int x1), (2, .int x2), (3, .int x3), (4, .int x4), (5, .int x5), (6, .int x6), (7, .int x7)] [] := by
    intro K24 hK24
    intro n53
    induction n53 with
    | zero => intro x2 x3 x4 x5 x6 x7 h; exact False.elim h
    | succ n53 ih53 =>
      intro x2 x3 x4 x5 x6 x7 h
      refine z_iload (pc := 53) C 7 dX10_table_53 rfl ?_
      refine z_aload_n (pc := 55) C 0 dX10_table_55 rfl ?_
      refine z_get (pc := 56) C uw10 0 rfl rfl 0 (by decide) wq809 rfl dX10_table_56 ?_
      refine z_bipush (pc := 59) (v := 13) C dX10_table_59 (by decide) ?_
      refine z_iald (pc := 61) C 1 0 rfl rfl vi_13_372 (v 1 13) (congrArg _ cl_13) dX10_table_61 ?_
      refine z_icmp_ge (pc := 62) (tgt := 136) C dX10_table_62 (by decide) (fun c11 => ?_) (fun c11 => ?_)
      · have h := h.1 c11
        refine z_iinc (pc := 136) (v := (x6 + 1)) (lv' := [(6, .int (x6 + 1)), (0, .ref (d 0)), (1, .int x1), (2, .int x2), (3, .int x3), (4, .int x4), (5, .int x5), (7, .int x7)]) C 6 dX10_table_136 rfl rfl (by decide) rfl ?_
        refine z_goto (pc := 139) (tgt := 24) C dX10_table_139 (by decide) ?_
        refine z_sub (lv' := [(0, .ref (d 0)), (1, .int x1), (2, .int x2), (3, .int x3), (4, .int x4), (5, .int x5), (6, .int (x6 + 1))]) [1, 2, 3, 4, 5, 6, 0] rfl ?_
        exact hK24 x2 x3 x4 x5 (x6 + 1) h
      · have h := h.2 c11
        refine z_aload_n (pc := 65) C 0 dX10_table_65 rfl ?_
        refine z_iload (pc := 66) C 6 dX10_table_66 rfl ?_
        refine z_iload (pc := 68) C 7 dX10_table_68 rfl ?_
        refine z_callRi (pc := 70) C (z_runV (pc := 70) (wc := (wX10 cI cJ d v g)) (As := [.int x6, .int x7]) C (fun sz => kX10_meet d v g x6 x7 sz h) [0, 1, 2, 3, 4, 5, 6, 7, 8, 9, 10, 11] rfl (by decide) (gdV wq858 wq860 wq861 wq862 wq814) rfl rfl rfl hdX10_meet 0 rfl rfl rfl ⟨Nat.le_of_ble_eq_true rfl, Nat.le_of_ble_eq_true rfl⟩ rfl (Nat.le_of_ble_eq_true rfl) ⟨Nat.zero_le _, Nat.zero_le _⟩ dX10_table_70) [0, 1, 2, 3, 4, 5, 6, 7, 8, 9, 10, 11] rfl (by decide) (fun r12 u12 h => ?_)
        refine z_if_ne (pc := 73) (tgt := 79) C dX10_table_73 (by decide) (fun c13 => ?_) (fun c13 => ?_)
        · have h := h.1 c13
          refine z_iload_n (pc := 79) C 2 dX10_table_79 rfl ?_
          refine z_iload (pc := 80) C 6 dX10_table_80 rfl ?_
          refine z_iload (pc := 82) C 7 dX10_table_82 rfl ?_
          refine z_icmp_ge (pc := 84) (tgt := 91) C dX10_table_84 (by decide) (fun c14 => ?_) (fun c14 => ?_)
          · have h := h.1 c14
            refine z_iconst (pc := 91) (v := 0) C dX10_table_91 (by decide) ?_
            refine z_sub (lv' := [(0, .ref (d 0)), (1, .int x1), (3, .int x3), (4, .int x4), (5, .int x5), (6, .int x6), (7, .int x7)]) [0, 1, 3, 4, 5, 6, 7] rfl ?_
            exact J92 K24 hK24 (fun x2 x3 x4 x5 x6 x7 => pX10_table_L53 v x1 Q K24 n53 x2 x3 x4 x5 x6 x7) ih53 x3 x4 x5 x6 x7 x2 (0 : Int32) h
          · have h := h.2 c14
            refine z_iconst (pc := 87) (v := 1) C dX10_table_87 (by decide) ?_
            refine z_goto (pc := 88) (tgt := 92) C dX10_table_88 (by decide) ?_
            refine z_sub (lv' := [(0, .ref (d 0)), (1, .int x1), (3, .int x3), (4, .int x4), (5, .int x5), (6, .int x6), (7, .int x7)]) [0, 1, 3, 4, 5, 6, 7] rfl ?_
            exact J92 K24 hK24 (fun x2 x3 x4 x5 x6 x7 => pX10_table_L53 v x1 Q K24 n53 x2 x3 x4 x5 x6 x7) ih53 x3 x4 x5 x6 x7 x2 (1 : Int32) h
        · have h := h.2 c13
          refine z_goto (pc := 76) (tgt := 130) C dX10_table_76 (by decide) ?_
          exact J130 K24 hK24 (fun x2 x3 x4 x5 x6 x7 => pX10_table_L53 v x1 Q K24 n53 x2 x3 x4 x5 x6 x7) ih53 x2 x3 x4 x5 x6 x7 h
  have L24 : ∀ (n24 : Nat) (x2 : Int32) (x3 : Int32) (x4 : Int32) (x5 : Int32) (x6 : Int32), pX10_table_L24 v x1 Q n24 x2 x3 x4 x5 x6 → ZZ p l e rmX10_table s m args below meth c D A 8 0 0 QQ 24 (wX10 cI cJ d v g) [(0, .ref (d 0)), (1, .int x1), (2, .int x2), (3, .int x3), (4, .int x4), (5, .int x5), (6, .int x6)] [] := by
    intro n24
    induction n24 with
    | zero => intro x2 x3 x4 x5 x6 h; exact False.elim h
    | succ n24 ih24 =>
      intro x2 x3 x4 x5 x6 h
      refine z_iload (pc := 24) C 6 dX10_table_24 rfl ?_
      refine z_aload_n (pc := 26) C 0 dX10_table_26 rfl ?_
      refine z_get (pc := 27) C uw10 0 rfl rfl 0 (by decide) wq809 rfl dX10_table_27 ?_
      refine z_bipush (pc := 30) (v := 13) C dX10_table_30 (by decide) ?_
      refine z_iald (pc := 32) C 1 0 rfl rfl vi_13_372 (v 1 13) (congrArg _ cl_13) dX10_table_32 ?_
      refine z_icmp_ge (pc := 33) (tgt := 142) C dX10_table_33 (by decide) (fun c4 => ?_) (fun c4 => ?_)
      · have h := h.1 c4
        refine z_iload_n (pc := 142) C 1 dX10_table_142 rfl ?_
        refine z_if_ne (pc := 143) (tgt := 150) C dX10_table_143 (by decide) (fun c5 => ?_) (fun c5 => ?_)
        · have h := h.1 c5
          refine z_iload_n (pc := 150) C 1 dX10_table_150 rfl ?_
          refine z_iconst (pc := 151) (v := 1) C dX10_table_151 (by decide) ?_
          refine z_icmp_ne (pc := 152) (tgt := 159) C dX10_table_152 (by decide) (fun c6 => ?_) (fun c6 => ?_)
          · have h := h.1 c6
            refine z_iload_n (pc := 159) C 1 dX10_table_159 rfl ?_
            refine z_iconst (pc := 160) (v := 2) C dX10_table_160 (by decide) ?_
            refine z_icmp_ne (pc := 161) (tgt := 169) C dX10_table_161 (by decide) (fun c7 => ?_) (fun c7 => ?_)
            · have h := h.1 c7
              refine z_aload_n (pc := 169) C 0 dX10_table_169 rfl ?_
              refine z_get (pc := 170) C uw10 0 rfl rfl 0 (by decide) wq809 rfl dX10_table_170 ?_
              refine z_bipush (pc := 173) (v := 14) C dX10_table_173 (by decide) ?_
              refine z_iald (pc := 175) C 1 0 rfl rfl vi_14_372 (v 1 14) (congrArg _ cl_14) dX10_table_175 ?_
              refine z_iconst (pc := 176) (v := 1) C dX10_table_176 (by decide) ?_
              refine z_iadd (pc := 177) C dX10_table_177 ?_
              refine z_iload_n (pc := 178) C 3 dX10_table_178 rfl ?_
              refine z_iload (pc := 179) C 5 dX10_table_179 rfl ?_
              refine z_iadd (pc := 181) C dX10_table_181 ?_
              refine z_iconst (pc := 182) (v := 1) C dX10_table_182 (by decide) ?_
              refine z_iadd (pc := 183) C dX10_table_183 ?_
              refine z_imul (pc := 184) C dX10_table_184 ?_
              exact hret 185 _ _ (((v 1 14) + (1 : Int32)) * ((x3 + x5) + (1 : Int32))) () rfl h dX10_table_185
            · have h := h.2 c7
              refine z_iload (pc := 164) C 4 dX10_table_164 rfl ?_
              refine z_goto (pc := 166) (tgt := 185) C dX10_table_166 (by decide) ?_
              exact hret 185 _ _ x4 () rfl h dX10_table_185
          · have h := h.2 c6
            refine z_iload_n (pc := 155) C 3 dX10_table_155 rfl ?_
            refine z_goto (pc := 156) (tgt := 185) C dX10_table_156 (by decide) ?_
            exact hret 185 _ _ x3 () rfl h dX10_table_185
        · have h := h.2 c5
          refine z_iload_n (pc := 146) C 2 dX10_table_146 rfl ?_
          refine z_goto (pc := 147) (tgt := 185) C dX10_table_147 (by decide) ?_
          exact hret 185 _ _ x2 () rfl h dX10_table_185
      · have h := h.2 c4
        refine z_iload (pc := 36) C 5 dX10_table_36 rfl ?_
        refine z_aload_n (pc := 38) C 0 dX10_table_38 rfl ?_
        refine z_iload (pc := 39) C 6 dX10_table_39 rfl ?_
        refine z_iconst (pc := 41) (v := 2) C dX10_table_41 (by decide) ?_
        refine z_callRi (pc := 42) C (z_runV (pc := 42) (wc := (wX10 cI cJ d v g)) (As := [.int x6, .int (2 : Int32)]) C (fun sz => kX10_at d v g x6 (2 : Int32) sz h) [0, 1, 2, 3, 4, 5, 6, 7, 8, 9, 10, 11] rfl (by decide) (gdV wq808 wq811 wq812 wq813 wq814) rfl rfl rfl hdX10_at 0 rfl rfl rfl ⟨Nat.le_of_ble_eq_true rfl, Nat.le_of_ble_eq_true rfl⟩ rfl (Nat.le_of_ble_eq_true rfl) ⟨Nat.zero_le _, Nat.zero_le _⟩ dX10_table_42) [0, 1, 2, 3, 4, 5, 6, 7, 8, 9, 10, 11] rfl (by decide) (fun r9 u9 h => ?_)
        refine z_mmax (pc := 45) C wq821 wq302 wq78 wq303 (Nat.le_of_ble_eq_true rfl) (Nat.le_of_ble_eq_true rfl) (Nat.zero_le _) (Nat.zero_le _) dX10_table_45 ?_
        refine z_istore (pc := 48) (lv' := [(5, .int (if x5 < r9 then r9 else x5)), (0, .ref (d 0)), (1, .int x1), (2, .int x2), (3, .int x3), (4, .int x4), (6, .int x6)]) C dX10_table_48 (by decide) rfl ?_
        refine z_iconst (pc := 50) (v := 0) C dX10_table_50 (by decide) ?_
        refine z_istore (pc := 51) (lv' := [(7, .int (0 : Int32)), (5, .int (if x5 < r9 then r9 else x5)), (0, .ref (d 0)), (1, .int x1), (2, .int x2), (3, .int x3), (4, .int x4), (6, .int x6)]) C dX10_table_51 (by decide) rfl ?_
        obtain ⟨n53, h⟩ := h
        refine z_sub (lv' := [(0, .ref (d 0)), (1, .int x1), (2, .int x2), (3, .int x3), (4, .int x4), (5, .int (if x5 < r9 then r9 else x5)), (6, .int x6), (7, .int (0 : Int32))]) [2, 3, 4, 5, 6, 1, 7, 0] rfl ?_
        exact L53 (fun x2 x3 x4 x5 x6 => pX10_table_L24 v x1 Q n24 x2 x3 x4 x5 x6) ih24 n53 x2 x3 x4 (if x5 < r9 then r9 else x5) x6 (0 : Int32) h
  refine z_iload_n (pc := 0) C 1 dX10_table_0 rfl ?_
  refine z_iconst (pc := 1) (v := 0) C dX10_table_1 (by decide) ?_
  refine z_iconst (pc := 2) (v := 3) C dX10_table_2 (by decide) ?_
  refine z_call0i (pc := 3) C (z_runS (pc := 3) (wc := ([] : va_W)) (As := [.int x1, .int (0 : Int32), .int (3 : Int32)]) C (fun sz => kX10_isIn x1 (0 : Int32) (3 : Int32) sz h) [] rfl (by decide) (gdS wq849 wq852 wq853 wq814) rfl rfl rfl hdSX10_isIn ⟨Nat.le_of_ble_eq_true rfl, Nat.le_of_ble_eq_true rfl⟩ rfl (Nat.le_of_ble_eq_true rfl) ⟨Nat.zero_le _, Nat.zero_le _⟩ dX10_table_3) (fun r1 u1 h => ?_)
  refine z_if_ne (pc := 6) (tgt := 11) C dX10_table_6 (by decide) (fun c2 => ?_) (fun c2 => ?_)
  · have h := h.1 c2
    refine z_iconst (pc := 11) (v := 0) C dX10_table_11 (by decide) ?_
    refine z_istore_n (pc := 12) (lv' := [(2, .int (0 : Int32)), (0, .ref (d 0)), (1, .int x1)]) C dX10_table_12 (by decide) rfl ?_
    refine z_iconst (pc := 13) (v := 0) C dX10_table_13 (by decide) ?_
    refine z_istore_n (pc := 14) (lv' := [(3, .int (0 : Int32)), (2, .int (0 : Int32)), (0, .ref (d 0)), (1, .int x1)]) C dX10_table_14 (by decide) rfl ?_
    refine z_iconst (pc := 15) (v := 0) C dX10_table_15 (by decide) ?_
    refine z_istore (pc := 16) (lv' := [(4, .int (0 : Int32)), (3, .int (0 : Int32)), (2, .int (0 : Int32)), (0, .ref (d 0)), (1, .int x1)]) C dX10_table_16 (by decide) rfl ?_
    refine z_iconst (pc := 18) (v := 0) C dX10_table_18 (by decide) ?_
    refine z_istore (pc := 19) (lv' := [(5, .int (0 : Int32)), (4, .int (0 : Int32)), (3, .int (0 : Int32)), (2, .int (0 : Int32)), (0, .ref (d 0)), (1, .int x1)]) C dX10_table_19 (by decide) rfl ?_
    refine z_iconst (pc := 21) (v := 0) C dX10_table_21 (by decide) ?_
    refine z_istore (pc := 22) (lv' := [(6, .int (0 : Int32)), (5, .int (0 : Int32)), (4, .int (0 : Int32)), (3, .int (0 : Int32)), (2, .int (0 : Int32)), (0, .ref (d 0)), (1, .int x1)]) C dX10_table_22 (by decide) rfl ?_
    obtain ⟨n24, h⟩ := h
    refine z_sub (lv' := [(0, .ref (d 0)), (1, .int x1), (2, .int (0 : Int32)), (3, .int (0 : Int32)), (4, .int (0 : Int32)), (5, .int (0 : Int32)), (6, .int (0 : Int32))]) [5, 6, 4, 3, 2, 1, 0] rfl ?_
    exact L24  n24 (0 : Int32) (0 : Int32) (0 : Int32) (0 : Int32) (0 : Int32) h
  · have h := h.2 c2
    refine z_iconst (pc := 9) (v := -1) C dX10_table_9 (by decide) ?_
    exact hret 10 _ _ (-1 : Int32) () rfl h dX10_table_10

def pX10_phaseOf (v : Lf) (x1 : Int32) (x2 : Int32) (Q : Int32 → Prop) : Prop := (pX10_isPhase v x1 (fun r1 => ((r1 = 0 → (Q (-1 : Int32) )) ∧ (¬ r1 = 0 → (pX10_isIn x2 (0 : Int32) (3 : Int32) (fun r3 => ((¬ r3 = 0 → (((3 : Int32) ≤ x2 → (pX10_isCalled v x1 (fun r6 => ((r6 = 0 → (Q (0 : Int32) )) ∧ (¬ r6 = 0 → (Q (1 : Int32) )))))) ∧ (¬ (3 : Int32) ≤ x2 → (vp_in (((216 : Int32) + ((3 : Int32) * x1)) + x2) 372 ∧ (Q (v 1 (((216 : Int32) + ((3 : Int32) * x1)) + x2).toNatClampNeg) ))))) ∧ (r3 = 0 → (Q (-1 : Int32) )))))))))
abbrev rmX10_phaseOf : Room := { frames := 2, cells := 0, slots := 0, locals := 45 }
abbrev wdX10_phaseOf : List Cond := Cond.code yX10_phaseOf cX10_phaseOf 3 (some .int) :: TB
theorem hdSX10_phaseOf : (yX10_phaseOf).cls ≠ "java/lang/invoke/MethodHandle" ∧ (yX10_phaseOf).cls ≠ "java/lang/invoke/VarHandle" ∧ (parseMethodDescriptor (yX10_phaseOf).desc).map (fun d => d.parameters.length) = some 2 := by decide +kernel
theorem hdX10_phaseOf : (yX10_phaseOf).cls = RX10 ∧ (yX10_phaseOf).cls ≠ "java/lang/invoke/MethodHandle" ∧ (yX10_phaseOf).cls ≠ "java/lang/invoke/VarHandle" ∧ (parseMethodDescriptor (yX10_phaseOf).desc).map (fun d => d.parameters.length) = some 2 := ⟨rfl, hdSX10_phaseOf⟩
set_option maxHeartbeats 4000000 in
set_option maxRecDepth 100000 in
theorem kX10_phaseOf {l : Launch} {D : va_G} {cI cJ cT : ClassId} (d : Nat → Nat)  (v : Lf) (g : Lg) (x1 : Int32) (x2 : Int32) {Q : Int32 → Prop} (sz : Nat) (h : pX10_phaseOf v x1 x2 Q) : Met l yX10_phaseOf wdX10_phaseOf rmX10_phaseOf (Pz D (tyL cI cJ cT) [.ref (d 0), .int x1, .int x2] (wX10 cI cJ d v g) sz) (va_Qi (fun (r : Int32) (u : Unit) => Q r) (Bz D (tyL cI cJ cT) (wX10 cI cJ d v g) sz (fun (u : Unit) => (wX10 cI cJ d v g))) (va_A (wX10 cI cJ d v g) sz)) 0 0 (va_A (wX10 cI cJ d v g) sz) := by
  refine z_meti (cc := cX10_phaseOf) (maxL := 3) (own := RX10) (lv0 := [(0, .ref (d 0)), (1, .int x1), (2, .int x2)]) (by decide) rfl rfl (Nat.le_of_ble_eq_true rfl) rfl ?_
  intro p e s m args below meth c A QQ C hin hret
  refine z_aload_n (pc := 0) C 0 dX10_phaseOf_0 rfl ?_
  refine z_iload_n (pc := 1) C 1 dX10_phaseOf_1 rfl ?_
  refine z_callRi (pc := 2) C (z_runV (pc := 2) (wc := (wX10 cI cJ d v g)) (As := [.int x1]) C (fun sz => kX10_isPhase d v g x1 sz h) [0, 1, 2, 3, 4, 5, 6, 7, 8, 9, 10, 11] rfl (by decide) (gdV wq854 wq1027 wq1028 wq1029 wq814) rfl rfl rfl hdX10_isPhase 0 rfl rfl rfl ⟨Nat.le_of_ble_eq_true rfl, Nat.le_of_ble_eq_true rfl⟩ rfl (Nat.le_of_ble_eq_true rfl) ⟨Nat.zero_le _, Nat.zero_le _⟩ dX10_phaseOf_2) [0, 1, 2, 3, 4, 5, 6, 7, 8, 9, 10, 11] rfl (by decide) (fun r1 u1 h => ?_)
  refine z_if_eq (pc := 5) (tgt := 17) C dX10_phaseOf_5 (by decide) (fun c2 => ?_) (fun c2 => ?_)
  · have h := h.1 c2
    refine z_iconst (pc := 17) (v := -1) C dX10_phaseOf_17 (by decide) ?_
    exact hret 18 _ _ (-1 : Int32) () rfl h dX10_phaseOf_18
  · have h := h.2 c2
    refine z_iload_n (pc := 8) C 2 dX10_phaseOf_8 rfl ?_
    refine z_iconst (pc := 9) (v := 0) C dX10_phaseOf_9 (by decide) ?_
    refine z_iconst (pc := 10) (v := 3) C dX10_phaseOf_10 (by decide) ?_
    refine z_call0i (pc := 11) C (z_runS (pc := 11) (wc := ([] : va_W)) (As := [.int x2, .int (0 : Int32), .int (3 : Int32)]) C (fun sz => kX10_isIn x2 (0 : Int32) (3 : Int32) sz h) [] rfl (by decide) (gdS wq849 wq852 wq853 wq814) rfl rfl rfl hdSX10_isIn ⟨Nat.le_of_ble_eq_true rfl, Nat.le_of_ble_eq_true rfl⟩ rfl (Nat.le_of_ble_eq_true rfl) ⟨Nat.zero_le _, Nat.zero_le _⟩ dX10_phaseOf_11) (fun r3 u3 h => ?_)
    refine z_if_ne (pc := 14) (tgt := 19) C dX10_phaseOf_14 (by decide) (fun c4 => ?_) (fun c4 => ?_)
    · have h := h.1 c4
      refine z_iload_n (pc := 19) C 2 dX10_phaseOf_19 rfl ?_
      refine z_iconst (pc := 20) (v := 3) C dX10_phaseOf_20 (by decide) ?_
      refine z_icmp_ge (pc := 21) (tgt := 41) C dX10_phaseOf_21 (by decide) (fun c5 => ?_) (fun c5 => ?_)
      · have h := h.1 c5
        refine z_aload_n (pc := 41) C 0 dX10_phaseOf_41 rfl ?_
        refine z_iload_n (pc := 42) C 1 dX10_phaseOf_42 rfl ?_
        refine z_callRi (pc := 43) C (z_runV (pc := 43) (wc := (wX10 cI cJ d v g)) (As := [.int x1]) C (fun sz => kX10_isCalled d v g x1 sz h) [0, 1, 2, 3, 4, 5, 6, 7, 8, 9, 10, 11] rfl (by decide) (gdV wq936 wq941 wq942 wq943 wq814) rfl rfl rfl hdX10_isCalled 0 rfl rfl rfl ⟨Nat.le_of_ble_eq_true rfl, Nat.le_of_ble_eq_true rfl⟩ rfl (Nat.le_of_ble_eq_true rfl) ⟨Nat.zero_le _, Nat.zero_le _⟩ dX10_phaseOf_43) [0, 1, 2, 3, 4, 5, 6, 7, 8, 9, 10, 11] rfl (by decide) (fun r6 u6 h => ?_)
        refine z_if_eq (pc := 46) (tgt := 53) C dX10_phaseOf_46 (by decide) (fun c7 => ?_) (fun c7 => ?_)
        · have h := h.1 c7
          refine z_iconst (pc := 53) (v := 0) C dX10_phaseOf_53 (by decide) ?_
          exact hret 54 _ _ (0 : Int32) () rfl h dX10_phaseOf_54
        · have h := h.2 c7
          refine z_iconst (pc := 49) (v := 1) C dX10_phaseOf_49 (by decide) ?_
          refine z_goto (pc := 50) (tgt := 54) C dX10_phaseOf_50 (by decide) ?_
          exact hret 54 _ _ (1 : Int32) () rfl h dX10_phaseOf_54
      · have h := h.2 c5
        refine z_aload_n (pc := 24) C 0 dX10_phaseOf_24 rfl ?_
        refine z_get (pc := 25) C uw10 0 rfl rfl 0 (by decide) wq809 rfl dX10_phaseOf_25 ?_
        refine z_sipush (pc := 28) (v := 216) C dX10_phaseOf_28 (by decide) ?_
        refine z_iconst (pc := 31) (v := 3) C dX10_phaseOf_31 (by decide) ?_
        refine z_iload_n (pc := 32) C 1 dX10_phaseOf_32 rfl ?_
        refine z_imul (pc := 33) C dX10_phaseOf_33 ?_
        refine z_iadd (pc := 34) C dX10_phaseOf_34 ?_
        refine z_iload_n (pc := 35) C 2 dX10_phaseOf_35 rfl ?_
        refine z_iadd (pc := 36) C dX10_phaseOf_36 ?_
        obtain ⟨g8, h⟩ := h
        refine z_iald (pc := 37) C 1 0 rfl rfl g8 (v 1 (((216 : Int32) + ((3 : Int32) * x1)) + x2).toNatClampNeg) rfl dX10_phaseOf_37 ?_
        refine z_goto (pc := 38) (tgt := 54) C dX10_phaseOf_38 (by decide) ?_
        exact hret 54 _ _ (v 1 (((216 : Int32) + ((3 : Int32) * x1)) + x2).toNatClampNeg) () rfl h dX10_phaseOf_54
    · have h := h.2 c4
      refine z_iconst (pc := 17) (v := -1) C dX10_phaseOf_17 (by decide) ?_
      exact hret 18 _ _ (-1 : Int32) () rfl h dX10_phaseOf_18

def pX10_taken_J81 (v : Lf) (x1 : Int32) (x2 : Int32) (Q : Int32 → Prop) (x3 : Int32) (t0 : Int32) : Prop := ((t0 = 0 → (Q (-12 : Int32) )) ∧ (¬ t0 = 0 → (Q x3 )))
def pX10_taken_J76 (v : Lf) (x1 : Int32) (x2 : Int32) (Q : Int32 → Prop) (x3 : Int32) : Prop := (pX10_taken_J81 v x1 x2 Q  x3 (1 : Int32))
def pX10_taken_J80 (v : Lf) (x1 : Int32) (x2 : Int32) (Q : Int32 → Prop) (x3 : Int32) : Prop := (pX10_taken_J81 v x1 x2 Q  x3 (0 : Int32))
def pX10_taken_J66 (v : Lf) (x1 : Int32) (x2 : Int32) (Q : Int32 → Prop) (x3 : Int32) : Prop := ((¬ x2 = (4 : Int32) → (pX10_taken_J80 v x1 x2 Q  x3)) ∧ (x2 = (4 : Int32) → ((¬ x3 = (1 : Int32) → (pX10_taken_J80 v x1 x2 Q  x3)) ∧ (x3 = (1 : Int32) → (pX10_taken_J76 v x1 x2 Q  x3)))))
def pX10_taken_J57 (v : Lf) (x1 : Int32) (x2 : Int32) (Q : Int32 → Prop) (x3 : Int32) : Prop := ((¬ x2 = (3 : Int32) → (pX10_taken_J66 v x1 x2 Q  x3)) ∧ (x2 = (3 : Int32) → ((x3 = 0 → (pX10_taken_J76 v x1 x2 Q  x3)) ∧ (¬ x3 = 0 → (pX10_taken_J66 v x1 x2 Q  x3)))))
def pX10_taken_J43 (v : Lf) (x1 : Int32) (x2 : Int32) (Q : Int32 → Prop) (x3 : Int32) : Prop := ((¬ x2 = (2 : Int32) → (pX10_taken_J57 v x1 x2 Q  x3)) ∧ (x2 = (2 : Int32) → ((x3 = 0 → (pX10_taken_J76 v x1 x2 Q  x3)) ∧ (¬ x3 = 0 → ((x3 = (2 : Int32) → (pX10_taken_J76 v x1 x2 Q  x3)) ∧ (¬ x3 = (2 : Int32) → (pX10_taken_J57 v x1 x2 Q  x3)))))))
def pX10_taken (v : Lf) (x1 : Int32) (x2 : Int32) (Q : Int32 → Prop) : Prop := (pX10_isSignal v x1 (fun r1 => ((¬ r1 = 0 → (pX10_isIn x2 (0 : Int32) (4 : Int32) (fun r3 => ((¬ r3 = 0 → (pX10_at v x1 (0 : Int32) (fun r5 => ((x2 = 0 → (pX10_taken_J76 v x1 x2 Q  r5)) ∧ (¬ x2 = 0 → ((¬ x2 = (1 : Int32) → (pX10_taken_J43 v x1 x2 Q  r5)) ∧ (x2 = (1 : Int32) → ((¬ r5 = (1 : Int32) → (pX10_taken_J76 v x1 x2 Q  r5)) ∧ (r5 = (1 : Int32) → (pX10_taken_J43 v x1 x2 Q  r5)))))))))) ∧ (r3 = 0 → (Q (-2 : Int32) )))))) ∧ (r1 = 0 → (Q (-1 : Int32) )))))
abbrev rmX10_taken : Room := { frames := 2, cells := 0, slots := 0, locals := 43 }
abbrev wdX10_taken : List Cond := Cond.code yX10_taken cX10_taken 5 (some .int) :: TB
theorem hdSX10_taken : (yX10_taken).cls ≠ "java/lang/invoke/MethodHandle" ∧ (yX10_taken).cls ≠ "java/lang/invoke/VarHandle" ∧ (parseMethodDescriptor (yX10_taken).desc).map (fun d => d.parameters.length) = some 2 := by decide +kernel
theorem hdX10_taken : (yX10_taken).cls = RX10 ∧ (yX10_taken).cls ≠ "java/lang/invoke/MethodHandle" ∧ (yX10_taken).cls ≠ "java/lang/invoke/VarHandle" ∧ (parseMethodDescriptor (yX10_taken).desc).map (fun d => d.parameters.length) = some 2 := ⟨rfl, hdSX10_taken⟩
set_option maxHeartbeats 4000000 in
set_option maxRecDepth 100000 in
theorem kX10_taken {l : Launch} {D : va_G} {cI cJ cT : ClassId} (d : Nat → Nat)  (v : Lf) (g : Lg) (x1 : Int32) (x2 : Int32) {Q : Int32 → Prop} (sz : Nat) (h : pX10_taken v x1 x2 Q) : Met l yX10_taken wdX10_taken rmX10_taken (Pz D (tyL cI cJ cT) [.ref (d 0), .int x1, .int x2] (wX10 cI cJ d v g) sz) (va_Qi (fun (r : Int32) (u : Unit) => Q r) (Bz D (tyL cI cJ cT) (wX10 cI cJ d v g) sz (fun (u : Unit) => (wX10 cI cJ d v g))) (va_A (wX10 cI cJ d v g) sz)) 0 0 (va_A (wX10 cI cJ d v g) sz) := by
  refine z_meti (cc := cX10_taken) (maxL := 5) (own := RX10) (lv0 := [(0, .ref (d 0)), (1, .int x1), (2, .int x2)]) (by decide) rfl rfl (Nat.le_of_ble_eq_true rfl) rfl ?_
  intro p e s m args below meth c A QQ C hin hret
  have J81 : ∀ (x3 : Int32) (t0 : Int32), pX10_taken_J81 v x1 x2 Q x3 t0 → ZZ p l e rmX10_taken s m args below meth c D A 5 0 0 QQ 81 (wX10 cI cJ d v g) [(3, .int x3)] [.int t0] := by
    intro  x3 t0 h
    refine z_istore (pc := 81) (lv' := [(4, .int t0), (3, .int x3)]) C dX10_taken_81 (by decide) rfl ?_
    refine z_iload (pc := 83) C 0 dX10_taken_83 rfl ?_
    refine z_if_eq (pc := 85) (tgt := 92) C dX10_taken_85 (by decide) (fun c7 => ?_) (fun c7 => ?_)
    · have h := h.1 c7
      refine z_bipush (pc := 92) (v := -12) C dX10_taken_92 (by decide) ?_
      exact hret 94 _ _ (-12 : Int32) () rfl h dX10_taken_94
    · have h := h.2 c7
      refine z_iload_n (pc := 88) C 1 dX10_taken_88 rfl ?_
      refine z_goto (pc := 89) (tgt := 94) C dX10_taken_89 (by decide) ?_
      exact hret 94 _ _ x3 () rfl h dX10_taken_94
  have J76 : ∀ (x3 : Int32), pX10_taken_J76 v x1 x2 Q x3 → ZZ p l e rmX10_taken s m args below meth c D A 5 0 0 QQ 76 (wX10 cI cJ d v g) [(3, .int x3)] [] := by
    intro  x3 h
    refine z_iconst (pc := 76) (v := 1) C dX10_taken_76 (by decide) ?_
    refine z_goto (pc := 77) (tgt := 81) C dX10_taken_77 (by decide) ?_
    exact J81  x3 (1 : Int32) h
  have J80 : ∀ (x3 : Int32), pX10_taken_J80 v x1 x2 Q x3 → ZZ p l e rmX10_taken s m args below meth c D A 5 0 0 QQ 80 (wX10 cI cJ d v g) [(3, .int x3)] [] := by
    intro  x3 h
    refine z_iconst (pc := 80) (v := 0) C dX10_taken_80 (by decide) ?_
    exact J81  x3 (0 : Int32) h
  have J66 : ∀ (x3 : Int32), pX10_taken_J66 v x1 x2 Q x3 → ZZ p l e rmX10_taken s m args below meth c D A 5 0 0 QQ 66 (wX10 cI cJ d v g) [(2, .int x2), (3, .int x3)] [] := by
    intro  x3 h
    refine z_iload_n (pc := 66) C 0 dX10_taken_66 rfl ?_
    refine z_iconst (pc := 67) (v := 4) C dX10_taken_67 (by decide) ?_
    refine z_icmp_ne (pc := 68) (tgt := 80) C dX10_taken_68 (by decide) (fun c11 => ?_) (fun c11 => ?_)
    · have h := h.1 c11
      refine z_sub (lv' := [(3, .int x3)]) [1] rfl ?_
      exact J80  x3 h
    · have h := h.2 c11
      refine z_iload_n (pc := 71) C 1 dX10_taken_71 rfl ?_
      refine z_iconst (pc := 72) (v := 1) C dX10_taken_72 (by decide) ?_
      refine z_icmp_ne (pc := 73) (tgt := 80) C dX10_taken_73 (by decide) (fun c12 => ?_) (fun c12 => ?_)
      · have h := h.1 c12
        refine z_sub (lv' := [(3, .int x3)]) [1] rfl ?_
        exact J80  x3 h
      · have h := h.2 c12
        refine z_sub (lv' := [(3, .int x3)]) [1] rfl ?_
        exact J76  x3 h
  have J57 : ∀ (x3 : Int32), pX10_taken_J57 v x1 x2 Q x3 → ZZ p l e rmX10_taken s m args below meth c D A 5 0 0 QQ 57 (wX10 cI cJ d v g) [(2, .int x2), (3, .int x3)] [] := by
    intro  x3 h
    refine z_iload_n (pc := 57) C 0 dX10_taken_57 rfl ?_
    refine z_iconst (pc := 58) (v := 3) C dX10_taken_58 (by decide) ?_
    refine z_icmp_ne (pc := 59) (tgt := 66) C dX10_taken_59 (by decide) (fun c10 => ?_) (fun c10 => ?_)
    · have h := h.1 c10
      exact J66  x3 h
    · have h := h.2 c10
      refine z_iload_n (pc := 62) C 1 dX10_taken_62 rfl ?_
      refine z_if_eq (pc := 63) (tgt := 76) C dX10_taken_63 (by decide) (fun c13 => ?_) (fun c13 => ?_)
      · have h := h.1 c13
        refine z_sub (lv' := [(3, .int x3)]) [1] rfl ?_
        exact J76  x3 h
      · have h := h.2 c13
        exact J66  x3 h
  have J43 : ∀ (x3 : Int32), pX10_taken_J43 v x1 x2 Q x3 → ZZ p l e rmX10_taken s m args below meth c D A 5 0 0 QQ 43 (wX10 cI cJ d v g) [(2, .int x2), (3, .int x3)] [] := by
    intro  x3 h
    refine z_iload_n (pc := 43) C 0 dX10_taken_43 rfl ?_
    refine z_iconst (pc := 44) (v := 2) C dX10_taken_44 (by decide) ?_
    refine z_icmp_ne (pc := 45) (tgt := 57) C dX10_taken_45 (by decide) (fun c9 => ?_) (fun c9 => ?_)
    · have h := h.1 c9
      exact J57  x3 h
    · have h := h.2 c9
      refine z_iload_n (pc := 48) C 1 dX10_taken_48 rfl ?_
      refine z_if_eq (pc := 49) (tgt := 76) C dX10_taken_49 (by decide) (fun c14 => ?_) (fun c14 => ?_)
      · have h := h.1 c14
        refine z_sub (lv' := [(3, .int x3)]) [1] rfl ?_
        exact J76  x3 h
      · have h := h.2 c14
        refine z_iload_n (pc := 52) C 1 dX10_taken_52 rfl ?_
        refine z_iconst (pc := 53) (v := 2) C dX10_taken_53 (by decide) ?_
        refine z_icmp_eq (pc := 54) (tgt := 76) C dX10_taken_54 (by decide) (fun c15 => ?_) (fun c15 => ?_)
        · have h := h.1 c15
          refine z_sub (lv' := [(3, .int x3)]) [1] rfl ?_
          exact J76  x3 h
        · have h := h.2 c15
          exact J57  x3 h
  refine z_aload_n (pc := 0) C 0 dX10_taken_0 rfl ?_
  refine z_iload_n (pc := 1) C 1 dX10_taken_1 rfl ?_
  refine z_callRi (pc := 2) C (z_runV (pc := 2) (wc := (wX10 cI cJ d v g)) (As := [.int x1]) C (fun sz => kX10_isSignal d v g x1 sz h) [0, 1, 2, 3, 4, 5, 6, 7, 8, 9, 10, 11] rfl (by decide) (gdV wq851 wq875 wq876 wq877 wq814) rfl rfl rfl hdX10_isSignal 0 rfl rfl rfl ⟨Nat.le_of_ble_eq_true rfl, Nat.le_of_ble_eq_true rfl⟩ rfl (Nat.le_of_ble_eq_true rfl) ⟨Nat.zero_le _, Nat.zero_le _⟩ dX10_taken_2) [0, 1, 2, 3, 4, 5, 6, 7, 8, 9, 10, 11] rfl (by decide) (fun r1 u1 h => ?_)
  refine z_if_ne (pc := 5) (tgt := 10) C dX10_taken_5 (by decide) (fun c2 => ?_) (fun c2 => ?_)
  · have h := h.1 c2
    refine z_iload_n (pc := 10) C 2 dX10_taken_10 rfl ?_
    refine z_iconst (pc := 11) (v := 0) C dX10_taken_11 (by decide) ?_
    refine z_iconst (pc := 12) (v := 4) C dX10_taken_12 (by decide) ?_
    refine z_call0i (pc := 13) C (z_runS (pc := 13) (wc := ([] : va_W)) (As := [.int x2, .int (0 : Int32), .int (4 : Int32)]) C (fun sz => kX10_isIn x2 (0 : Int32) (4 : Int32) sz h) [] rfl (by decide) (gdS wq849 wq852 wq853 wq814) rfl rfl rfl hdSX10_isIn ⟨Nat.le_of_ble_eq_true rfl, Nat.le_of_ble_eq_true rfl⟩ rfl (Nat.le_of_ble_eq_true rfl) ⟨Nat.zero_le _, Nat.zero_le _⟩ dX10_taken_13) (fun r3 u3 h => ?_)
    refine z_if_ne (pc := 16) (tgt := 22) C dX10_taken_16 (by decide) (fun c4 => ?_) (fun c4 => ?_)
    · have h := h.1 c4
      refine z_aload_n (pc := 22) C 0 dX10_taken_22 rfl ?_
      refine z_iload_n (pc := 23) C 1 dX10_taken_23 rfl ?_
      refine z_iconst (pc := 24) (v := 0) C dX10_taken_24 (by decide) ?_
      refine z_callRi (pc := 25) C (z_runV (pc := 25) (wc := (wX10 cI cJ d v g)) (As := [.int x1, .int (0 : Int32)]) C (fun sz => kX10_at d v g x1 (0 : Int32) sz h) [0, 1, 2, 3, 4, 5, 6, 7, 8, 9, 10, 11] rfl (by decide) (gdV wq808 wq811 wq812 wq813 wq814) rfl rfl rfl hdX10_at 0 rfl rfl rfl ⟨Nat.le_of_ble_eq_true rfl, Nat.le_of_ble_eq_true rfl⟩ rfl (Nat.le_of_ble_eq_true rfl) ⟨Nat.zero_le _, Nat.zero_le _⟩ dX10_taken_25) [0, 1, 2, 3, 4, 5, 6, 7, 8, 9, 10, 11] rfl (by decide) (fun r5 u5 h => ?_)
      refine z_istore_n (pc := 28) (lv' := [(3, .int r5), (0, .ref (d 0)), (1, .int x1), (2, .int x2)]) C dX10_taken_28 (by decide) rfl ?_
      refine z_iload_n (pc := 29) C 3 dX10_taken_29 rfl ?_
      refine z_if_eq (pc := 30) (tgt := 76) C dX10_taken_30 (by decide) (fun c6 => ?_) (fun c6 => ?_)
      · have h := h.1 c6
        refine z_sub (lv' := [(3, .int r5)]) [0] rfl ?_
        exact J76  r5 h
      · have h := h.2 c6
        refine z_iload_n (pc := 33) C 3 dX10_taken_33 rfl ?_
        refine z_iconst (pc := 34) (v := 1) C dX10_taken_34 (by decide) ?_
        refine z_icmp_ne (pc := 35) (tgt := 43) C dX10_taken_35 (by decide) (fun c8 => ?_) (fun c8 => ?_)
        · have h := h.1 c8
          refine z_sub (lv' := [(2, .int x2), (3, .int r5)]) [3, 0] rfl ?_
          exact J43  r5 h
        · have h := h.2 c8
          refine z_iload_n (pc := 38) C 0 dX10_taken_38 rfl ?_
          refine z_iconst (pc := 39) (v := 1) C dX10_taken_39 (by decide) ?_
          refine z_icmp_ne (pc := 40) (tgt := 76) C dX10_taken_40 (by decide) (fun c16 => ?_) (fun c16 => ?_)
          · have h := h.1 c16
            refine z_sub (lv' := [(3, .int r5)]) [0] rfl ?_
            exact J76  r5 h
          · have h := h.2 c16
            refine z_sub (lv' := [(2, .int x2), (3, .int r5)]) [3, 0] rfl ?_
            exact J43  r5 h
    · have h := h.2 c4
      refine z_bipush (pc := 19) (v := -2) C dX10_taken_19 (by decide) ?_
      exact hret 21 _ _ (-2 : Int32) () rfl h dX10_taken_21
  · have h := h.2 c2
    refine z_iconst (pc := 8) (v := -1) C dX10_taken_8 (by decide) ?_
    exact hret 9 _ _ (-1 : Int32) () rfl h dX10_taken_9

def pX10_recordAt (v : Lf) (x1 : Int32) (x2 : Int32) (Q : Int32 → Prop) : Prop := (vp_in (((234 : Int32) + ((3 : Int32) * x1)) + x2) 372 ∧ (Q (v 1 (((234 : Int32) + ((3 : Int32) * x1)) + x2).toNatClampNeg) ))
abbrev rmX10_recordAt : Room := { frames := 0, cells := 0, slots := 0, locals := 0 }
abbrev wdX10_recordAt : List Cond := Cond.code yX10_recordAt cX10_recordAt 3 (some .int) :: TB
theorem hdSX10_recordAt : (yX10_recordAt).cls ≠ "java/lang/invoke/MethodHandle" ∧ (yX10_recordAt).cls ≠ "java/lang/invoke/VarHandle" ∧ (parseMethodDescriptor (yX10_recordAt).desc).map (fun d => d.parameters.length) = some 2 := by decide +kernel
theorem hdX10_recordAt : (yX10_recordAt).cls = RX10 ∧ (yX10_recordAt).cls ≠ "java/lang/invoke/MethodHandle" ∧ (yX10_recordAt).cls ≠ "java/lang/invoke/VarHandle" ∧ (parseMethodDescriptor (yX10_recordAt).desc).map (fun d => d.parameters.length) = some 2 := ⟨rfl, hdSX10_recordAt⟩
set_option maxHeartbeats 4000000 in
set_option maxRecDepth 100000 in
theorem kX10_recordAt {l : Launch} {D : va_G} {cI cJ cT : ClassId} (d : Nat → Nat)  (v : Lf) (g : Lg) (x1 : Int32) (x2 : Int32) {Q : Int32 → Prop} (sz : Nat) (h : pX10_recordAt v x1 x2 Q) : Met l yX10_recordAt wdX10_recordAt rmX10_recordAt (Pz D (tyL cI cJ cT) [.ref (d 0), .int x1, .int x2] (wX10 cI cJ d v g) sz) (va_Qi (fun (r : Int32) (u : Unit) => Q r) (Bz D (tyL cI cJ cT) (wX10 cI cJ d v g) sz (fun (u : Unit) => (wX10 cI cJ d v g))) (va_A (wX10 cI cJ d v g) sz)) 0 0 (va_A (wX10 cI cJ d v g) sz) := by
  refine z_meti (cc := cX10_recordAt) (maxL := 3) (own := RX10) (lv0 := [(0, .ref (d 0)), (1, .int x1), (2, .int x2)]) (by decide) rfl rfl (Nat.le_of_ble_eq_true rfl) rfl ?_
  intro p e s m args below meth c A QQ C hin hret
  refine z_aload_n (pc := 0) C 0 dX10_recordAt_0 rfl ?_
  refine z_get (pc := 1) C uw10 0 rfl rfl 0 (by decide) wq809 rfl dX10_recordAt_1 ?_
  refine z_sipush (pc := 4) (v := 234) C dX10_recordAt_4 (by decide) ?_
  refine z_iconst (pc := 7) (v := 3) C dX10_recordAt_7 (by decide) ?_
  refine z_iload_n (pc := 8) C 1 dX10_recordAt_8 rfl ?_
  refine z_imul (pc := 9) C dX10_recordAt_9 ?_
  refine z_iadd (pc := 10) C dX10_recordAt_10 ?_
  refine z_iload_n (pc := 11) C 2 dX10_recordAt_11 rfl ?_
  refine z_iadd (pc := 12) C dX10_recordAt_12 ?_
  obtain ⟨g1, h⟩ := h
  refine z_iald (pc := 13) C 1 0 rfl rfl g1 (v 1 (((234 : Int32) + ((3 : Int32) * x1)) + x2).toNatClampNeg) rfl dX10_recordAt_13 ?_
  exact hret 14 _ _ (v 1 (((234 : Int32) + ((3 : Int32) * x1)) + x2).toNatClampNeg) () rfl h dX10_recordAt_14

def pX10_recorded (v : Lf) (x1 : Int32) (x2 : Int32) (Q : Int32 → Prop) : Prop := (pX10_isIn x2 (0 : Int32) (2 : Int32) (fun r1 => ((¬ r1 = 0 → (pX10_isIn x1 (0 : Int32) ((v 1 15) - (1 : Int32)) (fun r4 => ((r4 = 0 → (Q (-2 : Int32) )) ∧ (¬ r4 = 0 → (pX10_recordAt v (((v 1 15) - (1 : Int32)) - x1) x2 (fun r7 => (Q r7 )))))))) ∧ (r1 = 0 → (Q (-1 : Int32) )))))
abbrev rmX10_recorded : Room := { frames := 1, cells := 0, slots := 0, locals := 22 }
abbrev wdX10_recorded : List Cond := Cond.code yX10_recorded cX10_recorded 3 (some .int) :: TB
theorem hdSX10_recorded : (yX10_recorded).cls ≠ "java/lang/invoke/MethodHandle" ∧ (yX10_recorded).cls ≠ "java/lang/invoke/VarHandle" ∧ (parseMethodDescriptor (yX10_recorded).desc).map (fun d => d.parameters.length) = some 2 := by decide +kernel
theorem hdX10_recorded : (yX10_recorded).cls = RX10 ∧ (yX10_recorded).cls ≠ "java/lang/invoke/MethodHandle" ∧ (yX10_recorded).cls ≠ "java/lang/invoke/VarHandle" ∧ (parseMethodDescriptor (yX10_recorded).desc).map (fun d => d.parameters.length) = some 2 := ⟨rfl, hdSX10_recorded⟩
set_option maxHeartbeats 4000000 in
set_option maxRecDepth 100000 in
theorem kX10_recorded {l : Launch} {D : va_G} {cI cJ cT : ClassId} (d : Nat → Nat)  (v : Lf) (g : Lg) (x1 : Int32) (x2 : Int32) {Q : Int32 → Prop} (sz : Nat) (h : pX10_recorded v x1 x2 Q) : Met l yX10_recorded wdX10_recorded rmX10_recorded (Pz D (tyL cI cJ cT) [.ref (d 0), .int x1, .int x2] (wX10 cI cJ d v g) sz) (va_Qi (fun (r : Int32) (u : Unit) => Q r) (Bz D (tyL cI cJ cT) (wX10 cI cJ d v g) sz (fun (u : Unit) => (wX10 cI cJ d v g))) (va_A (wX10 cI cJ d v g) sz)) 0 0 (va_A (wX10 cI cJ d v g) sz) := by
  refine z_meti (cc := cX10_recorded) (maxL := 3) (own := RX10) (lv0 := [(0, .ref (d 0)), (1, .int x1), (2, .int x2)]) (by decide) rfl rfl (Nat.le_of_ble_eq_true rfl) rfl ?_
  intro p e s m args below meth c A QQ C hin hret
  refine z_iload_n (pc := 0) C 2 dX10_recorded_0 rfl ?_
  refine z_iconst (pc := 1) (v := 0) C dX10_recorded_1 (by decide) ?_
  refine z_iconst (pc := 2) (v := 2) C dX10_recorded_2 (by decide) ?_
  refine z_call0i (pc := 3) C (z_runS (pc := 3) (wc := ([] : va_W)) (As := [.int x2, .int (0 : Int32), .int (2 : Int32)]) C (fun sz => kX10_isIn x2 (0 : Int32) (2 : Int32) sz h) [] rfl (by decide) (gdS wq849 wq852 wq853 wq814) rfl rfl rfl hdSX10_isIn ⟨Nat.le_of_ble_eq_true rfl, Nat.le_of_ble_eq_true rfl⟩ rfl (Nat.le_of_ble_eq_true rfl) ⟨Nat.zero_le _, Nat.zero_le _⟩ dX10_recorded_3) (fun r1 u1 h => ?_)
  refine z_if_ne (pc := 6) (tgt := 11) C dX10_recorded_6 (by decide) (fun c2 => ?_) (fun c2 => ?_)
  · have h := h.1 c2
    refine z_iload_n (pc := 11) C 1 dX10_recorded_11 rfl ?_
    refine z_iconst (pc := 12) (v := 0) C dX10_recorded_12 (by decide) ?_
    refine z_aload_n (pc := 13) C 0 dX10_recorded_13 rfl ?_
    refine z_get (pc := 14) C uw10 0 rfl rfl 0 (by decide) wq809 rfl dX10_recorded_14 ?_
    refine z_bipush (pc := 17) (v := 15) C dX10_recorded_17 (by decide) ?_
    refine z_iald (pc := 19) C 1 0 rfl rfl vi_15_372 (v 1 15) (congrArg _ cl_15) dX10_recorded_19 ?_
    refine z_iconst (pc := 20) (v := 1) C dX10_recorded_20 (by decide) ?_
    refine z_isub (pc := 21) C dX10_recorded_21 ?_
    refine z_call0i (pc := 22) C (z_runS (pc := 22) (wc := ([] : va_W)) (As := [.int x1, .int (0 : Int32), .int ((v 1 15) - (1 : Int32))]) C (fun sz => kX10_isIn x1 (0 : Int32) ((v 1 15) - (1 : Int32)) sz h) [] rfl (by decide) (gdS wq849 wq852 wq853 wq814) rfl rfl rfl hdSX10_isIn ⟨Nat.le_of_ble_eq_true rfl, Nat.le_of_ble_eq_true rfl⟩ rfl (Nat.le_of_ble_eq_true rfl) ⟨Nat.zero_le _, Nat.zero_le _⟩ dX10_recorded_22) (fun r4 u4 h => ?_)
    refine z_if_eq (pc := 25) (tgt := 47) C dX10_recorded_25 (by decide) (fun c5 => ?_) (fun c5 => ?_)
    · have h := h.1 c5
      refine z_bipush (pc := 47) (v := -2) C dX10_recorded_47 (by decide) ?_
      exact hret 49 _ _ (-2 : Int32) () rfl h dX10_recorded_49
    · have h := h.2 c5
      refine z_aload_n (pc := 28) C 0 dX10_recorded_28 rfl ?_
      refine z_aload_n (pc := 29) C 0 dX10_recorded_29 rfl ?_
      refine z_get (pc := 30) C uw10 0 rfl rfl 0 (by decide) wq809 rfl dX10_recorded_30 ?_
      refine z_bipush (pc := 33) (v := 15) C dX10_recorded_33 (by decide) ?_
      refine z_iald (pc := 35) C 1 0 rfl rfl vi_15_372 (v 1 15) (congrArg _ cl_15) dX10_recorded_35 ?_
      refine z_iconst (pc := 36) (v := 1) C dX10_recorded_36 (by decide) ?_
      refine z_isub (pc := 37) C dX10_recorded_37 ?_
      refine z_iload_n (pc := 38) C 1 dX10_recorded_38 rfl ?_
      refine z_isub (pc := 39) C dX10_recorded_39 ?_
      refine z_iload_n (pc := 40) C 2 dX10_recorded_40 rfl ?_
      refine z_callRi (pc := 41) C (z_runV (pc := 41) (wc := (wX10 cI cJ d v g)) (As := [.int (((v 1 15) - (1 : Int32)) - x1), .int x2]) C (fun sz => kX10_recordAt d v g (((v 1 15) - (1 : Int32)) - x1) x2 sz h) [0, 1, 2, 3, 4, 5, 6, 7, 8, 9, 10, 11] rfl (by decide) (gdV wq1031 wq1033 wq1034 wq1035 wq814) rfl rfl rfl hdX10_recordAt 0 rfl rfl rfl ⟨Nat.le_of_ble_eq_true rfl, Nat.le_of_ble_eq_true rfl⟩ rfl (Nat.le_of_ble_eq_true rfl) ⟨Nat.zero_le _, Nat.zero_le _⟩ dX10_recorded_41) [0, 1, 2, 3, 4, 5, 6, 7, 8, 9, 10, 11] rfl (by decide) (fun r7 u7 h => ?_)
      refine z_goto (pc := 44) (tgt := 49) C dX10_recorded_44 (by decide) ?_
      exact hret 49 _ _ r7 () rfl h dX10_recorded_49
  · have h := h.2 c2
    refine z_iconst (pc := 9) (v := -1) C dX10_recorded_9 (by decide) ?_
    exact hret 10 _ _ (-1 : Int32) () rfl h dX10_recorded_10

def pX10_greens_J116 (v : Lf) (x1 : Int32) (x2 : Int32) (Q : Int32 → Prop) (K35 : Int32 → Int32 → Int32 → Int32 → Int32 → Prop) (x3 : Int32) (x4 : Int32) (x5 : Int32) (x6 : Int32) (x7 : Int32) : Prop := (K35 x3 x4 x5 x6 (x7 + 1))
def pX10_greens_J105 (v : Lf) (x1 : Int32) (x2 : Int32) (Q : Int32 → Prop) (K35 : Int32 → Int32 → Int32 → Int32 → Int32 → Prop) (x3 : Int32) (x4 : Int32) (x6 : Int32) (x7 : Int32) (x8 : Int32) (t0 : Int32) : Prop := (pX10_greens_J116 v x1 x2 Q K35 x3 x4 t0 (if x6 < x8 then x8 else x6) x7)
def pX10_greens_L35 (v : Lf) (x1 : Int32) (x2 : Int32) (Q : Int32 → Prop) : Nat → Int32 → Int32 → Int32 → Int32 → Int32 → Prop
  | 0, _, _, _, _, _ => False
  | n35 + 1, x3, x4, x5, x6, x7 => (((v 1 15) ≤ x7 → ((¬ x2 = 0 → ((¬ x2 = (1 : Int32) → ((¬ x2 = (2 : Int32) → (Q x6 )) ∧ (x2 = (2 : Int32) → (Q x5 )))) ∧ (x2 = (1 : Int32) → (Q x4 )))) ∧ (x2 = 0 → (Q x3 )))) ∧ (¬ (v 1 15) ≤ x7 → (pX10_recordAt v x7 (0 : Int32) (fun r10 => ((r10 = x1 → (pX10_recordAt v x7 (2 : Int32) (fun r12 => (pX10_recordAt v x7 (1 : Int32) (fun r13 => ((0 ≤ x5 → (pX10_greens_J105 v x1 x2 Q (fun x3 x4 x5 x6 x7 => pX10_greens_L35 v x1 x2 Q n35 x3 x4 x5 x6 x7) (x3 + 1) (x4 + (r12 - r13)) x6 x7 (r12 - r13) (if (r12 - r13) < x5 then (r12 - r13) else x5))) ∧ (¬ 0 ≤ x5 → (pX10_greens_J105 v x1 x2 Q (fun x3 x4 x5 x6 x7 => pX10_greens_L35 v x1 x2 Q n35 x3 x4 x5 x6 x7) (x3 + 1) (x4 + (r12 - r13)) x6 x7 (r12 - r13) (r12 - r13))))))))) ∧ (¬ r10 = x1 → (pX10_greens_J116 v x1 x2 Q (fun x3 x4 x5 x6 x7 => pX10_greens_L35 v x1 x2 Q n35 x3 x4 x5 x6 x7) x3 x4 x5 x6 x7)))))))
def pX10_greens (v : Lf) (x1 : Int32) (x2 : Int32) (Q : Int32 → Prop) : Prop := (pX10_isSignal v x1 (fun r1 => ((r1 = 0 → (Q (-1 : Int32) )) ∧ (¬ r1 = 0 → (pX10_isIn x2 (0 : Int32) (3 : Int32) (fun r3 => ((¬ r3 = 0 → (∃ n35, pX10_greens_L35 v x1 x2 Q  n35 (0 : Int32) (0 : Int32) (-5 : Int32) (-5 : Int32) (0 : Int32))) ∧ (r3 = 0 → (Q (-1 : Int32) )))))))))
abbrev rmX10_greens : Room := { frames := 2, cells := 0, slots := 0, locals := 43 }
abbrev wdX10_greens : List Cond := Cond.code yX10_greens cX10_greens 9 (some .int) :: TB
theorem hdSX10_greens : (yX10_greens).cls ≠ "java/lang/invoke/MethodHandle" ∧ (yX10_greens).cls ≠ "java/lang/invoke/VarHandle" ∧ (parseMethodDescriptor (yX10_greens).desc).map (fun d => d.parameters.length) = some 2 := by decide +kernel
theorem hdX10_greens : (yX10_greens).cls = RX10 ∧ (yX10_greens).cls ≠ "java/lang/invoke/MethodHandle" ∧ (yX10_greens).cls ≠ "java/lang/invoke/VarHandle" ∧ (parseMethodDescriptor (yX10_greens).desc).map (fun d => d.parameters.length) = some 2 := ⟨rfl, hdSX10_greens⟩
set_option maxHeartbeats 4000000 in
set_option maxRecDepth 100000 in
theorem kX10_greens {l : Launch} {D : va_G} {cI cJ cT : ClassId} (d : Nat → Nat)  (v : Lf) (g : Lg) (x1 : Int32) (x2 : Int32) {Q : Int32 → Prop} (sz : Nat) (h : pX10_greens v x1 x2 Q) : Met l yX10_greens wdX10_greens rmX10_greens (Pz D (tyL cI cJ cT) [.ref (d 0), .int x1, .int x2] (wX10 cI cJ d v g) sz) (va_Qi (fun (r : Int32) (u : Unit) => Q r) (Bz D (tyL cI cJ cT) (wX10 cI cJ d v g) sz (fun (u : Unit) => (wX10 cI cJ d v g))) (va_A (wX10 cI cJ d v g) sz)) 0 0 (va_A (wX10 cI cJ d v g) sz) := by
  refine z_meti (cc := cX10_greens) (maxL := 9) (own := RX10) (lv0 := [(0, .ref (d 0)), (1, .int x1), (2, .int x2)]) (by decide) rfl rfl (Nat.le_of_ble_eq_true rfl) rfl ?_
  intro p e s m args below meth c A QQ C hin hret
  have J116 : ∀ (K35 : Int32 → Int32 → Int32 → Int32 → Int32 → Prop), (∀ (x3 : Int32) (x4 : Int32) (x5 : Int32) (x6 : Int32) (x7 : Int32), K35 x3 x4 x5 x6 x7 → ZZ p l e rmX10_greens s m args below meth c D A 9 0 0 QQ 35 (wX10 cI cJ d v g) [(0, .ref (d 0)), (1, .int x1), (2, .int x2), (3, .int x3), (4, .int x4), (5, .int x5), (6, .int x6), (7, .int x7)] []) → ∀ (x3 : Int32) (x4 : Int32) (x5 : Int32) (x6 : Int32) (x7 : Int32), pX10_greens_J116 v x1 x2 Q K35 x3 x4 x5 x6 x7 → ZZ p l e rmX10_greens s m args below meth c D A 9 0 0 QQ 116 (wX10 cI cJ d v g) [(0, .ref (d 0)), (1, .int x1), (2, .int x2), (3, .int x3), (4, .int x4), (5, .int x5), (6, .int x6), (7, .int x7)] [] := by
    intro K35 hK35 x3 x4 x5 x6 x7 h
    refine z_iinc (pc := 116) (v := (x7 + 1)) (lv' := [(7, .int (x7 + 1)), (0, .ref (d 0)), (1, .int x1), (2, .int x2), (3, .int x3), (4, .int x4), (5, .int x5), (6, .int x6)]) C 7 dX10_greens_116 rfl rfl (by decide) rfl ?_
    refine z_goto (pc := 119) (tgt := 35) C dX10_greens_119 (by decide) ?_
    refine z_sub (lv' := [(0, .ref (d 0)), (1, .int x1), (2, .int x2), (3, .int x3), (4, .int x4), (5, .int x5), (6, .int x6), (7, .int (x7 + 1))]) [1, 2, 3, 4, 5, 6, 7, 0] rfl ?_
    exact hK35 x3 x4 x5 x6 (x7 + 1) h
  have J105 : ∀ (K35 : Int32 → Int32 → Int32 → Int32 → Int32 → Prop), (∀ (x3 : Int32) (x4 : Int32) (x5 : Int32) (x6 : Int32) (x7 : Int32), K35 x3 x4 x5 x6 x7 → ZZ p l e rmX10_greens s m args below meth c D A 9 0 0 QQ 35 (wX10 cI cJ d v g) [(0, .ref (d 0)), (1, .int x1), (2, .int x2), (3, .int x3), (4, .int x4), (5, .int x5), (6, .int x6), (7, .int x7)] []) → ∀ (x3 : Int32) (x4 : Int32) (x6 : Int32) (x7 : Int32) (x8 : Int32) (t0 : Int32), pX10_greens_J105 v x1 x2 Q K35 x3 x4 x6 x7 x8 t0 → ZZ p l e rmX10_greens s m args below meth c D A 9 0 0 QQ 105 (wX10 cI cJ d v g) [(0, .ref (d 0)), (1, .int x1), (2, .int x2), (3, .int x3), (4, .int x4), (6, .int x6), (7, .int x7), (8, .int x8)] [.int t0] := by
    intro K35 hK35 x3 x4 x6 x7 x8 t0 h
    refine z_istore (pc := 105) (lv' := [(5, .int t0), (0, .ref (d 0)), (1, .int x1), (2, .int x2), (3, .int x3), (4, .int x4), (6, .int x6), (7, .int x7), (8, .int x8)]) C dX10_greens_105 (by decide) rfl ?_
    refine z_iload (pc := 107) C 6 dX10_greens_107 rfl ?_
    refine z_iload (pc := 109) C 8 dX10_greens_109 rfl ?_
    refine z_mmax (pc := 111) C wq821 wq302 wq78 wq303 (Nat.le_of_ble_eq_true rfl) (Nat.le_of_ble_eq_true rfl) (Nat.zero_le _) (Nat.zero_le _) dX10_greens_111 ?_
    refine z_istore (pc := 114) (lv' := [(6, .int (if x6 < x8 then x8 else x6)), (5, .int t0), (0, .ref (d 0)), (1, .int x1), (2, .int x2), (3, .int x3), (4, .int x4), (7, .int x7), (8, .int x8)]) C dX10_greens_114 (by decide) rfl ?_
    refine z_sub (lv' := [(0, .ref (d 0)), (1, .int x1), (2, .int x2), (3, .int x3), (4, .int x4), (5, .int t0), (6, .int (if x6 < x8 then x8 else x6)), (7, .int x7)]) [2, 3, 4, 5, 6, 1, 0, 7] rfl ?_
    exact J116 K35 hK35 x3 x4 t0 (if x6 < x8 then x8 else x6) x7 h
  have L35 : ∀ (n35 : Nat) (x3 : Int32) (x4 : Int32) (x5 : Int32) (x6 : Int32) (x7 : Int32), pX10_greens_L35 v x1 x2 Q n35 x3 x4 x5 x6 x7 → ZZ p l e rmX10_greens s m args below meth c D A 9 0 0 QQ 35 (wX10 cI cJ d v g) [(0, .ref (d 0)), (1, .int x1), (2, .int x2), (3, .int x3), (4, .int x4), (5, .int x5), (6, .int x6), (7, .int x7)] [] := by
    intro n35
    induction n35 with
    | zero => intro x3 x4 x5 x6 x7 h; exact False.elim h
    | succ n35 ih35 =>
      intro x3 x4 x5 x6 x7 h
      refine z_iload (pc := 35) C 7 dX10_greens_35 rfl ?_
      refine z_aload_n (pc := 37) C 0 dX10_greens_37 rfl ?_
      refine z_get (pc := 38) C uw10 0 rfl rfl 0 (by decide) wq809 rfl dX10_greens_38 ?_
      refine z_bipush (pc := 41) (v := 15) C dX10_greens_41 (by decide) ?_
      refine z_iald (pc := 43) C 1 0 rfl rfl vi_15_372 (v 1 15) (congrArg _ cl_15) dX10_greens_43 ?_
      refine z_icmp_ge (pc := 44) (tgt := 122) C dX10_greens_44 (by decide) (fun c6 => ?_) (fun c6 => ?_)
      · have h := h.1 c6
        refine z_iload_n (pc := 122) C 2 dX10_greens_122 rfl ?_
        refine z_if_ne (pc := 123) (tgt := 130) C dX10_greens_123 (by decide) (fun c7 => ?_) (fun c7 => ?_)
        · have h := h.1 c7
          refine z_iload_n (pc := 130) C 2 dX10_greens_130 rfl ?_
          refine z_iconst (pc := 131) (v := 1) C dX10_greens_131 (by decide) ?_
          refine z_icmp_ne (pc := 132) (tgt := 140) C dX10_greens_132 (by decide) (fun c8 => ?_) (fun c8 => ?_)
          · have h := h.1 c8
            refine z_iload_n (pc := 140) C 2 dX10_greens_140 rfl ?_
            refine z_iconst (pc := 141) (v := 2) C dX10_greens_141 (by decide) ?_
            refine z_icmp_ne (pc := 142) (tgt := 150) C dX10_greens_142 (by decide) (fun c9 => ?_) (fun c9 => ?_)
            · have h := h.1 c9
              refine z_iload (pc := 150) C 6 dX10_greens_150 rfl ?_
              exact hret 152 _ _ x6 () rfl h dX10_greens_152
            · have h := h.2 c9
              refine z_iload (pc := 145) C 5 dX10_greens_145 rfl ?_
              refine z_goto (pc := 147) (tgt := 152) C dX10_greens_147 (by decide) ?_
              exact hret 152 _ _ x5 () rfl h dX10_greens_152
          · have h := h.2 c8
            refine z_iload (pc := 135) C 4 dX10_greens_135 rfl ?_
            refine z_goto (pc := 137) (tgt := 152) C dX10_greens_137 (by decide) ?_
            exact hret 152 _ _ x4 () rfl h dX10_greens_152
        · have h := h.2 c7
          refine z_iload_n (pc := 126) C 3 dX10_greens_126 rfl ?_
          refine z_goto (pc := 127) (tgt := 152) C dX10_greens_127 (by decide) ?_
          exact hret 152 _ _ x3 () rfl h dX10_greens_152
      · have h := h.2 c6
        refine z_aload_n (pc := 47) C 0 dX10_greens_47 rfl ?_
        refine z_iload (pc := 48) C 7 dX10_greens_48 rfl ?_
        refine z_iconst (pc := 50) (v := 0) C dX10_greens_50 (by decide) ?_
        refine z_callRi (pc := 51) C (z_runV (pc := 51) (wc := (wX10 cI cJ d v g)) (As := [.int x7, .int (0 : Int32)]) C (fun sz => kX10_recordAt d v g x7 (0 : Int32) sz h) [0, 1, 2, 3, 4, 5, 6, 7, 8, 9, 10, 11] rfl (by decide) (gdV wq1031 wq1033 wq1034 wq1035 wq814) rfl rfl rfl hdX10_recordAt 0 rfl rfl rfl ⟨Nat.le_of_ble_eq_true rfl, Nat.le_of_ble_eq_true rfl⟩ rfl (Nat.le_of_ble_eq_true rfl) ⟨Nat.zero_le _, Nat.zero_le _⟩ dX10_greens_51) [0, 1, 2, 3, 4, 5, 6, 7, 8, 9, 10, 11] rfl (by decide) (fun r10 u10 h => ?_)
        refine z_iload_n (pc := 54) C 1 dX10_greens_54 rfl ?_
        refine z_icmp_eq (pc := 55) (tgt := 61) C dX10_greens_55 (by decide) (fun c11 => ?_) (fun c11 => ?_)
        · have h := h.1 c11
          refine z_aload_n (pc := 61) C 0 dX10_greens_61 rfl ?_
          refine z_iload (pc := 62) C 7 dX10_greens_62 rfl ?_
          refine z_iconst (pc := 64) (v := 2) C dX10_greens_64 (by decide) ?_
          refine z_callRi (pc := 65) C (z_runV (pc := 65) (wc := (wX10 cI cJ d v g)) (As := [.int x7, .int (2 : Int32)]) C (fun sz => kX10_recordAt d v g x7 (2 : Int32) sz h) [0, 1, 2, 3, 4, 5, 6, 7, 8, 9, 10, 11] rfl (by decide) (gdV wq1031 wq1033 wq1034 wq1035 wq814) rfl rfl rfl hdX10_recordAt 0 rfl rfl rfl ⟨Nat.le_of_ble_eq_true rfl, Nat.le_of_ble_eq_true rfl⟩ rfl (Nat.le_of_ble_eq_true rfl) ⟨Nat.zero_le _, Nat.zero_le _⟩ dX10_greens_65) [0, 1, 2, 3, 4, 5, 6, 7, 8, 9, 10, 11] rfl (by decide) (fun r12 u12 h => ?_)
          refine z_aload_n (pc := 68) C 0 dX10_greens_68 rfl ?_
          refine z_iload (pc := 69) C 7 dX10_greens_69 rfl ?_
          refine z_iconst (pc := 71) (v := 1) C dX10_greens_71 (by decide) ?_
          refine z_callRi (pc := 72) C (z_runV (pc := 72) (wc := (wX10 cI cJ d v g)) (As := [.int x7, .int (1 : Int32)]) C (fun sz => kX10_recordAt d v g x7 (1 : Int32) sz h) [0, 1, 2, 3, 4, 5, 6, 7, 8, 9, 10, 11] rfl (by decide) (gdV wq1031 wq1033 wq1034 wq1035 wq814) rfl rfl rfl hdX10_recordAt 0 rfl rfl rfl ⟨Nat.le_of_ble_eq_true rfl, Nat.le_of_ble_eq_true rfl⟩ rfl (Nat.le_of_ble_eq_true rfl) ⟨Nat.zero_le _, Nat.zero_le _⟩ dX10_greens_72) [0, 1, 2, 3, 4, 5, 6, 7, 8, 9, 10, 11] rfl (by decide) (fun r13 u13 h => ?_)
          refine z_isub (pc := 75) C dX10_greens_75 ?_
          refine z_istore (pc := 76) (lv' := [(8, .int (r12 - r13)), (0, .ref (d 0)), (1, .int x1), (2, .int x2), (3, .int x3), (4, .int x4), (5, .int x5), (6, .int x6), (7, .int x7)]) C dX10_greens_76 (by decide) rfl ?_
          refine z_iinc (pc := 78) (v := (x3 + 1)) (lv' := [(3, .int (x3 + 1)), (8, .int (r12 - r13)), (0, .ref (d 0)), (1, .int x1), (2, .int x2), (4, .int x4), (5, .int x5), (6, .int x6), (7, .int x7)]) C 4 dX10_greens_78 rfl rfl (by decide) rfl ?_
          refine z_iload (pc := 81) C 5 dX10_greens_81 rfl ?_
          refine z_iload (pc := 83) C 1 dX10_greens_83 rfl ?_
          refine z_iadd (pc := 85) C dX10_greens_85 ?_
          refine z_istore (pc := 86) (lv' := [(4, .int (x4 + (r12 - r13))), (3, .int (x3 + 1)), (8, .int (r12 - r13)), (0, .ref (d 0)), (1, .int x1), (2, .int x2), (5, .int x5), (6, .int x6), (7, .int x7)]) C dX10_greens_86 (by decide) rfl ?_
          refine z_iload (pc := 88) C 6 dX10_greens_88 rfl ?_
          refine z_if_ge (pc := 90) (tgt := 98) C dX10_greens_90 (by decide) (fun c14 => ?_) (fun c14 => ?_)
          · have h := h.1 c14
            refine z_iload (pc := 98) C 6 dX10_greens_98 rfl ?_
            refine z_iload (pc := 100) C 2 dX10_greens_100 rfl ?_
            refine z_mmin (pc := 102) C wq880 wq77 wq78 wq79 (Nat.le_of_ble_eq_true rfl) (Nat.le_of_ble_eq_true rfl) (Nat.zero_le _) (Nat.zero_le _) dX10_greens_102 ?_
            refine z_sub (lv' := [(0, .ref (d 0)), (1, .int x1), (2, .int x2), (3, .int (x3 + 1)), (4, .int (x4 + (r12 - r13))), (6, .int x6), (7, .int x7), (8, .int (r12 - r13))]) [3, 4, 5, 1, 0, 7, 8, 2] rfl ?_
            exact J105 (fun x3 x4 x5 x6 x7 => pX10_greens_L35 v x1 x2 Q n35 x3 x4 x5 x6 x7) ih35 (x3 + 1) (x4 + (r12 - r13)) x6 x7 (r12 - r13) (if (r12 - r13) < x5 then (r12 - r13) else x5) h
          · have h := h.2 c14
            refine z_iload (pc := 93) C 2 dX10_greens_93 rfl ?_
            refine z_goto (pc := 95) (tgt := 105) C dX10_greens_95 (by decide) ?_
            refine z_sub (lv' := [(0, .ref (d 0)), (1, .int x1), (2, .int x2), (3, .int (x3 + 1)), (4, .int (x4 + (r12 - r13))), (6, .int x6), (7, .int x7), (8, .int (r12 - r13))]) [3, 4, 5, 1, 0, 7, 8, 2] rfl ?_
            exact J105 (fun x3 x4 x5 x6 x7 => pX10_greens_L35 v x1 x2 Q n35 x3 x4 x5 x6 x7) ih35 (x3 + 1) (x4 + (r12 - r13)) x6 x7 (r12 - r13) (r12 - r13) h
        · have h := h.2 c11
          refine z_goto (pc := 58) (tgt := 116) C dX10_greens_58 (by decide) ?_
          exact J116 (fun x3 x4 x5 x6 x7 => pX10_greens_L35 v x1 x2 Q n35 x3 x4 x5 x6 x7) ih35 x3 x4 x5 x6 x7 h
  refine z_aload_n (pc := 0) C 0 dX10_greens_0 rfl ?_
  refine z_iload_n (pc := 1) C 1 dX10_greens_1 rfl ?_
  refine z_callRi (pc := 2) C (z_runV (pc := 2) (wc := (wX10 cI cJ d v g)) (As := [.int x1]) C (fun sz => kX10_isSignal d v g x1 sz h) [0, 1, 2, 3, 4, 5, 6, 7, 8, 9, 10, 11] rfl (by decide) (gdV wq851 wq875 wq876 wq877 wq814) rfl rfl rfl hdX10_isSignal 0 rfl rfl rfl ⟨Nat.le_of_ble_eq_true rfl, Nat.le_of_ble_eq_true rfl⟩ rfl (Nat.le_of_ble_eq_true rfl) ⟨Nat.zero_le _, Nat.zero_le _⟩ dX10_greens_2) [0, 1, 2, 3, 4, 5, 6, 7, 8, 9, 10, 11] rfl (by decide) (fun r1 u1 h => ?_)
  refine z_if_eq (pc := 5) (tgt := 17) C dX10_greens_5 (by decide) (fun c2 => ?_) (fun c2 => ?_)
  · have h := h.1 c2
    refine z_iconst (pc := 17) (v := -1) C dX10_greens_17 (by decide) ?_
    exact hret 18 _ _ (-1 : Int32) () rfl h dX10_greens_18
  · have h := h.2 c2
    refine z_iload_n (pc := 8) C 2 dX10_greens_8 rfl ?_
    refine z_iconst (pc := 9) (v := 0) C dX10_greens_9 (by decide) ?_
    refine z_iconst (pc := 10) (v := 3) C dX10_greens_10 (by decide) ?_
    refine z_call0i (pc := 11) C (z_runS (pc := 11) (wc := ([] : va_W)) (As := [.int x2, .int (0 : Int32), .int (3 : Int32)]) C (fun sz => kX10_isIn x2 (0 : Int32) (3 : Int32) sz h) [] rfl (by decide) (gdS wq849 wq852 wq853 wq814) rfl rfl rfl hdSX10_isIn ⟨Nat.le_of_ble_eq_true rfl, Nat.le_of_ble_eq_true rfl⟩ rfl (Nat.le_of_ble_eq_true rfl) ⟨Nat.zero_le _, Nat.zero_le _⟩ dX10_greens_11) (fun r3 u3 h => ?_)
    refine z_if_ne (pc := 14) (tgt := 19) C dX10_greens_14 (by decide) (fun c4 => ?_) (fun c4 => ?_)
    · have h := h.1 c4
      refine z_iconst (pc := 19) (v := 0) C dX10_greens_19 (by decide) ?_
      refine z_istore_n (pc := 20) (lv' := [(3, .int (0 : Int32)), (0, .ref (d 0)), (1, .int x1), (2, .int x2)]) C dX10_greens_20 (by decide) rfl ?_
      refine z_iconst (pc := 21) (v := 0) C dX10_greens_21 (by decide) ?_
      refine z_istore (pc := 22) (lv' := [(4, .int (0 : Int32)), (3, .int (0 : Int32)), (0, .ref (d 0)), (1, .int x1), (2, .int x2)]) C dX10_greens_22 (by decide) rfl ?_
      refine z_bipush (pc := 24) (v := -5) C dX10_greens_24 (by decide) ?_
      refine z_istore (pc := 26) (lv' := [(5, .int (-5 : Int32)), (4, .int (0 : Int32)), (3, .int (0 : Int32)), (0, .ref (d 0)), (1, .int x1), (2, .int x2)]) C dX10_greens_26 (by decide) rfl ?_
      refine z_bipush (pc := 28) (v := -5) C dX10_greens_28 (by decide) ?_
      refine z_istore (pc := 30) (lv' := [(6, .int (-5 : Int32)), (5, .int (-5 : Int32)), (4, .int (0 : Int32)), (3, .int (0 : Int32)), (0, .ref (d 0)), (1, .int x1), (2, .int x2)]) C dX10_greens_30 (by decide) rfl ?_
      refine z_iconst (pc := 32) (v := 0) C dX10_greens_32 (by decide) ?_
      refine z_istore (pc := 33) (lv' := [(7, .int (0 : Int32)), (6, .int (-5 : Int32)), (5, .int (-5 : Int32)), (4, .int (0 : Int32)), (3, .int (0 : Int32)), (0, .ref (d 0)), (1, .int x1), (2, .int x2)]) C dX10_greens_33 (by decide) rfl ?_
      obtain ⟨n35, h⟩ := h
      refine z_sub (lv' := [(0, .ref (d 0)), (1, .int x1), (2, .int x2), (3, .int (0 : Int32)), (4, .int (0 : Int32)), (5, .int (-5 : Int32)), (6, .int (-5 : Int32)), (7, .int (0 : Int32))]) [5, 6, 7, 4, 3, 2, 1, 0] rfl ?_
      exact L35  n35 (0 : Int32) (0 : Int32) (-5 : Int32) (-5 : Int32) (0 : Int32) h
    · have h := h.2 c4
      refine z_iconst (pc := 17) (v := -1) C dX10_greens_17 (by decide) ?_
      exact hret 18 _ _ (-1 : Int32) () rfl h dX10_greens_18

def pX10_couldBy_J58 (v : Lf) (x1 : Int32) (x2 : Int32) (x3 : Int32) (x4 : Int32) (x5 : Int32) (Q : Int32 → Prop)  : Prop := (Q (1 : Int32) )
def pX10_couldBy (v : Lf) (x1 : Int32) (x2 : Int32) (x3 : Int32) (x4 : Int32) (x5 : Int32) (Q : Int32 → Prop) : Prop := (pX10_placeIn v x1 x4 (fun r1 => ((r1 < 0 → (Q (0 : Int32) )) ∧ (¬ r1 < 0 → (pX10_pace v x1 (fun r3 => (((x2 + (r3 * r1)) ≤ x5 → ((x3 < 0 → (pX10_couldBy_J58 v x1 x2 x3 x4 x5 Q  )) ∧ (¬ x3 < 0 → (pX10_amber v x1 (fun r6 => (pX10_pace v x1 (fun r7 => ((((x3 + r6) + (r7 * (r1 + (1 : Int32)))) ≤ x5 → (Q (0 : Int32) )) ∧ (¬ ((x3 + r6) + (r7 * (r1 + (1 : Int32)))) ≤ x5 → (pX10_couldBy_J58 v x1 x2 x3 x4 x5 Q  )))))))))) ∧ (¬ (x2 + (r3 * r1)) ≤ x5 → (Q (0 : Int32) )))))))))
abbrev rmX10_couldBy : Room := { frames := 2, cells := 0, slots := 0, locals := 45 }
abbrev wdX10_couldBy : List Cond := Cond.code yX10_couldBy cX10_couldBy 7 (some .boolean) :: TB
theorem hdSX10_couldBy : (yX10_couldBy).cls ≠ "java/lang/invoke/MethodHandle" ∧ (yX10_couldBy).cls ≠ "java/lang/invoke/VarHandle" ∧ (parseMethodDescriptor (yX10_couldBy).desc).map (fun d => d.parameters.length) = some 5 := by decide +kernel
theorem hdX10_couldBy : (yX10_couldBy).cls = RX10 ∧ (yX10_couldBy).cls ≠ "java/lang/invoke/MethodHandle" ∧ (yX10_couldBy).cls ≠ "java/lang/invoke/VarHandle" ∧ (parseMethodDescriptor (yX10_couldBy).desc).map (fun d => d.parameters.length) = some 5 := ⟨rfl, hdSX10_couldBy⟩
set_option maxHeartbeats 4000000 in
set_option maxRecDepth 100000 in
theorem kX10_couldBy {l : Launch} {D : va_G} {cI cJ cT : ClassId} (d : Nat → Nat)  (v : Lf) (g : Lg) (x1 : Int32) (x2 : Int32) (x3 : Int32) (x4 : Int32) (x5 : Int32) {Q : Int32 → Prop} (sz : Nat) (h : pX10_couldBy v x1 x2 x3 x4 x5 Q) : Met l yX10_couldBy wdX10_couldBy rmX10_couldBy (Pz D (tyL cI cJ cT) [.ref (d 0), .int x1, .int x2, .int x3, .int x4, .int x5] (wX10 cI cJ d v g) sz) (va_Qi (fun (r : Int32) (u : Unit) => Q r) (Bz D (tyL cI cJ cT) (wX10 cI cJ d v g) sz (fun (u : Unit) => (wX10 cI cJ d v g))) (va_A (wX10 cI cJ d v g) sz)) 0 0 (va_A (wX10 cI cJ d v g) sz) := by
  refine z_metz (cc := cX10_couldBy) (maxL := 7) (own := RX10) (lv0 := [(0, .ref (d 0)), (1, .int x1), (2, .int x2), (3, .int x3), (4, .int x4), (5, .int x5)]) (by decide) rfl rfl (Nat.le_of_ble_eq_true rfl) rfl ?_
  intro p e s m args below meth c A QQ C hin hret
  have J58 :  pX10_couldBy_J58 v x1 x2 x3 x4 x5 Q  → ZZ p l e rmX10_couldBy s m args below meth c D A 7 0 0 QQ 58 (wX10 cI cJ d v g) [] [] := by
    intro   h
    refine z_iconst (pc := 58) (v := 1) C dX10_couldBy_58 (by decide) ?_
    refine z_goto (pc := 59) (tgt := 63) C dX10_couldBy_59 (by decide) ?_
    exact hret 63 _ _ (1 : Int32) rfl () rfl h dX10_couldBy_63
  refine z_aload_n (pc := 0) C 0 dX10_couldBy_0 rfl ?_
  refine z_iload_n (pc := 1) C 1 dX10_couldBy_1 rfl ?_
  refine z_iload (pc := 2) C 4 dX10_couldBy_2 rfl ?_
  refine z_callRi (pc := 4) C (z_runV (pc := 4) (wc := (wX10 cI cJ d v g)) (As := [.int x1, .int x4]) C (fun sz => kX10_placeIn d v g x1 x4 sz h) [0, 1, 2, 3, 4, 5, 6, 7, 8, 9, 10, 11] rfl (by decide) (gdV wq810 wq822 wq823 wq824 wq814) rfl rfl rfl hdX10_placeIn 0 rfl rfl rfl ⟨Nat.le_of_ble_eq_true rfl, Nat.le_of_ble_eq_true rfl⟩ rfl (Nat.le_of_ble_eq_true rfl) ⟨Nat.zero_le _, Nat.zero_le _⟩ dX10_couldBy_4) [0, 1, 2, 3, 4, 5, 6, 7, 8, 9, 10, 11] rfl (by decide) (fun r1 u1 h => ?_)
  refine z_istore (pc := 7) (lv' := [(6, .int r1), (0, .ref (d 0)), (1, .int x1), (2, .int x2), (3, .int x3), (4, .int x4), (5, .int x5)]) C dX10_couldBy_7 (by decide) rfl ?_
  refine z_iload (pc := 9) C 0 dX10_couldBy_9 rfl ?_
  refine z_if_lt (pc := 11) (tgt := 29) C dX10_couldBy_11 (by decide) (fun c2 => ?_) (fun c2 => ?_)
  · have h := h.1 c2
    refine z_iconst (pc := 29) (v := 0) C dX10_couldBy_29 (by decide) ?_
    exact hret 30 _ _ (0 : Int32) rfl () rfl h dX10_couldBy_30
  · have h := h.2 c2
    refine z_iload (pc := 14) C 6 dX10_couldBy_14 rfl ?_
    refine z_iload_n (pc := 16) C 3 dX10_couldBy_16 rfl ?_
    refine z_aload_n (pc := 17) C 1 dX10_couldBy_17 rfl ?_
    refine z_iload_n (pc := 18) C 2 dX10_couldBy_18 rfl ?_
    refine z_callRi (pc := 19) C (z_runV (pc := 19) (wc := (wX10 cI cJ d v g)) (As := [.int x1]) C (fun sz => kX10_pace d v g x1 sz h) [0, 1, 2, 3, 4, 5, 6, 7, 8, 9, 10, 11] rfl (by decide) (gdV wq817 wq828 wq829 wq830 wq814) rfl rfl rfl hdX10_pace 0 rfl rfl rfl ⟨Nat.le_of_ble_eq_true rfl, Nat.le_of_ble_eq_true rfl⟩ rfl (Nat.le_of_ble_eq_true rfl) ⟨Nat.zero_le _, Nat.zero_le _⟩ dX10_couldBy_19) [0, 1, 2, 3, 4, 5, 6, 7, 8, 9, 10, 11] rfl (by decide) (fun r3 u3 h => ?_)
    refine z_iload (pc := 22) C 0 dX10_couldBy_22 rfl ?_
    refine z_imul (pc := 24) C dX10_couldBy_24 ?_
    refine z_iadd (pc := 25) C dX10_couldBy_25 ?_
    refine z_icmp_ge (pc := 26) (tgt := 31) C dX10_couldBy_26 (by decide) (fun c4 => ?_) (fun c4 => ?_)
    · have h := h.1 c4
      refine z_iload_n (pc := 31) C 4 dX10_couldBy_31 rfl ?_
      refine z_if_lt (pc := 32) (tgt := 58) C dX10_couldBy_32 (by decide) (fun c5 => ?_) (fun c5 => ?_)
      · have h := h.1 c5
        refine z_sub (lv' := []) [] rfl ?_
        exact J58   h
      · have h := h.2 c5
        refine z_iload (pc := 35) C 6 dX10_couldBy_35 rfl ?_
        refine z_iload_n (pc := 37) C 4 dX10_couldBy_37 rfl ?_
        refine z_aload_n (pc := 38) C 1 dX10_couldBy_38 rfl ?_
        refine z_iload_n (pc := 39) C 2 dX10_couldBy_39 rfl ?_
        refine z_callRi (pc := 40) C (z_runV (pc := 40) (wc := (wX10 cI cJ d v g)) (As := [.int x1]) C (fun sz => kX10_amber d v g x1 sz h) [0, 1, 2, 3, 4, 5, 6, 7, 8, 9, 10, 11] rfl (by decide) (gdV wq815 wq825 wq826 wq827 wq814) rfl rfl rfl hdX10_amber 0 rfl rfl rfl ⟨Nat.le_of_ble_eq_true rfl, Nat.le_of_ble_eq_true rfl⟩ rfl (Nat.le_of_ble_eq_true rfl) ⟨Nat.zero_le _, Nat.zero_le _⟩ dX10_couldBy_40) [0, 1, 2, 3, 4, 5, 6, 7, 8, 9, 10, 11] rfl (by decide) (fun r6 u6 h => ?_)
        refine z_iadd (pc := 43) C dX10_couldBy_43 ?_
        refine z_aload_n (pc := 44) C 1 dX10_couldBy_44 rfl ?_
        refine z_iload_n (pc := 45) C 2 dX10_couldBy_45 rfl ?_
        refine z_callRi (pc := 46) C (z_runV (pc := 46) (wc := (wX10 cI cJ d v g)) (As := [.int x1]) C (fun sz => kX10_pace d v g x1 sz h) [0, 1, 2, 3, 4, 5, 6, 7, 8, 9, 10, 11] rfl (by decide) (gdV wq817 wq828 wq829 wq830 wq814) rfl rfl rfl hdX10_pace 0 rfl rfl rfl ⟨Nat.le_of_ble_eq_true rfl, Nat.le_of_ble_eq_true rfl⟩ rfl (Nat.le_of_ble_eq_true rfl) ⟨Nat.zero_le _, Nat.zero_le _⟩ dX10_couldBy_46) [0, 1, 2, 3, 4, 5, 6, 7, 8, 9, 10, 11] rfl (by decide) (fun r7 u7 h => ?_)
        refine z_iload (pc := 49) C 0 dX10_couldBy_49 rfl ?_
        refine z_iconst (pc := 51) (v := 1) C dX10_couldBy_51 (by decide) ?_
        refine z_iadd (pc := 52) C dX10_couldBy_52 ?_
        refine z_imul (pc := 53) C dX10_couldBy_53 ?_
        refine z_iadd (pc := 54) C dX10_couldBy_54 ?_
        refine z_icmp_ge (pc := 55) (tgt := 62) C dX10_couldBy_55 (by decide) (fun c8 => ?_) (fun c8 => ?_)
        · have h := h.1 c8
          refine z_iconst (pc := 62) (v := 0) C dX10_couldBy_62 (by decide) ?_
          exact hret 63 _ _ (0 : Int32) rfl () rfl h dX10_couldBy_63
        · have h := h.2 c8
          refine z_sub (lv' := []) [] rfl ?_
          exact J58   h
    · have h := h.2 c4
      refine z_iconst (pc := 29) (v := 0) C dX10_couldBy_29 (by decide) ?_
      exact hret 30 _ _ (0 : Int32) rfl () rfl h dX10_couldBy_30

def pX10_coulds_J212 (v : Lf) (x1 : Int32) (x2 : Int32) (x3 : Int32) (Q : Int32 → Prop) (K158 : Int32 → Int32 → Prop) (x4 : Int32) (x5 : Int32) : Prop := (K158 x4 (x5 + 1))
def pX10_coulds_L158 (v : Lf) (x1 : Int32) (x2 : Int32) (x3 : Int32) (Q : Int32 → Prop) : Nat → Int32 → Int32 → Prop
  | 0, _, _ => False
  | n158 + 1, x4, x5 => (((v 1 13) ≤ x5 → (Q x4 )) ∧ (¬ (v 1 13) ≤ x5 → (pX10_at v x5 (6 : Int32) (fun r6 => ((¬ r6 = (1 : Int32) → (pX10_coulds_J212 v x1 x2 x3 Q (fun x4 x5 => pX10_coulds_L158 v x1 x2 x3 Q n158 x4 x5) x4 x5)) ∧ (r6 = (1 : Int32) → (pX10_at v x5 (7 : Int32) (fun r8 => (pX10_couldBy v x5 r8 (-5 : Int32) x1 x2 (fun r9 => ((r9 = 0 → (pX10_coulds_J212 v x1 x2 x3 Q (fun x4 x5 => pX10_coulds_L158 v x1 x2 x3 Q n158 x4 x5) x4 x5)) ∧ (¬ r9 = 0 → (pX10_coulds_J212 v x1 x2 x3 Q (fun x4 x5 => pX10_coulds_L158 v x1 x2 x3 Q n158 x4 x5) (x4 ||| ((1 : Int32) <<< (x5 &&& 31))) x5)))))))))))))
def pX10_coulds_J149 (v : Lf) (x1 : Int32) (x2 : Int32) (x3 : Int32) (Q : Int32 → Prop) (K93 : Int32 → Int32 → Prop) (x4 : Int32) (x5 : Int32) : Prop := (K93 x4 (x5 + 1))
def pX10_coulds_L93 (v : Lf) (x1 : Int32) (x2 : Int32) (x3 : Int32) (Q : Int32 → Prop) : Nat → Int32 → Int32 → Prop
  | 0, _, _ => False
  | n93 + 1, x4, x5 => (((v 1 15) ≤ x5 → (∃ n158, pX10_coulds_L158 v x1 x2 x3 Q  n158 x4 (0 : Int32))) ∧ (¬ (v 1 15) ≤ x5 → (pX10_recordAt v x5 (0 : Int32) (fun r11 => (pX10_recordAt v x5 (1 : Int32) (fun r12 => (pX10_recordAt v x5 (2 : Int32) (fun r13 => (pX10_couldBy v r11 r12 r13 x1 x2 (fun r14 => ((r14 = 0 → (pX10_coulds_J149 v x1 x2 x3 Q (fun x4 x5 => pX10_coulds_L93 v x1 x2 x3 Q n93 x4 x5) x4 x5)) ∧ (¬ r14 = 0 → (pX10_recordAt v x5 (0 : Int32) (fun r16 => (pX10_coulds_J149 v x1 x2 x3 Q (fun x4 x5 => pX10_coulds_L93 v x1 x2 x3 Q n93 x4 x5) (x4 ||| ((1 : Int32) <<< (r16 &&& 31))) x5)))))))))))))))
def pX10_coulds_J81 (v : Lf) (x1 : Int32) (x2 : Int32) (x3 : Int32) (Q : Int32 → Prop) (K11 : Int32 → Int32 → Prop) (x4 : Int32) (x5 : Int32) : Prop := (K11 x4 (x5 + 1))
def pX10_coulds_L11 (v : Lf) (x1 : Int32) (x2 : Int32) (x3 : Int32) (Q : Int32 → Prop) : Nat → Int32 → Int32 → Prop
  | 0, _, _ => False
  | n11 + 1, x4, x5 => (((v 1 18) ≤ x5 → (Q x4 )) ∧ (¬ (v 1 18) ≤ x5 → (vp_in ((321 : Int32) + ((3 : Int32) * x5)) 372 ∧ (vp_in (((321 : Int32) + ((3 : Int32) * x5)) + (1 : Int32)) 372 ∧ (vp_in (((321 : Int32) + ((3 : Int32) * x5)) + (2 : Int32)) 372 ∧ (pX10_couldBy v (v 1 ((321 : Int32) + ((3 : Int32) * x5)).toNatClampNeg) (v 1 (((321 : Int32) + ((3 : Int32) * x5)) + (1 : Int32)).toNatClampNeg) (v 1 (((321 : Int32) + ((3 : Int32) * x5)) + (2 : Int32)).toNatClampNeg) x1 x2 (fun r22 => ((r22 = 0 → (pX10_coulds_J81 v x1 x2 x3 Q (fun x4 x5 => pX10_coulds_L11 v x1 x2 x3 Q n11 x4 x5) x4 x5)) ∧ (¬ r22 = 0 → (vp_in ((321 : Int32) + ((3 : Int32) * x5)) 372 ∧ (pX10_coulds_J81 v x1 x2 x3 Q (fun x4 x5 => pX10_coulds_L11 v x1 x2 x3 Q n11 x4 x5) (x4 ||| ((1 : Int32) <<< ((v 1 ((321 : Int32) + ((3 : Int32) * x5)).toNatClampNeg) &&& 31))) x5)))))))))))
def pX10_coulds (v : Lf) (x1 : Int32) (x2 : Int32) (x3 : Int32) (Q : Int32 → Prop) : Prop := ((¬ x3 = (1 : Int32) → (∃ n93, pX10_coulds_L93 v x1 x2 x3 Q  n93 (0 : Int32) (0 : Int32))) ∧ (x3 = (1 : Int32) → (∃ n11, pX10_coulds_L11 v x1 x2 x3 Q  n11 (0 : Int32) (0 : Int32))))
abbrev rmX10_coulds : Room := { frames := 3, cells := 0, slots := 0, locals := 71 }
abbrev wdX10_coulds : List Cond := Cond.code yX10_coulds cX10_coulds 7 (some .int) :: TB
theorem hdSX10_coulds : (yX10_coulds).cls ≠ "java/lang/invoke/MethodHandle" ∧ (yX10_coulds).cls ≠ "java/lang/invoke/VarHandle" ∧ (parseMethodDescriptor (yX10_coulds).desc).map (fun d => d.parameters.length) = some 3 := by decide +kernel
theorem hdX10_coulds : (yX10_coulds).cls = RX10 ∧ (yX10_coulds).cls ≠ "java/lang/invoke/MethodHandle" ∧ (yX10_coulds).cls ≠ "java/lang/invoke/VarHandle" ∧ (parseMethodDescriptor (yX10_coulds).desc).map (fun d => d.parameters.length) = some 3 := ⟨rfl, hdSX10_coulds⟩
set_option maxHeartbeats 4000000 in
set_option maxRecDepth 100000 in
theorem kX10_coulds {l : Launch} {D : va_G} {cI cJ cT : ClassId} (d : Nat → Nat)  (v : Lf) (g : Lg) (x1 : Int32) (x2 : Int32) (x3 : Int32) {Q : Int32 → Prop} (sz : Nat) (h : pX10_coulds v x1 x2 x3 Q) : Met l yX10_coulds wdX10_coulds rmX10_coulds (Pz D (tyL cI cJ cT) [.ref (d 0), .int x1, .int x2, .int x3] (wX10 cI cJ d v g) sz) (va_Qi (fun (r : Int32) (u : Unit) => Q r) (Bz D (tyL cI cJ cT) (wX10 cI cJ d v g) sz (fun (u : Unit) => (wX10 cI cJ d v g))) (va_A (wX10 cI cJ d v g) sz)) 0 0 (va_A (wX10 cI cJ d v g) sz) := by
  refine z_meti (cc := cX10_coulds) (maxL := 7) (own := RX10) (lv0 := [(0, .ref (d 0)), (1, .int x1), (2, .int x2), (3, .int x3)]) (by decide) rfl rfl (Nat.le_of_ble_eq_true rfl) rfl ?_
  intro p e s m args below meth c A QQ C hin hret
  have J212 : ∀ (K158 : Int32 → Int32 → Prop), (∀ (x4 : Int32) (x5 : Int32), K158 x4 x5 → ZZ p l e rmX10_coulds s m args below meth c D A 7 0 0 QQ 158 (wX10 cI cJ d v g) [(0, .ref (d 0)), (1, .int x1), (2, .int x2), (4, .int x4), (5, .int x5)] []) → ∀ (x4 : Int32) (x5 : Int32), pX10_coulds_J212 v x1 x2 x3 Q K158 x4 x5 → ZZ p l e rmX10_coulds s m args below meth c D A 7 0 0 QQ 212 (wX10 cI cJ d v g) [(0, .ref (d 0)), (1, .int x1), (2, .int x2), (4, .int x4), (5, .int x5)] [] := by
    intro K158 hK158 x4 x5 h
    refine z_iinc (pc := 212) (v := (x5 + 1)) (lv' := [(5, .int (x5 + 1)), (0, .ref (d 0)), (1, .int x1), (2, .int x2), (4, .int x4)]) C 4 dX10_coulds_212 rfl rfl (by decide) rfl ?_
    refine z_goto (pc := 215) (tgt := 158) C dX10_coulds_215 (by decide) ?_
    refine z_sub (lv' := [(0, .ref (d 0)), (1, .int x1), (2, .int x2), (4, .int x4), (5, .int (x5 + 1))]) [1, 2, 3, 4, 0] rfl ?_
    exact hK158 x4 (x5 + 1) h
  have L158 : ∀ (n158 : Nat) (x4 : Int32) (x5 : Int32), pX10_coulds_L158 v x1 x2 x3 Q n158 x4 x5 → ZZ p l e rmX10_coulds s m args below meth c D A 7 0 0 QQ 158 (wX10 cI cJ d v g) [(0, .ref (d 0)), (1, .int x1), (2, .int x2), (4, .int x4), (5, .int x5)] [] := by
    intro n158
    induction n158 with
    | zero => intro x4 x5 h; exact False.elim h
    | succ n158 ih158 =>
      intro x4 x5 h
      refine z_iload (pc := 158) C 4 dX10_coulds_158 rfl ?_
      refine z_aload_n (pc := 160) C 0 dX10_coulds_160 rfl ?_
      refine z_get (pc := 161) C uw10 0 rfl rfl 0 (by decide) wq809 rfl dX10_coulds_161 ?_
      refine z_bipush (pc := 164) (v := 13) C dX10_coulds_164 (by decide) ?_
      refine z_iald (pc := 166) C 1 0 rfl rfl vi_13_372 (v 1 13) (congrArg _ cl_13) dX10_coulds_166 ?_
      refine z_icmp_ge (pc := 167) (tgt := 218) C dX10_coulds_167 (by decide) (fun c5 => ?_) (fun c5 => ?_)
      · have h := h.1 c5
        refine z_iload (pc := 218) C 3 dX10_coulds_218 rfl ?_
        exact hret 220 _ _ x4 () rfl h dX10_coulds_220
      · have h := h.2 c5
        refine z_aload_n (pc := 170) C 0 dX10_coulds_170 rfl ?_
        refine z_iload (pc := 171) C 4 dX10_coulds_171 rfl ?_
        refine z_bipush (pc := 173) (v := 6) C dX10_coulds_173 (by decide) ?_
        refine z_callRi (pc := 175) C (z_runV (pc := 175) (wc := (wX10 cI cJ d v g)) (As := [.int x5, .int (6 : Int32)]) C (fun sz => kX10_at d v g x5 (6 : Int32) sz h) [0, 1, 2, 3, 4, 5, 6, 7, 8, 9, 10, 11] rfl (by decide) (gdV wq808 wq811 wq812 wq813 wq814) rfl rfl rfl hdX10_at 0 rfl rfl rfl ⟨Nat.le_of_ble_eq_true rfl, Nat.le_of_ble_eq_true rfl⟩ rfl (Nat.le_of_ble_eq_true rfl) ⟨Nat.zero_le _, Nat.zero_le _⟩ dX10_coulds_175) [0, 1, 2, 3, 4, 5, 6, 7, 8, 9, 10, 11] rfl (by decide) (fun r6 u6 h => ?_)
        refine z_iconst (pc := 178) (v := 1) C dX10_coulds_178 (by decide) ?_
        refine z_icmp_ne (pc := 179) (tgt := 212) C dX10_coulds_179 (by decide) (fun c7 => ?_) (fun c7 => ?_)
        · have h := h.1 c7
          exact J212 (fun x4 x5 => pX10_coulds_L158 v x1 x2 x3 Q n158 x4 x5) ih158 x4 x5 h
        · have h := h.2 c7
          refine z_aload_n (pc := 182) C 0 dX10_coulds_182 rfl ?_
          refine z_iload (pc := 183) C 4 dX10_coulds_183 rfl ?_
          refine z_aload_n (pc := 185) C 0 dX10_coulds_185 rfl ?_
          refine z_iload (pc := 186) C 4 dX10_coulds_186 rfl ?_
          refine z_bipush (pc := 188) (v := 7) C dX10_coulds_188 (by decide) ?_
          refine z_callRi (pc := 190) C (z_runV (pc := 190) (wc := (wX10 cI cJ d v g)) (As := [.int x5, .int (7 : Int32)]) C (fun sz => kX10_at d v g x5 (7 : Int32) sz h) [0, 1, 2, 3, 4, 5, 6, 7, 8, 9, 10, 11] rfl (by decide) (gdV wq808 wq811 wq812 wq813 wq814) rfl rfl rfl hdX10_at 0 rfl rfl rfl ⟨Nat.le_of_ble_eq_true rfl, Nat.le_of_ble_eq_true rfl⟩ rfl (Nat.le_of_ble_eq_true rfl) ⟨Nat.zero_le _, Nat.zero_le _⟩ dX10_coulds_190) [0, 1, 2, 3, 4, 5, 6, 7, 8, 9, 10, 11] rfl (by decide) (fun r8 u8 h => ?_)
          refine z_bipush (pc := 193) (v := -5) C dX10_coulds_193 (by decide) ?_
          refine z_iload_n (pc := 195) C 1 dX10_coulds_195 rfl ?_
          refine z_iload_n (pc := 196) C 2 dX10_coulds_196 rfl ?_
          refine z_callRi (pc := 197) C (z_runV (pc := 197) (wc := (wX10 cI cJ d v g)) (As := [.int x5, .int r8, .int (-5 : Int32), .int x1, .int x2]) C (fun sz => kX10_couldBy d v g x5 r8 (-5 : Int32) x1 x2 sz h) [0, 1, 2, 3, 4, 5, 6, 7, 8, 9, 10, 11] rfl (by decide) (gdV wq1037 wq1038 wq1039 wq1040 wq814) rfl rfl rfl hdX10_couldBy 0 rfl rfl rfl ⟨Nat.le_of_ble_eq_true rfl, Nat.le_of_ble_eq_true rfl⟩ rfl (Nat.le_of_ble_eq_true rfl) ⟨Nat.zero_le _, Nat.zero_le _⟩ dX10_coulds_197) [0, 1, 2, 3, 4, 5, 6, 7, 8, 9, 10, 11] rfl (by decide) (fun r9 u9 h => ?_)
          refine z_if_eq (pc := 200) (tgt := 212) C dX10_coulds_200 (by decide) (fun c10 => ?_) (fun c10 => ?_)
          · have h := h.1 c10
            exact J212 (fun x4 x5 => pX10_coulds_L158 v x1 x2 x3 Q n158 x4 x5) ih158 x4 x5 h
          · have h := h.2 c10
            refine z_iload (pc := 203) C 3 dX10_coulds_203 rfl ?_
            refine z_iconst (pc := 205) (v := 1) C dX10_coulds_205 (by decide) ?_
            refine z_iload (pc := 206) C 4 dX10_coulds_206 rfl ?_
            refine z_ishl (pc := 208) C dX10_coulds_208 ?_
            refine z_ior (pc := 209) C dX10_coulds_209 ?_
            refine z_istore (pc := 210) (lv' := [(4, .int (x4 ||| ((1 : Int32) <<< (x5 &&& 31)))), (0, .ref (d 0)), (1, .int x1), (2, .int x2), (5, .int x5)]) C dX10_coulds_210 (by decide) rfl ?_
            refine z_sub (lv' := [(0, .ref (d 0)), (1, .int x1), (2, .int x2), (4, .int (x4 ||| ((1 : Int32) <<< (x5 &&& 31)))), (5, .int x5)]) [1, 2, 3, 0, 4] rfl ?_
            exact J212 (fun x4 x5 => pX10_coulds_L158 v x1 x2 x3 Q n158 x4 x5) ih158 (x4 ||| ((1 : Int32) <<< (x5 &&& 31))) x5 h
  have J149 : ∀ (K93 : Int32 → Int32 → Prop), (∀ (x4 : Int32) (x5 : Int32), K93 x4 x5 → ZZ p l e rmX10_coulds s m args below meth c D A 7 0 0 QQ 93 (wX10 cI cJ d v g) [(0, .ref (d 0)), (1, .int x1), (2, .int x2), (4, .int x4), (5, .int x5)] []) → ∀ (x4 : Int32) (x5 : Int32), pX10_coulds_J149 v x1 x2 x3 Q K93 x4 x5 → ZZ p l e rmX10_coulds s m args below meth c D A 7 0 0 QQ 149 (wX10 cI cJ d v g) [(0, .ref (d 0)), (1, .int x1), (2, .int x2), (4, .int x4), (5, .int x5)] [] := by
    intro K93 hK93 x4 x5 h
    refine z_iinc (pc := 149) (v := (x5 + 1)) (lv' := [(5, .int (x5 + 1)), (0, .ref (d 0)), (1, .int x1), (2, .int x2), (4, .int x4)]) C 4 dX10_coulds_149 rfl rfl (by decide) rfl ?_
    refine z_goto (pc := 152) (tgt := 93) C dX10_coulds_152 (by decide) ?_
    refine z_sub (lv' := [(0, .ref (d 0)), (1, .int x1), (2, .int x2), (4, .int x4), (5, .int (x5 + 1))]) [1, 2, 3, 4, 0] rfl ?_
    exact hK93 x4 (x5 + 1) h
  have L93 : ∀ (n93 : Nat) (x4 : Int32) (x5 : Int32), pX10_coulds_L93 v x1 x2 x3 Q n93 x4 x5 → ZZ p l e rmX10_coulds s m args below meth c D A 7 0 0 QQ 93 (wX10 cI cJ d v g) [(0, .ref (d 0)), (1, .int x1), (2, .int x2), (4, .int x4), (5, .int x5)] [] := by
    intro n93
    induction n93 with
    | zero => intro x4 x5 h; exact False.elim h
    | succ n93 ih93 =>
      intro x4 x5 h
      refine z_iload (pc := 93) C 4 dX10_coulds_93 rfl ?_
      refine z_aload_n (pc := 95) C 0 dX10_coulds_95 rfl ?_
      refine z_get (pc := 96) C uw10 0 rfl rfl 0 (by decide) wq809 rfl dX10_coulds_96 ?_
      refine z_bipush (pc := 99) (v := 15) C dX10_coulds_99 (by decide) ?_
      refine z_iald (pc := 101) C 1 0 rfl rfl vi_15_372 (v 1 15) (congrArg _ cl_15) dX10_coulds_101 ?_
      refine z_icmp_ge (pc := 102) (tgt := 155) C dX10_coulds_102 (by decide) (fun c3 => ?_) (fun c3 => ?_)
      · have h := h.1 c3
        refine z_iconst (pc := 155) (v := 0) C dX10_coulds_155 (by decide) ?_
        refine z_istore (pc := 156) (lv' := [(5, .int (0 : Int32)), (0, .ref (d 0)), (1, .int x1), (2, .int x2), (4, .int x4)]) C dX10_coulds_156 (by decide) rfl ?_
        obtain ⟨n158, h⟩ := h
        refine z_sub (lv' := [(0, .ref (d 0)), (1, .int x1), (2, .int x2), (4, .int x4), (5, .int (0 : Int32))]) [1, 2, 3, 4, 0] rfl ?_
        exact L158  n158 x4 (0 : Int32) h
      · have h := h.2 c3
        refine z_aload_n (pc := 105) C 0 dX10_coulds_105 rfl ?_
        refine z_aload_n (pc := 106) C 0 dX10_coulds_106 rfl ?_
        refine z_iload (pc := 107) C 4 dX10_coulds_107 rfl ?_
        refine z_iconst (pc := 109) (v := 0) C dX10_coulds_109 (by decide) ?_
        refine z_callRi (pc := 110) C (z_runV (pc := 110) (wc := (wX10 cI cJ d v g)) (As := [.int x5, .int (0 : Int32)]) C (fun sz => kX10_recordAt d v g x5 (0 : Int32) sz h) [0, 1, 2, 3, 4, 5, 6, 7, 8, 9, 10, 11] rfl (by decide) (gdV wq1031 wq1033 wq1034 wq1035 wq814) rfl rfl rfl hdX10_recordAt 0 rfl rfl rfl ⟨Nat.le_of_ble_eq_true rfl, Nat.le_of_ble_eq_true rfl⟩ rfl (Nat.le_of_ble_eq_true rfl) ⟨Nat.zero_le _, Nat.zero_le _⟩ dX10_coulds_110) [0, 1, 2, 3, 4, 5, 6, 7, 8, 9, 10, 11] rfl (by decide) (fun r11 u11 h => ?_)
        refine z_aload_n (pc := 113) C 0 dX10_coulds_113 rfl ?_
        refine z_iload (pc := 114) C 4 dX10_coulds_114 rfl ?_
        refine z_iconst (pc := 116) (v := 1) C dX10_coulds_116 (by decide) ?_
        refine z_callRi (pc := 117) C (z_runV (pc := 117) (wc := (wX10 cI cJ d v g)) (As := [.int x5, .int (1 : Int32)]) C (fun sz => kX10_recordAt d v g x5 (1 : Int32) sz h) [0, 1, 2, 3, 4, 5, 6, 7, 8, 9, 10, 11] rfl (by decide) (gdV wq1031 wq1033 wq1034 wq1035 wq814) rfl rfl rfl hdX10_recordAt 0 rfl rfl rfl ⟨Nat.le_of_ble_eq_true rfl, Nat.le_of_ble_eq_true rfl⟩ rfl (Nat.le_of_ble_eq_true rfl) ⟨Nat.zero_le _, Nat.zero_le _⟩ dX10_coulds_117) [0, 1, 2, 3, 4, 5, 6, 7, 8, 9, 10, 11] rfl (by decide) (fun r12 u12 h => ?_)
        refine z_aload_n (pc := 120) C 0 dX10_coulds_120 rfl ?_
        refine z_iload (pc := 121) C 4 dX10_coulds_121 rfl ?_
        refine z_iconst (pc := 123) (v := 2) C dX10_coulds_123 (by decide) ?_
        refine z_callRi (pc := 124) C (z_runV (pc := 124) (wc := (wX10 cI cJ d v g)) (As := [.int x5, .int (2 : Int32)]) C (fun sz => kX10_recordAt d v g x5 (2 : Int32) sz h) [0, 1, 2, 3, 4, 5, 6, 7, 8, 9, 10, 11] rfl (by decide) (gdV wq1031 wq1033 wq1034 wq1035 wq814) rfl rfl rfl hdX10_recordAt 0 rfl rfl rfl ⟨Nat.le_of_ble_eq_true rfl, Nat.le_of_ble_eq_true rfl⟩ rfl (Nat.le_of_ble_eq_true rfl) ⟨Nat.zero_le _, Nat.zero_le _⟩ dX10_coulds_124) [0, 1, 2, 3, 4, 5, 6, 7, 8, 9, 10, 11] rfl (by decide) (fun r13 u13 h => ?_)
        refine z_iload_n (pc := 127) C 1 dX10_coulds_127 rfl ?_
        refine z_iload_n (pc := 128) C 2 dX10_coulds_128 rfl ?_
        refine z_callRi (pc := 129) C (z_runV (pc := 129) (wc := (wX10 cI cJ d v g)) (As := [.int r11, .int r12, .int r13, .int x1, .int x2]) C (fun sz => kX10_couldBy d v g r11 r12 r13 x1 x2 sz h) [0, 1, 2, 3, 4, 5, 6, 7, 8, 9, 10, 11] rfl (by decide) (gdV wq1037 wq1038 wq1039 wq1040 wq814) rfl rfl rfl hdX10_couldBy 0 rfl rfl rfl ⟨Nat.le_of_ble_eq_true rfl, Nat.le_of_ble_eq_true rfl⟩ rfl (Nat.le_of_ble_eq_true rfl) ⟨Nat.zero_le _, Nat.zero_le _⟩ dX10_coulds_129) [0, 1, 2, 3, 4, 5, 6, 7, 8, 9, 10, 11] rfl (by decide) (fun r14 u14 h => ?_)
        refine z_if_eq (pc := 132) (tgt := 149) C dX10_coulds_132 (by decide) (fun c15 => ?_) (fun c15 => ?_)
        · have h := h.1 c15
          exact J149 (fun x4 x5 => pX10_coulds_L93 v x1 x2 x3 Q n93 x4 x5) ih93 x4 x5 h
        · have h := h.2 c15
          refine z_iload (pc := 135) C 3 dX10_coulds_135 rfl ?_
          refine z_iconst (pc := 137) (v := 1) C dX10_coulds_137 (by decide) ?_
          refine z_aload_n (pc := 138) C 0 dX10_coulds_138 rfl ?_
          refine z_iload (pc := 139) C 4 dX10_coulds_139 rfl ?_
          refine z_iconst (pc := 141) (v := 0) C dX10_coulds_141 (by decide) ?_
          refine z_callRi (pc := 142) C (z_runV (pc := 142) (wc := (wX10 cI cJ d v g)) (As := [.int x5, .int (0 : Int32)]) C (fun sz => kX10_recordAt d v g x5 (0 : Int32) sz h) [0, 1, 2, 3, 4, 5, 6, 7, 8, 9, 10, 11] rfl (by decide) (gdV wq1031 wq1033 wq1034 wq1035 wq814) rfl rfl rfl hdX10_recordAt 0 rfl rfl rfl ⟨Nat.le_of_ble_eq_true rfl, Nat.le_of_ble_eq_true rfl⟩ rfl (Nat.le_of_ble_eq_true rfl) ⟨Nat.zero_le _, Nat.zero_le _⟩ dX10_coulds_142) [0, 1, 2, 3, 4, 5, 6, 7, 8, 9, 10, 11] rfl (by decide) (fun r16 u16 h => ?_)
          refine z_ishl (pc := 145) C dX10_coulds_145 ?_
          refine z_ior (pc := 146) C dX10_coulds_146 ?_
          refine z_istore (pc := 147) (lv' := [(4, .int (x4 ||| ((1 : Int32) <<< (r16 &&& 31)))), (0, .ref (d 0)), (1, .int x1), (2, .int x2), (5, .int x5)]) C dX10_coulds_147 (by decide) rfl ?_
          refine z_sub (lv' := [(0, .ref (d 0)), (1, .int x1), (2, .int x2), (4, .int (x4 ||| ((1 : Int32) <<< (r16 &&& 31)))), (5, .int x5)]) [1, 2, 3, 0, 4] rfl ?_
          exact J149 (fun x4 x5 => pX10_coulds_L93 v x1 x2 x3 Q n93 x4 x5) ih93 (x4 ||| ((1 : Int32) <<< (r16 &&& 31))) x5 h
  have J81 : ∀ (K11 : Int32 → Int32 → Prop), (∀ (x4 : Int32) (x5 : Int32), K11 x4 x5 → ZZ p l e rmX10_coulds s m args below meth c D A 7 0 0 QQ 11 (wX10 cI cJ d v g) [(0, .ref (d 0)), (1, .int x1), (2, .int x2), (4, .int x4), (5, .int x5)] []) → ∀ (x4 : Int32) (x5 : Int32), pX10_coulds_J81 v x1 x2 x3 Q K11 x4 x5 → ZZ p l e rmX10_coulds s m args below meth c D A 7 0 0 QQ 81 (wX10 cI cJ d v g) [(0, .ref (d 0)), (1, .int x1), (2, .int x2), (4, .int x4), (5, .int x5)] [] := by
    intro K11 hK11 x4 x5 h
    refine z_iinc (pc := 81) (v := (x5 + 1)) (lv' := [(5, .int (x5 + 1)), (0, .ref (d 0)), (1, .int x1), (2, .int x2), (4, .int x4)]) C 4 dX10_coulds_81 rfl rfl (by decide) rfl ?_
    refine z_goto (pc := 84) (tgt := 11) C dX10_coulds_84 (by decide) ?_
    refine z_sub (lv' := [(0, .ref (d 0)), (1, .int x1), (2, .int x2), (4, .int x4), (5, .int (x5 + 1))]) [1, 2, 3, 4, 0] rfl ?_
    exact hK11 x4 (x5 + 1) h
  have L11 : ∀ (n11 : Nat) (x4 : Int32) (x5 : Int32), pX10_coulds_L11 v x1 x2 x3 Q n11 x4 x5 → ZZ p l e rmX10_coulds s m args below meth c D A 7 0 0 QQ 11 (wX10 cI cJ d v g) [(0, .ref (d 0)), (1, .int x1), (2, .int x2), (4, .int x4), (5, .int x5)] [] := by
    intro n11
    induction n11 with
    | zero => intro x4 x5 h; exact False.elim h
    | succ n11 ih11 =>
      intro x4 x5 h
      refine z_iload (pc := 11) C 4 dX10_coulds_11 rfl ?_
      refine z_aload_n (pc := 13) C 0 dX10_coulds_13 rfl ?_
      refine z_get (pc := 14) C uw10 0 rfl rfl 0 (by decide) wq809 rfl dX10_coulds_14 ?_
      refine z_bipush (pc := 17) (v := 18) C dX10_coulds_17 (by decide) ?_
      refine z_iald (pc := 19) C 1 0 rfl rfl vi_18_372 (v 1 18) (congrArg _ cl_18) dX10_coulds_19 ?_
      refine z_icmp_ge (pc := 20) (tgt := 87) C dX10_coulds_20 (by decide) (fun c18 => ?_) (fun c18 => ?_)
      · have h := h.1 c18
        refine z_iload (pc := 87) C 3 dX10_coulds_87 rfl ?_
        exact hret 89 _ _ x4 () rfl h dX10_coulds_89
      · have h := h.2 c18
        refine z_sipush (pc := 23) (v := 321) C dX10_coulds_23 (by decide) ?_
        refine z_iconst (pc := 26) (v := 3) C dX10_coulds_26 (by decide) ?_
        refine z_iload (pc := 27) C 4 dX10_coulds_27 rfl ?_
        refine z_imul (pc := 29) C dX10_coulds_29 ?_
        refine z_iadd (pc := 30) C dX10_coulds_30 ?_
        refine z_istore (pc := 31) (lv' := [(6, .int ((321 : Int32) + ((3 : Int32) * x5))), (0, .ref (d 0)), (1, .int x1), (2, .int x2), (4, .int x4), (5, .int x5)]) C dX10_coulds_31 (by decide) rfl ?_
        refine z_aload_n (pc := 33) C 1 dX10_coulds_33 rfl ?_
        refine z_aload_n (pc := 34) C 1 dX10_coulds_34 rfl ?_
        refine z_get (pc := 35) C uw10 0 rfl rfl 0 (by decide) wq809 rfl dX10_coulds_35 ?_
        refine z_iload (pc := 38) C 0 dX10_coulds_38 rfl ?_
        obtain ⟨g19, h⟩ := h
        refine z_iald (pc := 40) C 1 0 rfl rfl g19 (v 1 ((321 : Int32) + ((3 : Int32) * x5)).toNatClampNeg) rfl dX10_coulds_40 ?_
        refine z_aload_n (pc := 41) C 1 dX10_coulds_41 rfl ?_
        refine z_get (pc := 42) C uw10 0 rfl rfl 0 (by decide) wq809 rfl dX10_coulds_42 ?_
        refine z_iload (pc := 45) C 0 dX10_coulds_45 rfl ?_
        refine z_iconst (pc := 47) (v := 1) C dX10_coulds_47 (by decide) ?_
        refine z_iadd (pc := 48) C dX10_coulds_48 ?_
        obtain ⟨g20, h⟩ := h
        refine z_iald (pc := 49) C 1 0 rfl rfl g20 (v 1 (((321 : Int32) + ((3 : Int32) * x5)) + (1 : Int32)).toNatClampNeg) rfl dX10_coulds_49 ?_
        refine z_aload_n (pc := 50) C 1 dX10_coulds_50 rfl ?_
        refine z_get (pc := 51) C uw10 0 rfl rfl 0 (by decide) wq809 rfl dX10_coulds_51 ?_
        refine z_iload (pc := 54) C 0 dX10_coulds_54 rfl ?_
        refine z_iconst (pc := 56) (v := 2) C dX10_coulds_56 (by decide) ?_
        refine z_iadd (pc := 57) C dX10_coulds_57 ?_
        obtain ⟨g21, h⟩ := h
        refine z_iald (pc := 58) C 1 0 rfl rfl g21 (v 1 (((321 : Int32) + ((3 : Int32) * x5)) + (2 : Int32)).toNatClampNeg) rfl dX10_coulds_58 ?_
        refine z_iload_n (pc := 59) C 2 dX10_coulds_59 rfl ?_
        refine z_iload_n (pc := 60) C 3 dX10_coulds_60 rfl ?_
        refine z_callRi (pc := 61) C (z_runV (pc := 61) (wc := (wX10 cI cJ d v g)) (As := [.int (v 1 ((321 : Int32) + ((3 : Int32) * x5)).toNatClampNeg), .int (v 1 (((321 : Int32) + ((3 : Int32) * x5)) + (1 : Int32)).toNatClampNeg), .int (v 1 (((321 : Int32) + ((3 : Int32) * x5)) + (2 : Int32)).toNatClampNeg), .int x1, .int x2]) C (fun sz => kX10_couldBy d v g (v 1 ((321 : Int32) + ((3 : Int32) * x5)).toNatClampNeg) (v 1 (((321 : Int32) + ((3 : Int32) * x5)) + (1 : Int32)).toNatClampNeg) (v 1 (((321 : Int32) + ((3 : Int32) * x5)) + (2 : Int32)).toNatClampNeg) x1 x2 sz h) [0, 1, 2, 3, 4, 5, 6, 7, 8, 9, 10, 11] rfl (by decide) (gdV wq1037 wq1038 wq1039 wq1040 wq814) rfl rfl rfl hdX10_couldBy 0 rfl rfl rfl ⟨Nat.le_of_ble_eq_true rfl, Nat.le_of_ble_eq_true rfl⟩ rfl (Nat.le_of_ble_eq_true rfl) ⟨Nat.zero_le _, Nat.zero_le _⟩ dX10_coulds_61) [0, 1, 2, 3, 4, 5, 6, 7, 8, 9, 10, 11] rfl (by decide) (fun r22 u22 h => ?_)
        refine z_if_eq (pc := 64) (tgt := 81) C dX10_coulds_64 (by decide) (fun c23 => ?_) (fun c23 => ?_)
        · have h := h.1 c23
          refine z_sub (lv' := [(0, .ref (d 0)), (1, .int x1), (2, .int x2), (4, .int x4), (5, .int x5)]) [1, 2, 3, 4, 5] rfl ?_
          exact J81 (fun x4 x5 => pX10_coulds_L11 v x1 x2 x3 Q n11 x4 x5) ih11 x4 x5 h
        · have h := h.2 c23
          refine z_iload (pc := 67) C 4 dX10_coulds_67 rfl ?_
          refine z_iconst (pc := 69) (v := 1) C dX10_coulds_69 (by decide) ?_
          refine z_aload_n (pc := 70) C 1 dX10_coulds_70 rfl ?_
          refine z_get (pc := 71) C uw10 0 rfl rfl 0 (by decide) wq809 rfl dX10_coulds_71 ?_
          refine z_iload (pc := 74) C 0 dX10_coulds_74 rfl ?_
          obtain ⟨g24, h⟩ := h
          refine z_iald (pc := 76) C 1 0 rfl rfl g24 (v 1 ((321 : Int32) + ((3 : Int32) * x5)).toNatClampNeg) rfl dX10_coulds_76 ?_
          refine z_ishl (pc := 77) C dX10_coulds_77 ?_
          refine z_ior (pc := 78) C dX10_coulds_78 ?_
          refine z_istore (pc := 79) (lv' := [(4, .int (x4 ||| ((1 : Int32) <<< ((v 1 ((321 : Int32) + ((3 : Int32) * x5)).toNatClampNeg) &&& 31)))), (6, .int ((321 : Int32) + ((3 : Int32) * x5))), (0, .ref (d 0)), (1, .int x1), (2, .int x2), (5, .int x5)]) C dX10_coulds_79 (by decide) rfl ?_
          refine z_sub (lv' := [(0, .ref (d 0)), (1, .int x1), (2, .int x2), (4, .int (x4 ||| ((1 : Int32) <<< ((v 1 ((321 : Int32) + ((3 : Int32) * x5)).toNatClampNeg) &&& 31)))), (5, .int x5)]) [2, 3, 4, 0, 5] rfl ?_
          exact J81 (fun x4 x5 => pX10_coulds_L11 v x1 x2 x3 Q n11 x4 x5) ih11 (x4 ||| ((1 : Int32) <<< ((v 1 ((321 : Int32) + ((3 : Int32) * x5)).toNatClampNeg) &&& 31))) x5 h
  refine z_iconst (pc := 0) (v := 0) C dX10_coulds_0 (by decide) ?_
  refine z_istore (pc := 1) (lv' := [(4, .int (0 : Int32)), (0, .ref (d 0)), (1, .int x1), (2, .int x2), (3, .int x3)]) C dX10_coulds_1 (by decide) rfl ?_
  refine z_iload_n (pc := 3) C 4 dX10_coulds_3 rfl ?_
  refine z_iconst (pc := 4) (v := 1) C dX10_coulds_4 (by decide) ?_
  refine z_icmp_ne (pc := 5) (tgt := 90) C dX10_coulds_5 (by decide) (fun c1 => ?_) (fun c1 => ?_)
  · have h := h.1 c1
    refine z_iconst (pc := 90) (v := 0) C dX10_coulds_90 (by decide) ?_
    refine z_istore (pc := 91) (lv' := [(5, .int (0 : Int32)), (4, .int (0 : Int32)), (0, .ref (d 0)), (1, .int x1), (2, .int x2), (3, .int x3)]) C dX10_coulds_91 (by decide) rfl ?_
    obtain ⟨n93, h⟩ := h
    refine z_sub (lv' := [(0, .ref (d 0)), (1, .int x1), (2, .int x2), (4, .int (0 : Int32)), (5, .int (0 : Int32))]) [2, 3, 4, 1, 0] rfl ?_
    exact L93  n93 (0 : Int32) (0 : Int32) h
  · have h := h.2 c1
    refine z_iconst (pc := 8) (v := 0) C dX10_coulds_8 (by decide) ?_
    refine z_istore (pc := 9) (lv' := [(5, .int (0 : Int32)), (4, .int (0 : Int32)), (0, .ref (d 0)), (1, .int x1), (2, .int x2), (3, .int x3)]) C dX10_coulds_9 (by decide) rfl ?_
    obtain ⟨n11, h⟩ := h
    refine z_sub (lv' := [(0, .ref (d 0)), (1, .int x1), (2, .int x2), (4, .int (0 : Int32)), (5, .int (0 : Int32))]) [2, 3, 4, 1, 0] rfl ?_
    exact L11  n11 (0 : Int32) (0 : Int32) h

def pX10_could (v : Lf) (x1 : Int32) (x2 : Int32) (x3 : Int32) (Q : Int32 → Prop) : Prop := (pX10_isIn x3 (0 : Int32) (1 : Int32) (fun r1 => ((¬ r1 = 0 → (pX10_isIn x1 (0 : Int32) (63 : Int32) (fun r3 => ((r3 = 0 → (Q (-2 : Int32) )) ∧ (¬ r3 = 0 → (pX10_isIn x2 (0 : Int32) (9999 : Int32) (fun r5 => ((r5 = 0 → (Q (-2 : Int32) )) ∧ (¬ r5 = 0 → (pX10_coulds v x1 x2 x3 (fun r7 => (Q r7 )))))))))))) ∧ (r1 = 0 → (Q (-1 : Int32) )))))
abbrev rmX10_could : Room := { frames := 4, cells := 0, slots := 0, locals := 97 }
abbrev wdX10_could : List Cond := Cond.code yX10_could cX10_could 4 (some .int) :: TB
theorem hdSX10_could : (yX10_could).cls ≠ "java/lang/invoke/MethodHandle" ∧ (yX10_could).cls ≠ "java/lang/invoke/VarHandle" ∧ (parseMethodDescriptor (yX10_could).desc).map (fun d => d.parameters.length) = some 3 := by decide +kernel
theorem hdX10_could : (yX10_could).cls = RX10 ∧ (yX10_could).cls ≠ "java/lang/invoke/MethodHandle" ∧ (yX10_could).cls ≠ "java/lang/invoke/VarHandle" ∧ (parseMethodDescriptor (yX10_could).desc).map (fun d => d.parameters.length) = some 3 := ⟨rfl, hdSX10_could⟩
set_option maxHeartbeats 4000000 in
set_option maxRecDepth 100000 in
theorem kX10_could {l : Launch} {D : va_G} {cI cJ cT : ClassId} (d : Nat → Nat)  (v : Lf) (g : Lg) (x1 : Int32) (x2 : Int32) (x3 : Int32) {Q : Int32 → Prop} (sz : Nat) (h : pX10_could v x1 x2 x3 Q) : Met l yX10_could wdX10_could rmX10_could (Pz D (tyL cI cJ cT) [.ref (d 0), .int x1, .int x2, .int x3] (wX10 cI cJ d v g) sz) (va_Qi (fun (r : Int32) (u : Unit) => Q r) (Bz D (tyL cI cJ cT) (wX10 cI cJ d v g) sz (fun (u : Unit) => (wX10 cI cJ d v g))) (va_A (wX10 cI cJ d v g) sz)) 0 0 (va_A (wX10 cI cJ d v g) sz) := by
  refine z_meti (cc := cX10_could) (maxL := 4) (own := RX10) (lv0 := [(0, .ref (d 0)), (1, .int x1), (2, .int x2), (3, .int x3)]) (by decide) rfl rfl (Nat.le_of_ble_eq_true rfl) rfl ?_
  intro p e s m args below meth c A QQ C hin hret
  refine z_iload_n (pc := 0) C 3 dX10_could_0 rfl ?_
  refine z_iconst (pc := 1) (v := 0) C dX10_could_1 (by decide) ?_
  refine z_iconst (pc := 2) (v := 1) C dX10_could_2 (by decide) ?_
  refine z_call0i (pc := 3) C (z_runS (pc := 3) (wc := ([] : va_W)) (As := [.int x3, .int (0 : Int32), .int (1 : Int32)]) C (fun sz => kX10_isIn x3 (0 : Int32) (1 : Int32) sz h) [] rfl (by decide) (gdS wq849 wq852 wq853 wq814) rfl rfl rfl hdSX10_isIn ⟨Nat.le_of_ble_eq_true rfl, Nat.le_of_ble_eq_true rfl⟩ rfl (Nat.le_of_ble_eq_true rfl) ⟨Nat.zero_le _, Nat.zero_le _⟩ dX10_could_3) (fun r1 u1 h => ?_)
  refine z_if_ne (pc := 6) (tgt := 11) C dX10_could_6 (by decide) (fun c2 => ?_) (fun c2 => ?_)
  · have h := h.1 c2
    refine z_iload_n (pc := 11) C 1 dX10_could_11 rfl ?_
    refine z_iconst (pc := 12) (v := 0) C dX10_could_12 (by decide) ?_
    refine z_bipush (pc := 13) (v := 63) C dX10_could_13 (by decide) ?_
    refine z_call0i (pc := 15) C (z_runS (pc := 15) (wc := ([] : va_W)) (As := [.int x1, .int (0 : Int32), .int (63 : Int32)]) C (fun sz => kX10_isIn x1 (0 : Int32) (63 : Int32) sz h) [] rfl (by decide) (gdS wq849 wq852 wq853 wq814) rfl rfl rfl hdSX10_isIn ⟨Nat.le_of_ble_eq_true rfl, Nat.le_of_ble_eq_true rfl⟩ rfl (Nat.le_of_ble_eq_true rfl) ⟨Nat.zero_le _, Nat.zero_le _⟩ dX10_could_15) (fun r3 u3 h => ?_)
    refine z_if_eq (pc := 18) (tgt := 42) C dX10_could_18 (by decide) (fun c4 => ?_) (fun c4 => ?_)
    · have h := h.1 c4
      refine z_bipush (pc := 42) (v := -2) C dX10_could_42 (by decide) ?_
      exact hret 44 _ _ (-2 : Int32) () rfl h dX10_could_44
    · have h := h.2 c4
      refine z_iload_n (pc := 21) C 2 dX10_could_21 rfl ?_
      refine z_iconst (pc := 22) (v := 0) C dX10_could_22 (by decide) ?_
      refine z_sipush (pc := 23) (v := 9999) C dX10_could_23 (by decide) ?_
      refine z_call0i (pc := 26) C (z_runS (pc := 26) (wc := ([] : va_W)) (As := [.int x2, .int (0 : Int32), .int (9999 : Int32)]) C (fun sz => kX10_isIn x2 (0 : Int32) (9999 : Int32) sz h) [] rfl (by decide) (gdS wq849 wq852 wq853 wq814) rfl rfl rfl hdSX10_isIn ⟨Nat.le_of_ble_eq_true rfl, Nat.le_of_ble_eq_true rfl⟩ rfl (Nat.le_of_ble_eq_true rfl) ⟨Nat.zero_le _, Nat.zero_le _⟩ dX10_could_26) (fun r5 u5 h => ?_)
      refine z_if_eq (pc := 29) (tgt := 42) C dX10_could_29 (by decide) (fun c6 => ?_) (fun c6 => ?_)
      · have h := h.1 c6
        refine z_bipush (pc := 42) (v := -2) C dX10_could_42 (by decide) ?_
        exact hret 44 _ _ (-2 : Int32) () rfl h dX10_could_44
      · have h := h.2 c6
        refine z_aload_n (pc := 32) C 0 dX10_could_32 rfl ?_
        refine z_iload_n (pc := 33) C 1 dX10_could_33 rfl ?_
        refine z_iload_n (pc := 34) C 2 dX10_could_34 rfl ?_
        refine z_iload_n (pc := 35) C 3 dX10_could_35 rfl ?_
        refine z_callRi (pc := 36) C (z_runV (pc := 36) (wc := (wX10 cI cJ d v g)) (As := [.int x1, .int x2, .int x3]) C (fun sz => kX10_coulds d v g x1 x2 x3 sz h) [0, 1, 2, 3, 4, 5, 6, 7, 8, 9, 10, 11] rfl (by decide) (gdV wq1041 wq1042 wq1043 wq1044 wq814) rfl rfl rfl hdX10_coulds 0 rfl rfl rfl ⟨Nat.le_of_ble_eq_true rfl, Nat.le_of_ble_eq_true rfl⟩ rfl (Nat.le_of_ble_eq_true rfl) ⟨Nat.zero_le _, Nat.zero_le _⟩ dX10_could_36) [0, 1, 2, 3, 4, 5, 6, 7, 8, 9, 10, 11] rfl (by decide) (fun r7 u7 h => ?_)
        refine z_goto (pc := 39) (tgt := 44) C dX10_could_39 (by decide) ?_
        exact hret 44 _ _ r7 () rfl h dX10_could_44
  · have h := h.2 c2
    refine z_iconst (pc := 9) (v := -1) C dX10_could_9 (by decide) ?_
    exact hret 10 _ _ (-1 : Int32) () rfl h dX10_could_10

def pX10_crowded_L27 (v : Lf) (x1 : Int32) (x2 : Int32) (Q : Int32 → Prop) : Nat → Int32 → Prop
  | 0, _ => False
  | n27 + 1, x3 => (((64 : Int32) ≤ x3 → (Q (-5 : Int32) )) ∧ (¬ (64 : Int32) ≤ x3 → (pX10_coulds v x3 x1 x2 (fun r6 => (((r6 &&& (r6 - (1 : Int32))) = 0 → (pX10_crowded_L27 v x1 x2 Q n27 (x3 + 1))) ∧ (¬ (r6 &&& (r6 - (1 : Int32))) = 0 → (Q x3 )))))))
def pX10_crowded (v : Lf) (x1 : Int32) (x2 : Int32) (Q : Int32 → Prop) : Prop := (pX10_isIn x2 (0 : Int32) (1 : Int32) (fun r1 => ((¬ r1 = 0 → (pX10_isIn x1 (0 : Int32) (9999 : Int32) (fun r3 => ((¬ r3 = 0 → (∃ n27, pX10_crowded_L27 v x1 x2 Q  n27 (0 : Int32))) ∧ (r3 = 0 → (Q (-2 : Int32) )))))) ∧ (r1 = 0 → (Q (-1 : Int32) )))))
abbrev rmX10_crowded : Room := { frames := 4, cells := 0, slots := 0, locals := 97 }
abbrev wdX10_crowded : List Cond := Cond.code yX10_crowded cX10_crowded 5 (some .int) :: TB
theorem hdSX10_crowded : (yX10_crowded).cls ≠ "java/lang/invoke/MethodHandle" ∧ (yX10_crowded).cls ≠ "java/lang/invoke/VarHandle" ∧ (parseMethodDescriptor (yX10_crowded).desc).map (fun d => d.parameters.length) = some 2 := by decide +kernel
theorem hdX10_crowded : (yX10_crowded).cls = RX10 ∧ (yX10_crowded).cls ≠ "java/lang/invoke/MethodHandle" ∧ (yX10_crowded).cls ≠ "java/lang/invoke/VarHandle" ∧ (parseMethodDescriptor (yX10_crowded).desc).map (fun d => d.parameters.length) = some 2 := ⟨rfl, hdSX10_crowded⟩
set_option maxHeartbeats 4000000 in
set_option maxRecDepth 100000 in
theorem kX10_crowded {l : Launch} {D : va_G} {cI cJ cT : ClassId} (d : Nat → Nat)  (v : Lf) (g : Lg) (x1 : Int32) (x2 : Int32) {Q : Int32 → Prop} (sz : Nat) (h : pX10_crowded v x1 x2 Q) : Met l yX10_crowded wdX10_crowded rmX10_crowded (Pz D (tyL cI cJ cT) [.ref (d 0), .int x1, .int x2] (wX10 cI cJ d v g) sz) (va_Qi (fun (r : Int32) (u : Unit) => Q r) (Bz D (tyL cI cJ cT) (wX10 cI cJ d v g) sz (fun (u : Unit) => (wX10 cI cJ d v g))) (va_A (wX10 cI cJ d v g) sz)) 0 0 (va_A (wX10 cI cJ d v g) sz) := by
  refine z_meti (cc := cX10_crowded) (maxL := 5) (own := RX10) (lv0 := [(0, .ref (d 0)), (1, .int x1), (2, .int x2)]) (by decide) rfl rfl (Nat.le_of_ble_eq_true rfl) rfl ?_
  intro p e s m args below meth c A QQ C hin hret
  have L27 : ∀ (n27 : Nat) (x3 : Int32), pX10_crowded_L27 v x1 x2 Q n27 x3 → ZZ p l e rmX10_crowded s m args below meth c D A 5 0 0 QQ 27 (wX10 cI cJ d v g) [(0, .ref (d 0)), (1, .int x1), (2, .int x2), (3, .int x3)] [] := by
    intro n27
    induction n27 with
    | zero => intro x3 h; exact False.elim h
    | succ n27 ih27 =>
      intro x3 h
      refine z_iload_n (pc := 27) C 3 dX10_crowded_27 rfl ?_
      refine z_bipush (pc := 28) (v := 64) C dX10_crowded_28 (by decide) ?_
      refine z_icmp_ge (pc := 30) (tgt := 60) C dX10_crowded_30 (by decide) (fun c5 => ?_) (fun c5 => ?_)
      · have h := h.1 c5
        refine z_bipush (pc := 60) (v := -5) C dX10_crowded_60 (by decide) ?_
        exact hret 62 _ _ (-5 : Int32) () rfl h dX10_crowded_62
      · have h := h.2 c5
        refine z_aload_n (pc := 33) C 0 dX10_crowded_33 rfl ?_
        refine z_iload_n (pc := 34) C 3 dX10_crowded_34 rfl ?_
        refine z_iload_n (pc := 35) C 1 dX10_crowded_35 rfl ?_
        refine z_iload_n (pc := 36) C 2 dX10_crowded_36 rfl ?_
        refine z_callRi (pc := 37) C (z_runV (pc := 37) (wc := (wX10 cI cJ d v g)) (As := [.int x3, .int x1, .int x2]) C (fun sz => kX10_coulds d v g x3 x1 x2 sz h) [0, 1, 2, 3, 4, 5, 6, 7, 8, 9, 10, 11] rfl (by decide) (gdV wq1041 wq1042 wq1043 wq1044 wq814) rfl rfl rfl hdX10_coulds 0 rfl rfl rfl ⟨Nat.le_of_ble_eq_true rfl, Nat.le_of_ble_eq_true rfl⟩ rfl (Nat.le_of_ble_eq_true rfl) ⟨Nat.zero_le _, Nat.zero_le _⟩ dX10_crowded_37) [0, 1, 2, 3, 4, 5, 6, 7, 8, 9, 10, 11] rfl (by decide) (fun r6 u6 h => ?_)
        refine z_istore (pc := 40) (lv' := [(4, .int r6), (0, .ref (d 0)), (1, .int x1), (2, .int x2), (3, .int x3)]) C dX10_crowded_40 (by decide) rfl ?_
        refine z_iload (pc := 42) C 0 dX10_crowded_42 rfl ?_
        refine z_iload (pc := 44) C 0 dX10_crowded_44 rfl ?_
        refine z_iconst (pc := 46) (v := 1) C dX10_crowded_46 (by decide) ?_
        refine z_isub (pc := 47) C dX10_crowded_47 ?_
        refine z_iand (pc := 48) C dX10_crowded_48 ?_
        refine z_if_eq (pc := 49) (tgt := 54) C dX10_crowded_49 (by decide) (fun c7 => ?_) (fun c7 => ?_)
        · have h := h.1 c7
          refine z_iinc (pc := 54) (v := (x3 + 1)) (lv' := [(3, .int (x3 + 1)), (4, .int r6), (0, .ref (d 0)), (1, .int x1), (2, .int x2)]) C 4 dX10_crowded_54 rfl rfl (by decide) rfl ?_
          refine z_goto (pc := 57) (tgt := 27) C dX10_crowded_57 (by decide) ?_
          refine z_sub (lv' := [(0, .ref (d 0)), (1, .int x1), (2, .int x2), (3, .int (x3 + 1))]) [2, 3, 4, 0] rfl ?_
          exact ih27 (x3 + 1) h
        · have h := h.2 c7
          refine z_iload_n (pc := 52) C 4 dX10_crowded_52 rfl ?_
          exact hret 53 _ _ x3 () rfl h dX10_crowded_53
  refine z_iload_n (pc := 0) C 2 dX10_crowded_0 rfl ?_
  refine z_iconst (pc := 1) (v := 0) C dX10_crowded_1 (by decide) ?_
  refine z_iconst (pc := 2) (v := 1) C dX10_crowded_2 (by decide) ?_
  refine z_call0i (pc := 3) C (z_runS (pc := 3) (wc := ([] : va_W)) (As := [.int x2, .int (0 : Int32), .int (1 : Int32)]) C (fun sz => kX10_isIn x2 (0 : Int32) (1 : Int32) sz h) [] rfl (by decide) (gdS wq849 wq852 wq853 wq814) rfl rfl rfl hdSX10_isIn ⟨Nat.le_of_ble_eq_true rfl, Nat.le_of_ble_eq_true rfl⟩ rfl (Nat.le_of_ble_eq_true rfl) ⟨Nat.zero_le _, Nat.zero_le _⟩ dX10_crowded_3) (fun r1 u1 h => ?_)
  refine z_if_ne (pc := 6) (tgt := 11) C dX10_crowded_6 (by decide) (fun c2 => ?_) (fun c2 => ?_)
  · have h := h.1 c2
    refine z_iload_n (pc := 11) C 1 dX10_crowded_11 rfl ?_
    refine z_iconst (pc := 12) (v := 0) C dX10_crowded_12 (by decide) ?_
    refine z_sipush (pc := 13) (v := 9999) C dX10_crowded_13 (by decide) ?_
    refine z_call0i (pc := 16) C (z_runS (pc := 16) (wc := ([] : va_W)) (As := [.int x1, .int (0 : Int32), .int (9999 : Int32)]) C (fun sz => kX10_isIn x1 (0 : Int32) (9999 : Int32) sz h) [] rfl (by decide) (gdS wq849 wq852 wq853 wq814) rfl rfl rfl hdSX10_isIn ⟨Nat.le_of_ble_eq_true rfl, Nat.le_of_ble_eq_true rfl⟩ rfl (Nat.le_of_ble_eq_true rfl) ⟨Nat.zero_le _, Nat.zero_le _⟩ dX10_crowded_16) (fun r3 u3 h => ?_)
    refine z_if_ne (pc := 19) (tgt := 25) C dX10_crowded_19 (by decide) (fun c4 => ?_) (fun c4 => ?_)
    · have h := h.1 c4
      refine z_iconst (pc := 25) (v := 0) C dX10_crowded_25 (by decide) ?_
      refine z_istore_n (pc := 26) (lv' := [(3, .int (0 : Int32)), (0, .ref (d 0)), (1, .int x1), (2, .int x2)]) C dX10_crowded_26 (by decide) rfl ?_
      obtain ⟨n27, h⟩ := h
      refine z_sub (lv' := [(0, .ref (d 0)), (1, .int x1), (2, .int x2), (3, .int (0 : Int32))]) [1, 2, 3, 0] rfl ?_
      exact L27  n27 (0 : Int32) h
    · have h := h.2 c4
      refine z_bipush (pc := 22) (v := -2) C dX10_crowded_22 (by decide) ?_
      exact hret 24 _ _ (-2 : Int32) () rfl h dX10_crowded_24
  · have h := h.2 c2
    refine z_iconst (pc := 9) (v := -1) C dX10_crowded_9 (by decide) ?_
    exact hret 10 _ _ (-1 : Int32) () rfl h dX10_crowded_10

def pX10_green (v : Lf) (x1 : Int32) (x2 : Int32) (x3 : Int32) (Q : Int32 → Lf → Prop) : Prop := ((¬ x1 = (-1 : Int32) → (pX10_isSignal v x1 (fun r2 => ((¬ r2 = 0 → (pX10_isIn x2 (0 : Int32) (9998 : Int32) (fun r4 => ((r4 = 0 → (Q (-2 : Int32) v)) ∧ (¬ r4 = 0 → ((x3 ≤ x2 → (Q (-2 : Int32) v)) ∧ (¬ x3 ≤ x2 → ((x3 ≤ (9999 : Int32) → ((¬ (v 1 18) = (8 : Int32) → (vp_in ((321 : Int32) + ((3 : Int32) * (v 1 18))) 372 ∧ (vp_in (((321 : Int32) + ((3 : Int32) * (v 1 18))) + (1 : Int32)) 372 ∧ (vp_in (((321 : Int32) + ((3 : Int32) * (v 1 18))) + (2 : Int32)) 372 ∧ (Q ((st (st (st (st v 1 (((321 : Int32) + ((3 : Int32) * (v 1 18))).toNatClampNeg) x1) 1 ((((321 : Int32) + ((3 : Int32) * (v 1 18))) + (1 : Int32)).toNatClampNeg) x2) 1 ((((321 : Int32) + ((3 : Int32) * (v 1 18))) + (2 : Int32)).toNatClampNeg) x3) 1 18 (((st (st (st v 1 (((321 : Int32) + ((3 : Int32) * (v 1 18))).toNatClampNeg) x1) 1 ((((321 : Int32) + ((3 : Int32) * (v 1 18))) + (1 : Int32)).toNatClampNeg) x2) 1 ((((321 : Int32) + ((3 : Int32) * (v 1 18))) + (2 : Int32)).toNatClampNeg) x3) 1 18) + (1 : Int32))) 1 18) (st (st (st (st v 1 (((321 : Int32) + ((3 : Int32) * (v 1 18))).toNatClampNeg) x1) 1 ((((321 : Int32) + ((3 : Int32) * (v 1 18))) + (1 : Int32)).toNatClampNeg) x2) 1 ((((321 : Int32) + ((3 : Int32) * (v 1 18))) + (2 : Int32)).toNatClampNeg) x3) 1 18 (((st (st (st v 1 (((321 : Int32) + ((3 : Int32) * (v 1 18))).toNatClampNeg) x1) 1 ((((321 : Int32) + ((3 : Int32) * (v 1 18))) + (1 : Int32)).toNatClampNeg) x2) 1 ((((321 : Int32) + ((3 : Int32) * (v 1 18))) + (2 : Int32)).toNatClampNeg) x3) 1 18) + (1 : Int32)))))))) ∧ ((v 1 18) = (8 : Int32) → (Q (-4 : Int32) v)))) ∧ (¬ x3 ≤ (9999 : Int32) → (Q (-2 : Int32) v)))))))))) ∧ (r2 = 0 → (Q (-1 : Int32) v)))))) ∧ (x1 = (-1 : Int32) → (Q (0 : Int32) (st v 1 18 (0 : Int32)))))
abbrev rmX10_green : Room := { frames := 2, cells := 0, slots := 0, locals := 43 }
abbrev wdX10_green : List Cond := Cond.code yX10_green cX10_green 5 (some .int) :: TB
theorem hdSX10_green : (yX10_green).cls ≠ "java/lang/invoke/MethodHandle" ∧ (yX10_green).cls ≠ "java/lang/invoke/VarHandle" ∧ (parseMethodDescriptor (yX10_green).desc).map (fun d => d.parameters.length) = some 3 := by decide +kernel
theorem hdX10_green : (yX10_green).cls = RX10 ∧ (yX10_green).cls ≠ "java/lang/invoke/MethodHandle" ∧ (yX10_green).cls ≠ "java/lang/invoke/VarHandle" ∧ (parseMethodDescriptor (yX10_green).desc).map (fun d => d.parameters.length) = some 3 := ⟨rfl, hdSX10_green⟩
set_option maxHeartbeats 4000000 in
set_option maxRecDepth 100000 in
theorem kX10_green {l : Launch} {D : va_G} {cI cJ cT : ClassId} (d : Nat → Nat)  (v : Lf) (g : Lg) (x1 : Int32) (x2 : Int32) (x3 : Int32) {Q : Int32 → Lf → Prop} (sz : Nat) (h : pX10_green v x1 x2 x3 Q) : Met l yX10_green wdX10_green rmX10_green (Pz D (tyL cI cJ cT) [.ref (d 0), .int x1, .int x2, .int x3] (wX10 cI cJ d v g) sz) (va_Qi (fun (r : Int32) (u : Lf) => Q r u) (Bz D (tyL cI cJ cT) (wX10 cI cJ d v g) sz (fun (u : Lf) => (wX10 cI cJ d u g))) (va_A (wX10 cI cJ d v g) sz)) 0 0 (va_A (wX10 cI cJ d v g) sz) := by
  refine z_meti (cc := cX10_green) (maxL := 5) (own := RX10) (lv0 := [(0, .ref (d 0)), (1, .int x1), (2, .int x2), (3, .int x3)]) (by decide) rfl rfl (Nat.le_of_ble_eq_true rfl) rfl ?_
  intro p e s m args below meth c A QQ C hin hret
  refine z_iload_n (pc := 0) C 1 dX10_green_0 rfl ?_
  refine z_iconst (pc := 1) (v := -1) C dX10_green_1 (by decide) ?_
  refine z_icmp_ne (pc := 2) (tgt := 15) C dX10_green_2 (by decide) (fun c1 => ?_) (fun c1 => ?_)
  · have h := h.1 c1
    refine z_aload_n (pc := 15) C 0 dX10_green_15 rfl ?_
    refine z_iload_n (pc := 16) C 1 dX10_green_16 rfl ?_
    refine z_callRi (pc := 17) C (z_runV (pc := 17) (wc := (wX10 cI cJ d v g)) (As := [.int x1]) C (fun sz => kX10_isSignal d v g x1 sz h) [0, 1, 2, 3, 4, 5, 6, 7, 8, 9, 10, 11] rfl (by decide) (gdV wq851 wq875 wq876 wq877 wq814) rfl rfl rfl hdX10_isSignal 0 rfl rfl rfl ⟨Nat.le_of_ble_eq_true rfl, Nat.le_of_ble_eq_true rfl⟩ rfl (Nat.le_of_ble_eq_true rfl) ⟨Nat.zero_le _, Nat.zero_le _⟩ dX10_green_17) [0, 1, 2, 3, 4, 5, 6, 7, 8, 9, 10, 11] rfl (by decide) (fun r2 u2 h => ?_)
    refine z_if_ne (pc := 20) (tgt := 25) C dX10_green_20 (by decide) (fun c3 => ?_) (fun c3 => ?_)
    · have h := h.1 c3
      refine z_iload_n (pc := 25) C 2 dX10_green_25 rfl ?_
      refine z_iconst (pc := 26) (v := 0) C dX10_green_26 (by decide) ?_
      refine z_sipush (pc := 27) (v := 9998) C dX10_green_27 (by decide) ?_
      refine z_call0i (pc := 30) C (z_runS (pc := 30) (wc := ([] : va_W)) (As := [.int x2, .int (0 : Int32), .int (9998 : Int32)]) C (fun sz => kX10_isIn x2 (0 : Int32) (9998 : Int32) sz h) [] rfl (by decide) (gdS wq849 wq852 wq853 wq814) rfl rfl rfl hdSX10_isIn ⟨Nat.le_of_ble_eq_true rfl, Nat.le_of_ble_eq_true rfl⟩ rfl (Nat.le_of_ble_eq_true rfl) ⟨Nat.zero_le _, Nat.zero_le _⟩ dX10_green_30) (fun r4 u4 h => ?_)
      refine z_if_eq (pc := 33) (tgt := 48) C dX10_green_33 (by decide) (fun c5 => ?_) (fun c5 => ?_)
      · have h := h.1 c5
        refine z_bipush (pc := 48) (v := -2) C dX10_green_48 (by decide) ?_
        exact hret 50 _ _ (-2 : Int32) v rfl h dX10_green_50
      · have h := h.2 c5
        refine z_iload_n (pc := 36) C 3 dX10_green_36 rfl ?_
        refine z_iload_n (pc := 37) C 2 dX10_green_37 rfl ?_
        refine z_icmp_le (pc := 38) (tgt := 48) C dX10_green_38 (by decide) (fun c6 => ?_) (fun c6 => ?_)
        · have h := h.1 c6
          refine z_bipush (pc := 48) (v := -2) C dX10_green_48 (by decide) ?_
          exact hret 50 _ _ (-2 : Int32) v rfl h dX10_green_50
        · have h := h.2 c6
          refine z_iload_n (pc := 41) C 3 dX10_green_41 rfl ?_
          refine z_sipush (pc := 42) (v := 9999) C dX10_green_42 (by decide) ?_
          refine z_icmp_le (pc := 45) (tgt := 51) C dX10_green_45 (by decide) (fun c7 => ?_) (fun c7 => ?_)
          · have h := h.1 c7
            refine z_aload_n (pc := 51) C 0 dX10_green_51 rfl ?_
            refine z_get (pc := 52) C uw10 0 rfl rfl 0 (by decide) wq809 rfl dX10_green_52 ?_
            refine z_bipush (pc := 55) (v := 18) C dX10_green_55 (by decide) ?_
            refine z_iald (pc := 57) C 1 0 rfl rfl vi_18_372 (v 1 18) (congrArg _ cl_18) dX10_green_57 ?_
            refine z_bipush (pc := 58) (v := 8) C dX10_green_58 (by decide) ?_
            refine z_icmp_ne (pc := 60) (tgt := 66) C dX10_green_60 (by decide) (fun c9 => ?_) (fun c9 => ?_)
            · have h := h.1 c9
              refine z_sipush (pc := 66) (v := 321) C dX10_green_66 (by decide) ?_
              refine z_iconst (pc := 69) (v := 3) C dX10_green_69 (by decide) ?_
              refine z_aload_n (pc := 70) C 0 dX10_green_70 rfl ?_
              refine z_get (pc := 71) C uw10 0 rfl rfl 0 (by decide) wq809 rfl dX10_green_71 ?_
              refine z_bipush (pc := 74) (v := 18) C dX10_green_74 (by decide) ?_
              refine z_iald (pc := 76) C 1 0 rfl rfl vi_18_372 (v 1 18) (congrArg _ cl_18) dX10_green_76 ?_
              refine z_imul (pc := 77) C dX10_green_77 ?_
              refine z_iadd (pc := 78) C dX10_green_78 ?_
              refine z_istore (pc := 79) (lv' := [(4, .int ((321 : Int32) + ((3 : Int32) * (v 1 18)))), (0, .ref (d 0)), (1, .int x1), (2, .int x2), (3, .int x3)]) C dX10_green_79 (by decide) rfl ?_
              refine z_aload_n (pc := 81) C 1 dX10_green_81 rfl ?_
              refine z_get (pc := 82) C uw10 0 rfl rfl 0 (by decide) wq809 rfl dX10_green_82 ?_
              refine z_iload (pc := 85) C 0 dX10_green_85 rfl ?_
              refine z_iload_n (pc := 87) C 2 dX10_green_87 rfl ?_
              obtain ⟨g11, h⟩ := h
              refine z_iast (pc := 88) (ws' := (wX10 cI cJ d (st v 1 (((321 : Int32) + ((3 : Int32) * (v 1 18))).toNatClampNeg) x1) g)) C 1 0 rfl rfl g11 dX10_green_88 rfl sX10_a1 ?_
              refine z_aload_n (pc := 89) C 1 dX10_green_89 rfl ?_
              refine z_get (pc := 90) C uw10 0 rfl rfl 0 (by decide) wq809 rfl dX10_green_90 ?_
              refine z_iload (pc := 93) C 0 dX10_green_93 rfl ?_
              refine z_iconst (pc := 95) (v := 1) C dX10_green_95 (by decide) ?_
              refine z_iadd (pc := 96) C dX10_green_96 ?_
              refine z_iload_n (pc := 97) C 3 dX10_green_97 rfl ?_
              obtain ⟨g12, h⟩ := h
              refine z_iast (pc := 98) (ws' := (wX10 cI cJ d (st (st v 1 (((321 : Int32) + ((3 : Int32) * (v 1 18))).toNatClampNeg) x1) 1 ((((321 : Int32) + ((3 : Int32) * (v 1 18))) + (1 : Int32)).toNatClampNeg) x2) g)) C 1 0 rfl rfl g12 dX10_green_98 rfl sX10_a1 ?_
              refine z_aload_n (pc := 99) C 1 dX10_green_99 rfl ?_
              refine z_get (pc := 100) C uw10 0 rfl rfl 0 (by decide) wq809 rfl dX10_green_100 ?_
              refine z_iload (pc := 103) C 0 dX10_green_103 rfl ?_
              refine z_iconst (pc := 105) (v := 2) C dX10_green_105 (by decide) ?_
              refine z_iadd (pc := 106) C dX10_green_106 ?_
              refine z_iload_n (pc := 107) C 4 dX10_green_107 rfl ?_
              obtain ⟨g13, h⟩ := h
              refine z_iast (pc := 108) (ws' := (wX10 cI cJ d (st (st (st v 1 (((321 : Int32) + ((3 : Int32) * (v 1 18))).toNatClampNeg) x1) 1 ((((321 : Int32) + ((3 : Int32) * (v 1 18))) + (1 : Int32)).toNatClampNeg) x2) 1 ((((321 : Int32) + ((3 : Int32) * (v 1 18))) + (2 : Int32)).toNatClampNeg) x3) g)) C 1 0 rfl rfl g13 dX10_green_108 rfl sX10_a1 ?_
              refine z_aload_n (pc := 109) C 1 dX10_green_109 rfl ?_
              refine z_get (pc := 110) C uw10 0 rfl rfl 0 (by decide) wq809 rfl dX10_green_110 ?_
              refine z_bipush (pc := 113) (v := 18) C dX10_green_113 (by decide) ?_
              refine z_dup2 (pc := 115) C dX10_green_115 rfl rfl ?_
              refine z_iald (pc := 116) C 1 0 rfl rfl vi_18_372 ((st (st (st v 1 (((321 : Int32) + ((3 : Int32) * (v 1 18))).toNatClampNeg) x1) 1 ((((321 : Int32) + ((3 : Int32) * (v 1 18))) + (1 : Int32)).toNatClampNeg) x2) 1 ((((321 : Int32) + ((3 : Int32) * (v 1 18))) + (2 : Int32)).toNatClampNeg) x3) 1 18) (congrArg _ cl_18) dX10_green_116 ?_
              refine z_iconst (pc := 117) (v := 1) C dX10_green_117 (by decide) ?_
              refine z_iadd (pc := 118) C dX10_green_118 ?_
              refine z_iast (pc := 119) (ws' := (wX10 cI cJ d (st (st (st (st v 1 (((321 : Int32) + ((3 : Int32) * (v 1 18))).toNatClampNeg) x1) 1 ((((321 : Int32) + ((3 : Int32) * (v 1 18))) + (1 : Int32)).toNatClampNeg) x2) 1 ((((321 : Int32) + ((3 : Int32) * (v 1 18))) + (2 : Int32)).toNatClampNeg) x3) 1 18 (((st (st (st v 1 (((321 : Int32) + ((3 : Int32) * (v 1 18))).toNatClampNeg) x1) 1 ((((321 : Int32) + ((3 : Int32) * (v 1 18))) + (1 : Int32)).toNatClampNeg) x2) 1 ((((321 : Int32) + ((3 : Int32) * (v 1 18))) + (2 : Int32)).toNatClampNeg) x3) 1 18) + (1 : Int32))) g)) C 1 0 rfl rfl vi_18_372 dX10_green_119 cl_18 sX10_a1 ?_
              refine z_aload_n (pc := 120) C 1 dX10_green_120 rfl ?_
              refine z_get (pc := 121) C uw10 0 rfl rfl 0 (by decide) wq809 rfl dX10_green_121 ?_
              refine z_bipush (pc := 124) (v := 18) C dX10_green_124 (by decide) ?_
              refine z_iald (pc := 126) C 1 0 rfl rfl vi_18_372 ((st (st (st (st v 1 (((321 : Int32) + ((3 : Int32) * (v 1 18))).toNatClampNeg) x1) 1 ((((321 : Int32) + ((3 : Int32) * (v 1 18))) + (1 : Int32)).toNatClampNeg) x2) 1 ((((321 : Int32) + ((3 : Int32) * (v 1 18))) + (2 : Int32)).toNatClampNeg) x3) 1 18 (((st (st (st v 1 (((321 : Int32) + ((3 : Int32) * (v 1 18))).toNatClampNeg) x1) 1 ((((321 : Int32) + ((3 : Int32) * (v 1 18))) + (1 : Int32)).toNatClampNeg) x2) 1 ((((321 : Int32) + ((3 : Int32) * (v 1 18))) + (2 : Int32)).toNatClampNeg) x3) 1 18) + (1 : Int32))) 1 18) (congrArg _ cl_18) dX10_green_126 ?_
              exact hret 127 _ _ ((st (st (st (st v 1 (((321 : Int32) + ((3 : Int32) * (v 1 18))).toNatClampNeg) x1) 1 ((((321 : Int32) + ((3 : Int32) * (v 1 18))) + (1 : Int32)).toNatClampNeg) x2) 1 ((((321 : Int32) + ((3 : Int32) * (v 1 18))) + (2 : Int32)).toNatClampNeg) x3) 1 18 (((st (st (st v 1 (((321 : Int32) + ((3 : Int32) * (v 1 18))).toNatClampNeg) x1) 1 ((((321 : Int32) + ((3 : Int32) * (v 1 18))) + (1 : Int32)).toNatClampNeg) x2) 1 ((((321 : Int32) + ((3 : Int32) * (v 1 18))) + (2 : Int32)).toNatClampNeg) x3) 1 18) + (1 : Int32))) 1 18) (st (st (st (st v 1 (((321 : Int32) + ((3 : Int32) * (v 1 18))).toNatClampNeg) x1) 1 ((((321 : Int32) + ((3 : Int32) * (v 1 18))) + (1 : Int32)).toNatClampNeg) x2) 1 ((((321 : Int32) + ((3 : Int32) * (v 1 18))) + (2 : Int32)).toNatClampNeg) x3) 1 18 (((st (st (st v 1 (((321 : Int32) + ((3 : Int32) * (v 1 18))).toNatClampNeg) x1) 1 ((((321 : Int32) + ((3 : Int32) * (v 1 18))) + (1 : Int32)).toNatClampNeg) x2) 1 ((((321 : Int32) + ((3 : Int32) * (v 1 18))) + (2 : Int32)).toNatClampNeg) x3) 1 18) + (1 : Int32))) rfl h dX10_green_127
            · have h := h.2 c9
              refine z_bipush (pc := 63) (v := -4) C dX10_green_63 (by decide) ?_
              exact hret 65 _ _ (-4 : Int32) v rfl h dX10_green_65
          · have h := h.2 c7
            refine z_bipush (pc := 48) (v := -2) C dX10_green_48 (by decide) ?_
            exact hret 50 _ _ (-2 : Int32) v rfl h dX10_green_50
    · have h := h.2 c3
      refine z_iconst (pc := 23) (v := -1) C dX10_green_23 (by decide) ?_
      exact hret 24 _ _ (-1 : Int32) v rfl h dX10_green_24
  · have h := h.2 c1
    refine z_aload_n (pc := 5) C 0 dX10_green_5 rfl ?_
    refine z_get (pc := 6) C uw10 0 rfl rfl 0 (by decide) wq809 rfl dX10_green_6 ?_
    refine z_bipush (pc := 9) (v := 18) C dX10_green_9 (by decide) ?_
    refine z_iconst (pc := 11) (v := 0) C dX10_green_11 (by decide) ?_
    refine z_iast (pc := 12) (ws' := (wX10 cI cJ d (st v 1 18 (0 : Int32)) g)) C 1 0 rfl rfl vi_18_372 dX10_green_12 cl_18 sX10_a1 ?_
    refine z_iconst (pc := 13) (v := 0) C dX10_green_13 (by decide) ?_
    exact hret 14 _ _ (0 : Int32) (st v 1 18 (0 : Int32)) rfl h dX10_green_14

def pX10_isSafe_J125 (v : Lf) (x1 : Int32) (x2 : Int32) (Q : Int32 → Prop)  : Prop := (Q (1 : Int32) )
def pX10_isSafe (v : Lf) (x1 : Int32) (x2 : Int32) (Q : Int32 → Prop) : Prop := (vp_in ((321 : Int32) + ((3 : Int32) * x1)) 372 ∧ (vp_in ((321 : Int32) + ((3 : Int32) * x2)) 372 ∧ (pX10_meet v (v 1 ((321 : Int32) + ((3 : Int32) * x1)).toNatClampNeg) (v 1 ((321 : Int32) + ((3 : Int32) * x2)).toNatClampNeg) (fun r3 => ((r3 = 0 → (pX10_isSafe_J125 v x1 x2 Q  )) ∧ (¬ r3 = 0 → (vp_in (((321 : Int32) + ((3 : Int32) * x1)) + (1 : Int32)) 372 ∧ (vp_in (((321 : Int32) + ((3 : Int32) * x2)) + (2 : Int32)) 372 ∧ (vp_in (((8 : Int32) * (v 1 ((321 : Int32) + ((3 : Int32) * x2)).toNatClampNeg)) + (v 1 ((321 : Int32) + ((3 : Int32) * x1)).toNatClampNeg)) 64 ∧ (((v 4 (((8 : Int32) * (v 1 ((321 : Int32) + ((3 : Int32) * x2)).toNatClampNeg)) + (v 1 ((321 : Int32) + ((3 : Int32) * x1)).toNatClampNeg)).toNatClampNeg) ≤ ((v 1 (((321 : Int32) + ((3 : Int32) * x1)) + (1 : Int32)).toNatClampNeg) - (v 1 (((321 : Int32) + ((3 : Int32) * x2)) + (2 : Int32)).toNatClampNeg)) → (pX10_isSafe_J125 v x1 x2 Q  )) ∧ (¬ (v 4 (((8 : Int32) * (v 1 ((321 : Int32) + ((3 : Int32) * x2)).toNatClampNeg)) + (v 1 ((321 : Int32) + ((3 : Int32) * x1)).toNatClampNeg)).toNatClampNeg) ≤ ((v 1 (((321 : Int32) + ((3 : Int32) * x1)) + (1 : Int32)).toNatClampNeg) - (v 1 (((321 : Int32) + ((3 : Int32) * x2)) + (2 : Int32)).toNatClampNeg)) → (vp_in (((321 : Int32) + ((3 : Int32) * x2)) + (1 : Int32)) 372 ∧ (vp_in (((321 : Int32) + ((3 : Int32) * x1)) + (2 : Int32)) 372 ∧ (vp_in (((8 : Int32) * (v 1 ((321 : Int32) + ((3 : Int32) * x1)).toNatClampNeg)) + (v 1 ((321 : Int32) + ((3 : Int32) * x2)).toNatClampNeg)) 64 ∧ ((((v 1 (((321 : Int32) + ((3 : Int32) * x2)) + (1 : Int32)).toNatClampNeg) - (v 1 (((321 : Int32) + ((3 : Int32) * x1)) + (2 : Int32)).toNatClampNeg)) < (v 4 (((8 : Int32) * (v 1 ((321 : Int32) + ((3 : Int32) * x1)).toNatClampNeg)) + (v 1 ((321 : Int32) + ((3 : Int32) * x2)).toNatClampNeg)).toNatClampNeg) → (Q (0 : Int32) )) ∧ (¬ ((v 1 (((321 : Int32) + ((3 : Int32) * x2)) + (1 : Int32)).toNatClampNeg) - (v 1 (((321 : Int32) + ((3 : Int32) * x1)) + (2 : Int32)).toNatClampNeg)) < (v 4 (((8 : Int32) * (v 1 ((321 : Int32) + ((3 : Int32) * x1)).toNatClampNeg)) + (v 1 ((321 : Int32) + ((3 : Int32) * x2)).toNatClampNeg)).toNatClampNeg) → (pX10_isSafe_J125 v x1 x2 Q  )))))))))))))))))
abbrev rmX10_isSafe : Room := { frames := 1, cells := 0, slots := 0, locals := 22 }
abbrev wdX10_isSafe : List Cond := Cond.code yX10_isSafe cX10_isSafe 5 (some .boolean) :: TB
theorem hdSX10_isSafe : (yX10_isSafe).cls ≠ "java/lang/invoke/MethodHandle" ∧ (yX10_isSafe).cls ≠ "java/lang/invoke/VarHandle" ∧ (parseMethodDescriptor (yX10_isSafe).desc).map (fun d => d.parameters.length) = some 2 := by decide +kernel
theorem hdX10_isSafe : (yX10_isSafe).cls = RX10 ∧ (yX10_isSafe).cls ≠ "java/lang/invoke/MethodHandle" ∧ (yX10_isSafe).cls ≠ "java/lang/invoke/VarHandle" ∧ (parseMethodDescriptor (yX10_isSafe).desc).map (fun d => d.parameters.length) = some 2 := ⟨rfl, hdSX10_isSafe⟩
set_option maxHeartbeats 4000000 in
set_option maxRecDepth 100000 in
theorem kX10_isSafe {l : Launch} {D : va_G} {cI cJ cT : ClassId} (d : Nat → Nat)  (v : Lf) (g : Lg) (x1 : Int32) (x2 : Int32) {Q : Int32 → Prop} (sz : Nat) (h : pX10_isSafe v x1 x2 Q) : Met l yX10_isSafe wdX10_isSafe rmX10_isSafe (Pz D (tyL cI cJ cT) [.ref (d 0), .int x1, .int x2] (wX10 cI cJ d v g) sz) (va_Qi (fun (r : Int32) (u : Unit) => Q r) (Bz D (tyL cI cJ cT) (wX10 cI cJ d v g) sz (fun (u : Unit) => (wX10 cI cJ d v g))) (va_A (wX10 cI cJ d v g) sz)) 0 0 (va_A (wX10 cI cJ d v g) sz) := by
  refine z_metz (cc := cX10_isSafe) (maxL := 5) (own := RX10) (lv0 := [(0, .ref (d 0)), (1, .int x1), (2, .int x2)]) (by decide) rfl rfl (Nat.le_of_ble_eq_true rfl) rfl ?_
  intro p e s m args below meth c A QQ C hin hret
  have J125 :  pX10_isSafe_J125 v x1 x2 Q  → ZZ p l e rmX10_isSafe s m args below meth c D A 5 0 0 QQ 125 (wX10 cI cJ d v g) [] [] := by
    intro   h
    refine z_iconst (pc := 125) (v := 1) C dX10_isSafe_125 (by decide) ?_
    refine z_goto (pc := 126) (tgt := 130) C dX10_isSafe_126 (by decide) ?_
    exact hret 130 _ _ (1 : Int32) rfl () rfl h dX10_isSafe_130
  refine z_aload_n (pc := 0) C 0 dX10_isSafe_0 rfl ?_
  refine z_get (pc := 1) C uw10 0 rfl rfl 0 (by decide) wq809 rfl dX10_isSafe_1 ?_
  refine z_sipush (pc := 4) (v := 321) C dX10_isSafe_4 (by decide) ?_
  refine z_iconst (pc := 7) (v := 3) C dX10_isSafe_7 (by decide) ?_
  refine z_iload_n (pc := 8) C 1 dX10_isSafe_8 rfl ?_
  refine z_imul (pc := 9) C dX10_isSafe_9 ?_
  refine z_iadd (pc := 10) C dX10_isSafe_10 ?_
  obtain ⟨g1, h⟩ := h
  refine z_iald (pc := 11) C 1 0 rfl rfl g1 (v 1 ((321 : Int32) + ((3 : Int32) * x1)).toNatClampNeg) rfl dX10_isSafe_11 ?_
  refine z_istore_n (pc := 12) (lv' := [(3, .int (v 1 ((321 : Int32) + ((3 : Int32) * x1)).toNatClampNeg)), (0, .ref (d 0)), (1, .int x1), (2, .int x2)]) C dX10_isSafe_12 (by decide) rfl ?_
  refine z_aload_n (pc := 13) C 1 dX10_isSafe_13 rfl ?_
  refine z_get (pc := 14) C uw10 0 rfl rfl 0 (by decide) wq809 rfl dX10_isSafe_14 ?_
  refine z_sipush (pc := 17) (v := 321) C dX10_isSafe_17 (by decide) ?_
  refine z_iconst (pc := 20) (v := 3) C dX10_isSafe_20 (by decide) ?_
  refine z_iload_n (pc := 21) C 3 dX10_isSafe_21 rfl ?_
  refine z_imul (pc := 22) C dX10_isSafe_22 ?_
  refine z_iadd (pc := 23) C dX10_isSafe_23 ?_
  obtain ⟨g2, h⟩ := h
  refine z_iald (pc := 24) C 1 0 rfl rfl g2 (v 1 ((321 : Int32) + ((3 : Int32) * x2)).toNatClampNeg) rfl dX10_isSafe_24 ?_
  refine z_istore (pc := 25) (lv' := [(4, .int (v 1 ((321 : Int32) + ((3 : Int32) * x2)).toNatClampNeg)), (3, .int (v 1 ((321 : Int32) + ((3 : Int32) * x1)).toNatClampNeg)), (0, .ref (d 0)), (1, .int x1), (2, .int x2)]) C dX10_isSafe_25 (by decide) rfl ?_
  refine z_aload_n (pc := 27) C 2 dX10_isSafe_27 rfl ?_
  refine z_iload_n (pc := 28) C 1 dX10_isSafe_28 rfl ?_
  refine z_iload (pc := 29) C 0 dX10_isSafe_29 rfl ?_
  refine z_callRi (pc := 31) C (z_runV (pc := 31) (wc := (wX10 cI cJ d v g)) (As := [.int (v 1 ((321 : Int32) + ((3 : Int32) * x1)).toNatClampNeg), .int (v 1 ((321 : Int32) + ((3 : Int32) * x2)).toNatClampNeg)]) C (fun sz => kX10_meet d v g (v 1 ((321 : Int32) + ((3 : Int32) * x1)).toNatClampNeg) (v 1 ((321 : Int32) + ((3 : Int32) * x2)).toNatClampNeg) sz h) [0, 1, 2, 3, 4, 5, 6, 7, 8, 9, 10, 11] rfl (by decide) (gdV wq858 wq860 wq861 wq862 wq814) rfl rfl rfl hdX10_meet 0 rfl rfl rfl ⟨Nat.le_of_ble_eq_true rfl, Nat.le_of_ble_eq_true rfl⟩ rfl (Nat.le_of_ble_eq_true rfl) ⟨Nat.zero_le _, Nat.zero_le _⟩ dX10_isSafe_31) [0, 1, 2, 3, 4, 5, 6, 7, 8, 9, 10, 11] rfl (by decide) (fun r3 u3 h => ?_)
  refine z_if_eq (pc := 34) (tgt := 125) C dX10_isSafe_34 (by decide) (fun c4 => ?_) (fun c4 => ?_)
  · have h := h.1 c4
    refine z_sub (lv' := []) [] rfl ?_
    exact J125   h
  · have h := h.2 c4
    refine z_aload_n (pc := 37) C 2 dX10_isSafe_37 rfl ?_
    refine z_get (pc := 38) C uw10 0 rfl rfl 0 (by decide) wq809 rfl dX10_isSafe_38 ?_
    refine z_sipush (pc := 41) (v := 321) C dX10_isSafe_41 (by decide) ?_
    refine z_iconst (pc := 44) (v := 3) C dX10_isSafe_44 (by decide) ?_
    refine z_iload_n (pc := 45) C 3 dX10_isSafe_45 rfl ?_
    refine z_imul (pc := 46) C dX10_isSafe_46 ?_
    refine z_iadd (pc := 47) C dX10_isSafe_47 ?_
    refine z_iconst (pc := 48) (v := 1) C dX10_isSafe_48 (by decide) ?_
    refine z_iadd (pc := 49) C dX10_isSafe_49 ?_
    obtain ⟨g5, h⟩ := h
    refine z_iald (pc := 50) C 1 0 rfl rfl g5 (v 1 (((321 : Int32) + ((3 : Int32) * x1)) + (1 : Int32)).toNatClampNeg) rfl dX10_isSafe_50 ?_
    refine z_aload_n (pc := 51) C 2 dX10_isSafe_51 rfl ?_
    refine z_get (pc := 52) C uw10 0 rfl rfl 0 (by decide) wq809 rfl dX10_isSafe_52 ?_
    refine z_sipush (pc := 55) (v := 321) C dX10_isSafe_55 (by decide) ?_
    refine z_iconst (pc := 58) (v := 3) C dX10_isSafe_58 (by decide) ?_
    refine z_iload_n (pc := 59) C 4 dX10_isSafe_59 rfl ?_
    refine z_imul (pc := 60) C dX10_isSafe_60 ?_
    refine z_iadd (pc := 61) C dX10_isSafe_61 ?_
    refine z_iconst (pc := 62) (v := 2) C dX10_isSafe_62 (by decide) ?_
    refine z_iadd (pc := 63) C dX10_isSafe_63 ?_
    obtain ⟨g6, h⟩ := h
    refine z_iald (pc := 64) C 1 0 rfl rfl g6 (v 1 (((321 : Int32) + ((3 : Int32) * x2)) + (2 : Int32)).toNatClampNeg) rfl dX10_isSafe_64 ?_
    refine z_isub (pc := 65) C dX10_isSafe_65 ?_
    refine z_aload_n (pc := 66) C 2 dX10_isSafe_66 rfl ?_
    refine z_get (pc := 67) C uw10 0 rfl rfl 5 (by decide) wq820 rfl dX10_isSafe_67 ?_
    refine z_bipush (pc := 70) (v := 8) C dX10_isSafe_70 (by decide) ?_
    refine z_iload (pc := 72) C 0 dX10_isSafe_72 rfl ?_
    refine z_imul (pc := 74) C dX10_isSafe_74 ?_
    refine z_iload_n (pc := 75) C 1 dX10_isSafe_75 rfl ?_
    refine z_iadd (pc := 76) C dX10_isSafe_76 ?_
    obtain ⟨g7, h⟩ := h
    refine z_iald (pc := 77) C 4 0 rfl rfl g7 (v 4 (((8 : Int32) * (v 1 ((321 : Int32) + ((3 : Int32) * x2)).toNatClampNeg)) + (v 1 ((321 : Int32) + ((3 : Int32) * x1)).toNatClampNeg)).toNatClampNeg) rfl dX10_isSafe_77 ?_
    refine z_icmp_ge (pc := 78) (tgt := 125) C dX10_isSafe_78 (by decide) (fun c8 => ?_) (fun c8 => ?_)
    · have h := h.1 c8
      refine z_sub (lv' := []) [] rfl ?_
      exact J125   h
    · have h := h.2 c8
      refine z_aload_n (pc := 81) C 2 dX10_isSafe_81 rfl ?_
      refine z_get (pc := 82) C uw10 0 rfl rfl 0 (by decide) wq809 rfl dX10_isSafe_82 ?_
      refine z_sipush (pc := 85) (v := 321) C dX10_isSafe_85 (by decide) ?_
      refine z_iconst (pc := 88) (v := 3) C dX10_isSafe_88 (by decide) ?_
      refine z_iload_n (pc := 89) C 4 dX10_isSafe_89 rfl ?_
      refine z_imul (pc := 90) C dX10_isSafe_90 ?_
      refine z_iadd (pc := 91) C dX10_isSafe_91 ?_
      refine z_iconst (pc := 92) (v := 1) C dX10_isSafe_92 (by decide) ?_
      refine z_iadd (pc := 93) C dX10_isSafe_93 ?_
      obtain ⟨g9, h⟩ := h
      refine z_iald (pc := 94) C 1 0 rfl rfl g9 (v 1 (((321 : Int32) + ((3 : Int32) * x2)) + (1 : Int32)).toNatClampNeg) rfl dX10_isSafe_94 ?_
      refine z_aload_n (pc := 95) C 2 dX10_isSafe_95 rfl ?_
      refine z_get (pc := 96) C uw10 0 rfl rfl 0 (by decide) wq809 rfl dX10_isSafe_96 ?_
      refine z_sipush (pc := 99) (v := 321) C dX10_isSafe_99 (by decide) ?_
      refine z_iconst (pc := 102) (v := 3) C dX10_isSafe_102 (by decide) ?_
      refine z_iload_n (pc := 103) C 3 dX10_isSafe_103 rfl ?_
      refine z_imul (pc := 104) C dX10_isSafe_104 ?_
      refine z_iadd (pc := 105) C dX10_isSafe_105 ?_
      refine z_iconst (pc := 106) (v := 2) C dX10_isSafe_106 (by decide) ?_
      refine z_iadd (pc := 107) C dX10_isSafe_107 ?_
      obtain ⟨g10, h⟩ := h
      refine z_iald (pc := 108) C 1 0 rfl rfl g10 (v 1 (((321 : Int32) + ((3 : Int32) * x1)) + (2 : Int32)).toNatClampNeg) rfl dX10_isSafe_108 ?_
      refine z_isub (pc := 109) C dX10_isSafe_109 ?_
      refine z_aload_n (pc := 110) C 2 dX10_isSafe_110 rfl ?_
      refine z_get (pc := 111) C uw10 0 rfl rfl 5 (by decide) wq820 rfl dX10_isSafe_111 ?_
      refine z_bipush (pc := 114) (v := 8) C dX10_isSafe_114 (by decide) ?_
      refine z_iload_n (pc := 116) C 1 dX10_isSafe_116 rfl ?_
      refine z_imul (pc := 117) C dX10_isSafe_117 ?_
      refine z_iload (pc := 118) C 0 dX10_isSafe_118 rfl ?_
      refine z_iadd (pc := 120) C dX10_isSafe_120 ?_
      obtain ⟨g11, h⟩ := h
      refine z_iald (pc := 121) C 4 0 rfl rfl g11 (v 4 (((8 : Int32) * (v 1 ((321 : Int32) + ((3 : Int32) * x1)).toNatClampNeg)) + (v 1 ((321 : Int32) + ((3 : Int32) * x2)).toNatClampNeg)).toNatClampNeg) rfl dX10_isSafe_121 ?_
      refine z_icmp_lt (pc := 122) (tgt := 129) C dX10_isSafe_122 (by decide) (fun c12 => ?_) (fun c12 => ?_)
      · have h := h.1 c12
        refine z_iconst (pc := 129) (v := 0) C dX10_isSafe_129 (by decide) ?_
        exact hret 130 _ _ (0 : Int32) rfl () rfl h dX10_isSafe_130
      · have h := h.2 c12
        refine z_sub (lv' := []) [] rfl ?_
        exact J125   h

def pX10_proved_L15 (v : Lf) (Q : Int32 → Prop) (K2 : Int32 → Prop) : Nat → Int32 → Int32 → Prop
  | 0, _, _ => False
  | n15 + 1, x1, x2 => ((x1 ≤ x2 → (K2 (x1 + 1))) ∧ (¬ x1 ≤ x2 → (pX10_isSafe v x1 x2 (fun r4 => ((¬ r4 = 0 → (pX10_proved_L15 v Q K2 n15 x1 (x2 + 1))) ∧ (r4 = 0 → (Q x1 )))))))
def pX10_proved_L2 (v : Lf) (Q : Int32 → Prop) : Nat → Int32 → Prop
  | 0, _ => False
  | n2 + 1, x1 => (((v 1 18) ≤ x1 → (Q (-5 : Int32) )) ∧ (¬ (v 1 18) ≤ x1 → (∃ n15, pX10_proved_L15 v Q (fun x1 => pX10_proved_L2 v Q n2 x1) n15 x1 (0 : Int32))))
def pX10_proved (v : Lf)  (Q : Int32 → Prop) : Prop := (∃ n2, pX10_proved_L2 v Q  n2 (0 : Int32))
abbrev rmX10_proved : Room := { frames := 2, cells := 0, slots := 0, locals := 46 }
abbrev wdX10_proved : List Cond := Cond.code yX10_proved cX10_proved 3 (some .int) :: TB
theorem hdSX10_proved : (yX10_proved).cls ≠ "java/lang/invoke/MethodHandle" ∧ (yX10_proved).cls ≠ "java/lang/invoke/VarHandle" ∧ (parseMethodDescriptor (yX10_proved).desc).map (fun d => d.parameters.length) = some 0 := by decide +kernel
theorem hdX10_proved : (yX10_proved).cls = RX10 ∧ (yX10_proved).cls ≠ "java/lang/invoke/MethodHandle" ∧ (yX10_proved).cls ≠ "java/lang/invoke/VarHandle" ∧ (parseMethodDescriptor (yX10_proved).desc).map (fun d => d.parameters.length) = some 0 := ⟨rfl, hdSX10_proved⟩
set_option maxHeartbeats 4000000 in
set_option maxRecDepth 100000 in
theorem kX10_proved {l : Launch} {D : va_G} {cI cJ cT : ClassId} (d : Nat → Nat)  (v : Lf) (g : Lg)  {Q : Int32 → Prop} (sz : Nat) (h : pX10_proved v Q) : Met l yX10_proved wdX10_proved rmX10_proved (Pz D (tyL cI cJ cT) [.ref (d 0)] (wX10 cI cJ d v g) sz) (va_Qi (fun (r : Int32) (u : Unit) => Q r) (Bz D (tyL cI cJ cT) (wX10 cI cJ d v g) sz (fun (u : Unit) => (wX10 cI cJ d v g))) (va_A (wX10 cI cJ d v g) sz)) 0 0 (va_A (wX10 cI cJ d v g) sz) := by
  refine z_meti (cc := cX10_proved) (maxL := 3) (own := RX10) (lv0 := [(0, .ref (d 0))]) (by decide) rfl rfl (Nat.le_of_ble_eq_true rfl) rfl ?_
  intro p e s m args below meth c A QQ C hin hret
  have L15 : ∀ (K2 : Int32 → Prop), (∀ (x1 : Int32), K2 x1 → ZZ p l e rmX10_proved s m args below meth c D A 3 0 0 QQ 2 (wX10 cI cJ d v g) [(0, .ref (d 0)), (1, .int x1)] []) → ∀ (n15 : Nat) (x1 : Int32) (x2 : Int32), pX10_proved_L15 v Q K2 n15 x1 x2 → ZZ p l e rmX10_proved s m args below meth c D A 3 0 0 QQ 15 (wX10 cI cJ d v g) [(0, .ref (d 0)), (1, .int x1), (2, .int x2)] [] := by
    intro K2 hK2
    intro n15
    induction n15 with
    | zero => intro x1 x2 h; exact False.elim h
    | succ n15 ih15 =>
      intro x1 x2 h
      refine z_iload_n (pc := 15) C 2 dX10_proved_15 rfl ?_
      refine z_iload_n (pc := 16) C 1 dX10_proved_16 rfl ?_
      refine z_icmp_ge (pc := 17) (tgt := 37) C dX10_proved_17 (by decide) (fun c3 => ?_) (fun c3 => ?_)
      · have h := h.1 c3
        refine z_iinc (pc := 37) (v := (x1 + 1)) (lv' := [(1, .int (x1 + 1)), (0, .ref (d 0)), (2, .int x2)]) C 1 dX10_proved_37 rfl rfl (by decide) rfl ?_
        refine z_goto (pc := 40) (tgt := 2) C dX10_proved_40 (by decide) ?_
        refine z_sub (lv' := [(0, .ref (d 0)), (1, .int (x1 + 1))]) [1, 0] rfl ?_
        exact hK2 (x1 + 1) h
      · have h := h.2 c3
        refine z_aload_n (pc := 20) C 0 dX10_proved_20 rfl ?_
        refine z_iload_n (pc := 21) C 1 dX10_proved_21 rfl ?_
        refine z_iload_n (pc := 22) C 2 dX10_proved_22 rfl ?_
        refine z_callRi (pc := 23) C (z_runV (pc := 23) (wc := (wX10 cI cJ d v g)) (As := [.int x1, .int x2]) C (fun sz => kX10_isSafe d v g x1 x2 sz h) [0, 1, 2, 3, 4, 5, 6, 7, 8, 9, 10, 11] rfl (by decide) (gdV wq1048 wq1050 wq1051 wq1052 wq814) rfl rfl rfl hdX10_isSafe 0 rfl rfl rfl ⟨Nat.le_of_ble_eq_true rfl, Nat.le_of_ble_eq_true rfl⟩ rfl (Nat.le_of_ble_eq_true rfl) ⟨Nat.zero_le _, Nat.zero_le _⟩ dX10_proved_23) [0, 1, 2, 3, 4, 5, 6, 7, 8, 9, 10, 11] rfl (by decide) (fun r4 u4 h => ?_)
        refine z_if_ne (pc := 26) (tgt := 31) C dX10_proved_26 (by decide) (fun c5 => ?_) (fun c5 => ?_)
        · have h := h.1 c5
          refine z_iinc (pc := 31) (v := (x2 + 1)) (lv' := [(2, .int (x2 + 1)), (0, .ref (d 0)), (1, .int x1)]) C 2 dX10_proved_31 rfl rfl (by decide) rfl ?_
          refine z_goto (pc := 34) (tgt := 15) C dX10_proved_34 (by decide) ?_
          refine z_sub (lv' := [(0, .ref (d 0)), (1, .int x1), (2, .int (x2 + 1))]) [1, 2, 0] rfl ?_
          exact ih15 x1 (x2 + 1) h
        · have h := h.2 c5
          refine z_iload_n (pc := 29) C 1 dX10_proved_29 rfl ?_
          exact hret 30 _ _ x1 () rfl h dX10_proved_30
  have L2 : ∀ (n2 : Nat) (x1 : Int32), pX10_proved_L2 v Q n2 x1 → ZZ p l e rmX10_proved s m args below meth c D A 3 0 0 QQ 2 (wX10 cI cJ d v g) [(0, .ref (d 0)), (1, .int x1)] [] := by
    intro n2
    induction n2 with
    | zero => intro x1 h; exact False.elim h
    | succ n2 ih2 =>
      intro x1 h
      refine z_iload_n (pc := 2) C 1 dX10_proved_2 rfl ?_
      refine z_aload_n (pc := 3) C 0 dX10_proved_3 rfl ?_
      refine z_get (pc := 4) C uw10 0 rfl rfl 0 (by decide) wq809 rfl dX10_proved_4 ?_
      refine z_bipush (pc := 7) (v := 18) C dX10_proved_7 (by decide) ?_
      refine z_iald (pc := 9) C 1 0 rfl rfl vi_18_372 (v 1 18) (congrArg _ cl_18) dX10_proved_9 ?_
      refine z_icmp_ge (pc := 10) (tgt := 43) C dX10_proved_10 (by decide) (fun c2 => ?_) (fun c2 => ?_)
      · have h := h.1 c2
        refine z_bipush (pc := 43) (v := -5) C dX10_proved_43 (by decide) ?_
        exact hret 45 _ _ (-5 : Int32) () rfl h dX10_proved_45
      · have h := h.2 c2
        refine z_iconst (pc := 13) (v := 0) C dX10_proved_13 (by decide) ?_
        refine z_istore_n (pc := 14) (lv' := [(2, .int (0 : Int32)), (0, .ref (d 0)), (1, .int x1)]) C dX10_proved_14 (by decide) rfl ?_
        obtain ⟨n15, h⟩ := h
        refine z_sub (lv' := [(0, .ref (d 0)), (1, .int x1), (2, .int (0 : Int32))]) [1, 2, 0] rfl ?_
        exact L15 (fun x1 => pX10_proved_L2 v Q n2 x1) ih2 n15 x1 (0 : Int32) h
  refine z_iconst (pc := 0) (v := 0) C dX10_proved_0 (by decide) ?_
  refine z_istore_n (pc := 1) (lv' := [(1, .int (0 : Int32)), (0, .ref (d 0))]) C dX10_proved_1 (by decide) rfl ?_
  obtain ⟨n2, h⟩ := h
  refine z_sub (lv' := [(0, .ref (d 0)), (1, .int (0 : Int32))]) [1, 0] rfl ?_
  exact L2  n2 (0 : Int32) h

def pX10_wave (v : Lf) (x1 : Int32) (Q : Int32 → Lf → Prop) : Prop := (pX10_isIn x1 (20 : Int32) (60 : Int32) (fun r1 => ((¬ r1 = 0 → (Q (v 1 16) (st (st v 1 16 x1) 1 17 (0 : Int32)))) ∧ (r1 = 0 → (Q (-2 : Int32) v)))))
abbrev rmX10_wave : Room := { frames := 1, cells := 0, slots := 0, locals := 22 }
abbrev wdX10_wave : List Cond := Cond.code yX10_wave cX10_wave 3 (some .int) :: TB
theorem hdSX10_wave : (yX10_wave).cls ≠ "java/lang/invoke/MethodHandle" ∧ (yX10_wave).cls ≠ "java/lang/invoke/VarHandle" ∧ (parseMethodDescriptor (yX10_wave).desc).map (fun d => d.parameters.length) = some 1 := by decide +kernel
theorem hdX10_wave : (yX10_wave).cls = RX10 ∧ (yX10_wave).cls ≠ "java/lang/invoke/MethodHandle" ∧ (yX10_wave).cls ≠ "java/lang/invoke/VarHandle" ∧ (parseMethodDescriptor (yX10_wave).desc).map (fun d => d.parameters.length) = some 1 := ⟨rfl, hdSX10_wave⟩
set_option maxHeartbeats 4000000 in
set_option maxRecDepth 100000 in
theorem kX10_wave {l : Launch} {D : va_G} {cI cJ cT : ClassId} (d : Nat → Nat)  (v : Lf) (g : Lg) (x1 : Int32) {Q : Int32 → Lf → Prop} (sz : Nat) (h : pX10_wave v x1 Q) : Met l yX10_wave wdX10_wave rmX10_wave (Pz D (tyL cI cJ cT) [.ref (d 0), .int x1] (wX10 cI cJ d v g) sz) (va_Qi (fun (r : Int32) (u : Lf) => Q r u) (Bz D (tyL cI cJ cT) (wX10 cI cJ d v g) sz (fun (u : Lf) => (wX10 cI cJ d u g))) (va_A (wX10 cI cJ d v g) sz)) 0 0 (va_A (wX10 cI cJ d v g) sz) := by
  refine z_meti (cc := cX10_wave) (maxL := 3) (own := RX10) (lv0 := [(0, .ref (d 0)), (1, .int x1)]) (by decide) rfl rfl (Nat.le_of_ble_eq_true rfl) rfl ?_
  intro p e s m args below meth c A QQ C hin hret
  refine z_iload_n (pc := 0) C 1 dX10_wave_0 rfl ?_
  refine z_bipush (pc := 1) (v := 20) C dX10_wave_1 (by decide) ?_
  refine z_bipush (pc := 3) (v := 60) C dX10_wave_3 (by decide) ?_
  refine z_call0i (pc := 5) C (z_runS (pc := 5) (wc := ([] : va_W)) (As := [.int x1, .int (20 : Int32), .int (60 : Int32)]) C (fun sz => kX10_isIn x1 (20 : Int32) (60 : Int32) sz h) [] rfl (by decide) (gdS wq849 wq852 wq853 wq814) rfl rfl rfl hdSX10_isIn ⟨Nat.le_of_ble_eq_true rfl, Nat.le_of_ble_eq_true rfl⟩ rfl (Nat.le_of_ble_eq_true rfl) ⟨Nat.zero_le _, Nat.zero_le _⟩ dX10_wave_5) (fun r1 u1 h => ?_)
  refine z_if_ne (pc := 8) (tgt := 14) C dX10_wave_8 (by decide) (fun c2 => ?_) (fun c2 => ?_)
  · have h := h.1 c2
    refine z_aload_n (pc := 14) C 0 dX10_wave_14 rfl ?_
    refine z_get (pc := 15) C uw10 0 rfl rfl 0 (by decide) wq809 rfl dX10_wave_15 ?_
    refine z_bipush (pc := 18) (v := 16) C dX10_wave_18 (by decide) ?_
    refine z_iald (pc := 20) C 1 0 rfl rfl vi_16_372 (v 1 16) (congrArg _ cl_16) dX10_wave_20 ?_
    refine z_istore_n (pc := 21) (lv' := [(2, .int (v 1 16)), (0, .ref (d 0)), (1, .int x1)]) C dX10_wave_21 (by decide) rfl ?_
    refine z_aload_n (pc := 22) C 1 dX10_wave_22 rfl ?_
    refine z_get (pc := 23) C uw10 0 rfl rfl 0 (by decide) wq809 rfl dX10_wave_23 ?_
    refine z_bipush (pc := 26) (v := 16) C dX10_wave_26 (by decide) ?_
    refine z_iload_n (pc := 28) C 2 dX10_wave_28 rfl ?_
    refine z_iast (pc := 29) (ws' := (wX10 cI cJ d (st v 1 16 x1) g)) C 1 0 rfl rfl vi_16_372 dX10_wave_29 cl_16 sX10_a1 ?_
    refine z_aload_n (pc := 30) C 1 dX10_wave_30 rfl ?_
    refine z_get (pc := 31) C uw10 0 rfl rfl 0 (by decide) wq809 rfl dX10_wave_31 ?_
    refine z_bipush (pc := 34) (v := 17) C dX10_wave_34 (by decide) ?_
    refine z_iconst (pc := 36) (v := 0) C dX10_wave_36 (by decide) ?_
    refine z_iast (pc := 37) (ws' := (wX10 cI cJ d (st (st v 1 16 x1) 1 17 (0 : Int32)) g)) C 1 0 rfl rfl vi_17_372 dX10_wave_37 cl_17 sX10_a1 ?_
    refine z_iload_n (pc := 38) C 0 dX10_wave_38 rfl ?_
    exact hret 39 _ _ (v 1 16) (st (st v 1 16 x1) 1 17 (0 : Int32)) rfl h dX10_wave_39
  · have h := h.2 c2
    refine z_bipush (pc := 11) (v := -2) C dX10_wave_11 (by decide) ?_
    exact hret 13 _ _ (-2 : Int32) v rfl h dX10_wave_13

def pX10_mayBe (v : Lf) (x1 : Int32) (x2 : Int32) (Q : Int32 → Prop) : Prop := ((¬ x1 = 0 → ((¬ x1 = (1 : Int32) → (pX10_isIn x2 (0 : Int32) (99 : Int32) (fun r3 => (narrow .boolean (.int r3) = .int r3 ∧ (Q r3 ))))) ∧ (x1 = (1 : Int32) → (pX10_isIn x2 (1 : Int32) (v 1 16) (fun r6 => (narrow .boolean (.int r6) = .int r6 ∧ (Q r6 ))))))) ∧ (x1 = 0 → (pX10_isIn x2 (0 : Int32) ((v 1 16) - (1 : Int32)) (fun r9 => (narrow .boolean (.int r9) = .int r9 ∧ (Q r9 ))))))
abbrev rmX10_mayBe : Room := { frames := 1, cells := 0, slots := 0, locals := 22 }
abbrev wdX10_mayBe : List Cond := Cond.code yX10_mayBe cX10_mayBe 3 (some .boolean) :: TB
theorem hdSX10_mayBe : (yX10_mayBe).cls ≠ "java/lang/invoke/MethodHandle" ∧ (yX10_mayBe).cls ≠ "java/lang/invoke/VarHandle" ∧ (parseMethodDescriptor (yX10_mayBe).desc).map (fun d => d.parameters.length) = some 2 := by decide +kernel
theorem hdX10_mayBe : (yX10_mayBe).cls = RX10 ∧ (yX10_mayBe).cls ≠ "java/lang/invoke/MethodHandle" ∧ (yX10_mayBe).cls ≠ "java/lang/invoke/VarHandle" ∧ (parseMethodDescriptor (yX10_mayBe).desc).map (fun d => d.parameters.length) = some 2 := ⟨rfl, hdSX10_mayBe⟩
set_option maxHeartbeats 4000000 in
set_option maxRecDepth 100000 in
theorem kX10_mayBe {l : Launch} {D : va_G} {cI cJ cT : ClassId} (d : Nat → Nat)  (v : Lf) (g : Lg) (x1 : Int32) (x2 : Int32) {Q : Int32 → Prop} (sz : Nat) (h : pX10_mayBe v x1 x2 Q) : Met l yX10_mayBe wdX10_mayBe rmX10_mayBe (Pz D (tyL cI cJ cT) [.ref (d 0), .int x1, .int x2] (wX10 cI cJ d v g) sz) (va_Qi (fun (r : Int32) (u : Unit) => Q r) (Bz D (tyL cI cJ cT) (wX10 cI cJ d v g) sz (fun (u : Unit) => (wX10 cI cJ d v g))) (va_A (wX10 cI cJ d v g) sz)) 0 0 (va_A (wX10 cI cJ d v g) sz) := by
  refine z_metz (cc := cX10_mayBe) (maxL := 3) (own := RX10) (lv0 := [(0, .ref (d 0)), (1, .int x1), (2, .int x2)]) (by decide) rfl rfl (Nat.le_of_ble_eq_true rfl) rfl ?_
  intro p e s m args below meth c A QQ C hin hret
  refine z_iload_n (pc := 0) C 1 dX10_mayBe_0 rfl ?_
  refine z_if_ne (pc := 1) (tgt := 21) C dX10_mayBe_1 (by decide) (fun c1 => ?_) (fun c1 => ?_)
  · have h := h.1 c1
    refine z_iload_n (pc := 21) C 1 dX10_mayBe_21 rfl ?_
    refine z_iconst (pc := 22) (v := 1) C dX10_mayBe_22 (by decide) ?_
    refine z_icmp_ne (pc := 23) (tgt := 41) C dX10_mayBe_23 (by decide) (fun c2 => ?_) (fun c2 => ?_)
    · have h := h.1 c2
      refine z_iload_n (pc := 41) C 2 dX10_mayBe_41 rfl ?_
      refine z_iconst (pc := 42) (v := 0) C dX10_mayBe_42 (by decide) ?_
      refine z_bipush (pc := 43) (v := 99) C dX10_mayBe_43 (by decide) ?_
      refine z_call0i (pc := 45) C (z_runS (pc := 45) (wc := ([] : va_W)) (As := [.int x2, .int (0 : Int32), .int (99 : Int32)]) C (fun sz => kX10_isIn x2 (0 : Int32) (99 : Int32) sz h) [] rfl (by decide) (gdS wq849 wq852 wq853 wq814) rfl rfl rfl hdSX10_isIn ⟨Nat.le_of_ble_eq_true rfl, Nat.le_of_ble_eq_true rfl⟩ rfl (Nat.le_of_ble_eq_true rfl) ⟨Nat.zero_le _, Nat.zero_le _⟩ dX10_mayBe_45) (fun r3 u3 h => ?_)
      obtain ⟨g4, h⟩ := h
      exact hret 48 _ _ r3 g4 () rfl h dX10_mayBe_48
    · have h := h.2 c2
      refine z_iload_n (pc := 26) C 2 dX10_mayBe_26 rfl ?_
      refine z_iconst (pc := 27) (v := 1) C dX10_mayBe_27 (by decide) ?_
      refine z_aload_n (pc := 28) C 0 dX10_mayBe_28 rfl ?_
      refine z_get (pc := 29) C uw10 0 rfl rfl 0 (by decide) wq809 rfl dX10_mayBe_29 ?_
      refine z_bipush (pc := 32) (v := 16) C dX10_mayBe_32 (by decide) ?_
      refine z_iald (pc := 34) C 1 0 rfl rfl vi_16_372 (v 1 16) (congrArg _ cl_16) dX10_mayBe_34 ?_
      refine z_call0i (pc := 35) C (z_runS (pc := 35) (wc := ([] : va_W)) (As := [.int x2, .int (1 : Int32), .int (v 1 16)]) C (fun sz => kX10_isIn x2 (1 : Int32) (v 1 16) sz h) [] rfl (by decide) (gdS wq849 wq852 wq853 wq814) rfl rfl rfl hdSX10_isIn ⟨Nat.le_of_ble_eq_true rfl, Nat.le_of_ble_eq_true rfl⟩ rfl (Nat.le_of_ble_eq_true rfl) ⟨Nat.zero_le _, Nat.zero_le _⟩ dX10_mayBe_35) (fun r6 u6 h => ?_)
      refine z_goto (pc := 38) (tgt := 48) C dX10_mayBe_38 (by decide) ?_
      obtain ⟨g7, h⟩ := h
      exact hret 48 _ _ r6 g7 () rfl h dX10_mayBe_48
  · have h := h.2 c1
    refine z_iload_n (pc := 4) C 2 dX10_mayBe_4 rfl ?_
    refine z_iconst (pc := 5) (v := 0) C dX10_mayBe_5 (by decide) ?_
    refine z_aload_n (pc := 6) C 0 dX10_mayBe_6 rfl ?_
    refine z_get (pc := 7) C uw10 0 rfl rfl 0 (by decide) wq809 rfl dX10_mayBe_7 ?_
    refine z_bipush (pc := 10) (v := 16) C dX10_mayBe_10 (by decide) ?_
    refine z_iald (pc := 12) C 1 0 rfl rfl vi_16_372 (v 1 16) (congrArg _ cl_16) dX10_mayBe_12 ?_
    refine z_iconst (pc := 13) (v := 1) C dX10_mayBe_13 (by decide) ?_
    refine z_isub (pc := 14) C dX10_mayBe_14 ?_
    refine z_call0i (pc := 15) C (z_runS (pc := 15) (wc := ([] : va_W)) (As := [.int x2, .int (0 : Int32), .int ((v 1 16) - (1 : Int32))]) C (fun sz => kX10_isIn x2 (0 : Int32) ((v 1 16) - (1 : Int32)) sz h) [] rfl (by decide) (gdS wq849 wq852 wq853 wq814) rfl rfl rfl hdSX10_isIn ⟨Nat.le_of_ble_eq_true rfl, Nat.le_of_ble_eq_true rfl⟩ rfl (Nat.le_of_ble_eq_true rfl) ⟨Nat.zero_le _, Nat.zero_le _⟩ dX10_mayBe_15) (fun r9 u9 h => ?_)
    refine z_goto (pc := 18) (tgt := 48) C dX10_mayBe_18 (by decide) ?_
    obtain ⟨g10, h⟩ := h
    exact hret 48 _ _ r9 g10 () rfl h dX10_mayBe_48

def pX10_node (v : Lf) (x1 : Int32) (x2 : Int32) (x3 : Int32) (Q : Int32 → Lf → Prop) : Prop := (pX10_mayBe v (0 : Int32) x1 (fun r1 => ((r1 = 0 → (Q (-2 : Int32) v)) ∧ (¬ r1 = 0 → (pX10_mayBe v (1 : Int32) x2 (fun r3 => ((r3 = 0 → (Q (-2 : Int32) v)) ∧ (¬ r3 = 0 → (pX10_mayBe v (2 : Int32) x3 (fun r5 => ((¬ r5 = 0 → ((¬ (v 1 17) = (5 : Int32) → (vp_in ((306 : Int32) + ((3 : Int32) * (v 1 17))) 372 ∧ (vp_in (((306 : Int32) + ((3 : Int32) * (v 1 17))) + (1 : Int32)) 372 ∧ (vp_in (((306 : Int32) + ((3 : Int32) * (v 1 17))) + (2 : Int32)) 372 ∧ (Q (((st (st (st (st v 1 (((306 : Int32) + ((3 : Int32) * (v 1 17))).toNatClampNeg) x1) 1 ((((306 : Int32) + ((3 : Int32) * (v 1 17))) + (1 : Int32)).toNatClampNeg) x2) 1 ((((306 : Int32) + ((3 : Int32) * (v 1 17))) + (2 : Int32)).toNatClampNeg) x3) 1 17 (((st (st (st v 1 (((306 : Int32) + ((3 : Int32) * (v 1 17))).toNatClampNeg) x1) 1 ((((306 : Int32) + ((3 : Int32) * (v 1 17))) + (1 : Int32)).toNatClampNeg) x2) 1 ((((306 : Int32) + ((3 : Int32) * (v 1 17))) + (2 : Int32)).toNatClampNeg) x3) 1 17) + (1 : Int32))) 1 17) - (1 : Int32)) (st (st (st (st v 1 (((306 : Int32) + ((3 : Int32) * (v 1 17))).toNatClampNeg) x1) 1 ((((306 : Int32) + ((3 : Int32) * (v 1 17))) + (1 : Int32)).toNatClampNeg) x2) 1 ((((306 : Int32) + ((3 : Int32) * (v 1 17))) + (2 : Int32)).toNatClampNeg) x3) 1 17 (((st (st (st v 1 (((306 : Int32) + ((3 : Int32) * (v 1 17))).toNatClampNeg) x1) 1 ((((306 : Int32) + ((3 : Int32) * (v 1 17))) + (1 : Int32)).toNatClampNeg) x2) 1 ((((306 : Int32) + ((3 : Int32) * (v 1 17))) + (2 : Int32)).toNatClampNeg) x3) 1 17) + (1 : Int32)))))))) ∧ ((v 1 17) = (5 : Int32) → (Q (-4 : Int32) v)))) ∧ (r5 = 0 → (Q (-2 : Int32) v)))))))))))))
abbrev rmX10_node : Room := { frames := 2, cells := 0, slots := 0, locals := 44 }
abbrev wdX10_node : List Cond := Cond.code yX10_node cX10_node 5 (some .int) :: TB
theorem hdSX10_node : (yX10_node).cls ≠ "java/lang/invoke/MethodHandle" ∧ (yX10_node).cls ≠ "java/lang/invoke/VarHandle" ∧ (parseMethodDescriptor (yX10_node).desc).map (fun d => d.parameters.length) = some 3 := by decide +kernel
theorem hdX10_node : (yX10_node).cls = RX10 ∧ (yX10_node).cls ≠ "java/lang/invoke/MethodHandle" ∧ (yX10_node).cls ≠ "java/lang/invoke/VarHandle" ∧ (parseMethodDescriptor (yX10_node).desc).map (fun d => d.parameters.length) = some 3 := ⟨rfl, hdSX10_node⟩
set_option maxHeartbeats 4000000 in
set_option maxRecDepth 100000 in
theorem kX10_node {l : Launch} {D : va_G} {cI cJ cT : ClassId} (d : Nat → Nat)  (v : Lf) (g : Lg) (x1 : Int32) (x2 : Int32) (x3 : Int32) {Q : Int32 → Lf → Prop} (sz : Nat) (h : pX10_node v x1 x2 x3 Q) : Met l yX10_node wdX10_node rmX10_node (Pz D (tyL cI cJ cT) [.ref (d 0), .int x1, .int x2, .int x3] (wX10 cI cJ d v g) sz) (va_Qi (fun (r : Int32) (u : Lf) => Q r u) (Bz D (tyL cI cJ cT) (wX10 cI cJ d v g) sz (fun (u : Lf) => (wX10 cI cJ d u g))) (va_A (wX10 cI cJ d v g) sz)) 0 0 (va_A (wX10 cI cJ d v g) sz) := by
  refine z_meti (cc := cX10_node) (maxL := 5) (own := RX10) (lv0 := [(0, .ref (d 0)), (1, .int x1), (2, .int x2), (3, .int x3)]) (by decide) rfl rfl (Nat.le_of_ble_eq_true rfl) rfl ?_
  intro p e s m args below meth c A QQ C hin hret
  refine z_aload_n (pc := 0) C 0 dX10_node_0 rfl ?_
  refine z_iconst (pc := 1) (v := 0) C dX10_node_1 (by decide) ?_
  refine z_iload_n (pc := 2) C 1 dX10_node_2 rfl ?_
  refine z_callRi (pc := 3) C (z_runV (pc := 3) (wc := (wX10 cI cJ d v g)) (As := [.int (0 : Int32), .int x1]) C (fun sz => kX10_mayBe d v g (0 : Int32) x1 sz h) [0, 1, 2, 3, 4, 5, 6, 7, 8, 9, 10, 11] rfl (by decide) (gdV wq1054 wq1056 wq1057 wq1058 wq814) rfl rfl rfl hdX10_mayBe 0 rfl rfl rfl ⟨Nat.le_of_ble_eq_true rfl, Nat.le_of_ble_eq_true rfl⟩ rfl (Nat.le_of_ble_eq_true rfl) ⟨Nat.zero_le _, Nat.zero_le _⟩ dX10_node_3) [0, 1, 2, 3, 4, 5, 6, 7, 8, 9, 10, 11] rfl (by decide) (fun r1 u1 h => ?_)
  refine z_if_eq (pc := 6) (tgt := 27) C dX10_node_6 (by decide) (fun c2 => ?_) (fun c2 => ?_)
  · have h := h.1 c2
    refine z_bipush (pc := 27) (v := -2) C dX10_node_27 (by decide) ?_
    exact hret 29 _ _ (-2 : Int32) v rfl h dX10_node_29
  · have h := h.2 c2
    refine z_aload_n (pc := 9) C 0 dX10_node_9 rfl ?_
    refine z_iconst (pc := 10) (v := 1) C dX10_node_10 (by decide) ?_
    refine z_iload_n (pc := 11) C 2 dX10_node_11 rfl ?_
    refine z_callRi (pc := 12) C (z_runV (pc := 12) (wc := (wX10 cI cJ d v g)) (As := [.int (1 : Int32), .int x2]) C (fun sz => kX10_mayBe d v g (1 : Int32) x2 sz h) [0, 1, 2, 3, 4, 5, 6, 7, 8, 9, 10, 11] rfl (by decide) (gdV wq1054 wq1056 wq1057 wq1058 wq814) rfl rfl rfl hdX10_mayBe 0 rfl rfl rfl ⟨Nat.le_of_ble_eq_true rfl, Nat.le_of_ble_eq_true rfl⟩ rfl (Nat.le_of_ble_eq_true rfl) ⟨Nat.zero_le _, Nat.zero_le _⟩ dX10_node_12) [0, 1, 2, 3, 4, 5, 6, 7, 8, 9, 10, 11] rfl (by decide) (fun r3 u3 h => ?_)
    refine z_if_eq (pc := 15) (tgt := 27) C dX10_node_15 (by decide) (fun c4 => ?_) (fun c4 => ?_)
    · have h := h.1 c4
      refine z_bipush (pc := 27) (v := -2) C dX10_node_27 (by decide) ?_
      exact hret 29 _ _ (-2 : Int32) v rfl h dX10_node_29
    · have h := h.2 c4
      refine z_aload_n (pc := 18) C 0 dX10_node_18 rfl ?_
      refine z_iconst (pc := 19) (v := 2) C dX10_node_19 (by decide) ?_
      refine z_iload_n (pc := 20) C 3 dX10_node_20 rfl ?_
      refine z_callRi (pc := 21) C (z_runV (pc := 21) (wc := (wX10 cI cJ d v g)) (As := [.int (2 : Int32), .int x3]) C (fun sz => kX10_mayBe d v g (2 : Int32) x3 sz h) [0, 1, 2, 3, 4, 5, 6, 7, 8, 9, 10, 11] rfl (by decide) (gdV wq1054 wq1056 wq1057 wq1058 wq814) rfl rfl rfl hdX10_mayBe 0 rfl rfl rfl ⟨Nat.le_of_ble_eq_true rfl, Nat.le_of_ble_eq_true rfl⟩ rfl (Nat.le_of_ble_eq_true rfl) ⟨Nat.zero_le _, Nat.zero_le _⟩ dX10_node_21) [0, 1, 2, 3, 4, 5, 6, 7, 8, 9, 10, 11] rfl (by decide) (fun r5 u5 h => ?_)
      refine z_if_ne (pc := 24) (tgt := 30) C dX10_node_24 (by decide) (fun c6 => ?_) (fun c6 => ?_)
      · have h := h.1 c6
        refine z_aload_n (pc := 30) C 0 dX10_node_30 rfl ?_
        refine z_get (pc := 31) C uw10 0 rfl rfl 0 (by decide) wq809 rfl dX10_node_31 ?_
        refine z_bipush (pc := 34) (v := 17) C dX10_node_34 (by decide) ?_
        refine z_iald (pc := 36) C 1 0 rfl rfl vi_17_372 (v 1 17) (congrArg _ cl_17) dX10_node_36 ?_
        refine z_iconst (pc := 37) (v := 5) C dX10_node_37 (by decide) ?_
        refine z_icmp_ne (pc := 38) (tgt := 44) C dX10_node_38 (by decide) (fun c8 => ?_) (fun c8 => ?_)
        · have h := h.1 c8
          refine z_sipush (pc := 44) (v := 306) C dX10_node_44 (by decide) ?_
          refine z_iconst (pc := 47) (v := 3) C dX10_node_47 (by decide) ?_
          refine z_aload_n (pc := 48) C 0 dX10_node_48 rfl ?_
          refine z_get (pc := 49) C uw10 0 rfl rfl 0 (by decide) wq809 rfl dX10_node_49 ?_
          refine z_bipush (pc := 52) (v := 17) C dX10_node_52 (by decide) ?_
          refine z_iald (pc := 54) C 1 0 rfl rfl vi_17_372 (v 1 17) (congrArg _ cl_17) dX10_node_54 ?_
          refine z_imul (pc := 55) C dX10_node_55 ?_
          refine z_iadd (pc := 56) C dX10_node_56 ?_
          refine z_istore (pc := 57) (lv' := [(4, .int ((306 : Int32) + ((3 : Int32) * (v 1 17)))), (0, .ref (d 0)), (1, .int x1), (2, .int x2), (3, .int x3)]) C dX10_node_57 (by decide) rfl ?_
          refine z_aload_n (pc := 59) C 1 dX10_node_59 rfl ?_
          refine z_get (pc := 60) C uw10 0 rfl rfl 0 (by decide) wq809 rfl dX10_node_60 ?_
          refine z_iload (pc := 63) C 0 dX10_node_63 rfl ?_
          refine z_iload_n (pc := 65) C 2 dX10_node_65 rfl ?_
          obtain ⟨g10, h⟩ := h
          refine z_iast (pc := 66) (ws' := (wX10 cI cJ d (st v 1 (((306 : Int32) + ((3 : Int32) * (v 1 17))).toNatClampNeg) x1) g)) C 1 0 rfl rfl g10 dX10_node_66 rfl sX10_a1 ?_
          refine z_aload_n (pc := 67) C 1 dX10_node_67 rfl ?_
          refine z_get (pc := 68) C uw10 0 rfl rfl 0 (by decide) wq809 rfl dX10_node_68 ?_
          refine z_iload (pc := 71) C 0 dX10_node_71 rfl ?_
          refine z_iconst (pc := 73) (v := 1) C dX10_node_73 (by decide) ?_
          refine z_iadd (pc := 74) C dX10_node_74 ?_
          refine z_iload_n (pc := 75) C 3 dX10_node_75 rfl ?_
          obtain ⟨g11, h⟩ := h
          refine z_iast (pc := 76) (ws' := (wX10 cI cJ d (st (st v 1 (((306 : Int32) + ((3 : Int32) * (v 1 17))).toNatClampNeg) x1) 1 ((((306 : Int32) + ((3 : Int32) * (v 1 17))) + (1 : Int32)).toNatClampNeg) x2) g)) C 1 0 rfl rfl g11 dX10_node_76 rfl sX10_a1 ?_
          refine z_aload_n (pc := 77) C 1 dX10_node_77 rfl ?_
          refine z_get (pc := 78) C uw10 0 rfl rfl 0 (by decide) wq809 rfl dX10_node_78 ?_
          refine z_iload (pc := 81) C 0 dX10_node_81 rfl ?_
          refine z_iconst (pc := 83) (v := 2) C dX10_node_83 (by decide) ?_
          refine z_iadd (pc := 84) C dX10_node_84 ?_
          refine z_iload_n (pc := 85) C 4 dX10_node_85 rfl ?_
          obtain ⟨g12, h⟩ := h
          refine z_iast (pc := 86) (ws' := (wX10 cI cJ d (st (st (st v 1 (((306 : Int32) + ((3 : Int32) * (v 1 17))).toNatClampNeg) x1) 1 ((((306 : Int32) + ((3 : Int32) * (v 1 17))) + (1 : Int32)).toNatClampNeg) x2) 1 ((((306 : Int32) + ((3 : Int32) * (v 1 17))) + (2 : Int32)).toNatClampNeg) x3) g)) C 1 0 rfl rfl g12 dX10_node_86 rfl sX10_a1 ?_
          refine z_aload_n (pc := 87) C 1 dX10_node_87 rfl ?_
          refine z_get (pc := 88) C uw10 0 rfl rfl 0 (by decide) wq809 rfl dX10_node_88 ?_
          refine z_bipush (pc := 91) (v := 17) C dX10_node_91 (by decide) ?_
          refine z_dup2 (pc := 93) C dX10_node_93 rfl rfl ?_
          refine z_iald (pc := 94) C 1 0 rfl rfl vi_17_372 ((st (st (st v 1 (((306 : Int32) + ((3 : Int32) * (v 1 17))).toNatClampNeg) x1) 1 ((((306 : Int32) + ((3 : Int32) * (v 1 17))) + (1 : Int32)).toNatClampNeg) x2) 1 ((((306 : Int32) + ((3 : Int32) * (v 1 17))) + (2 : Int32)).toNatClampNeg) x3) 1 17) (congrArg _ cl_17) dX10_node_94 ?_
          refine z_iconst (pc := 95) (v := 1) C dX10_node_95 (by decide) ?_
          refine z_iadd (pc := 96) C dX10_node_96 ?_
          refine z_iast (pc := 97) (ws' := (wX10 cI cJ d (st (st (st (st v 1 (((306 : Int32) + ((3 : Int32) * (v 1 17))).toNatClampNeg) x1) 1 ((((306 : Int32) + ((3 : Int32) * (v 1 17))) + (1 : Int32)).toNatClampNeg) x2) 1 ((((306 : Int32) + ((3 : Int32) * (v 1 17))) + (2 : Int32)).toNatClampNeg) x3) 1 17 (((st (st (st v 1 (((306 : Int32) + ((3 : Int32) * (v 1 17))).toNatClampNeg) x1) 1 ((((306 : Int32) + ((3 : Int32) * (v 1 17))) + (1 : Int32)).toNatClampNeg) x2) 1 ((((306 : Int32) + ((3 : Int32) * (v 1 17))) + (2 : Int32)).toNatClampNeg) x3) 1 17) + (1 : Int32))) g)) C 1 0 rfl rfl vi_17_372 dX10_node_97 cl_17 sX10_a1 ?_
          refine z_aload_n (pc := 98) C 1 dX10_node_98 rfl ?_
          refine z_get (pc := 99) C uw10 0 rfl rfl 0 (by decide) wq809 rfl dX10_node_99 ?_
          refine z_bipush (pc := 102) (v := 17) C dX10_node_102 (by decide) ?_
          refine z_iald (pc := 104) C 1 0 rfl rfl vi_17_372 ((st (st (st (st v 1 (((306 : Int32) + ((3 : Int32) * (v 1 17))).toNatClampNeg) x1) 1 ((((306 : Int32) + ((3 : Int32) * (v 1 17))) + (1 : Int32)).toNatClampNeg) x2) 1 ((((306 : Int32) + ((3 : Int32) * (v 1 17))) + (2 : Int32)).toNatClampNeg) x3) 1 17 (((st (st (st v 1 (((306 : Int32) + ((3 : Int32) * (v 1 17))).toNatClampNeg) x1) 1 ((((306 : Int32) + ((3 : Int32) * (v 1 17))) + (1 : Int32)).toNatClampNeg) x2) 1 ((((306 : Int32) + ((3 : Int32) * (v 1 17))) + (2 : Int32)).toNatClampNeg) x3) 1 17) + (1 : Int32))) 1 17) (congrArg _ cl_17) dX10_node_104 ?_
          refine z_iconst (pc := 105) (v := 1) C dX10_node_105 (by decide) ?_
          refine z_isub (pc := 106) C dX10_node_106 ?_
          exact hret 107 _ _ (((st (st (st (st v 1 (((306 : Int32) + ((3 : Int32) * (v 1 17))).toNatClampNeg) x1) 1 ((((306 : Int32) + ((3 : Int32) * (v 1 17))) + (1 : Int32)).toNatClampNeg) x2) 1 ((((306 : Int32) + ((3 : Int32) * (v 1 17))) + (2 : Int32)).toNatClampNeg) x3) 1 17 (((st (st (st v 1 (((306 : Int32) + ((3 : Int32) * (v 1 17))).toNatClampNeg) x1) 1 ((((306 : Int32) + ((3 : Int32) * (v 1 17))) + (1 : Int32)).toNatClampNeg) x2) 1 ((((306 : Int32) + ((3 : Int32) * (v 1 17))) + (2 : Int32)).toNatClampNeg) x3) 1 17) + (1 : Int32))) 1 17) - (1 : Int32)) (st (st (st (st v 1 (((306 : Int32) + ((3 : Int32) * (v 1 17))).toNatClampNeg) x1) 1 ((((306 : Int32) + ((3 : Int32) * (v 1 17))) + (1 : Int32)).toNatClampNeg) x2) 1 ((((306 : Int32) + ((3 : Int32) * (v 1 17))) + (2 : Int32)).toNatClampNeg) x3) 1 17 (((st (st (st v 1 (((306 : Int32) + ((3 : Int32) * (v 1 17))).toNatClampNeg) x1) 1 ((((306 : Int32) + ((3 : Int32) * (v 1 17))) + (1 : Int32)).toNatClampNeg) x2) 1 ((((306 : Int32) + ((3 : Int32) * (v 1 17))) + (2 : Int32)).toNatClampNeg) x3) 1 17) + (1 : Int32))) rfl h dX10_node_107
        · have h := h.2 c8
          refine z_bipush (pc := 41) (v := -4) C dX10_node_41 (by decide) ?_
          exact hret 43 _ _ (-4 : Int32) v rfl h dX10_node_43
      · have h := h.2 c6
        refine z_bipush (pc := 27) (v := -2) C dX10_node_27 (by decide) ?_
        exact hret 29 _ _ (-2 : Int32) v rfl h dX10_node_29

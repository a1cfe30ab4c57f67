def pX6_holdNothing (v : Lf)  (Q : Lf → Prop) : Prop := (Q (st (st v 0 0 (-5 : Int32)) 0 1 (0 : Int32)))
abbrev rmX6_holdNothing : Room := { frames := 0, cells := 0, slots := 0, locals := 0 }
abbrev wdX6_holdNothing : List Cond := Cond.code yX6_holdNothing cX6_holdNothing 1 none :: TB
theorem hdSX6_holdNothing : (yX6_holdNothing).cls ≠ "java/lang/invoke/MethodHandle" ∧ (yX6_holdNothing).cls ≠ "java/lang/invoke/VarHandle" ∧ (parseMethodDescriptor (yX6_holdNothing).desc).map (fun d => d.parameters.length) = some 0 := by decide +kernel
theorem hdX6_holdNothing : (yX6_holdNothing).cls = RX6 ∧ (yX6_holdNothing).cls ≠ "java/lang/invoke/MethodHandle" ∧ (yX6_holdNothing).cls ≠ "java/lang/invoke/VarHandle" ∧ (parseMethodDescriptor (yX6_holdNothing).desc).map (fun d => d.parameters.length) = some 0 := ⟨rfl, hdSX6_holdNothing⟩
set_option maxHeartbeats 4000000 in
set_option maxRecDepth 100000 in
theorem kX6_holdNothing {l : Launch} {D : va_G} {cI cJ cT : ClassId} (d : Nat → Nat)  (v : Lf) (g : Lg)  {Q : Lf → Prop} (sz : Nat) (h : pX6_holdNothing v Q) : Met l yX6_holdNothing wdX6_holdNothing rmX6_holdNothing (Pz D (tyL cI cJ cT) [.ref (d 0)] (wX6 cJ d v g) sz) (va_Qv (fun (u : Lf) => Q u) (Bz D (tyL cI cJ cT) (wX6 cJ d v g) sz (fun (u : Lf) => (wX6 cJ d u g))) (va_A (wX6 cJ d v g) sz)) 0 0 (va_A (wX6 cJ d v g) sz) := by
  refine z_metv (cc := cX6_holdNothing) (maxL := 1) (own := RX6) (lv0 := [(0, .ref (d 0))]) (by decide) rfl rfl (Nat.le_of_ble_eq_true rfl) rfl ?_
  intro p e s m args below meth c A QQ C hin hret
  refine z_aload_n (pc := 0) C 0 dX6_holdNothing_0 rfl ?_
  refine z_bipush (pc := 1) (v := -5) C dX6_holdNothing_1 (by decide) ?_
  refine z_put (pc := 3) (ws' := (wX6 cJ d (st v 0 0 (-5 : Int32)) g)) C uw6 tyX6 tyX6_ok nmX6 0 rfl rfl 0 (by decide) wq405 rfl rfl rfl (Nat.le_of_ble_eq_true rfl) dX6_holdNothing_3 sX6_f0 ?_
  refine z_aload_n (pc := 6) C 0 dX6_holdNothing_6 rfl ?_
  refine z_iconst (pc := 7) (v := 0) C dX6_holdNothing_7 (by decide) ?_
  refine z_put (pc := 8) (ws' := (wX6 cJ d (st (st v 0 0 (-5 : Int32)) 0 1 (0 : Int32)) g)) C uw6 tyX6 tyX6_ok nmX6 0 rfl rfl 1 (by decide) wq408 rfl rfl rfl (Nat.le_of_ble_eq_true rfl) dX6_holdNothing_8 sX6_f1 ?_
  exact hret 11 _ _ (st (st v 0 0 (-5 : Int32)) 0 1 (0 : Int32)) rfl h dX6_holdNothing_11

def pX6_hold (v : Lf) (g : Lg) (x1 : Int32) (x2 : Int32) (Q : Lf → Lg → Prop) : Prop := (pJ7_fill_d0a16 60 (g 1) (0 : Int64) (fun f0_1 => (Q (st (st v 0 0 x1) 0 1 x2) (sb g 1 f0_1))))
abbrev rmX6_hold : Room := { frames := 1, cells := 0, slots := 0, locals := 24 }
abbrev wdX6_hold : List Cond := Cond.code yX6_hold cX6_hold 3 none :: TB
theorem hdSX6_hold : (yX6_hold).cls ≠ "java/lang/invoke/MethodHandle" ∧ (yX6_hold).cls ≠ "java/lang/invoke/VarHandle" ∧ (parseMethodDescriptor (yX6_hold).desc).map (fun d => d.parameters.length) = some 2 := by decide +kernel
theorem hdX6_hold : (yX6_hold).cls = RX6 ∧ (yX6_hold).cls ≠ "java/lang/invoke/MethodHandle" ∧ (yX6_hold).cls ≠ "java/lang/invoke/VarHandle" ∧ (parseMethodDescriptor (yX6_hold).desc).map (fun d => d.parameters.length) = some 2 := ⟨rfl, hdSX6_hold⟩
set_option maxHeartbeats 4000000 in
set_option maxRecDepth 100000 in
theorem kX6_hold {l : Launch} {D : va_G} {cI cJ cT : ClassId} (d : Nat → Nat)  (v : Lf) (g : Lg) (x1 : Int32) (x2 : Int32) {Q : Lf → Lg → Prop} (sz : Nat) (h : pX6_hold v g x1 x2 Q) : Met l yX6_hold wdX6_hold rmX6_hold (Pz D (tyL cI cJ cT) [.ref (d 0), .int x1, .int x2] (wX6 cJ d v g) sz) (va_Qv (fun (u : Lf × Lg) => Q u.1 u.2) (Bz D (tyL cI cJ cT) (wX6 cJ d v g) sz (fun (u : Lf × Lg) => (wX6 cJ d u.1 u.2))) (va_A (wX6 cJ d v g) sz)) 0 0 (va_A (wX6 cJ d v g) sz) := by
  refine z_metv (cc := cX6_hold) (maxL := 3) (own := RX6) (lv0 := [(0, .ref (d 0)), (1, .int x1), (2, .int x2)]) (by decide) rfl rfl (Nat.le_of_ble_eq_true rfl) rfl ?_
  intro p e s m args below meth c A QQ C hin hret
  refine z_aload_n (pc := 0) C 0 dX6_hold_0 rfl ?_
  refine z_iload_n (pc := 1) C 1 dX6_hold_1 rfl ?_
  refine z_put (pc := 2) (ws' := (wX6 cJ d (st v 0 0 x1) g)) C uw6 tyX6 tyX6_ok nmX6 0 rfl rfl 0 (by decide) wq405 rfl rfl rfl (Nat.le_of_ble_eq_true rfl) dX6_hold_2 sX6_f0 ?_
  refine z_aload_n (pc := 5) C 0 dX6_hold_5 rfl ?_
  refine z_iload_n (pc := 6) C 2 dX6_hold_6 rfl ?_
  refine z_put (pc := 7) (ws' := (wX6 cJ d (st (st v 0 0 x1) 0 1 x2) g)) C uw6 tyX6 tyX6_ok nmX6 0 rfl rfl 1 (by decide) wq408 rfl rfl rfl (Nat.le_of_ble_eq_true rfl) dX6_hold_7 sX6_f1 ?_
  refine z_aload_n (pc := 10) C 0 dX6_hold_10 rfl ?_
  refine z_get (pc := 11) C uw6 0 rfl rfl 2 (by decide) wq406 rfl dX6_hold_11 ?_
  refine z_lconst (pc := 14) (v := 0) C dX6_hold_14 (by decide) ?_
  refine z_callv (pc := 15) (wr := (List.filterMap (fun i => ((wX6 cJ d (st (st v 0 0 x1) 0 1 x2) g))[i]?) [0])) (w1 := fun (u : (Nat → Int64)) => [((d 1), .inl (cJ, 60, .inr (.inl u)))]) (w2 := fun (u : (Nat → Int64)) => (wX6 cJ d (st (st v 0 0 x1) 0 1 x2) (sb g 1 u))) C (z_runS (pc := 15) (wc := [((d 1), .inl (cJ, 60, .inr (.inl (g 1))))]) (As := [.ref (d 1), .long (0 : Int64)]) C (fun sz => kJ7_fill_d0a16 (d 1) 60 (g 1) (0 : Int64) sz h) [1] rfl (by decide) (gdS wq409 wq411 wq412 wq13) rfl rfl rfl hdSJ7_fill_d0a16 ⟨Nat.le_of_ble_eq_true rfl, Nat.le_of_ble_eq_true rfl⟩ rfl (Nat.le_of_ble_eq_true rfl) ⟨Nat.zero_le _, Nat.zero_le _⟩ dX6_hold_15) [1] [0] [0, 1] rfl rfl (by decide) (by decide) (fun _ => rfl) (by decide) (fun u1 h => ?_)
  obtain ⟨f0_1, hu1⟩ : ∃ z, z = u1 := ⟨_, rfl⟩
  subst hu1
  exact hret 18 _ _ ((st (st v 0 0 x1) 0 1 x2), (sb g 1 f0_1)) rfl h dX6_hold_18

def pX6_hasPlace (v : Lf) (x1 : Int32) (Q : Int32 → Prop) : Prop := (pX9_within x1 (0 : Int32) ((v 0 1) - (1 : Int32)) (fun r1 => (narrow .boolean (.int r1) = .int r1 ∧ (Q r1 ))))
abbrev rmX6_hasPlace : Room := { frames := 1, cells := 0, slots := 0, locals := 22 }
abbrev wdX6_hasPlace : List Cond := Cond.code yX6_hasPlace cX6_hasPlace 2 (some .boolean) :: TB
theorem hdSX6_hasPlace : (yX6_hasPlace).cls ≠ "java/lang/invoke/MethodHandle" ∧ (yX6_hasPlace).cls ≠ "java/lang/invoke/VarHandle" ∧ (parseMethodDescriptor (yX6_hasPlace).desc).map (fun d => d.parameters.length) = some 1 := by decide +kernel
theorem hdX6_hasPlace : (yX6_hasPlace).cls = RX6 ∧ (yX6_hasPlace).cls ≠ "java/lang/invoke/MethodHandle" ∧ (yX6_hasPlace).cls ≠ "java/lang/invoke/VarHandle" ∧ (parseMethodDescriptor (yX6_hasPlace).desc).map (fun d => d.parameters.length) = some 1 := ⟨rfl, hdSX6_hasPlace⟩
set_option maxHeartbeats 4000000 in
set_option maxRecDepth 100000 in
theorem kX6_hasPlace {l : Launch} {D : va_G} {cI cJ cT : ClassId} (d : Nat → Nat)  (v : Lf) (g : Lg) (x1 : Int32) {Q : Int32 → Prop} (sz : Nat) (h : pX6_hasPlace v x1 Q) : Met l yX6_hasPlace wdX6_hasPlace rmX6_hasPlace (Pz D (tyL cI cJ cT) [.ref (d 0), .int x1] (wX6 cJ d v g) sz) (va_Qi (fun (r : Int32) (u : Unit) => Q r) (Bz D (tyL cI cJ cT) (wX6 cJ d v g) sz (fun (u : Unit) => (wX6 cJ d v g))) (va_A (wX6 cJ d v g) sz)) 0 0 (va_A (wX6 cJ d v g) sz) := by
  refine z_metz (cc := cX6_hasPlace) (maxL := 2) (own := RX6) (lv0 := [(0, .ref (d 0)), (1, .int x1)]) (by decide) rfl rfl (Nat.le_of_ble_eq_true rfl) rfl ?_
  intro p e s m args below meth c A QQ C hin hret
  refine z_iload_n (pc := 0) C 1 dX6_hasPlace_0 rfl ?_
  refine z_iconst (pc := 1) (v := 0) C dX6_hasPlace_1 (by decide) ?_
  refine z_aload_n (pc := 2) C 0 dX6_hasPlace_2 rfl ?_
  refine z_get (pc := 3) C uw6 0 rfl rfl 1 (by decide) wq408 rfl dX6_hasPlace_3 ?_
  refine z_iconst (pc := 6) (v := 1) C dX6_hasPlace_6 (by decide) ?_
  refine z_isub (pc := 7) C dX6_hasPlace_7 ?_
  refine z_call0i (pc := 8) C (z_runSN (pc := 8) (wc := ([] : va_W)) (As := [.int x1, .int (0 : Int32), .int ((v 0 1) - (1 : Int32))]) (host := "SafeClears") C (fun sz => kX9_within x1 (0 : Int32) ((v 0 1) - (1 : Int32)) sz h) [] rfl (by decide) (gdC wq366) (by decide +kernel) rfl rfl rfl wq373 wq112 hdSX9_within ⟨Nat.le_of_ble_eq_true rfl, Nat.le_of_ble_eq_true rfl⟩ rfl (Nat.le_of_ble_eq_true rfl) ⟨Nat.zero_le _, Nat.zero_le _⟩ dX6_hasPlace_8) (fun r1 u1 h => ?_)
  obtain ⟨g2, h⟩ := h
  exact hret 11 _ _ r1 g2 () rfl h dX6_hasPlace_11

def pX6_hasPlaces (v : Lf) (x1 : Int32) (x2 : Int32) (Q : Int32 → Prop) : Prop := (pX9_within x2 (0 : Int32) (v 0 1) (fun r1 => ((r1 = 0 → (Q (0 : Int32) )) ∧ (¬ r1 = 0 → (pX9_within x1 (0 : Int32) ((v 0 1) - x2) (fun r3 => ((r3 = 0 → (Q (0 : Int32) )) ∧ (¬ r3 = 0 → (Q (1 : Int32) )))))))))
abbrev rmX6_hasPlaces : Room := { frames := 1, cells := 0, slots := 0, locals := 22 }
abbrev wdX6_hasPlaces : List Cond := Cond.code yX6_hasPlaces cX6_hasPlaces 3 (some .boolean) :: TB
theorem hdSX6_hasPlaces : (yX6_hasPlaces).cls ≠ "java/lang/invoke/MethodHandle" ∧ (yX6_hasPlaces).cls ≠ "java/lang/invoke/VarHandle" ∧ (parseMethodDescriptor (yX6_hasPlaces).desc).map (fun d => d.parameters.length) = some 2 := by decide +kernel
theorem hdX6_hasPlaces : (yX6_hasPlaces).cls = RX6 ∧ (yX6_hasPlaces).cls ≠ "java/lang/invoke/MethodHandle" ∧ (yX6_hasPlaces).cls ≠ "java/lang/invoke/VarHandle" ∧ (parseMethodDescriptor (yX6_hasPlaces).desc).map (fun d => d.parameters.length) = some 2 := ⟨rfl, hdSX6_hasPlaces⟩
set_option maxHeartbeats 4000000 in
set_option maxRecDepth 100000 in
theorem kX6_hasPlaces {l : Launch} {D : va_G} {cI cJ cT : ClassId} (d : Nat → Nat)  (v : Lf) (g : Lg) (x1 : Int32) (x2 : Int32) {Q : Int32 → Prop} (sz : Nat) (h : pX6_hasPlaces v x1 x2 Q) : Met l yX6_hasPlaces wdX6_hasPlaces rmX6_hasPlaces (Pz D (tyL cI cJ cT) [.ref (d 0), .int x1, .int x2] (wX6 cJ d v g) sz) (va_Qi (fun (r : Int32) (u : Unit) => Q r) (Bz D (tyL cI cJ cT) (wX6 cJ d v g) sz (fun (u : Unit) => (wX6 cJ d v g))) (va_A (wX6 cJ d v g) sz)) 0 0 (va_A (wX6 cJ d v g) sz) := by
  refine z_metz (cc := cX6_hasPlaces) (maxL := 3) (own := RX6) (lv0 := [(0, .ref (d 0)), (1, .int x1), (2, .int x2)]) (by decide) rfl rfl (Nat.le_of_ble_eq_true rfl) rfl ?_
  intro p e s m args below meth c A QQ C hin hret
  refine z_iload_n (pc := 0) C 2 dX6_hasPlaces_0 rfl ?_
  refine z_iconst (pc := 1) (v := 0) C dX6_hasPlaces_1 (by decide) ?_
  refine z_aload_n (pc := 2) C 0 dX6_hasPlaces_2 rfl ?_
  refine z_get (pc := 3) C uw6 0 rfl rfl 1 (by decide) wq408 rfl dX6_hasPlaces_3 ?_
  refine z_call0i (pc := 6) C (z_runSN (pc := 6) (wc := ([] : va_W)) (As := [.int x2, .int (0 : Int32), .int (v 0 1)]) (host := "SafeClears") C (fun sz => kX9_within x2 (0 : Int32) (v 0 1) sz h) [] rfl (by decide) (gdC wq366) (by decide +kernel) rfl rfl rfl wq373 wq112 hdSX9_within ⟨Nat.le_of_ble_eq_true rfl, Nat.le_of_ble_eq_true rfl⟩ rfl (Nat.le_of_ble_eq_true rfl) ⟨Nat.zero_le _, Nat.zero_le _⟩ dX6_hasPlaces_6) (fun r1 u1 h => ?_)
  refine z_if_eq (pc := 9) (tgt := 30) C dX6_hasPlaces_9 (by decide) (fun c2 => ?_) (fun c2 => ?_)
  · have h := h.1 c2
    refine z_iconst (pc := 30) (v := 0) C dX6_hasPlaces_30 (by decide) ?_
    exact hret 31 _ _ (0 : Int32) rfl () rfl h dX6_hasPlaces_31
  · have h := h.2 c2
    refine z_iload_n (pc := 12) C 1 dX6_hasPlaces_12 rfl ?_
    refine z_iconst (pc := 13) (v := 0) C dX6_hasPlaces_13 (by decide) ?_
    refine z_aload_n (pc := 14) C 0 dX6_hasPlaces_14 rfl ?_
    refine z_get (pc := 15) C uw6 0 rfl rfl 1 (by decide) wq408 rfl dX6_hasPlaces_15 ?_
    refine z_iload_n (pc := 18) C 2 dX6_hasPlaces_18 rfl ?_
    refine z_isub (pc := 19) C dX6_hasPlaces_19 ?_
    refine z_call0i (pc := 20) C (z_runSN (pc := 20) (wc := ([] : va_W)) (As := [.int x1, .int (0 : Int32), .int ((v 0 1) - x2)]) (host := "SafeClears") C (fun sz => kX9_within x1 (0 : Int32) ((v 0 1) - x2) sz h) [] rfl (by decide) (gdC wq366) (by decide +kernel) rfl rfl rfl wq373 wq112 hdSX9_within ⟨Nat.le_of_ble_eq_true rfl, Nat.le_of_ble_eq_true rfl⟩ rfl (Nat.le_of_ble_eq_true rfl) ⟨Nat.zero_le _, Nat.zero_le _⟩ dX6_hasPlaces_20) (fun r3 u3 h => ?_)
    refine z_if_eq (pc := 23) (tgt := 30) C dX6_hasPlaces_23 (by decide) (fun c4 => ?_) (fun c4 => ?_)
    · have h := h.1 c4
      refine z_iconst (pc := 30) (v := 0) C dX6_hasPlaces_30 (by decide) ?_
      exact hret 31 _ _ (0 : Int32) rfl () rfl h dX6_hasPlaces_31
    · have h := h.2 c4
      refine z_iconst (pc := 26) (v := 1) C dX6_hasPlaces_26 (by decide) ?_
      refine z_goto (pc := 27) (tgt := 31) C dX6_hasPlaces_27 (by decide) ?_
      exact hret 31 _ _ (1 : Int32) rfl () rfl h dX6_hasPlaces_31

def pX6_narrowed (v : Lf) (x1 : Int64) (Q : Int64 → Prop) : Prop := (((v 0 0) = 0 → (Q ((((((x1).toInt32)).toInt8.toInt32)).toInt64) )) ∧ (¬ (v 0 0) = 0 → (((v 0 0) = 1 → (Q ((((((x1).toInt32)).toInt16.toInt32)).toInt64) )) ∧ (¬ (v 0 0) = 1 → (((v 0 0) = 2 → (Q ((((x1).toInt32)).toInt64) )) ∧ (¬ (v 0 0) = 2 → (((v 0 0) = 3 → (Q x1 )) ∧ (¬ (v 0 0) = 3 → (((lg_cmp x1 (0 : Int64)) = 0 → (Q (0 : Int64) )) ∧ (¬ (lg_cmp x1 (0 : Int64)) = 0 → (Q (1 : Int64) )))))))))))
abbrev rmX6_narrowed : Room := { frames := 0, cells := 0, slots := 0, locals := 0 }
abbrev wdX6_narrowed : List Cond := Cond.code yX6_narrowed cX6_narrowed 3 (some .long) :: TB
theorem hdSX6_narrowed : (yX6_narrowed).cls ≠ "java/lang/invoke/MethodHandle" ∧ (yX6_narrowed).cls ≠ "java/lang/invoke/VarHandle" ∧ (parseMethodDescriptor (yX6_narrowed).desc).map (fun d => d.parameters.length) = some 1 := by decide +kernel
theorem hdX6_narrowed : (yX6_narrowed).cls = RX6 ∧ (yX6_narrowed).cls ≠ "java/lang/invoke/MethodHandle" ∧ (yX6_narrowed).cls ≠ "java/lang/invoke/VarHandle" ∧ (parseMethodDescriptor (yX6_narrowed).desc).map (fun d => d.parameters.length) = some 1 := ⟨rfl, hdSX6_narrowed⟩
set_option maxHeartbeats 4000000 in
set_option maxRecDepth 100000 in
theorem kX6_narrowed {l : Launch} {D : va_G} {cI cJ cT : ClassId} (d : Nat → Nat)  (v : Lf) (g : Lg) (x1 : Int64) {Q : Int64 → Prop} (sz : Nat) (h : pX6_narrowed v x1 Q) : Met l yX6_narrowed wdX6_narrowed rmX6_narrowed (Pz D (tyL cI cJ cT) [.ref (d 0), .long x1] (wX6 cJ d v g) sz) (va_Ql (fun (r : Int64) (u : Unit) => Q r) (Bz D (tyL cI cJ cT) (wX6 cJ d v g) sz (fun (u : Unit) => (wX6 cJ d v g))) (va_A (wX6 cJ d v g) sz)) 0 0 (va_A (wX6 cJ d v g) sz) := by
  refine z_metl (cc := cX6_narrowed) (maxL := 3) (own := RX6) (lv0 := [(0, .ref (d 0)), (1, .long x1)]) (by decide) rfl rfl (Nat.le_of_ble_eq_true rfl) rfl ?_
  intro p e s m args below meth c A QQ C hin hret
  refine z_aload_n (pc := 0) C 0 dX6_narrowed_0 rfl ?_
  refine z_get (pc := 1) C uw6 0 rfl rfl 0 (by decide) wq405 rfl dX6_narrowed_1 ?_
  by_cases c1_0 : (v 0 0) = 0
  · have h := h.1 c1_0
    refine z_tbl (pc := 4) (tgt := 36) C dX6_narrowed_4 0 c1_0 (by decide) (by decide) rfl (by decide) ?_
    refine z_lload_n (pc := 36) C 1 dX6_narrowed_36 rfl ?_
    refine z_l2i (pc := 37) C dX6_narrowed_37 ?_
    refine z_i2b (pc := 38) C dX6_narrowed_38 ?_
    refine z_i2l (pc := 39) C dX6_narrowed_39 ?_
    exact hret 40 _ _ ((((((x1).toInt32)).toInt8.toInt32)).toInt64) () rfl h dX6_narrowed_40
  · have h := h.2 c1_0
    by_cases c1_1 : (v 0 0) = 1
    · have h := h.1 c1_1
      refine z_tbl (pc := 4) (tgt := 41) C dX6_narrowed_4 1 c1_1 (by decide) (by decide) rfl (by decide) ?_
      refine z_lload_n (pc := 41) C 1 dX6_narrowed_41 rfl ?_
      refine z_l2i (pc := 42) C dX6_narrowed_42 ?_
      refine z_i2s (pc := 43) C dX6_narrowed_43 ?_
      refine z_i2l (pc := 44) C dX6_narrowed_44 ?_
      exact hret 45 _ _ ((((((x1).toInt32)).toInt16.toInt32)).toInt64) () rfl h dX6_narrowed_45
    · have h := h.2 c1_1
      by_cases c1_2 : (v 0 0) = 2
      · have h := h.1 c1_2
        refine z_tbl (pc := 4) (tgt := 46) C dX6_narrowed_4 2 c1_2 (by decide) (by decide) rfl (by decide) ?_
        refine z_lload_n (pc := 46) C 1 dX6_narrowed_46 rfl ?_
        refine z_l2i (pc := 47) C dX6_narrowed_47 ?_
        refine z_i2l (pc := 48) C dX6_narrowed_48 ?_
        exact hret 49 _ _ ((((x1).toInt32)).toInt64) () rfl h dX6_narrowed_49
      · have h := h.2 c1_2
        by_cases c1_3 : (v 0 0) = 3
        · have h := h.1 c1_3
          refine z_tbl (pc := 4) (tgt := 50) C dX6_narrowed_4 3 c1_3 (by decide) (by decide) rfl (by decide) ?_
          refine z_lload_n (pc := 50) C 1 dX6_narrowed_50 rfl ?_
          exact hret 51 _ _ x1 () rfl h dX6_narrowed_51
        · have h := h.2 c1_3
          refine z_tblo (pc := 4) (tgt := 52) C dX6_narrowed_4 (z_out0_3 c1_0 c1_1 c1_2 c1_3) (by decide) ?_
          refine z_lload_n (pc := 52) C 1 dX6_narrowed_52 rfl ?_
          refine z_lconst (pc := 53) (v := 0) C dX6_narrowed_53 (by decide) ?_
          refine z_lcmp (pc := 54) C dX6_narrowed_54 ?_
          refine z_if_eq (pc := 55) (tgt := 62) C dX6_narrowed_55 (by decide) (fun c2 => ?_) (fun c2 => ?_)
          · have h := h.1 c2
            refine z_lconst (pc := 62) (v := 0) C dX6_narrowed_62 (by decide) ?_
            exact hret 63 _ _ (0 : Int64) () rfl h dX6_narrowed_63
          · have h := h.2 c2
            refine z_lconst (pc := 58) (v := 1) C dX6_narrowed_58 (by decide) ?_
            refine z_goto (pc := 59) (tgt := 63) C dX6_narrowed_59 (by decide) ?_
            exact hret 63 _ _ (1 : Int64) () rfl h dX6_narrowed_63

def pX7_copyFrom (v : Lf) (vO : Lf)  (Q : Lf → Prop) : Prop := (Q (sa (st (st v 0 0 (vO 0 0)) 0 1 (vO 0 1)) 1 (va_cpy (vO 1) ((st (st v 0 0 (vO 0 0)) 0 1 (vO 0 1)) 1) (0 : Int32).toNatClampNeg (0 : Int32).toNatClampNeg (15 : Int32).toNatClampNeg)))
abbrev rmX7_copyFrom : Room := { frames := 1, cells := 0, slots := 0, locals := 100 }
abbrev wdX7_copyFrom : List Cond := Cond.code yX7_copyFrom cX7_copyFrom 2 none :: TB
theorem hdSX7_copyFrom : (yX7_copyFrom).cls ≠ "java/lang/invoke/MethodHandle" ∧ (yX7_copyFrom).cls ≠ "java/lang/invoke/VarHandle" ∧ (parseMethodDescriptor (yX7_copyFrom).desc).map (fun d => d.parameters.length) = some 1 := by decide +kernel
theorem hdX7_copyFrom : (yX7_copyFrom).cls = RX7 ∧ (yX7_copyFrom).cls ≠ "java/lang/invoke/MethodHandle" ∧ (yX7_copyFrom).cls ≠ "java/lang/invoke/VarHandle" ∧ (parseMethodDescriptor (yX7_copyFrom).desc).map (fun d => d.parameters.length) = some 1 := ⟨rfl, hdSX7_copyFrom⟩
set_option maxHeartbeats 4000000 in
set_option maxRecDepth 100000 in
theorem kX7_copyFrom {l : Launch} {D : va_G} {cI cJ cT : ClassId} (d : Nat → Nat) (dO : Nat → Nat)  (v : Lf) (vO : Lf)  {Q : Lf → Prop} (sz : Nat) (h : pX7_copyFrom v vO Q) : Met l yX7_copyFrom wdX7_copyFrom rmX7_copyFrom (Pz D (tyL cI cJ cT) [.ref (d 0), .ref (dO 0)] ((wX7 cI d v) ++ (wX7 cI dO vO)) sz) (va_Qv (fun (u : Lf) => Q u) (Bz D (tyL cI cJ cT) ((wX7 cI d v) ++ (wX7 cI dO vO)) sz (fun (u : Lf) => ((wX7 cI d u) ++ (wX7 cI dO vO)))) (va_A ((wX7 cI d v) ++ (wX7 cI dO vO)) sz)) 0 0 (va_A ((wX7 cI d v) ++ (wX7 cI dO vO)) sz) := by
  refine z_metv (cc := cX7_copyFrom) (maxL := 2) (own := RX7) (lv0 := [(0, .ref (d 0)), (1, .ref (dO 0))]) (by decide) rfl rfl (Nat.le_of_ble_eq_true rfl) rfl ?_
  intro p e s m args below meth c A QQ C hin hret
  refine z_aload_n (pc := 0) C 0 dX7_copyFrom_0 rfl ?_
  refine z_aload_n (pc := 1) C 1 dX7_copyFrom_1 rfl ?_
  refine z_get (pc := 2) C uw7 2 rfl rfl 0 (by decide) wq418 rfl dX7_copyFrom_2 ?_
  refine z_put (pc := 5) (ws' := ((wX7 cI d (st v 0 0 (vO 0 0))) ++ (wX7 cI dO vO))) C uw7 tyX7 tyX7_ok nmX7 0 rfl rfl 0 (by decide) wq418 rfl rfl rfl (Nat.le_of_ble_eq_true rfl) dX7_copyFrom_5 (set_l (Nat.le_of_ble_eq_true rfl) sX7_f0) ?_
  refine z_aload_n (pc := 8) C 0 dX7_copyFrom_8 rfl ?_
  refine z_aload_n (pc := 9) C 1 dX7_copyFrom_9 rfl ?_
  refine z_get (pc := 10) C uw7 2 rfl rfl 1 (by decide) wq421 rfl dX7_copyFrom_10 ?_
  refine z_put (pc := 13) (ws' := ((wX7 cI d (st (st v 0 0 (vO 0 0)) 0 1 (vO 0 1))) ++ (wX7 cI dO vO))) C uw7 tyX7 tyX7_ok nmX7 0 rfl rfl 1 (by decide) wq421 rfl rfl rfl (Nat.le_of_ble_eq_true rfl) dX7_copyFrom_13 (set_l (Nat.le_of_ble_eq_true rfl) sX7_f1) ?_
  refine z_aload_n (pc := 16) C 1 dX7_copyFrom_16 rfl ?_
  refine z_get (pc := 17) C uw7 2 rfl rfl 2 (by decide) wq419 rfl dX7_copyFrom_17 ?_
  refine z_iconst (pc := 20) (v := 0) C dX7_copyFrom_20 (by decide) ?_
  refine z_aload_n (pc := 21) C 0 dX7_copyFrom_21 rfl ?_
  refine z_get (pc := 22) C uw7 0 rfl rfl 2 (by decide) wq419 rfl dX7_copyFrom_22 ?_
  refine z_iconst (pc := 25) (v := 0) C dX7_copyFrom_25 (by decide) ?_
  refine z_bipush (pc := 26) (v := 15) C dX7_copyFrom_26 (by decide) ?_
  refine z_copyi (pc := 28) (ws' := ((wX7 cI d (sa (st (st v 0 0 (vO 0 0)) 0 1 (vO 0 1)) 1 (va_cpy (vO 1) ((st (st v 0 0 (vO 0 0)) 0 1 (vO 0 1)) 1) (0 : Int32).toNatClampNeg (0 : Int32).toNatClampNeg (15 : Int32).toNatClampNeg))) ++ (wX7 cI dO vO))) C wq422 wq65 wq66 wq67 3 1 0 rfl rfl rfl (by decide) (Nat.le_of_ble_eq_true rfl) (Nat.le_of_ble_eq_true rfl) dX7_copyFrom_28 (set_l (Nat.le_of_ble_eq_true rfl) sX7_c1) ?_
  exact hret 31 _ _ (sa (st (st v 0 0 (vO 0 0)) 0 1 (vO 0 1)) 1 (va_cpy (vO 1) ((st (st v 0 0 (vO 0 0)) 0 1 (vO 0 1)) 1) (0 : Int32).toNatClampNeg (0 : Int32).toNatClampNeg (15 : Int32).toNatClampNeg)) rfl h dX7_copyFrom_31

def pX7_allows (v : Lf) (x1 : Int32) (x2 : Int32) (Q : Int32 → Prop) : Prop := ((x1 = 0 → (pX9_within x2 (0 : Int32) ((v 0 0) - (1 : Int32)) (fun r4 => (narrow .boolean (.int r4) = .int r4 ∧ (Q r4 ))))) ∧ (¬ x1 = 0 → ((x1 = 1 → (pX9_within x2 (1 : Int32) (v 0 0) (fun r6 => (narrow .boolean (.int r6) = .int r6 ∧ (Q r6 ))))) ∧ (¬ x1 = 1 → (pX9_within x2 (0 : Int32) (99 : Int32) (fun r2 => (narrow .boolean (.int r2) = .int r2 ∧ (Q r2 ))))))))
abbrev rmX7_allows : Room := { frames := 1, cells := 0, slots := 0, locals := 22 }
abbrev wdX7_allows : List Cond := Cond.code yX7_allows cX7_allows 3 (some .boolean) :: TB
theorem hdSX7_allows : (yX7_allows).cls ≠ "java/lang/invoke/MethodHandle" ∧ (yX7_allows).cls ≠ "java/lang/invoke/VarHandle" ∧ (parseMethodDescriptor (yX7_allows).desc).map (fun d => d.parameters.length) = some 2 := by decide +kernel
theorem hdX7_allows : (yX7_allows).cls = RX7 ∧ (yX7_allows).cls ≠ "java/lang/invoke/MethodHandle" ∧ (yX7_allows).cls ≠ "java/lang/invoke/VarHandle" ∧ (parseMethodDescriptor (yX7_allows).desc).map (fun d => d.parameters.length) = some 2 := ⟨rfl, hdSX7_allows⟩
set_option maxHeartbeats 4000000 in
set_option maxRecDepth 100000 in
theorem kX7_allows {l : Launch} {D : va_G} {cI cJ cT : ClassId} (d : Nat → Nat)  (v : Lf) (x1 : Int32) (x2 : Int32) {Q : Int32 → Prop} (sz : Nat) (h : pX7_allows v x1 x2 Q) : Met l yX7_allows wdX7_allows rmX7_allows (Pz D (tyL cI cJ cT) [.ref (d 0), .int x1, .int x2] (wX7 cI d v) sz) (va_Qi (fun (r : Int32) (u : Unit) => Q r) (Bz D (tyL cI cJ cT) (wX7 cI d v) sz (fun (u : Unit) => (wX7 cI d v))) (va_A (wX7 cI d v) sz)) 0 0 (va_A (wX7 cI d v) sz) := by
  refine z_metz (cc := cX7_allows) (maxL := 3) (own := RX7) (lv0 := [(0, .ref (d 0)), (1, .int x1), (2, .int x2)]) (by decide) rfl rfl (Nat.le_of_ble_eq_true rfl) rfl ?_
  intro p e s m args below meth c A QQ C hin hret
  refine z_iload_n (pc := 0) C 1 dX7_allows_0 rfl ?_
  by_cases c1_0 : x1 = 0
  · have h := h.1 c1_0
    refine z_lkp (pc := 1) (tgt := 28) C dX7_allows_1 (by decide) (off := 27) (by rw [c1_0]; decide) (by decide) ?_
    refine z_iload_n (pc := 28) C 2 dX7_allows_28 rfl ?_
    refine z_iconst (pc := 29) (v := 0) C dX7_allows_29 (by decide) ?_
    refine z_aload_n (pc := 30) C 0 dX7_allows_30 rfl ?_
    refine z_get (pc := 31) C uw7 0 rfl rfl 0 (by decide) wq418 rfl dX7_allows_31 ?_
    refine z_iconst (pc := 34) (v := 1) C dX7_allows_34 (by decide) ?_
    refine z_isub (pc := 35) C dX7_allows_35 ?_
    refine z_call0i (pc := 36) C (z_runSN (pc := 36) (wc := ([] : va_W)) (As := [.int x2, .int (0 : Int32), .int ((v 0 0) - (1 : Int32))]) (host := "SafeClears") C (fun sz => kX9_within x2 (0 : Int32) ((v 0 0) - (1 : Int32)) sz h) [] rfl (by decide) (gdC wq366) (by decide +kernel) rfl rfl rfl wq373 wq112 hdSX9_within ⟨Nat.le_of_ble_eq_true rfl, Nat.le_of_ble_eq_true rfl⟩ rfl (Nat.le_of_ble_eq_true rfl) ⟨Nat.zero_le _, Nat.zero_le _⟩ dX7_allows_36) (fun r4 u4 h => ?_)
    obtain ⟨g5, h⟩ := h
    exact hret 39 _ _ r4 g5 () rfl h dX7_allows_39
  · have h := h.2 c1_0
    by_cases c1_1 : x1 = 1
    · have h := h.1 c1_1
      refine z_lkp (pc := 1) (tgt := 40) C dX7_allows_1 (by decide) (off := 39) (by rw [c1_1]; decide) (by decide) ?_
      refine z_iload_n (pc := 40) C 2 dX7_allows_40 rfl ?_
      refine z_iconst (pc := 41) (v := 1) C dX7_allows_41 (by decide) ?_
      refine z_aload_n (pc := 42) C 0 dX7_allows_42 rfl ?_
      refine z_get (pc := 43) C uw7 0 rfl rfl 0 (by decide) wq418 rfl dX7_allows_43 ?_
      refine z_call0i (pc := 46) C (z_runSN (pc := 46) (wc := ([] : va_W)) (As := [.int x2, .int (1 : Int32), .int (v 0 0)]) (host := "SafeClears") C (fun sz => kX9_within x2 (1 : Int32) (v 0 0) sz h) [] rfl (by decide) (gdC wq366) (by decide +kernel) rfl rfl rfl wq373 wq112 hdSX9_within ⟨Nat.le_of_ble_eq_true rfl, Nat.le_of_ble_eq_true rfl⟩ rfl (Nat.le_of_ble_eq_true rfl) ⟨Nat.zero_le _, Nat.zero_le _⟩ dX7_allows_46) (fun r6 u6 h => ?_)
      obtain ⟨g7, h⟩ := h
      exact hret 49 _ _ r6 g7 () rfl h dX7_allows_49
    · have h := h.2 c1_1
      refine z_lkp (pc := 1) (tgt := 50) C dX7_allows_1 (by decide) (off := 49) (by show Op.lookupswitch.offset [(0, 27), (1, 39)] _ _ = _; rw [lv_osw c1_0 (show (0 : Int32).toInt = 0 by decide), lv_osw c1_1 (show (1 : Int32).toInt = 1 by decide)]; rfl) (by decide) ?_
      refine z_iload_n (pc := 50) C 2 dX7_allows_50 rfl ?_
      refine z_iconst (pc := 51) (v := 0) C dX7_allows_51 (by decide) ?_
      refine z_bipush (pc := 52) (v := 99) C dX7_allows_52 (by decide) ?_
      refine z_call0i (pc := 54) C (z_runSN (pc := 54) (wc := ([] : va_W)) (As := [.int x2, .int (0 : Int32), .int (99 : Int32)]) (host := "SafeClears") C (fun sz => kX9_within x2 (0 : Int32) (99 : Int32) sz h) [] rfl (by decide) (gdC wq366) (by decide +kernel) rfl rfl rfl wq373 wq112 hdSX9_within ⟨Nat.le_of_ble_eq_true rfl, Nat.le_of_ble_eq_true rfl⟩ rfl (Nat.le_of_ble_eq_true rfl) ⟨Nat.zero_le _, Nat.zero_le _⟩ dX7_allows_54) (fun r2 u2 h => ?_)
      obtain ⟨g3, h⟩ := h
      exact hret 57 _ _ r2 g3 () rfl h dX7_allows_57

def pX7_at (v : Lf) (x1 : Int32) (x2 : Int32) (Q : Int32 → Prop) : Prop := (vp_in ((x1 * (3 : Int32)) + x2) 15 ∧ (Q (v 1 ((x1 * (3 : Int32)) + x2).toNatClampNeg) ))
abbrev rmX7_at : Room := { frames := 0, cells := 0, slots := 0, locals := 0 }
abbrev wdX7_at : List Cond := Cond.code yX7_at cX7_at 3 (some .int) :: TB
theorem hdSX7_at : (yX7_at).cls ≠ "java/lang/invoke/MethodHandle" ∧ (yX7_at).cls ≠ "java/lang/invoke/VarHandle" ∧ (parseMethodDescriptor (yX7_at).desc).map (fun d => d.parameters.length) = some 2 := by decide +kernel
theorem hdX7_at : (yX7_at).cls = RX7 ∧ (yX7_at).cls ≠ "java/lang/invoke/MethodHandle" ∧ (yX7_at).cls ≠ "java/lang/invoke/VarHandle" ∧ (parseMethodDescriptor (yX7_at).desc).map (fun d => d.parameters.length) = some 2 := ⟨rfl, hdSX7_at⟩
set_option maxHeartbeats 4000000 in
set_option maxRecDepth 100000 in
theorem kX7_at {l : Launch} {D : va_G} {cI cJ cT : ClassId} (d : Nat → Nat)  (v : Lf) (x1 : Int32) (x2 : Int32) {Q : Int32 → Prop} (sz : Nat) (h : pX7_at v x1 x2 Q) : Met l yX7_at wdX7_at rmX7_at (Pz D (tyL cI cJ cT) [.ref (d 0), .int x1, .int x2] (wX7 cI d v) sz) (va_Qi (fun (r : Int32) (u : Unit) => Q r) (Bz D (tyL cI cJ cT) (wX7 cI d v) sz (fun (u : Unit) => (wX7 cI d v))) (va_A (wX7 cI d v) sz)) 0 0 (va_A (wX7 cI d v) sz) := by
  refine z_meti (cc := cX7_at) (maxL := 3) (own := RX7) (lv0 := [(0, .ref (d 0)), (1, .int x1), (2, .int x2)]) (by decide) rfl rfl (Nat.le_of_ble_eq_true rfl) rfl ?_
  intro p e s m args below meth c A QQ C hin hret
  refine z_aload_n (pc := 0) C 0 dX7_at_0 rfl ?_
  refine z_get (pc := 1) C uw7 0 rfl rfl 2 (by decide) wq419 rfl dX7_at_1 ?_
  refine z_iload_n (pc := 4) C 1 dX7_at_4 rfl ?_
  refine z_iconst (pc := 5) (v := 3) C dX7_at_5 (by decide) ?_
  refine z_imul (pc := 6) C dX7_at_6 ?_
  refine z_iload_n (pc := 7) C 2 dX7_at_7 rfl ?_
  refine z_iadd (pc := 8) C dX7_at_8 ?_
  obtain ⟨g1, h⟩ := h
  refine z_iald (pc := 9) C 1 0 rfl rfl g1 (v 1 ((x1 * (3 : Int32)) + x2).toNatClampNeg) rfl dX7_at_9 ?_
  exact hret 10 _ _ (v 1 ((x1 * (3 : Int32)) + x2).toNatClampNeg) () rfl h dX7_at_10

def pX7_put (v : Lf) (x1 : Int32) (x2 : Int32) (x3 : Int32) (Q : Lf → Prop) : Prop := (vp_in ((x1 * (3 : Int32)) + x2) 15 ∧ (Q (st v 1 (((x1 * (3 : Int32)) + x2).toNatClampNeg) x3)))
abbrev rmX7_put : Room := { frames := 0, cells := 0, slots := 0, locals := 0 }
abbrev wdX7_put : List Cond := Cond.code yX7_put cX7_put 4 none :: TB
theorem hdSX7_put : (yX7_put).cls ≠ "java/lang/invoke/MethodHandle" ∧ (yX7_put).cls ≠ "java/lang/invoke/VarHandle" ∧ (parseMethodDescriptor (yX7_put).desc).map (fun d => d.parameters.length) = some 3 := by decide +kernel
theorem hdX7_put : (yX7_put).cls = RX7 ∧ (yX7_put).cls ≠ "java/lang/invoke/MethodHandle" ∧ (yX7_put).cls ≠ "java/lang/invoke/VarHandle" ∧ (parseMethodDescriptor (yX7_put).desc).map (fun d => d.parameters.length) = some 3 := ⟨rfl, hdSX7_put⟩
set_option maxHeartbeats 4000000 in
set_option maxRecDepth 100000 in
theorem kX7_put {l : Launch} {D : va_G} {cI cJ cT : ClassId} (d : Nat → Nat)  (v : Lf) (x1 : Int32) (x2 : Int32) (x3 : Int32) {Q : Lf → Prop} (sz : Nat) (h : pX7_put v x1 x2 x3 Q) : Met l yX7_put wdX7_put rmX7_put (Pz D (tyL cI cJ cT) [.ref (d 0), .int x1, .int x2, .int x3] (wX7 cI d v) sz) (va_Qv (fun (u : Lf) => Q u) (Bz D (tyL cI cJ cT) (wX7 cI d v) sz (fun (u : Lf) => (wX7 cI d u))) (va_A (wX7 cI d v) sz)) 0 0 (va_A (wX7 cI d v) sz) := by
  refine z_metv (cc := cX7_put) (maxL := 4) (own := RX7) (lv0 := [(0, .ref (d 0)), (1, .int x1), (2, .int x2), (3, .int x3)]) (by decide) rfl rfl (Nat.le_of_ble_eq_true rfl) rfl ?_
  intro p e s m args below meth c A QQ C hin hret
  refine z_aload_n (pc := 0) C 0 dX7_put_0 rfl ?_
  refine z_get (pc := 1) C uw7 0 rfl rfl 2 (by decide) wq419 rfl dX7_put_1 ?_
  refine z_iload_n (pc := 4) C 1 dX7_put_4 rfl ?_
  refine z_iconst (pc := 5) (v := 3) C dX7_put_5 (by decide) ?_
  refine z_imul (pc := 6) C dX7_put_6 ?_
  refine z_iload_n (pc := 7) C 2 dX7_put_7 rfl ?_
  refine z_iadd (pc := 8) C dX7_put_8 ?_
  refine z_iload_n (pc := 9) C 3 dX7_put_9 rfl ?_
  obtain ⟨g1, h⟩ := h
  refine z_iast (pc := 10) (ws' := (wX7 cI d (st v 1 (((x1 * (3 : Int32)) + x2).toNatClampNeg) x3))) C 1 0 rfl rfl g1 dX7_put_10 rfl sX7_a1 ?_
  exact hret 11 _ _ (st v 1 (((x1 * (3 : Int32)) + x2).toNatClampNeg) x3) rfl h dX7_put_11

def pX7_add (v : Lf) (x1 : Int32) (x2 : Int32) (x3 : Int32) (Q : Int32 → Lf → Prop) : Prop := (pX7_put (st v 0 1 ((v 0 1) + (1 : Int32))) (v 0 1) (0 : Int32) x1 (fun v_1 => (pX7_put v_1 (v 0 1) (1 : Int32) x2 (fun v_2 => (pX7_put v_2 (v 0 1) (2 : Int32) x3 (fun v_3 => (Q (v 0 1) v_3)))))))
abbrev rmX7_add : Room := { frames := 1, cells := 0, slots := 0, locals := 23 }
abbrev wdX7_add : List Cond := Cond.code yX7_add cX7_add 5 (some .int) :: TB
theorem hdSX7_add : (yX7_add).cls ≠ "java/lang/invoke/MethodHandle" ∧ (yX7_add).cls ≠ "java/lang/invoke/VarHandle" ∧ (parseMethodDescriptor (yX7_add).desc).map (fun d => d.parameters.length) = some 3 := by decide +kernel
theorem hdX7_add : (yX7_add).cls = RX7 ∧ (yX7_add).cls ≠ "java/lang/invoke/MethodHandle" ∧ (yX7_add).cls ≠ "java/lang/invoke/VarHandle" ∧ (parseMethodDescriptor (yX7_add).desc).map (fun d => d.parameters.length) = some 3 := ⟨rfl, hdSX7_add⟩
set_option maxHeartbeats 4000000 in
set_option maxRecDepth 100000 in
theorem kX7_add {l : Launch} {D : va_G} {cI cJ cT : ClassId} (d : Nat → Nat)  (v : Lf) (x1 : Int32) (x2 : Int32) (x3 : Int32) {Q : Int32 → Lf → Prop} (sz : Nat) (h : pX7_add v x1 x2 x3 Q) : Met l yX7_add wdX7_add rmX7_add (Pz D (tyL cI cJ cT) [.ref (d 0), .int x1, .int x2, .int x3] (wX7 cI d v) sz) (va_Qi (fun (r : Int32) (u : Lf) => Q r u) (Bz D (tyL cI cJ cT) (wX7 cI d v) sz (fun (u : Lf) => (wX7 cI d u))) (va_A (wX7 cI d v) sz)) 0 0 (va_A (wX7 cI d v) sz) := by
  refine z_meti (cc := cX7_add) (maxL := 5) (own := RX7) (lv0 := [(0, .ref (d 0)), (1, .int x1), (2, .int x2), (3, .int x3)]) (by decide) rfl rfl (Nat.le_of_ble_eq_true rfl) rfl ?_
  intro p e s m args below meth c A QQ C hin hret
  refine z_aload_n (pc := 0) C 0 dX7_add_0 rfl ?_
  refine z_get (pc := 1) C uw7 0 rfl rfl 1 (by decide) wq421 rfl dX7_add_1 ?_
  refine z_istore (pc := 4) (lv' := [(4, .int (v 0 1)), (0, .ref (d 0)), (1, .int x1), (2, .int x2), (3, .int x3)]) C dX7_add_4 (by decide) rfl ?_
  refine z_aload_n (pc := 6) C 1 dX7_add_6 rfl ?_
  refine z_dup (pc := 7) C dX7_add_7 rfl ?_
  refine z_get (pc := 8) C uw7 0 rfl rfl 1 (by decide) wq421 rfl dX7_add_8 ?_
  refine z_iconst (pc := 11) (v := 1) C dX7_add_11 (by decide) ?_
  refine z_iadd (pc := 12) C dX7_add_12 ?_
  refine z_put (pc := 13) (ws' := (wX7 cI d (st v 0 1 ((v 0 1) + (1 : Int32))))) C uw7 tyX7 tyX7_ok nmX7 0 rfl rfl 1 (by decide) wq421 rfl rfl rfl (Nat.le_of_ble_eq_true rfl) dX7_add_13 sX7_f1 ?_
  refine z_aload_n (pc := 16) C 1 dX7_add_16 rfl ?_
  refine z_iload (pc := 17) C 0 dX7_add_17 rfl ?_
  refine z_iconst (pc := 19) (v := 0) C dX7_add_19 (by decide) ?_
  refine z_iload_n (pc := 20) C 2 dX7_add_20 rfl ?_
  refine z_callv (pc := 21) (wr := ([] : va_W)) (w1 := fun (u : Lf) => (wX7 cI d u)) (w2 := fun (u : Lf) => (wX7 cI d u)) C (z_runV (pc := 21) (wc := (wX7 cI d (st v 0 1 ((v 0 1) + (1 : Int32))))) (As := [.int (v 0 1), .int (0 : Int32), .int x1]) C (fun sz => kX7_put d (st v 0 1 ((v 0 1) + (1 : Int32))) (v 0 1) (0 : Int32) x1 sz h) [0, 1] rfl (by decide) (gdV wq425 wq427 wq428 wq429 wq430) rfl rfl rfl hdX7_put 0 rfl rfl rfl ⟨Nat.le_of_ble_eq_true rfl, Nat.le_of_ble_eq_true rfl⟩ rfl (Nat.le_of_ble_eq_true rfl) ⟨Nat.zero_le _, Nat.zero_le _⟩ dX7_add_21) [0, 1] [] [0, 1] rfl rfl (by decide) (by decide) (fun _ => rfl) (by decide) (fun u1 h => ?_)
  obtain ⟨v_1, hu1⟩ : ∃ z, z = u1 := ⟨_, rfl⟩
  subst hu1
  refine z_aload_n (pc := 24) C 1 dX7_add_24 rfl ?_
  refine z_iload (pc := 25) C 0 dX7_add_25 rfl ?_
  refine z_iconst (pc := 27) (v := 1) C dX7_add_27 (by decide) ?_
  refine z_iload_n (pc := 28) C 3 dX7_add_28 rfl ?_
  refine z_callv (pc := 29) (wr := ([] : va_W)) (w1 := fun (u : Lf) => (wX7 cI d u)) (w2 := fun (u : Lf) => (wX7 cI d u)) C (z_runV (pc := 29) (wc := (wX7 cI d v_1)) (As := [.int (v 0 1), .int (1 : Int32), .int x2]) C (fun sz => kX7_put d v_1 (v 0 1) (1 : Int32) x2 sz h) [0, 1] rfl (by decide) (gdV wq425 wq427 wq428 wq429 wq430) rfl rfl rfl hdX7_put 0 rfl rfl rfl ⟨Nat.le_of_ble_eq_true rfl, Nat.le_of_ble_eq_true rfl⟩ rfl (Nat.le_of_ble_eq_true rfl) ⟨Nat.zero_le _, Nat.zero_le _⟩ dX7_add_29) [0, 1] [] [0, 1] rfl rfl (by decide) (by decide) (fun _ => rfl) (by decide) (fun u2 h => ?_)
  obtain ⟨v_2, hu2⟩ : ∃ z, z = u2 := ⟨_, rfl⟩
  subst hu2
  refine z_aload_n (pc := 32) C 1 dX7_add_32 rfl ?_
  refine z_iload (pc := 33) C 0 dX7_add_33 rfl ?_
  refine z_iconst (pc := 35) (v := 2) C dX7_add_35 (by decide) ?_
  refine z_iload_n (pc := 36) C 4 dX7_add_36 rfl ?_
  refine z_callv (pc := 37) (wr := ([] : va_W)) (w1 := fun (u : Lf) => (wX7 cI d u)) (w2 := fun (u : Lf) => (wX7 cI d u)) C (z_runV (pc := 37) (wc := (wX7 cI d v_2)) (As := [.int (v 0 1), .int (2 : Int32), .int x3]) C (fun sz => kX7_put d v_2 (v 0 1) (2 : Int32) x3 sz h) [0, 1] rfl (by decide) (gdV wq425 wq427 wq428 wq429 wq430) rfl rfl rfl hdX7_put 0 rfl rfl rfl ⟨Nat.le_of_ble_eq_true rfl, Nat.le_of_ble_eq_true rfl⟩ rfl (Nat.le_of_ble_eq_true rfl) ⟨Nat.zero_le _, Nat.zero_le _⟩ dX7_add_37) [0, 1] [] [0, 1] rfl rfl (by decide) (by decide) (fun _ => rfl) (by decide) (fun u3 h => ?_)
  obtain ⟨v_3, hu3⟩ : ∃ z, z = u3 := ⟨_, rfl⟩
  subst hu3
  refine z_iload (pc := 40) C 0 dX7_add_40 rfl ?_
  exact hret 42 _ _ (v 0 1) v_3 rfl h dX7_add_42

def pX7_allSeconds (v : Lf)  (Q : Int64 → Prop) : Prop := (Q (((1 : Int64) <<< (((v 0 0)).toInt64 &&& 63)) - (1 : Int64)) )
abbrev rmX7_allSeconds : Room := { frames := 0, cells := 0, slots := 0, locals := 0 }
abbrev wdX7_allSeconds : List Cond := Cond.code yX7_allSeconds cX7_allSeconds 1 (some .long) :: TB
theorem hdSX7_allSeconds : (yX7_allSeconds).cls ≠ "java/lang/invoke/MethodHandle" ∧ (yX7_allSeconds).cls ≠ "java/lang/invoke/VarHandle" ∧ (parseMethodDescriptor (yX7_allSeconds).desc).map (fun d => d.parameters.length) = some 0 := by decide +kernel
theorem hdX7_allSeconds : (yX7_allSeconds).cls = RX7 ∧ (yX7_allSeconds).cls ≠ "java/lang/invoke/MethodHandle" ∧ (yX7_allSeconds).cls ≠ "java/lang/invoke/VarHandle" ∧ (parseMethodDescriptor (yX7_allSeconds).desc).map (fun d => d.parameters.length) = some 0 := ⟨rfl, hdSX7_allSeconds⟩
set_option maxHeartbeats 4000000 in
set_option maxRecDepth 100000 in
theorem kX7_allSeconds {l : Launch} {D : va_G} {cI cJ cT : ClassId} (d : Nat → Nat)  (v : Lf)  {Q : Int64 → Prop} (sz : Nat) (h : pX7_allSeconds v Q) : Met l yX7_allSeconds wdX7_allSeconds rmX7_allSeconds (Pz D (tyL cI cJ cT) [.ref (d 0)] (wX7 cI d v) sz) (va_Ql (fun (r : Int64) (u : Unit) => Q r) (Bz D (tyL cI cJ cT) (wX7 cI d v) sz (fun (u : Unit) => (wX7 cI d v))) (va_A (wX7 cI d v) sz)) 0 0 (va_A (wX7 cI d v) sz) := by
  refine z_metl (cc := cX7_allSeconds) (maxL := 1) (own := RX7) (lv0 := [(0, .ref (d 0))]) (by decide) rfl rfl (Nat.le_of_ble_eq_true rfl) rfl ?_
  intro p e s m args below meth c A QQ C hin hret
  refine z_lconst (pc := 0) (v := 1) C dX7_allSeconds_0 (by decide) ?_
  refine z_aload_n (pc := 1) C 0 dX7_allSeconds_1 rfl ?_
  refine z_get (pc := 2) C uw7 0 rfl rfl 0 (by decide) wq418 rfl dX7_allSeconds_2 ?_
  refine z_lshl (pc := 5) C dX7_allSeconds_5 ?_
  refine z_lconst (pc := 6) (v := 1) C dX7_allSeconds_6 (by decide) ?_
  refine z_lsub (pc := 7) C dX7_allSeconds_7 ?_
  exact hret 8 _ _ (((1 : Int64) <<< (((v 0 0)).toInt64 &&& 63)) - (1 : Int64)) () rfl h dX7_allSeconds_8

def pX7_openSeconds (v : Lf) (x1 : Int32) (x2 : Int32) (Q : Int64 → Prop) : Prop := ((0 < (v 0 0) → (pX7_at v x1 (0 : Int32) (fun r2 => (pJ9_floorMod_7cf53 (r2 - x2) (v 0 0) (fun r3 => (pX7_at v x1 (1 : Int32) (fun r4 => (pX7_allSeconds v (fun r5 => (Q ((((((1 : Int64) <<< ((r4).toInt64 &&& 63)) - (1 : Int64)) <<< ((r3).toInt64 &&& 63)) ||| ((((((1 : Int64) <<< ((r4).toInt64 &&& 63)) - (1 : Int64))).toUInt64 >>> ((((v 0 0) - r3)).toInt64.toUInt64 &&& Int64.toUInt64 63)).toInt64)) &&& r5) )))))))))) ∧ (¬ 0 < (v 0 0) → (Q (0 : Int64) )))
abbrev rmX7_openSeconds : Room := { frames := 1, cells := 0, slots := 0, locals := 22 }
abbrev wdX7_openSeconds : List Cond := Cond.code yX7_openSeconds cX7_openSeconds 6 (some .long) :: TB
theorem hdSX7_openSeconds : (yX7_openSeconds).cls ≠ "java/lang/invoke/MethodHandle" ∧ (yX7_openSeconds).cls ≠ "java/lang/invoke/VarHandle" ∧ (parseMethodDescriptor (yX7_openSeconds).desc).map (fun d => d.parameters.length) = some 2 := by decide +kernel
theorem hdX7_openSeconds : (yX7_openSeconds).cls = RX7 ∧ (yX7_openSeconds).cls ≠ "java/lang/invoke/MethodHandle" ∧ (yX7_openSeconds).cls ≠ "java/lang/invoke/VarHandle" ∧ (parseMethodDescriptor (yX7_openSeconds).desc).map (fun d => d.parameters.length) = some 2 := ⟨rfl, hdSX7_openSeconds⟩
set_option maxHeartbeats 4000000 in
set_option maxRecDepth 100000 in
theorem kX7_openSeconds {l : Launch} {D : va_G} {cI cJ cT : ClassId} (d : Nat → Nat)  (v : Lf) (x1 : Int32) (x2 : Int32) {Q : Int64 → Prop} (sz : Nat) (h : pX7_openSeconds v x1 x2 Q) : Met l yX7_openSeconds wdX7_openSeconds rmX7_openSeconds (Pz D (tyL cI cJ cT) [.ref (d 0), .int x1, .int x2] (wX7 cI d v) sz) (va_Ql (fun (r : Int64) (u : Unit) => Q r) (Bz D (tyL cI cJ cT) (wX7 cI d v) sz (fun (u : Unit) => (wX7 cI d v))) (va_A (wX7 cI d v) sz)) 0 0 (va_A (wX7 cI d v) sz) := by
  refine z_metl (cc := cX7_openSeconds) (maxL := 6) (own := RX7) (lv0 := [(0, .ref (d 0)), (1, .int x1), (2, .int x2)]) (by decide) rfl rfl (Nat.le_of_ble_eq_true rfl) rfl ?_
  intro p e s m args below meth c A QQ C hin hret
  refine z_aload_n (pc := 0) C 0 dX7_openSeconds_0 rfl ?_
  refine z_get (pc := 1) C uw7 0 rfl rfl 0 (by decide) wq418 rfl dX7_openSeconds_1 ?_
  refine z_if_gt (pc := 4) (tgt := 9) C dX7_openSeconds_4 (by decide) (fun c1 => ?_) (fun c1 => ?_)
  · have h := h.1 c1
    refine z_aload_n (pc := 9) C 0 dX7_openSeconds_9 rfl ?_
    refine z_iload_n (pc := 10) C 1 dX7_openSeconds_10 rfl ?_
    refine z_iconst (pc := 11) (v := 0) C dX7_openSeconds_11 (by decide) ?_
    refine z_callRi (pc := 12) C (z_runV (pc := 12) (wc := (wX7 cI d v)) (As := [.int x1, .int (0 : Int32)]) C (fun sz => kX7_at d v x1 (0 : Int32) sz h) [0, 1] rfl (by decide) (gdV wq424 wq433 wq434 wq435 wq430) rfl rfl rfl hdX7_at 0 rfl rfl rfl ⟨Nat.le_of_ble_eq_true rfl, Nat.le_of_ble_eq_true rfl⟩ rfl (Nat.le_of_ble_eq_true rfl) ⟨Nat.zero_le _, Nat.zero_le _⟩ dX7_openSeconds_12) [0, 1] rfl (by decide) (fun r2 u2 h => ?_)
    refine z_iload_n (pc := 15) C 2 dX7_openSeconds_15 rfl ?_
    refine z_isub (pc := 16) C dX7_openSeconds_16 ?_
    refine z_aload_n (pc := 17) C 0 dX7_openSeconds_17 rfl ?_
    refine z_get (pc := 18) C uw7 0 rfl rfl 0 (by decide) wq418 rfl dX7_openSeconds_18 ?_
    refine z_call0i (pc := 21) C (z_runS (pc := 21) (wc := ([] : va_W)) (As := [.int (r2 - x2), .int (v 0 0)]) C (fun sz => kJ9_floorMod_7cf53 (r2 - x2) (v 0 0) sz h) [] rfl (by decide) (gdS wq162 wq436 wq165 wq78) rfl rfl rfl hdSJ9_floorMod_7cf53 ⟨Nat.le_of_ble_eq_true rfl, Nat.le_of_ble_eq_true rfl⟩ rfl (Nat.le_of_ble_eq_true rfl) ⟨Nat.zero_le _, Nat.zero_le _⟩ dX7_openSeconds_21) (fun r3 u3 h => ?_)
    refine z_istore_n (pc := 24) (lv' := [(3, .int r3), (0, .ref (d 0)), (1, .int x1), (2, .int x2)]) C dX7_openSeconds_24 (by decide) rfl ?_
    refine z_lconst (pc := 25) (v := 1) C dX7_openSeconds_25 (by decide) ?_
    refine z_aload_n (pc := 26) C 1 dX7_openSeconds_26 rfl ?_
    refine z_iload_n (pc := 27) C 2 dX7_openSeconds_27 rfl ?_
    refine z_iconst (pc := 28) (v := 1) C dX7_openSeconds_28 (by decide) ?_
    refine z_callRi (pc := 29) C (z_runV (pc := 29) (wc := (wX7 cI d v)) (As := [.int x1, .int (1 : Int32)]) C (fun sz => kX7_at d v x1 (1 : Int32) sz h) [0, 1] rfl (by decide) (gdV wq424 wq433 wq434 wq435 wq430) rfl rfl rfl hdX7_at 0 rfl rfl rfl ⟨Nat.le_of_ble_eq_true rfl, Nat.le_of_ble_eq_true rfl⟩ rfl (Nat.le_of_ble_eq_true rfl) ⟨Nat.zero_le _, Nat.zero_le _⟩ dX7_openSeconds_29) [0, 1] rfl (by decide) (fun r4 u4 h => ?_)
    refine z_lshl (pc := 32) C dX7_openSeconds_32 ?_
    refine z_lconst (pc := 33) (v := 1) C dX7_openSeconds_33 (by decide) ?_
    refine z_lsub (pc := 34) C dX7_openSeconds_34 ?_
    refine z_lstore (pc := 35) (lv' := [(4, .long (((1 : Int64) <<< ((r4).toInt64 &&& 63)) - (1 : Int64))), (3, .int r3), (0, .ref (d 0)), (1, .int x1), (2, .int x2)]) C dX7_openSeconds_35 (by decide) rfl ?_
    refine z_lload (pc := 37) C 0 dX7_openSeconds_37 rfl ?_
    refine z_iload_n (pc := 39) C 1 dX7_openSeconds_39 rfl ?_
    refine z_lshl (pc := 40) C dX7_openSeconds_40 ?_
    refine z_lload (pc := 41) C 0 dX7_openSeconds_41 rfl ?_
    refine z_aload_n (pc := 43) C 2 dX7_openSeconds_43 rfl ?_
    refine z_get (pc := 44) C uw7 0 rfl rfl 0 (by decide) wq418 rfl dX7_openSeconds_44 ?_
    refine z_iload_n (pc := 47) C 1 dX7_openSeconds_47 rfl ?_
    refine z_isub (pc := 48) C dX7_openSeconds_48 ?_
    refine z_lushr (pc := 49) C dX7_openSeconds_49 ?_
    refine z_lor (pc := 50) C dX7_openSeconds_50 ?_
    refine z_aload_n (pc := 51) C 2 dX7_openSeconds_51 rfl ?_
    refine z_callRl (pc := 52) C (z_runV (pc := 52) (wc := (wX7 cI d v)) (As := []) C (fun sz => kX7_allSeconds d v sz h) [0, 1] rfl (by decide) (gdV wq431 wq437 wq438 wq439 wq430) rfl rfl rfl hdX7_allSeconds 0 rfl rfl rfl ⟨Nat.le_of_ble_eq_true rfl, Nat.le_of_ble_eq_true rfl⟩ rfl (Nat.le_of_ble_eq_true rfl) ⟨Nat.zero_le _, Nat.zero_le _⟩ dX7_openSeconds_52) [0, 1] rfl (by decide) (fun r5 u5 h => ?_)
    refine z_land (pc := 55) C dX7_openSeconds_55 ?_
    exact hret 56 _ _ ((((((1 : Int64) <<< ((r4).toInt64 &&& 63)) - (1 : Int64)) <<< ((r3).toInt64 &&& 63)) ||| ((((((1 : Int64) <<< ((r4).toInt64 &&& 63)) - (1 : Int64))).toUInt64 >>> ((((v 0 0) - r3)).toInt64.toUInt64 &&& Int64.toUInt64 63)).toInt64)) &&& r5) () rfl h dX7_openSeconds_56
  · have h := h.2 c1
    refine z_lconst (pc := 7) (v := 0) C dX7_openSeconds_7 (by decide) ?_
    exact hret 8 _ _ (0 : Int64) () rfl h dX7_openSeconds_8

def pX7_bandOn_L19 (v : Lf) (Q : Int32 → Prop) : Nat → Int64 → Int32 → Int32 → Prop
  | 0, _, _, _ => False
  | n19 + 1, x1, x3, x4 => (((v 0 1) ≤ x4 → (pJ13_bitCount_95d88 x1 (fun r4 => (Q r4 )))) ∧ (¬ (v 0 1) ≤ x4 → (pX7_openSeconds v x4 x3 (fun r5 => (pX7_at v x4 (2 : Int32) (fun r6 => (pX7_bandOn_L19 v Q n19 (x1 &&& r5) (x3 + r6) (x4 + 1))))))))
def pX7_bandOn (v : Lf)  (Q : Int32 → Prop) : Prop := ((¬ (v 0 1) = 0 → (pX7_allSeconds v (fun r2 => (∃ n19, pX7_bandOn_L19 v Q  n19 r2 (0 : Int32) (0 : Int32))))) ∧ ((v 0 1) = 0 → (Q (0 : Int32) )))
abbrev rmX7_bandOn : Room := { frames := 2, cells := 0, slots := 0, locals := 47 }
abbrev wdX7_bandOn : List Cond := Cond.code yX7_bandOn cX7_bandOn 5 (some .int) :: TB
theorem hdSX7_bandOn : (yX7_bandOn).cls ≠ "java/lang/invoke/MethodHandle" ∧ (yX7_bandOn).cls ≠ "java/lang/invoke/VarHandle" ∧ (parseMethodDescriptor (yX7_bandOn).desc).map (fun d => d.parameters.length) = some 0 := by decide +kernel
theorem hdX7_bandOn : (yX7_bandOn).cls = RX7 ∧ (yX7_bandOn).cls ≠ "java/lang/invoke/MethodHandle" ∧ (yX7_bandOn).cls ≠ "java/lang/invoke/VarHandle" ∧ (parseMethodDescriptor (yX7_bandOn).desc).map (fun d => d.parameters.length) = some 0 := ⟨rfl, hdSX7_bandOn⟩
set_option maxHeartbeats 4000000 in
set_option maxRecDepth 100000 in
theorem kX7_bandOn {l : Launch} {D : va_G} {cI cJ cT : ClassId} (d : Nat → Nat)  (v : Lf)  {Q : Int32 → Prop} (sz : Nat) (h : pX7_bandOn v Q) : Met l yX7_bandOn wdX7_bandOn rmX7_bandOn (Pz D (tyL cI cJ cT) [.ref (d 0)] (wX7 cI d v) sz) (va_Qi (fun (r : Int32) (u : Unit) => Q r) (Bz D (tyL cI cJ cT) (wX7 cI d v) sz (fun (u : Unit) => (wX7 cI d v))) (va_A (wX7 cI d v) sz)) 0 0 (va_A (wX7 cI d v) sz) := by
  refine z_meti (cc := cX7_bandOn) (maxL := 5) (own := RX7) (lv0 := [(0, .ref (d 0))]) (by decide) rfl rfl (Nat.le_of_ble_eq_true rfl) rfl ?_
  intro p e s m args below meth c A QQ C hin hret
  have L19 : ∀ (n19 : Nat) (x1 : Int64) (x3 : Int32) (x4 : Int32), pX7_bandOn_L19 v Q n19 x1 x3 x4 → ZZ p l e rmX7_bandOn s m args below meth c D A 5 0 0 QQ 19 (wX7 cI d v) [(0, .ref (d 0)), (1, .long x1), (3, .int x3), (4, .int x4)] [] := by
    intro n19
    induction n19 with
    | zero => intro x1 x3 x4 h; exact False.elim h
    | succ n19 ih19 =>
      intro x1 x3 x4 h
      refine z_iload (pc := 19) C 3 dX7_bandOn_19 rfl ?_
      refine z_aload_n (pc := 21) C 0 dX7_bandOn_21 rfl ?_
      refine z_get (pc := 22) C uw7 0 rfl rfl 1 (by decide) wq421 rfl dX7_bandOn_22 ?_
      refine z_icmp_ge (pc := 25) (tgt := 54) C dX7_bandOn_25 (by decide) (fun c3 => ?_) (fun c3 => ?_)
      · have h := h.1 c3
        refine z_lload_n (pc := 54) C 1 dX7_bandOn_54 rfl ?_
        refine z_call0i (pc := 55) C (z_runS (pc := 55) (wc := ([] : va_W)) (As := [.long x1]) C (fun sz => kJ13_bitCount_95d88 x1 sz h) [] rfl (by decide) (gdS wq440 wq447 wq448 wq449) rfl rfl rfl hdSJ13_bitCount_95d88 ⟨Nat.le_of_ble_eq_true rfl, Nat.le_of_ble_eq_true rfl⟩ rfl (Nat.le_of_ble_eq_true rfl) ⟨Nat.zero_le _, Nat.zero_le _⟩ dX7_bandOn_55) (fun r4 u4 h => ?_)
        exact hret 58 _ _ r4 () rfl h dX7_bandOn_58
      · have h := h.2 c3
        refine z_lload_n (pc := 28) C 1 dX7_bandOn_28 rfl ?_
        refine z_aload_n (pc := 29) C 0 dX7_bandOn_29 rfl ?_
        refine z_iload (pc := 30) C 3 dX7_bandOn_30 rfl ?_
        refine z_iload_n (pc := 32) C 2 dX7_bandOn_32 rfl ?_
        refine z_callRl (pc := 33) C (z_runV (pc := 33) (wc := (wX7 cI d v)) (As := [.int x4, .int x3]) C (fun sz => kX7_openSeconds d v x4 x3 sz h) [0, 1] rfl (by decide) (gdV wq432 wq444 wq445 wq446 wq430) rfl rfl rfl hdX7_openSeconds 0 rfl rfl rfl ⟨Nat.le_of_ble_eq_true rfl, Nat.le_of_ble_eq_true rfl⟩ rfl (Nat.le_of_ble_eq_true rfl) ⟨Nat.zero_le _, Nat.zero_le _⟩ dX7_bandOn_33) [0, 1] rfl (by decide) (fun r5 u5 h => ?_)
        refine z_land (pc := 36) C dX7_bandOn_36 ?_
        refine z_lstore_n (pc := 37) (lv' := [(1, .long (x1 &&& r5)), (0, .ref (d 0)), (3, .int x3), (4, .int x4)]) C dX7_bandOn_37 (by decide) rfl ?_
        refine z_iload_n (pc := 38) C 2 dX7_bandOn_38 rfl ?_
        refine z_aload_n (pc := 39) C 1 dX7_bandOn_39 rfl ?_
        refine z_iload (pc := 40) C 3 dX7_bandOn_40 rfl ?_
        refine z_iconst (pc := 42) (v := 2) C dX7_bandOn_42 (by decide) ?_
        refine z_callRi (pc := 43) C (z_runV (pc := 43) (wc := (wX7 cI d v)) (As := [.int x4, .int (2 : Int32)]) C (fun sz => kX7_at d v x4 (2 : Int32) sz h) [0, 1] rfl (by decide) (gdV wq424 wq433 wq434 wq435 wq430) rfl rfl rfl hdX7_at 0 rfl rfl rfl ⟨Nat.le_of_ble_eq_true rfl, Nat.le_of_ble_eq_true rfl⟩ rfl (Nat.le_of_ble_eq_true rfl) ⟨Nat.zero_le _, Nat.zero_le _⟩ dX7_bandOn_43) [0, 1] rfl (by decide) (fun r6 u6 h => ?_)
        refine z_iadd (pc := 46) C dX7_bandOn_46 ?_
        refine z_istore_n (pc := 47) (lv' := [(3, .int (x3 + r6)), (1, .long (x1 &&& r5)), (0, .ref (d 0)), (4, .int x4)]) C dX7_bandOn_47 (by decide) rfl ?_
        refine z_iinc (pc := 48) (v := (x4 + 1)) (lv' := [(4, .int (x4 + 1)), (3, .int (x3 + r6)), (1, .long (x1 &&& r5)), (0, .ref (d 0))]) C 3 dX7_bandOn_48 rfl rfl (by decide) rfl ?_
        refine z_goto (pc := 51) (tgt := 19) C dX7_bandOn_51 (by decide) ?_
        refine z_sub (lv' := [(0, .ref (d 0)), (1, .long (x1 &&& r5)), (3, .int (x3 + r6)), (4, .int (x4 + 1))]) [3, 2, 1, 0] rfl ?_
        exact ih19 (x1 &&& r5) (x3 + r6) (x4 + 1) h
  refine z_aload_n (pc := 0) C 0 dX7_bandOn_0 rfl ?_
  refine z_get (pc := 1) C uw7 0 rfl rfl 1 (by decide) wq421 rfl dX7_bandOn_1 ?_
  refine z_if_ne (pc := 4) (tgt := 9) C dX7_bandOn_4 (by decide) (fun c1 => ?_) (fun c1 => ?_)
  · have h := h.1 c1
    refine z_aload_n (pc := 9) C 0 dX7_bandOn_9 rfl ?_
    refine z_callRl (pc := 10) C (z_runV (pc := 10) (wc := (wX7 cI d v)) (As := []) C (fun sz => kX7_allSeconds d v sz h) [0, 1] rfl (by decide) (gdV wq431 wq437 wq438 wq439 wq430) rfl rfl rfl hdX7_allSeconds 0 rfl rfl rfl ⟨Nat.le_of_ble_eq_true rfl, Nat.le_of_ble_eq_true rfl⟩ rfl (Nat.le_of_ble_eq_true rfl) ⟨Nat.zero_le _, Nat.zero_le _⟩ dX7_bandOn_10) [0, 1] rfl (by decide) (fun r2 u2 h => ?_)
    refine z_lstore_n (pc := 13) (lv' := [(1, .long r2), (0, .ref (d 0))]) C dX7_bandOn_13 (by decide) rfl ?_
    refine z_iconst (pc := 14) (v := 0) C dX7_bandOn_14 (by decide) ?_
    refine z_istore_n (pc := 15) (lv' := [(3, .int (0 : Int32)), (1, .long r2), (0, .ref (d 0))]) C dX7_bandOn_15 (by decide) rfl ?_
    refine z_iconst (pc := 16) (v := 0) C dX7_bandOn_16 (by decide) ?_
    refine z_istore (pc := 17) (lv' := [(4, .int (0 : Int32)), (3, .int (0 : Int32)), (1, .long r2), (0, .ref (d 0))]) C dX7_bandOn_17 (by decide) rfl ?_
    obtain ⟨n19, h⟩ := h
    refine z_sub (lv' := [(0, .ref (d 0)), (1, .long r2), (3, .int (0 : Int32)), (4, .int (0 : Int32))]) [3, 2, 1, 0] rfl ?_
    exact L19  n19 r2 (0 : Int32) (0 : Int32) h
  · have h := h.2 c1
    refine z_iconst (pc := 7) (v := 0) C dX7_bandOn_7 (by decide) ?_
    exact hret 8 _ _ (0 : Int32) () rfl h dX7_bandOn_8

def pX7_bandBack_J50 (v : Lf) (Q : Int32 → Prop) (K24 : Int64 → Int32 → Int32 → Prop) (x1 : Int64) (x3 : Int32) (x4 : Int32) : Prop := (pX7_openSeconds v x4 x3 (fun r6 => (K24 (x1 &&& r6) x3 (x4 + (-1)))))
def pX7_bandBack_L24 (v : Lf) (Q : Int32 → Prop) : Nat → Int64 → Int32 → Int32 → Prop
  | 0, _, _, _ => False
  | n24 + 1, x1, x3, x4 => ((x4 < 0 → (pJ13_bitCount_95d88 x1 (fun r4 => (Q r4 )))) ∧ (¬ x4 < 0 → ((((v 0 1) - (1 : Int32)) ≤ x4 → (pX7_bandBack_J50 v Q (fun x1 x3 x4 => pX7_bandBack_L24 v Q n24 x1 x3 x4) x1 x3 x4)) ∧ (¬ ((v 0 1) - (1 : Int32)) ≤ x4 → (pX7_at v x4 (2 : Int32) (fun r7 => (pX7_bandBack_J50 v Q (fun x1 x3 x4 => pX7_bandBack_L24 v Q n24 x1 x3 x4) x1 (x3 + r7) x4)))))))
def pX7_bandBack (v : Lf)  (Q : Int32 → Prop) : Prop := ((¬ (v 0 1) = 0 → (pX7_allSeconds v (fun r2 => (∃ n24, pX7_bandBack_L24 v Q  n24 r2 (0 : Int32) ((v 0 1) - (1 : Int32)))))) ∧ ((v 0 1) = 0 → (Q (0 : Int32) )))
abbrev rmX7_bandBack : Room := { frames := 2, cells := 0, slots := 0, locals := 47 }
abbrev wdX7_bandBack : List Cond := Cond.code yX7_bandBack cX7_bandBack 5 (some .int) :: TB
theorem hdSX7_bandBack : (yX7_bandBack).cls ≠ "java/lang/invoke/MethodHandle" ∧ (yX7_bandBack).cls ≠ "java/lang/invoke/VarHandle" ∧ (parseMethodDescriptor (yX7_bandBack).desc).map (fun d => d.parameters.length) = some 0 := by decide +kernel
theorem hdX7_bandBack : (yX7_bandBack).cls = RX7 ∧ (yX7_bandBack).cls ≠ "java/lang/invoke/MethodHandle" ∧ (yX7_bandBack).cls ≠ "java/lang/invoke/VarHandle" ∧ (parseMethodDescriptor (yX7_bandBack).desc).map (fun d => d.parameters.length) = some 0 := ⟨rfl, hdSX7_bandBack⟩
set_option maxHeartbeats 4000000 in
set_option maxRecDepth 100000 in
theorem kX7_bandBack {l : Launch} {D : va_G} {cI cJ cT : ClassId} (d : Nat → Nat)  (v : Lf)  {Q : Int32 → Prop} (sz : Nat) (h : pX7_bandBack v Q) : Met l yX7_bandBack wdX7_bandBack rmX7_bandBack (Pz D (tyL cI cJ cT) [.ref (d 0)] (wX7 cI d v) sz) (va_Qi (fun (r : Int32) (u : Unit) => Q r) (Bz D (tyL cI cJ cT) (wX7 cI d v) sz (fun (u : Unit) => (wX7 cI d v))) (va_A (wX7 cI d v) sz)) 0 0 (va_A (wX7 cI d v) sz) := by
  refine z_meti (cc := cX7_bandBack) (maxL := 5) (own := RX7) (lv0 := [(0, .ref (d 0))]) (by decide) rfl rfl (Nat.le_of_ble_eq_true rfl) rfl ?_
  intro p e s m args below meth c A QQ C hin hret
  have J50 : ∀ (K24 : Int64 → Int32 → Int32 → Prop), (∀ (x1 : Int64) (x3 : Int32) (x4 : Int32), K24 x1 x3 x4 → ZZ p l e rmX7_bandBack s m args below meth c D A 5 0 0 QQ 24 (wX7 cI d v) [(0, .ref (d 0)), (1, .long x1), (3, .int x3), (4, .int x4)] []) → ∀ (x1 : Int64) (x3 : Int32) (x4 : Int32), pX7_bandBack_J50 v Q K24 x1 x3 x4 → ZZ p l e rmX7_bandBack s m args below meth c D A 5 0 0 QQ 50 (wX7 cI d v) [(0, .ref (d 0)), (1, .long x1), (3, .int x3), (4, .int x4)] [] := by
    intro K24 hK24 x1 x3 x4 h
    refine z_lload_n (pc := 50) C 1 dX7_bandBack_50 rfl ?_
    refine z_aload_n (pc := 51) C 0 dX7_bandBack_51 rfl ?_
    refine z_iload (pc := 52) C 3 dX7_bandBack_52 rfl ?_
    refine z_iload_n (pc := 54) C 2 dX7_bandBack_54 rfl ?_
    refine z_callRl (pc := 55) C (z_runV (pc := 55) (wc := (wX7 cI d v)) (As := [.int x4, .int x3]) C (fun sz => kX7_openSeconds d v x4 x3 sz h) [0, 1] rfl (by decide) (gdV wq432 wq444 wq445 wq446 wq430) rfl rfl rfl hdX7_openSeconds 0 rfl rfl rfl ⟨Nat.le_of_ble_eq_true rfl, Nat.le_of_ble_eq_true rfl⟩ rfl (Nat.le_of_ble_eq_true rfl) ⟨Nat.zero_le _, Nat.zero_le _⟩ dX7_bandBack_55) [0, 1] rfl (by decide) (fun r6 u6 h => ?_)
    refine z_land (pc := 58) C dX7_bandBack_58 ?_
    refine z_lstore_n (pc := 59) (lv' := [(1, .long (x1 &&& r6)), (0, .ref (d 0)), (3, .int x3), (4, .int x4)]) C dX7_bandBack_59 (by decide) rfl ?_
    refine z_iinc (pc := 60) (v := (x4 + (-1))) (lv' := [(4, .int (x4 + (-1))), (1, .long (x1 &&& r6)), (0, .ref (d 0)), (3, .int x3)]) C 3 dX7_bandBack_60 rfl rfl (by decide) rfl ?_
    refine z_goto (pc := 63) (tgt := 24) C dX7_bandBack_63 (by decide) ?_
    refine z_sub (lv' := [(0, .ref (d 0)), (1, .long (x1 &&& r6)), (3, .int x3), (4, .int (x4 + (-1)))]) [2, 1, 3, 0] rfl ?_
    exact hK24 (x1 &&& r6) x3 (x4 + (-1)) h
  have L24 : ∀ (n24 : Nat) (x1 : Int64) (x3 : Int32) (x4 : Int32), pX7_bandBack_L24 v Q n24 x1 x3 x4 → ZZ p l e rmX7_bandBack s m args below meth c D A 5 0 0 QQ 24 (wX7 cI d v) [(0, .ref (d 0)), (1, .long x1), (3, .int x3), (4, .int x4)] [] := by
    intro n24
    induction n24 with
    | zero => intro x1 x3 x4 h; exact False.elim h
    | succ n24 ih24 =>
      intro x1 x3 x4 h
      refine z_iload (pc := 24) C 3 dX7_bandBack_24 rfl ?_
      refine z_if_lt (pc := 26) (tgt := 66) C dX7_bandBack_26 (by decide) (fun c3 => ?_) (fun c3 => ?_)
      · have h := h.1 c3
        refine z_lload_n (pc := 66) C 1 dX7_bandBack_66 rfl ?_
        refine z_call0i (pc := 67) C (z_runS (pc := 67) (wc := ([] : va_W)) (As := [.long x1]) C (fun sz => kJ13_bitCount_95d88 x1 sz h) [] rfl (by decide) (gdS wq440 wq447 wq448 wq449) rfl rfl rfl hdSJ13_bitCount_95d88 ⟨Nat.le_of_ble_eq_true rfl, Nat.le_of_ble_eq_true rfl⟩ rfl (Nat.le_of_ble_eq_true rfl) ⟨Nat.zero_le _, Nat.zero_le _⟩ dX7_bandBack_67) (fun r4 u4 h => ?_)
        exact hret 70 _ _ r4 () rfl h dX7_bandBack_70
      · have h := h.2 c3
        refine z_iload (pc := 29) C 3 dX7_bandBack_29 rfl ?_
        refine z_aload_n (pc := 31) C 0 dX7_bandBack_31 rfl ?_
        refine z_get (pc := 32) C uw7 0 rfl rfl 1 (by decide) wq421 rfl dX7_bandBack_32 ?_
        refine z_iconst (pc := 35) (v := 1) C dX7_bandBack_35 (by decide) ?_
        refine z_isub (pc := 36) C dX7_bandBack_36 ?_
        refine z_icmp_ge (pc := 37) (tgt := 50) C dX7_bandBack_37 (by decide) (fun c5 => ?_) (fun c5 => ?_)
        · have h := h.1 c5
          exact J50 (fun x1 x3 x4 => pX7_bandBack_L24 v Q n24 x1 x3 x4) ih24 x1 x3 x4 h
        · have h := h.2 c5
          refine z_iload_n (pc := 40) C 2 dX7_bandBack_40 rfl ?_
          refine z_aload_n (pc := 41) C 0 dX7_bandBack_41 rfl ?_
          refine z_iload (pc := 42) C 3 dX7_bandBack_42 rfl ?_
          refine z_iconst (pc := 44) (v := 2) C dX7_bandBack_44 (by decide) ?_
          refine z_callRi (pc := 45) C (z_runV (pc := 45) (wc := (wX7 cI d v)) (As := [.int x4, .int (2 : Int32)]) C (fun sz => kX7_at d v x4 (2 : Int32) sz h) [0, 1] rfl (by decide) (gdV wq424 wq433 wq434 wq435 wq430) rfl rfl rfl hdX7_at 0 rfl rfl rfl ⟨Nat.le_of_ble_eq_true rfl, Nat.le_of_ble_eq_true rfl⟩ rfl (Nat.le_of_ble_eq_true rfl) ⟨Nat.zero_le _, Nat.zero_le _⟩ dX7_bandBack_45) [0, 1] rfl (by decide) (fun r7 u7 h => ?_)
          refine z_iadd (pc := 48) C dX7_bandBack_48 ?_
          refine z_istore_n (pc := 49) (lv' := [(3, .int (x3 + r7)), (0, .ref (d 0)), (1, .long x1), (4, .int x4)]) C dX7_bandBack_49 (by decide) rfl ?_
          refine z_sub (lv' := [(0, .ref (d 0)), (1, .long x1), (3, .int (x3 + r7)), (4, .int x4)]) [1, 2, 0, 3] rfl ?_
          exact J50 (fun x1 x3 x4 => pX7_bandBack_L24 v Q n24 x1 x3 x4) ih24 x1 (x3 + r7) x4 h
  refine z_aload_n (pc := 0) C 0 dX7_bandBack_0 rfl ?_
  refine z_get (pc := 1) C uw7 0 rfl rfl 1 (by decide) wq421 rfl dX7_bandBack_1 ?_
  refine z_if_ne (pc := 4) (tgt := 9) C dX7_bandBack_4 (by decide) (fun c1 => ?_) (fun c1 => ?_)
  · have h := h.1 c1
    refine z_aload_n (pc := 9) C 0 dX7_bandBack_9 rfl ?_
    refine z_callRl (pc := 10) C (z_runV (pc := 10) (wc := (wX7 cI d v)) (As := []) C (fun sz => kX7_allSeconds d v sz h) [0, 1] rfl (by decide) (gdV wq431 wq437 wq438 wq439 wq430) rfl rfl rfl hdX7_allSeconds 0 rfl rfl rfl ⟨Nat.le_of_ble_eq_true rfl, Nat.le_of_ble_eq_true rfl⟩ rfl (Nat.le_of_ble_eq_true rfl) ⟨Nat.zero_le _, Nat.zero_le _⟩ dX7_bandBack_10) [0, 1] rfl (by decide) (fun r2 u2 h => ?_)
    refine z_lstore_n (pc := 13) (lv' := [(1, .long r2), (0, .ref (d 0))]) C dX7_bandBack_13 (by decide) rfl ?_
    refine z_iconst (pc := 14) (v := 0) C dX7_bandBack_14 (by decide) ?_
    refine z_istore_n (pc := 15) (lv' := [(3, .int (0 : Int32)), (1, .long r2), (0, .ref (d 0))]) C dX7_bandBack_15 (by decide) rfl ?_
    refine z_aload_n (pc := 16) C 2 dX7_bandBack_16 rfl ?_
    refine z_get (pc := 17) C uw7 0 rfl rfl 1 (by decide) wq421 rfl dX7_bandBack_17 ?_
    refine z_iconst (pc := 20) (v := 1) C dX7_bandBack_20 (by decide) ?_
    refine z_isub (pc := 21) C dX7_bandBack_21 ?_
    refine z_istore (pc := 22) (lv' := [(4, .int ((v 0 1) - (1 : Int32))), (3, .int (0 : Int32)), (1, .long r2), (0, .ref (d 0))]) C dX7_bandBack_22 (by decide) rfl ?_
    obtain ⟨n24, h⟩ := h
    refine z_sub (lv' := [(0, .ref (d 0)), (1, .long r2), (3, .int (0 : Int32)), (4, .int ((v 0 1) - (1 : Int32)))]) [3, 2, 1, 0] rfl ?_
    exact L24  n24 r2 (0 : Int32) ((v 0 1) - (1 : Int32)) h
  · have h := h.2 c1
    refine z_iconst (pc := 7) (v := 0) C dX7_bandBack_7 (by decide) ?_
    exact hret 8 _ _ (0 : Int32) () rfl h dX7_bandBack_8

def pX7_bothBands (v : Lf)  (Q : Int32 → Prop) : Prop := (pX7_bandOn v (fun r1 => (pX7_bandBack v (fun r2 => (Q (r1 + r2) )))))
abbrev rmX7_bothBands : Room := { frames := 3, cells := 0, slots := 0, locals := 71 }
abbrev wdX7_bothBands : List Cond := Cond.code yX7_bothBands cX7_bothBands 1 (some .int) :: TB
theorem hdSX7_bothBands : (yX7_bothBands).cls ≠ "java/lang/invoke/MethodHandle" ∧ (yX7_bothBands).cls ≠ "java/lang/invoke/VarHandle" ∧ (parseMethodDescriptor (yX7_bothBands).desc).map (fun d => d.parameters.length) = some 0 := by decide +kernel
theorem hdX7_bothBands : (yX7_bothBands).cls = RX7 ∧ (yX7_bothBands).cls ≠ "java/lang/invoke/MethodHandle" ∧ (yX7_bothBands).cls ≠ "java/lang/invoke/VarHandle" ∧ (parseMethodDescriptor (yX7_bothBands).desc).map (fun d => d.parameters.length) = some 0 := ⟨rfl, hdSX7_bothBands⟩
set_option maxHeartbeats 4000000 in
set_option maxRecDepth 100000 in
theorem kX7_bothBands {l : Launch} {D : va_G} {cI cJ cT : ClassId} (d : Nat → Nat)  (v : Lf)  {Q : Int32 → Prop} (sz : Nat) (h : pX7_bothBands v Q) : Met l yX7_bothBands wdX7_bothBands rmX7_bothBands (Pz D (tyL cI cJ cT) [.ref (d 0)] (wX7 cI d v) sz) (va_Qi (fun (r : Int32) (u : Unit) => Q r) (Bz D (tyL cI cJ cT) (wX7 cI d v) sz (fun (u : Unit) => (wX7 cI d v))) (va_A (wX7 cI d v) sz)) 0 0 (va_A (wX7 cI d v) sz) := by
  refine z_meti (cc := cX7_bothBands) (maxL := 1) (own := RX7) (lv0 := [(0, .ref (d 0))]) (by decide) rfl rfl (Nat.le_of_ble_eq_true rfl) rfl ?_
  intro p e s m args below meth c A QQ C hin hret
  refine z_aload_n (pc := 0) C 0 dX7_bothBands_0 rfl ?_
  refine z_callRi (pc := 1) C (z_runV (pc := 1) (wc := (wX7 cI d v)) (As := []) C (fun sz => kX7_bandOn d v sz h) [0, 1] rfl (by decide) (gdV wq450 wq452 wq453 wq454 wq430) rfl rfl rfl hdX7_bandOn 0 rfl rfl rfl ⟨Nat.le_of_ble_eq_true rfl, Nat.le_of_ble_eq_true rfl⟩ rfl (Nat.le_of_ble_eq_true rfl) ⟨Nat.zero_le _, Nat.zero_le _⟩ dX7_bothBands_1) [0, 1] rfl (by decide) (fun r1 u1 h => ?_)
  refine z_aload_n (pc := 4) C 0 dX7_bothBands_4 rfl ?_
  refine z_callRi (pc := 5) C (z_runV (pc := 5) (wc := (wX7 cI d v)) (As := []) C (fun sz => kX7_bandBack d v sz h) [0, 1] rfl (by decide) (gdV wq451 wq455 wq456 wq457 wq430) rfl rfl rfl hdX7_bandBack 0 rfl rfl rfl ⟨Nat.le_of_ble_eq_true rfl, Nat.le_of_ble_eq_true rfl⟩ rfl (Nat.le_of_ble_eq_true rfl) ⟨Nat.zero_le _, Nat.zero_le _⟩ dX7_bothBands_5) [0, 1] rfl (by decide) (fun r2 u2 h => ?_)
  refine z_iadd (pc := 8) C dX7_bothBands_8 ?_
  exact hret 9 _ _ (r1 + r2) () rfl h dX7_bothBands_9

def pX7_bandsWith (v : Lf) (x1 : Int32) (x2 : Int32) (Q : Int32 → Lf → Prop) : Prop := (pX7_at v x1 (0 : Int32) (fun r1 => (pX7_put v x1 (0 : Int32) x2 (fun v_2 => (pX7_bandOn v_2 (fun r3 => (pX7_bandBack v_2 (fun r4 => (pX7_put v_2 x1 (0 : Int32) r1 (fun v_5 => (Q (r3 + r4) v_5)))))))))))
abbrev rmX7_bandsWith : Room := { frames := 3, cells := 0, slots := 0, locals := 71 }
abbrev wdX7_bandsWith : List Cond := Cond.code yX7_bandsWith cX7_bandsWith 5 (some .int) :: TB
theorem hdSX7_bandsWith : (yX7_bandsWith).cls ≠ "java/lang/invoke/MethodHandle" ∧ (yX7_bandsWith).cls ≠ "java/lang/invoke/VarHandle" ∧ (parseMethodDescriptor (yX7_bandsWith).desc).map (fun d => d.parameters.length) = some 2 := by decide +kernel
theorem hdX7_bandsWith : (yX7_bandsWith).cls = RX7 ∧ (yX7_bandsWith).cls ≠ "java/lang/invoke/MethodHandle" ∧ (yX7_bandsWith).cls ≠ "java/lang/invoke/VarHandle" ∧ (parseMethodDescriptor (yX7_bandsWith).desc).map (fun d => d.parameters.length) = some 2 := ⟨rfl, hdSX7_bandsWith⟩
set_option maxHeartbeats 4000000 in
set_option maxRecDepth 100000 in
theorem kX7_bandsWith {l : Launch} {D : va_G} {cI cJ cT : ClassId} (d : Nat → Nat)  (v : Lf) (x1 : Int32) (x2 : Int32) {Q : Int32 → Lf → Prop} (sz : Nat) (h : pX7_bandsWith v x1 x2 Q) : Met l yX7_bandsWith wdX7_bandsWith rmX7_bandsWith (Pz D (tyL cI cJ cT) [.ref (d 0), .int x1, .int x2] (wX7 cI d v) sz) (va_Qi (fun (r : Int32) (u : Lf) => Q r u) (Bz D (tyL cI cJ cT) (wX7 cI d v) sz (fun (u : Lf) => (wX7 cI d u))) (va_A (wX7 cI d v) sz)) 0 0 (va_A (wX7 cI d v) sz) := by
  refine z_meti (cc := cX7_bandsWith) (maxL := 5) (own := RX7) (lv0 := [(0, .ref (d 0)), (1, .int x1), (2, .int x2)]) (by decide) rfl rfl (Nat.le_of_ble_eq_true rfl) rfl ?_
  intro p e s m args below meth c A QQ C hin hret
  refine z_aload_n (pc := 0) C 0 dX7_bandsWith_0 rfl ?_
  refine z_iload_n (pc := 1) C 1 dX7_bandsWith_1 rfl ?_
  refine z_iconst (pc := 2) (v := 0) C dX7_bandsWith_2 (by decide) ?_
  refine z_callRi (pc := 3) C (z_runV (pc := 3) (wc := (wX7 cI d v)) (As := [.int x1, .int (0 : Int32)]) C (fun sz => kX7_at d v x1 (0 : Int32) sz h) [0, 1] rfl (by decide) (gdV wq424 wq433 wq434 wq435 wq430) rfl rfl rfl hdX7_at 0 rfl rfl rfl ⟨Nat.le_of_ble_eq_true rfl, Nat.le_of_ble_eq_true rfl⟩ rfl (Nat.le_of_ble_eq_true rfl) ⟨Nat.zero_le _, Nat.zero_le _⟩ dX7_bandsWith_3) [0, 1] rfl (by decide) (fun r1 u1 h => ?_)
  refine z_istore_n (pc := 6) (lv' := [(3, .int r1), (0, .ref (d 0)), (1, .int x1), (2, .int x2)]) C dX7_bandsWith_6 (by decide) rfl ?_
  refine z_aload_n (pc := 7) C 1 dX7_bandsWith_7 rfl ?_
  refine z_iload_n (pc := 8) C 2 dX7_bandsWith_8 rfl ?_
  refine z_iconst (pc := 9) (v := 0) C dX7_bandsWith_9 (by decide) ?_
  refine z_iload_n (pc := 10) C 3 dX7_bandsWith_10 rfl ?_
  refine z_callv (pc := 11) (wr := ([] : va_W)) (w1 := fun (u : Lf) => (wX7 cI d u)) (w2 := fun (u : Lf) => (wX7 cI d u)) C (z_runV (pc := 11) (wc := (wX7 cI d v)) (As := [.int x1, .int (0 : Int32), .int x2]) C (fun sz => kX7_put d v x1 (0 : Int32) x2 sz h) [0, 1] rfl (by decide) (gdV wq425 wq427 wq428 wq429 wq430) rfl rfl rfl hdX7_put 0 rfl rfl rfl ⟨Nat.le_of_ble_eq_true rfl, Nat.le_of_ble_eq_true rfl⟩ rfl (Nat.le_of_ble_eq_true rfl) ⟨Nat.zero_le _, Nat.zero_le _⟩ dX7_bandsWith_11) [0, 1] [] [0, 1] rfl rfl (by decide) (by decide) (fun _ => rfl) (by decide) (fun u2 h => ?_)
  obtain ⟨v_2, hu2⟩ : ∃ z, z = u2 := ⟨_, rfl⟩
  subst hu2
  refine z_aload_n (pc := 14) C 1 dX7_bandsWith_14 rfl ?_
  refine z_callRi (pc := 15) C (z_runV (pc := 15) (wc := (wX7 cI d v_2)) (As := []) C (fun sz => kX7_bandOn d v_2 sz h) [0, 1] rfl (by decide) (gdV wq450 wq452 wq453 wq454 wq430) rfl rfl rfl hdX7_bandOn 0 rfl rfl rfl ⟨Nat.le_of_ble_eq_true rfl, Nat.le_of_ble_eq_true rfl⟩ rfl (Nat.le_of_ble_eq_true rfl) ⟨Nat.zero_le _, Nat.zero_le _⟩ dX7_bandsWith_15) [0, 1] rfl (by decide) (fun r3 u3 h => ?_)
  refine z_aload_n (pc := 18) C 1 dX7_bandsWith_18 rfl ?_
  refine z_callRi (pc := 19) C (z_runV (pc := 19) (wc := (wX7 cI d v_2)) (As := []) C (fun sz => kX7_bandBack d v_2 sz h) [0, 1] rfl (by decide) (gdV wq451 wq455 wq456 wq457 wq430) rfl rfl rfl hdX7_bandBack 0 rfl rfl rfl ⟨Nat.le_of_ble_eq_true rfl, Nat.le_of_ble_eq_true rfl⟩ rfl (Nat.le_of_ble_eq_true rfl) ⟨Nat.zero_le _, Nat.zero_le _⟩ dX7_bandsWith_19) [0, 1] rfl (by decide) (fun r4 u4 h => ?_)
  refine z_iadd (pc := 22) C dX7_bandsWith_22 ?_
  refine z_istore (pc := 23) (lv' := [(4, .int (r3 + r4)), (3, .int r1), (0, .ref (d 0)), (1, .int x1), (2, .int x2)]) C dX7_bandsWith_23 (by decide) rfl ?_
  refine z_aload_n (pc := 25) C 2 dX7_bandsWith_25 rfl ?_
  refine z_iload_n (pc := 26) C 3 dX7_bandsWith_26 rfl ?_
  refine z_iconst (pc := 27) (v := 0) C dX7_bandsWith_27 (by decide) ?_
  refine z_iload_n (pc := 28) C 1 dX7_bandsWith_28 rfl ?_
  refine z_callv (pc := 29) (wr := ([] : va_W)) (w1 := fun (u : Lf) => (wX7 cI d u)) (w2 := fun (u : Lf) => (wX7 cI d u)) C (z_runV (pc := 29) (wc := (wX7 cI d v_2)) (As := [.int x1, .int (0 : Int32), .int r1]) C (fun sz => kX7_put d v_2 x1 (0 : Int32) r1 sz h) [0, 1] rfl (by decide) (gdV wq425 wq427 wq428 wq429 wq430) rfl rfl rfl hdX7_put 0 rfl rfl rfl ⟨Nat.le_of_ble_eq_true rfl, Nat.le_of_ble_eq_true rfl⟩ rfl (Nat.le_of_ble_eq_true rfl) ⟨Nat.zero_le _, Nat.zero_le _⟩ dX7_bandsWith_29) [0, 1] [] [0, 1] rfl rfl (by decide) (by decide) (fun _ => rfl) (by decide) (fun u5 h => ?_)
  obtain ⟨v_5, hu5⟩ : ∃ z, z = u5 := ⟨_, rfl⟩
  subst hu5
  refine z_iload (pc := 32) C 0 dX7_bandsWith_32 rfl ?_
  exact hret 34 _ _ (r3 + r4) v_5 rfl h dX7_bandsWith_34

def pX7_bestOffset_J37 (x1 : Int32) (Q : Int32 → Lf → Prop) (K7 : Lf → Int32 → Int32 → Int32 → Prop) (v : Lf) (x2 : Int32) (x3 : Int32) (x4 : Int32) : Prop := (K7 v x2 x3 (x4 + 1))
def pX7_bestOffset_L7 (x1 : Int32) (Q : Int32 → Lf → Prop) : Nat → Lf → Int32 → Int32 → Int32 → Prop
  | 0, _, _, _, _ => False
  | n7 + 1, v, x2, x3, x4 => (((v 0 0) ≤ x4 → (Q x2 v)) ∧ (¬ (v 0 0) ≤ x4 → (pX7_bandsWith v x1 x4 (fun r2 v_2 => ((r2 ≤ x3 → (pX7_bestOffset_J37 x1 Q (fun v x2 x3 x4 => pX7_bestOffset_L7 x1 Q n7 v x2 x3 x4) v_2 x2 x3 x4)) ∧ (¬ r2 ≤ x3 → (pX7_bestOffset_J37 x1 Q (fun v x2 x3 x4 => pX7_bestOffset_L7 x1 Q n7 v x2 x3 x4) v_2 x4 r2 x4)))))))
def pX7_bestOffset (v : Lf) (x1 : Int32) (Q : Int32 → Lf → Prop) : Prop := (∃ n7, pX7_bestOffset_L7 x1 Q  n7 v (0 : Int32) (-1 : Int32) (0 : Int32))
abbrev rmX7_bestOffset : Room := { frames := 4, cells := 0, slots := 0, locals := 95 }
abbrev wdX7_bestOffset : List Cond := Cond.code yX7_bestOffset cX7_bestOffset 6 (some .int) :: TB
theorem hdSX7_bestOffset : (yX7_bestOffset).cls ≠ "java/lang/invoke/MethodHandle" ∧ (yX7_bestOffset).cls ≠ "java/lang/invoke/VarHandle" ∧ (parseMethodDescriptor (yX7_bestOffset).desc).map (fun d => d.parameters.length) = some 1 := by decide +kernel
theorem hdX7_bestOffset : (yX7_bestOffset).cls = RX7 ∧ (yX7_bestOffset).cls ≠ "java/lang/invoke/MethodHandle" ∧ (yX7_bestOffset).cls ≠ "java/lang/invoke/VarHandle" ∧ (parseMethodDescriptor (yX7_bestOffset).desc).map (fun d => d.parameters.length) = some 1 := ⟨rfl, hdSX7_bestOffset⟩
set_option maxHeartbeats 4000000 in
set_option maxRecDepth 100000 in
theorem kX7_bestOffset {l : Launch} {D : va_G} {cI cJ cT : ClassId} (d : Nat → Nat)  (v : Lf) (x1 : Int32) {Q : Int32 → Lf → Prop} (sz : Nat) (h : pX7_bestOffset v x1 Q) : Met l yX7_bestOffset wdX7_bestOffset rmX7_bestOffset (Pz D (tyL cI cJ cT) [.ref (d 0), .int x1] (wX7 cI d v) sz) (va_Qi (fun (r : Int32) (u : Lf) => Q r u) (Bz D (tyL cI cJ cT) (wX7 cI d v) sz (fun (u : Lf) => (wX7 cI d u))) (va_A (wX7 cI d v) sz)) 0 0 (va_A (wX7 cI d v) sz) := by
  refine z_meti (cc := cX7_bestOffset) (maxL := 6) (own := RX7) (lv0 := [(0, .ref (d 0)), (1, .int x1)]) (by decide) rfl rfl (Nat.le_of_ble_eq_true rfl) rfl ?_
  intro p e s m args below meth c A QQ C hin hret
  have J37 : ∀ (K7 : Lf → Int32 → Int32 → Int32 → Prop), (∀ (v : Lf) (x2 : Int32) (x3 : Int32) (x4 : Int32), K7 v x2 x3 x4 → ZZ p l e rmX7_bestOffset s m args below meth c D A 6 0 0 QQ 7 (wX7 cI d v) [(0, .ref (d 0)), (1, .int x1), (2, .int x2), (3, .int x3), (4, .int x4)] []) → ∀ (v : Lf) (x2 : Int32) (x3 : Int32) (x4 : Int32), pX7_bestOffset_J37 x1 Q K7 v x2 x3 x4 → ZZ p l e rmX7_bestOffset s m args below meth c D A 6 0 0 QQ 37 (wX7 cI d v) [(0, .ref (d 0)), (1, .int x1), (2, .int x2), (3, .int x3), (4, .int x4)] [] := by
    intro K7 hK7 v x2 x3 x4 h
    refine z_iinc (pc := 37) (v := (x4 + 1)) (lv' := [(4, .int (x4 + 1)), (0, .ref (d 0)), (1, .int x1), (2, .int x2), (3, .int x3)]) C 4 dX7_bestOffset_37 rfl rfl (by decide) rfl ?_
    refine z_goto (pc := 40) (tgt := 7) C dX7_bestOffset_40 (by decide) ?_
    refine z_sub (lv' := [(0, .ref (d 0)), (1, .int x1), (2, .int x2), (3, .int x3), (4, .int (x4 + 1))]) [1, 2, 3, 4, 0] rfl ?_
    exact hK7 v x2 x3 (x4 + 1) h
  have L7 : ∀ (n7 : Nat) (v : Lf) (x2 : Int32) (x3 : Int32) (x4 : Int32), pX7_bestOffset_L7 x1 Q n7 v x2 x3 x4 → ZZ p l e rmX7_bestOffset s m args below meth c D A 6 0 0 QQ 7 (wX7 cI d v) [(0, .ref (d 0)), (1, .int x1), (2, .int x2), (3, .int x3), (4, .int x4)] [] := by
    intro n7
    induction n7 with
    | zero => intro v x2 x3 x4 h; exact False.elim h
    | succ n7 ih7 =>
      intro v x2 x3 x4 h
      refine z_iload (pc := 7) C 4 dX7_bestOffset_7 rfl ?_
      refine z_aload_n (pc := 9) C 0 dX7_bestOffset_9 rfl ?_
      refine z_get (pc := 10) C uw7 0 rfl rfl 0 (by decide) wq418 rfl dX7_bestOffset_10 ?_
      refine z_icmp_ge (pc := 13) (tgt := 43) C dX7_bestOffset_13 (by decide) (fun c1 => ?_) (fun c1 => ?_)
      · have h := h.1 c1
        refine z_iload_n (pc := 43) C 2 dX7_bestOffset_43 rfl ?_
        exact hret 44 _ _ x2 v rfl h dX7_bestOffset_44
      · have h := h.2 c1
        refine z_aload_n (pc := 16) C 0 dX7_bestOffset_16 rfl ?_
        refine z_iload_n (pc := 17) C 1 dX7_bestOffset_17 rfl ?_
        refine z_iload (pc := 18) C 4 dX7_bestOffset_18 rfl ?_
        refine z_calli (pc := 20) (wr := ([] : va_W)) (w1 := fun (u : Lf) => (wX7 cI d u)) (w2 := fun (u : Lf) => (wX7 cI d u)) C (z_runV (pc := 20) (wc := (wX7 cI d v)) (As := [.int x1, .int x4]) C (fun sz => kX7_bandsWith d v x1 x4 sz h) [0, 1] rfl (by decide) (gdV wq459 wq460 wq461 wq462 wq430) rfl rfl rfl hdX7_bandsWith 0 rfl rfl rfl ⟨Nat.le_of_ble_eq_true rfl, Nat.le_of_ble_eq_true rfl⟩ rfl (Nat.le_of_ble_eq_true rfl) ⟨Nat.zero_le _, Nat.zero_le _⟩ dX7_bestOffset_20) [0, 1] [] [0, 1] rfl rfl (by decide) (by decide) (fun _ => rfl) (by decide) (fun r2 u2 h => ?_)
        obtain ⟨v_2, hu2⟩ : ∃ z, z = u2 := ⟨_, rfl⟩
        subst hu2
        refine z_istore (pc := 23) (lv' := [(5, .int r2), (0, .ref (d 0)), (1, .int x1), (2, .int x2), (3, .int x3), (4, .int x4)]) C dX7_bestOffset_23 (by decide) rfl ?_
        refine z_iload (pc := 25) C 0 dX7_bestOffset_25 rfl ?_
        refine z_iload_n (pc := 27) C 4 dX7_bestOffset_27 rfl ?_
        refine z_icmp_le (pc := 28) (tgt := 37) C dX7_bestOffset_28 (by decide) (fun c3 => ?_) (fun c3 => ?_)
        · have h := h.1 c3
          refine z_sub (lv' := [(0, .ref (d 0)), (1, .int x1), (2, .int x2), (3, .int x3), (4, .int x4)]) [1, 2, 3, 4, 5] rfl ?_
          exact J37 (fun v x2 x3 x4 => pX7_bestOffset_L7 x1 Q n7 v x2 x3 x4) ih7 v_2 x2 x3 x4 h
        · have h := h.2 c3
          refine z_iload (pc := 31) C 5 dX7_bestOffset_31 rfl ?_
          refine z_istore_n (pc := 33) (lv' := [(2, .int x4), (5, .int r2), (0, .ref (d 0)), (1, .int x1), (3, .int x3), (4, .int x4)]) C dX7_bestOffset_33 (by decide) rfl ?_
          refine z_iload (pc := 34) C 1 dX7_bestOffset_34 rfl ?_
          refine z_istore_n (pc := 36) (lv' := [(3, .int r2), (2, .int x4), (5, .int r2), (0, .ref (d 0)), (1, .int x1), (4, .int x4)]) C dX7_bestOffset_36 (by decide) rfl ?_
          refine z_sub (lv' := [(0, .ref (d 0)), (1, .int x1), (2, .int x4), (3, .int r2), (4, .int x4)]) [3, 4, 1, 0, 5] rfl ?_
          exact J37 (fun v x2 x3 x4 => pX7_bestOffset_L7 x1 Q n7 v x2 x3 x4) ih7 v_2 x4 r2 x4 h
  refine z_iconst (pc := 0) (v := 0) C dX7_bestOffset_0 (by decide) ?_
  refine z_istore_n (pc := 1) (lv' := [(2, .int (0 : Int32)), (0, .ref (d 0)), (1, .int x1)]) C dX7_bestOffset_1 (by decide) rfl ?_
  refine z_iconst (pc := 2) (v := -1) C dX7_bestOffset_2 (by decide) ?_
  refine z_istore_n (pc := 3) (lv' := [(3, .int (-1 : Int32)), (2, .int (0 : Int32)), (0, .ref (d 0)), (1, .int x1)]) C dX7_bestOffset_3 (by decide) rfl ?_
  refine z_iconst (pc := 4) (v := 0) C dX7_bestOffset_4 (by decide) ?_
  refine z_istore (pc := 5) (lv' := [(4, .int (0 : Int32)), (3, .int (-1 : Int32)), (2, .int (0 : Int32)), (0, .ref (d 0)), (1, .int x1)]) C dX7_bestOffset_5 (by decide) rfl ?_
  obtain ⟨n7, h⟩ := h
  refine z_sub (lv' := [(0, .ref (d 0)), (1, .int x1), (2, .int (0 : Int32)), (3, .int (-1 : Int32)), (4, .int (0 : Int32))]) [3, 4, 2, 1, 0] rfl ?_
  exact L7  n7 v (0 : Int32) (-1 : Int32) (0 : Int32) h

def pX7_tuneAll_J43 (Q : Lf → Prop) (K2 : Lf → Int32 → Prop) (K9 : Lf → Int32 → Int32 → Prop) (v : Lf) (x1 : Int32) (x2 : Int32) : Prop := (K9 v x1 (x2 + 1))
def pX7_tuneAll_L9 (Q : Lf → Prop) (K2 : Lf → Int32 → Prop) : Nat → Lf → Int32 → Int32 → Prop
  | 0, _, _, _ => False
  | n9 + 1, v, x1, x2 => (((v 0 1) ≤ x2 → (K2 v (x1 + 1))) ∧ (¬ (v 0 1) ≤ x2 → (pX7_bestOffset v x2 (fun r3 v_3 => (pX7_bandsWith v_3 x2 r3 (fun r4 v_4 => (pX7_bothBands v_4 (fun r5 => ((r4 ≤ r5 → (pX7_tuneAll_J43  Q K2 (fun v x1 x2 => pX7_tuneAll_L9 Q K2 n9 v x1 x2) v_4 x1 x2)) ∧ (¬ r4 ≤ r5 → (pX7_put v_4 x2 (0 : Int32) r3 (fun v_7 => (pX7_tuneAll_J43  Q K2 (fun v x1 x2 => pX7_tuneAll_L9 Q K2 n9 v x1 x2) v_7 x1 x2)))))))))))))
def pX7_tuneAll_L2 (Q : Lf → Prop) : Nat → Lf → Int32 → Prop
  | 0, _, _ => False
  | n2 + 1, v, x1 => (((4 : Int32) ≤ x1 → (Q v)) ∧ (¬ (4 : Int32) ≤ x1 → (∃ n9, pX7_tuneAll_L9  Q (fun v x1 => pX7_tuneAll_L2 Q n2 v x1) n9 v x1 (0 : Int32))))
def pX7_tuneAll (v : Lf)  (Q : Lf → Prop) : Prop := (∃ n2, pX7_tuneAll_L2  Q  n2 v (0 : Int32))
abbrev rmX7_tuneAll : Room := { frames := 5, cells := 0, slots := 0, locals := 120 }
abbrev wdX7_tuneAll : List Cond := Cond.code yX7_tuneAll cX7_tuneAll 4 none :: TB
theorem hdSX7_tuneAll : (yX7_tuneAll).cls ≠ "java/lang/invoke/MethodHandle" ∧ (yX7_tuneAll).cls ≠ "java/lang/invoke/VarHandle" ∧ (parseMethodDescriptor (yX7_tuneAll).desc).map (fun d => d.parameters.length) = some 0 := by decide +kernel
theorem hdX7_tuneAll : (yX7_tuneAll).cls = RX7 ∧ (yX7_tuneAll).cls ≠ "java/lang/invoke/MethodHandle" ∧ (yX7_tuneAll).cls ≠ "java/lang/invoke/VarHandle" ∧ (parseMethodDescriptor (yX7_tuneAll).desc).map (fun d => d.parameters.length) = some 0 := ⟨rfl, hdSX7_tuneAll⟩
set_option maxHeartbeats 4000000 in
set_option maxRecDepth 100000 in
theorem kX7_tuneAll {l : Launch} {D : va_G} {cI cJ cT : ClassId} (d : Nat → Nat)  (v : Lf)  {Q : Lf → Prop} (sz : Nat) (h : pX7_tuneAll v Q) : Met l yX7_tuneAll wdX7_tuneAll rmX7_tuneAll (Pz D (tyL cI cJ cT) [.ref (d 0)] (wX7 cI d v) sz) (va_Qv (fun (u : Lf) => Q u) (Bz D (tyL cI cJ cT) (wX7 cI d v) sz (fun (u : Lf) => (wX7 cI d u))) (va_A (wX7 cI d v) sz)) 0 0 (va_A (wX7 cI d v) sz) := by
  refine z_metv (cc := cX7_tuneAll) (maxL := 4) (own := RX7) (lv0 := [(0, .ref (d 0))]) (by decide) rfl rfl (Nat.le_of_ble_eq_true rfl) rfl ?_
  intro p e s m args below meth c A QQ C hin hret
  have J43 : ∀ (K2 : Lf → Int32 → Prop), (∀ (v : Lf) (x1 : Int32), K2 v x1 → ZZ p l e rmX7_tuneAll s m args below meth c D A 4 0 0 QQ 2 (wX7 cI d v) [(0, .ref (d 0)), (1, .int x1)] []) → ∀ (K9 : Lf → Int32 → Int32 → Prop), (∀ (v : Lf) (x1 : Int32) (x2 : Int32), K9 v x1 x2 → ZZ p l e rmX7_tuneAll s m args below meth c D A 4 0 0 QQ 9 (wX7 cI d v) [(0, .ref (d 0)), (1, .int x1), (2, .int x2)] []) → ∀ (v : Lf) (x1 : Int32) (x2 : Int32), pX7_tuneAll_J43 Q K2 K9 v x1 x2 → ZZ p l e rmX7_tuneAll s m args below meth c D A 4 0 0 QQ 43 (wX7 cI d v) [(0, .ref (d 0)), (1, .int x1), (2, .int x2)] [] := by
    intro K2 hK2 K9 hK9 v x1 x2 h
    refine z_iinc (pc := 43) (v := (x2 + 1)) (lv' := [(2, .int (x2 + 1)), (0, .ref (d 0)), (1, .int x1)]) C 2 dX7_tuneAll_43 rfl rfl (by decide) rfl ?_
    refine z_goto (pc := 46) (tgt := 9) C dX7_tuneAll_46 (by decide) ?_
    refine z_sub (lv' := [(0, .ref (d 0)), (1, .int x1), (2, .int (x2 + 1))]) [1, 2, 0] rfl ?_
    exact hK9 v x1 (x2 + 1) h
  have L9 : ∀ (K2 : Lf → Int32 → Prop), (∀ (v : Lf) (x1 : Int32), K2 v x1 → ZZ p l e rmX7_tuneAll s m args below meth c D A 4 0 0 QQ 2 (wX7 cI d v) [(0, .ref (d 0)), (1, .int x1)] []) → ∀ (n9 : Nat) (v : Lf) (x1 : Int32) (x2 : Int32), pX7_tuneAll_L9 Q K2 n9 v x1 x2 → ZZ p l e rmX7_tuneAll s m args below meth c D A 4 0 0 QQ 9 (wX7 cI d v) [(0, .ref (d 0)), (1, .int x1), (2, .int x2)] [] := by
    intro K2 hK2
    intro n9
    induction n9 with
    | zero => intro v x1 x2 h; exact False.elim h
    | succ n9 ih9 =>
      intro v x1 x2 h
      refine z_iload_n (pc := 9) C 2 dX7_tuneAll_9 rfl ?_
      refine z_aload_n (pc := 10) C 0 dX7_tuneAll_10 rfl ?_
      refine z_get (pc := 11) C uw7 0 rfl rfl 1 (by decide) wq421 rfl dX7_tuneAll_11 ?_
      refine z_icmp_ge (pc := 14) (tgt := 49) C dX7_tuneAll_14 (by decide) (fun c2 => ?_) (fun c2 => ?_)
      · have h := h.1 c2
        refine z_iinc (pc := 49) (v := (x1 + 1)) (lv' := [(1, .int (x1 + 1)), (0, .ref (d 0)), (2, .int x2)]) C 1 dX7_tuneAll_49 rfl rfl (by decide) rfl ?_
        refine z_goto (pc := 52) (tgt := 2) C dX7_tuneAll_52 (by decide) ?_
        refine z_sub (lv' := [(0, .ref (d 0)), (1, .int (x1 + 1))]) [1, 0] rfl ?_
        exact hK2 v (x1 + 1) h
      · have h := h.2 c2
        refine z_aload_n (pc := 17) C 0 dX7_tuneAll_17 rfl ?_
        refine z_iload_n (pc := 18) C 2 dX7_tuneAll_18 rfl ?_
        refine z_calli (pc := 19) (wr := ([] : va_W)) (w1 := fun (u : Lf) => (wX7 cI d u)) (w2 := fun (u : Lf) => (wX7 cI d u)) C (z_runV (pc := 19) (wc := (wX7 cI d v)) (As := [.int x2]) C (fun sz => kX7_bestOffset d v x2 sz h) [0, 1] rfl (by decide) (gdV wq463 wq464 wq465 wq466 wq430) rfl rfl rfl hdX7_bestOffset 0 rfl rfl rfl ⟨Nat.le_of_ble_eq_true rfl, Nat.le_of_ble_eq_true rfl⟩ rfl (Nat.le_of_ble_eq_true rfl) ⟨Nat.zero_le _, Nat.zero_le _⟩ dX7_tuneAll_19) [0, 1] [] [0, 1] rfl rfl (by decide) (by decide) (fun _ => rfl) (by decide) (fun r3 u3 h => ?_)
        obtain ⟨v_3, hu3⟩ : ∃ z, z = u3 := ⟨_, rfl⟩
        subst hu3
        refine z_istore_n (pc := 22) (lv' := [(3, .int r3), (0, .ref (d 0)), (1, .int x1), (2, .int x2)]) C dX7_tuneAll_22 (by decide) rfl ?_
        refine z_aload_n (pc := 23) C 1 dX7_tuneAll_23 rfl ?_
        refine z_iload_n (pc := 24) C 3 dX7_tuneAll_24 rfl ?_
        refine z_iload_n (pc := 25) C 0 dX7_tuneAll_25 rfl ?_
        refine z_calli (pc := 26) (wr := ([] : va_W)) (w1 := fun (u : Lf) => (wX7 cI d u)) (w2 := fun (u : Lf) => (wX7 cI d u)) C (z_runV (pc := 26) (wc := (wX7 cI d v_3)) (As := [.int x2, .int r3]) C (fun sz => kX7_bandsWith d v_3 x2 r3 sz h) [0, 1] rfl (by decide) (gdV wq459 wq460 wq461 wq462 wq430) rfl rfl rfl hdX7_bandsWith 0 rfl rfl rfl ⟨Nat.le_of_ble_eq_true rfl, Nat.le_of_ble_eq_true rfl⟩ rfl (Nat.le_of_ble_eq_true rfl) ⟨Nat.zero_le _, Nat.zero_le _⟩ dX7_tuneAll_26) [0, 1] [] [0, 1] rfl rfl (by decide) (by decide) (fun _ => rfl) (by decide) (fun r4 u4 h => ?_)
        obtain ⟨v_4, hu4⟩ : ∃ z, z = u4 := ⟨_, rfl⟩
        subst hu4
        refine z_aload_n (pc := 29) C 1 dX7_tuneAll_29 rfl ?_
        refine z_callRi (pc := 30) C (z_runV (pc := 30) (wc := (wX7 cI d v_4)) (As := []) C (fun sz => kX7_bothBands d v_4 sz h) [0, 1] rfl (by decide) (gdV wq458 wq467 wq468 wq469 wq430) rfl rfl rfl hdX7_bothBands 0 rfl rfl rfl ⟨Nat.le_of_ble_eq_true rfl, Nat.le_of_ble_eq_true rfl⟩ rfl (Nat.le_of_ble_eq_true rfl) ⟨Nat.zero_le _, Nat.zero_le _⟩ dX7_tuneAll_30) [0, 1] rfl (by decide) (fun r5 u5 h => ?_)
        refine z_icmp_le (pc := 33) (tgt := 43) C dX7_tuneAll_33 (by decide) (fun c6 => ?_) (fun c6 => ?_)
        · have h := h.1 c6
          refine z_sub (lv' := [(0, .ref (d 0)), (1, .int x1), (2, .int x2)]) [1, 2, 3] rfl ?_
          exact J43 K2 hK2 (fun v x1 x2 => pX7_tuneAll_L9 Q K2 n9 v x1 x2) ih9 v_4 x1 x2 h
        · have h := h.2 c6
          refine z_aload_n (pc := 36) C 1 dX7_tuneAll_36 rfl ?_
          refine z_iload_n (pc := 37) C 3 dX7_tuneAll_37 rfl ?_
          refine z_iconst (pc := 38) (v := 0) C dX7_tuneAll_38 (by decide) ?_
          refine z_iload_n (pc := 39) C 0 dX7_tuneAll_39 rfl ?_
          refine z_callv (pc := 40) (wr := ([] : va_W)) (w1 := fun (u : Lf) => (wX7 cI d u)) (w2 := fun (u : Lf) => (wX7 cI d u)) C (z_runV (pc := 40) (wc := (wX7 cI d v_4)) (As := [.int x2, .int (0 : Int32), .int r3]) C (fun sz => kX7_put d v_4 x2 (0 : Int32) r3 sz h) [0, 1] rfl (by decide) (gdV wq425 wq427 wq428 wq429 wq430) rfl rfl rfl hdX7_put 0 rfl rfl rfl ⟨Nat.le_of_ble_eq_true rfl, Nat.le_of_ble_eq_true rfl⟩ rfl (Nat.le_of_ble_eq_true rfl) ⟨Nat.zero_le _, Nat.zero_le _⟩ dX7_tuneAll_40) [0, 1] [] [0, 1] rfl rfl (by decide) (by decide) (fun _ => rfl) (by decide) (fun u7 h => ?_)
          obtain ⟨v_7, hu7⟩ : ∃ z, z = u7 := ⟨_, rfl⟩
          subst hu7
          refine z_sub (lv' := [(0, .ref (d 0)), (1, .int x1), (2, .int x2)]) [1, 2, 3] rfl ?_
          exact J43 K2 hK2 (fun v x1 x2 => pX7_tuneAll_L9 Q K2 n9 v x1 x2) ih9 v_7 x1 x2 h
  have L2 : ∀ (n2 : Nat) (v : Lf) (x1 : Int32), pX7_tuneAll_L2 Q n2 v x1 → ZZ p l e rmX7_tuneAll s m args below meth c D A 4 0 0 QQ 2 (wX7 cI d v) [(0, .ref (d 0)), (1, .int x1)] [] := by
    intro n2
    induction n2 with
    | zero => intro v x1 h; exact False.elim h
    | succ n2 ih2 =>
      intro v x1 h
      refine z_iload_n (pc := 2) C 1 dX7_tuneAll_2 rfl ?_
      refine z_iconst (pc := 3) (v := 4) C dX7_tuneAll_3 (by decide) ?_
      refine z_icmp_ge (pc := 4) (tgt := 55) C dX7_tuneAll_4 (by decide) (fun c1 => ?_) (fun c1 => ?_)
      · have h := h.1 c1
        exact hret 55 _ _ v rfl h dX7_tuneAll_55
      · have h := h.2 c1
        refine z_iconst (pc := 7) (v := 0) C dX7_tuneAll_7 (by decide) ?_
        refine z_istore_n (pc := 8) (lv' := [(2, .int (0 : Int32)), (0, .ref (d 0)), (1, .int x1)]) C dX7_tuneAll_8 (by decide) rfl ?_
        obtain ⟨n9, h⟩ := h
        refine z_sub (lv' := [(0, .ref (d 0)), (1, .int x1), (2, .int (0 : Int32))]) [1, 2, 0] rfl ?_
        exact L9 (fun v x1 => pX7_tuneAll_L2 Q n2 v x1) ih2 n9 v x1 (0 : Int32) h
  refine z_iconst (pc := 0) (v := 0) C dX7_tuneAll_0 (by decide) ?_
  refine z_istore_n (pc := 1) (lv' := [(1, .int (0 : Int32)), (0, .ref (d 0))]) C dX7_tuneAll_1 (by decide) rfl ?_
  obtain ⟨n2, h⟩ := h
  refine z_sub (lv' := [(0, .ref (d 0)), (1, .int (0 : Int32))]) [1, 0] rfl ?_
  exact L2  n2 v (0 : Int32) h

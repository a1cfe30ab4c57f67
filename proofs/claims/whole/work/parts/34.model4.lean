def pX10_image (v : Lf)  (Q : Int32 → Lf → Prop) : Prop := (pX10_copies 372 372 (v 1) (v 2) (fun f0_1 => (Q ((st (sa v 2 f0_1) 0 3 (1 : Int32)) 1 3) (st (sa v 2 f0_1) 0 3 (1 : Int32)))))
abbrev rmX10_image : Room := { frames := 1, cells := 0, slots := 0, locals := 22 }
abbrev wdX10_image : List Cond := Cond.code yX10_image cX10_image 1 (some .int) :: TB
theorem hdSX10_image : (yX10_image).cls ≠ "java/lang/invoke/MethodHandle" ∧ (yX10_image).cls ≠ "java/lang/invoke/VarHandle" ∧ (parseMethodDescriptor (yX10_image).desc).map (fun d => d.parameters.length) = some 0 := by decide +kernel
theorem hdX10_image : (yX10_image).cls = RX10 ∧ (yX10_image).cls ≠ "java/lang/invoke/MethodHandle" ∧ (yX10_image).cls ≠ "java/lang/invoke/VarHandle" ∧ (parseMethodDescriptor (yX10_image).desc).map (fun d => d.parameters.length) = some 0 := ⟨rfl, hdSX10_image⟩
set_option maxHeartbeats 4000000 in
set_option maxRecDepth 100000 in
theorem kX10_image {l : Launch} {D : va_G} {cI cJ cT : ClassId} (d : Nat → Nat)  (v : Lf) (g : Lg)  {Q : Int32 → Lf → Prop} (sz : Nat) (h : pX10_image v Q) : Met l yX10_image wdX10_image rmX10_image (Pz D (tyL cI cJ cT) [.ref (d 0)] (wX10 cI cJ d v g) sz) (va_Qi (fun (r : Int32) (u : Lf) => Q r u) (Bz D (tyL cI cJ cT) (wX10 cI cJ d v g) sz (fun (u : Lf) => (wX10 cI cJ d u g))) (va_A (wX10 cI cJ d v g) sz)) 0 0 (va_A (wX10 cI cJ d v g) sz) := by
  refine z_meti (cc := cX10_image) (maxL := 1) (own := RX10) (lv0 := [(0, .ref (d 0))]) (by decide) rfl rfl (Nat.le_of_ble_eq_true rfl) rfl ?_
  intro p e s m args below meth c A QQ C hin hret
  refine z_aload_n (pc := 0) C 0 dX10_image_0 rfl ?_
  refine z_get (pc := 1) C uw10 0 rfl rfl 0 (by decide) wq809 rfl dX10_image_1 ?_
  refine z_aload_n (pc := 4) C 0 dX10_image_4 rfl ?_
  refine z_get (pc := 5) C uw10 0 rfl rfl 1 (by decide) wq837 rfl dX10_image_5 ?_
  refine z_callv (pc := 8) (wr := (List.filterMap (fun i => ((wX10 cI cJ d v g))[i]?) [0, 3, 4, 5, 6, 7, 8, 9, 10, 11])) (w1 := fun (u : (Nat → Int32)) => ([((d 1), .inl (cI, 372, .inl (v 1)))] ++ [((d 2), .inl (cI, 372, .inl u))])) (w2 := fun (u : (Nat → Int32)) => (wX10 cI cJ d (sa v 2 u) g)) C (z_runS (pc := 8) (wc := ([((d 1), .inl (cI, 372, .inl (v 1)))] ++ [((d 2), .inl (cI, 372, .inl (v 2)))])) (As := [.ref (d 1), .ref (d 2)]) C (fun sz => kX10_copies (d 1) (d 2) 372 372 (v 1) (v 2) sz h) [1, 2] rfl (by decide) (gdS wq857 wq1085 wq1086 wq814) rfl rfl rfl hdSX10_copies ⟨Nat.le_of_ble_eq_true rfl, Nat.le_of_ble_eq_true rfl⟩ rfl (Nat.le_of_ble_eq_true rfl) ⟨Nat.zero_le _, Nat.zero_le _⟩ dX10_image_8) [1, 2] [0, 3, 4, 5, 6, 7, 8, 9, 10, 11] [0, 10, 11, 1, 2, 3, 4, 5, 6, 7, 8, 9] rfl rfl (by decide) (by decide) (fun _ => rfl) (by decide) (fun u1 h => ?_)
  obtain ⟨f0_1, hu1⟩ : ∃ z, z = u1 := ⟨_, rfl⟩
  subst hu1
  refine z_aload_n (pc := 11) C 0 dX10_image_11 rfl ?_
  refine z_iconst (pc := 12) (v := 1) C dX10_image_12 (by decide) ?_
  refine z_put (pc := 13) (ws' := (wX10 cI cJ d (st (sa v 2 f0_1) 0 3 (1 : Int32)) g)) C uw10 tyX10 tyX10_ok nmX10 0 rfl rfl 3 (by decide) wq1142 rfl rfl rfl (Nat.le_of_ble_eq_true rfl) dX10_image_13 sX10_f3 ?_
  refine z_aload_n (pc := 16) C 0 dX10_image_16 rfl ?_
  refine z_get (pc := 17) C uw10 0 rfl rfl 0 (by decide) wq809 rfl dX10_image_17 ?_
  refine z_iconst (pc := 20) (v := 3) C dX10_image_20 (by decide) ?_
  refine z_iald (pc := 21) C 1 0 rfl rfl vi_3_372 ((st (sa v 2 f0_1) 0 3 (1 : Int32)) 1 3) (congrArg _ cl_3) dX10_image_21 ?_
  exact hret 22 _ _ ((st (sa v 2 f0_1) 0 3 (1 : Int32)) 1 3) (st (sa v 2 f0_1) 0 3 (1 : Int32)) rfl h dX10_image_22

def pX10_undo (v : Lf)  (Q : Int32 → Lf → Prop) : Prop := ((¬ (v 0 3) = 0 → (pX10_copies 372 372 (v 2) (v 1) (fun f0_2 => (pX10_clears_ (sa v 1 f0_2) (fun v_3 => (Q (v_3 1 3) v_3)))))) ∧ ((v 0 3) = 0 → (Q (-3 : Int32) v)))
abbrev rmX10_undo : Room := { frames := 4, cells := 0, slots := 0, locals := 94 }
abbrev wdX10_undo : List Cond := Cond.code yX10_undo cX10_undo 1 (some .int) :: TB
theorem hdSX10_undo : (yX10_undo).cls ≠ "java/lang/invoke/MethodHandle" ∧ (yX10_undo).cls ≠ "java/lang/invoke/VarHandle" ∧ (parseMethodDescriptor (yX10_undo).desc).map (fun d => d.parameters.length) = some 0 := by decide +kernel
theorem hdX10_undo : (yX10_undo).cls = RX10 ∧ (yX10_undo).cls ≠ "java/lang/invoke/MethodHandle" ∧ (yX10_undo).cls ≠ "java/lang/invoke/VarHandle" ∧ (parseMethodDescriptor (yX10_undo).desc).map (fun d => d.parameters.length) = some 0 := ⟨rfl, hdSX10_undo⟩
set_option maxHeartbeats 4000000 in
set_option maxRecDepth 100000 in
theorem kX10_undo {l : Launch} {D : va_G} {cI cJ cT : ClassId} (d : Nat → Nat)  (v : Lf) (g : Lg)  {Q : Int32 → Lf → Prop} (sz : Nat) (h : pX10_undo v Q) : Met l yX10_undo wdX10_undo rmX10_undo (Pz D (tyL cI cJ cT) [.ref (d 0)] (wX10 cI cJ d v g) sz) (va_Qi (fun (r : Int32) (u : Lf) => Q r u) (Bz D (tyL cI cJ cT) (wX10 cI cJ d v g) sz (fun (u : Lf) => (wX10 cI cJ d u g))) (va_A (wX10 cI cJ d v g) sz)) 0 0 (va_A (wX10 cI cJ d v g) sz) := by
  refine z_meti (cc := cX10_undo) (maxL := 1) (own := RX10) (lv0 := [(0, .ref (d 0))]) (by decide) rfl rfl (Nat.le_of_ble_eq_true rfl) rfl ?_
  intro p e s m args below meth c A QQ C hin hret
  refine z_aload_n (pc := 0) C 0 dX10_undo_0 rfl ?_
  refine z_get (pc := 1) C uw10 0 rfl rfl 3 (by decide) wq1142 rfl dX10_undo_1 ?_
  refine z_if_ne (pc := 4) (tgt := 10) C dX10_undo_4 (by decide) (fun c1 => ?_) (fun c1 => ?_)
  · have h := h.1 c1
    refine z_aload_n (pc := 10) C 0 dX10_undo_10 rfl ?_
    refine z_get (pc := 11) C uw10 0 rfl rfl 1 (by decide) wq837 rfl dX10_undo_11 ?_
    refine z_aload_n (pc := 14) C 0 dX10_undo_14 rfl ?_
    refine z_get (pc := 15) C uw10 0 rfl rfl 0 (by decide) wq809 rfl dX10_undo_15 ?_
    refine z_callv (pc := 18) (wr := (List.filterMap (fun i => ((wX10 cI cJ d v g))[i]?) [0, 3, 4, 5, 6, 7, 8, 9, 10, 11])) (w1 := fun (u : (Nat → Int32)) => ([((d 2), .inl (cI, 372, .inl (v 2)))] ++ [((d 1), .inl (cI, 372, .inl u))])) (w2 := fun (u : (Nat → Int32)) => (wX10 cI cJ d (sa v 1 u) g)) C (z_runS (pc := 18) (wc := ([((d 2), .inl (cI, 372, .inl (v 2)))] ++ [((d 1), .inl (cI, 372, .inl (v 1)))])) (As := [.ref (d 2), .ref (d 1)]) C (fun sz => kX10_copies (d 2) (d 1) 372 372 (v 2) (v 1) sz h) [2, 1] rfl (by decide) (gdS wq857 wq1085 wq1086 wq814) rfl rfl rfl hdSX10_copies ⟨Nat.le_of_ble_eq_true rfl, Nat.le_of_ble_eq_true rfl⟩ rfl (Nat.le_of_ble_eq_true rfl) ⟨Nat.zero_le _, Nat.zero_le _⟩ dX10_undo_18) [2, 1] [0, 3, 4, 5, 6, 7, 8, 9, 10, 11] [0, 11, 10, 1, 2, 3, 4, 5, 6, 7, 8, 9] rfl rfl (by decide) (by decide) (fun _ => rfl) (by decide) (fun u2 h => ?_)
    obtain ⟨f0_2, hu2⟩ : ∃ z, z = u2 := ⟨_, rfl⟩
    subst hu2
    refine z_aload_n (pc := 21) C 0 dX10_undo_21 rfl ?_
    refine z_callv (pc := 22) (wr := ([] : va_W)) (w1 := fun (u : Lf) => (wX10 cI cJ d u g)) (w2 := fun (u : Lf) => (wX10 cI cJ d u g)) C (z_runV (pc := 22) (wc := (wX10 cI cJ d (sa v 1 f0_2) g)) (As := []) C (fun sz => kX10_clears_ d (sa v 1 f0_2) g sz h) [0, 1, 2, 3, 4, 5, 6, 7, 8, 9, 10, 11] rfl (by decide) (gdV wq835 wq845 wq846 wq847 wq814) rfl rfl rfl hdX10_clears_ 0 rfl rfl rfl ⟨Nat.le_of_ble_eq_true rfl, Nat.le_of_ble_eq_true rfl⟩ rfl (Nat.le_of_ble_eq_true rfl) ⟨Nat.zero_le _, Nat.zero_le _⟩ dX10_undo_22) [0, 1, 2, 3, 4, 5, 6, 7, 8, 9, 10, 11] [] [0, 1, 2, 3, 4, 5, 6, 7, 8, 9, 10, 11] rfl rfl (by decide) (by decide) (fun _ => rfl) (by decide) (fun u3 h => ?_)
    obtain ⟨v_3, hu3⟩ : ∃ z, z = u3 := ⟨_, rfl⟩
    subst hu3
    refine z_aload_n (pc := 25) C 0 dX10_undo_25 rfl ?_
    refine z_get (pc := 26) C uw10 0 rfl rfl 0 (by decide) wq809 rfl dX10_undo_26 ?_
    refine z_iconst (pc := 29) (v := 3) C dX10_undo_29 (by decide) ?_
    refine z_iald (pc := 30) C 1 0 rfl rfl vi_3_372 (v_3 1 3) (congrArg _ cl_3) dX10_undo_30 ?_
    exact hret 31 _ _ (v_3 1 3) v_3 rfl h dX10_undo_31
  · have h := h.2 c1
    refine z_bipush (pc := 7) (v := -3) C dX10_undo_7 (by decide) ?_
    exact hret 9 _ _ (-3 : Int32) v rfl h dX10_undo_9

def pX10_count (v : Lf) (x1 : Int32) (Q : Int32 → Prop) : Prop := ((x1 = 0 → (Q (v 0 9) )) ∧ (¬ x1 = 0 → ((x1 = 1 → (Q (v 1 19) )) ∧ (¬ x1 = 1 → ((x1 = 2 → (Q (v 1 20) )) ∧ (¬ x1 = 2 → ((x1 = 3 → (Q (v 1 18) )) ∧ (¬ x1 = 3 → ((x1 = 4 → (Q (v 1 17) )) ∧ (¬ x1 = 4 → ((x1 = 5 → (Q (v 0 4) )) ∧ (¬ x1 = 5 → ((x1 = 6 → (Q (v 1 15) )) ∧ (¬ x1 = 6 → ((x1 = 7 → (Q (v 1 16) )) ∧ (¬ x1 = 7 → (Q (-2 : Int32) )))))))))))))))))
abbrev rmX10_count : Room := { frames := 0, cells := 0, slots := 0, locals := 0 }
abbrev wdX10_count : List Cond := Cond.code yX10_count cX10_count 2 (some .int) :: TB
theorem hdSX10_count : (yX10_count).cls ≠ "java/lang/invoke/MethodHandle" ∧ (yX10_count).cls ≠ "java/lang/invoke/VarHandle" ∧ (parseMethodDescriptor (yX10_count).desc).map (fun d => d.parameters.length) = some 1 := by decide +kernel
theorem hdX10_count : (yX10_count).cls = RX10 ∧ (yX10_count).cls ≠ "java/lang/invoke/MethodHandle" ∧ (yX10_count).cls ≠ "java/lang/invoke/VarHandle" ∧ (parseMethodDescriptor (yX10_count).desc).map (fun d => d.parameters.length) = some 1 := ⟨rfl, hdSX10_count⟩
set_option maxHeartbeats 4000000 in
set_option maxRecDepth 100000 in
theorem kX10_count {l : Launch} {D : va_G} {cI cJ cT : ClassId} (d : Nat → Nat)  (v : Lf) (g : Lg) (x1 : Int32) {Q : Int32 → Prop} (sz : Nat) (h : pX10_count v x1 Q) : Met l yX10_count wdX10_count rmX10_count (Pz D (tyL cI cJ cT) [.ref (d 0), .int x1] (wX10 cI cJ d v g) sz) (va_Qi (fun (r : Int32) (u : Unit) => Q r) (Bz D (tyL cI cJ cT) (wX10 cI cJ d v g) sz (fun (u : Unit) => (wX10 cI cJ d v g))) (va_A (wX10 cI cJ d v g) sz)) 0 0 (va_A (wX10 cI cJ d v g) sz) := by
  refine z_meti (cc := cX10_count) (maxL := 2) (own := RX10) (lv0 := [(0, .ref (d 0)), (1, .int x1)]) (by decide) rfl rfl (Nat.le_of_ble_eq_true rfl) rfl ?_
  intro p e s m args below meth c A QQ C hin hret
  refine z_iload_n (pc := 0) C 1 dX10_count_0 rfl ?_
  by_cases c1_0 : x1 = 0
  · have h := h.1 c1_0
    refine z_tbl (pc := 1) (tgt := 48) C dX10_count_1 0 c1_0 (by decide) (by decide) rfl (by decide) ?_
    refine z_aload_n (pc := 48) C 0 dX10_count_48 rfl ?_
    refine z_get (pc := 49) C uw10 0 rfl rfl 9 (by decide) wq882 rfl dX10_count_49 ?_
    exact hret 52 _ _ (v 0 9) () rfl h dX10_count_52
  · have h := h.2 c1_0
    by_cases c1_1 : x1 = 1
    · have h := h.1 c1_1
      refine z_tbl (pc := 1) (tgt := 53) C dX10_count_1 1 c1_1 (by decide) (by decide) rfl (by decide) ?_
      refine z_aload_n (pc := 53) C 0 dX10_count_53 rfl ?_
      refine z_get (pc := 54) C uw10 0 rfl rfl 0 (by decide) wq809 rfl dX10_count_54 ?_
      refine z_bipush (pc := 57) (v := 19) C dX10_count_57 (by decide) ?_
      refine z_iald (pc := 59) C 1 0 rfl rfl vi_19_372 (v 1 19) (congrArg _ cl_19) dX10_count_59 ?_
      exact hret 60 _ _ (v 1 19) () rfl h dX10_count_60
    · have h := h.2 c1_1
      by_cases c1_2 : x1 = 2
      · have h := h.1 c1_2
        refine z_tbl (pc := 1) (tgt := 61) C dX10_count_1 2 c1_2 (by decide) (by decide) rfl (by decide) ?_
        refine z_aload_n (pc := 61) C 0 dX10_count_61 rfl ?_
        refine z_get (pc := 62) C uw10 0 rfl rfl 0 (by decide) wq809 rfl dX10_count_62 ?_
        refine z_bipush (pc := 65) (v := 20) C dX10_count_65 (by decide) ?_
        refine z_iald (pc := 67) C 1 0 rfl rfl vi_20_372 (v 1 20) (congrArg _ cl_20) dX10_count_67 ?_
        exact hret 68 _ _ (v 1 20) () rfl h dX10_count_68
      · have h := h.2 c1_2
        by_cases c1_3 : x1 = 3
        · have h := h.1 c1_3
          refine z_tbl (pc := 1) (tgt := 69) C dX10_count_1 3 c1_3 (by decide) (by decide) rfl (by decide) ?_
          refine z_aload_n (pc := 69) C 0 dX10_count_69 rfl ?_
          refine z_get (pc := 70) C uw10 0 rfl rfl 0 (by decide) wq809 rfl dX10_count_70 ?_
          refine z_bipush (pc := 73) (v := 18) C dX10_count_73 (by decide) ?_
          refine z_iald (pc := 75) C 1 0 rfl rfl vi_18_372 (v 1 18) (congrArg _ cl_18) dX10_count_75 ?_
          exact hret 76 _ _ (v 1 18) () rfl h dX10_count_76
        · have h := h.2 c1_3
          by_cases c1_4 : x1 = 4
          · have h := h.1 c1_4
            refine z_tbl (pc := 1) (tgt := 77) C dX10_count_1 4 c1_4 (by decide) (by decide) rfl (by decide) ?_
            refine z_aload_n (pc := 77) C 0 dX10_count_77 rfl ?_
            refine z_get (pc := 78) C uw10 0 rfl rfl 0 (by decide) wq809 rfl dX10_count_78 ?_
            refine z_bipush (pc := 81) (v := 17) C dX10_count_81 (by decide) ?_
            refine z_iald (pc := 83) C 1 0 rfl rfl vi_17_372 (v 1 17) (congrArg _ cl_17) dX10_count_83 ?_
            exact hret 84 _ _ (v 1 17) () rfl h dX10_count_84
          · have h := h.2 c1_4
            by_cases c1_5 : x1 = 5
            · have h := h.1 c1_5
              refine z_tbl (pc := 1) (tgt := 85) C dX10_count_1 5 c1_5 (by decide) (by decide) rfl (by decide) ?_
              refine z_aload_n (pc := 85) C 0 dX10_count_85 rfl ?_
              refine z_get (pc := 86) C uw10 0 rfl rfl 4 (by decide) wq999 rfl dX10_count_86 ?_
              exact hret 89 _ _ (v 0 4) () rfl h dX10_count_89
            · have h := h.2 c1_5
              by_cases c1_6 : x1 = 6
              · have h := h.1 c1_6
                refine z_tbl (pc := 1) (tgt := 90) C dX10_count_1 6 c1_6 (by decide) (by decide) rfl (by decide) ?_
                refine z_aload_n (pc := 90) C 0 dX10_count_90 rfl ?_
                refine z_get (pc := 91) C uw10 0 rfl rfl 0 (by decide) wq809 rfl dX10_count_91 ?_
                refine z_bipush (pc := 94) (v := 15) C dX10_count_94 (by decide) ?_
                refine z_iald (pc := 96) C 1 0 rfl rfl vi_15_372 (v 1 15) (congrArg _ cl_15) dX10_count_96 ?_
                exact hret 97 _ _ (v 1 15) () rfl h dX10_count_97
              · have h := h.2 c1_6
                by_cases c1_7 : x1 = 7
                · have h := h.1 c1_7
                  refine z_tbl (pc := 1) (tgt := 98) C dX10_count_1 7 c1_7 (by decide) (by decide) rfl (by decide) ?_
                  refine z_aload_n (pc := 98) C 0 dX10_count_98 rfl ?_
                  refine z_get (pc := 99) C uw10 0 rfl rfl 0 (by decide) wq809 rfl dX10_count_99 ?_
                  refine z_bipush (pc := 102) (v := 16) C dX10_count_102 (by decide) ?_
                  refine z_iald (pc := 104) C 1 0 rfl rfl vi_16_372 (v 1 16) (congrArg _ cl_16) dX10_count_104 ?_
                  exact hret 105 _ _ (v 1 16) () rfl h dX10_count_105
                · have h := h.2 c1_7
                  refine z_tblo (pc := 1) (tgt := 106) C dX10_count_1 (z_out0_7 c1_0 c1_1 c1_2 c1_3 c1_4 c1_5 c1_6 c1_7) (by decide) ?_
                  refine z_bipush (pc := 106) (v := -2) C dX10_count_106 (by decide) ?_
                  exact hret 108 _ _ (-2 : Int32) () rfl h dX10_count_108

def pX10_tape_L67 (x1 : Int32) (x2 : Int32) (x3 : Int32) (Q : Int32 → Lf → Lg → Prop) : Nat → Lf → Lg → Int32 → Prop
  | 0, _, _, _ => False
  | n67 + 1, v, g, x4 => (vp_in x1 6 ∧ (((v 9 x1.toNatClampNeg) ≤ x4 → (Q (1 : Int32) v g)) ∧ (¬ (v 9 x1.toNatClampNeg) ≤ x4 → (vp_in (((60 : Int32) * x1) + x4) 360 ∧ (pX10_tape_L67 x1 x2 x3 Q n67 v (sg g 10 ((((60 : Int32) * x1) + x4).toNatClampNeg) (0 : Int64)) (x4 + 1))))))
def pX10_tape_J63 (x1 : Int32) (x2 : Int32) (x3 : Int32) (Q : Int32 → Lf → Lg → Prop) (v : Lf) (g : Lg) (t1 : Int32) (t2 : Int32) : Prop := (vp_in t1 6 ∧ (∃ n67, pX10_tape_L67 x1 x2 x3 Q  n67 (st v 9 t1.toNatClampNeg t2) g (0 : Int32)))
def pX10_tape_J42 (x1 : Int32) (x2 : Int32) (x3 : Int32) (Q : Int32 → Lf → Lg → Prop) (v : Lf) (g : Lg) : Prop := (vp_in x1 6 ∧ ((0 ≤ x2 → (pX10_tape_J63 x1 x2 x3 Q  (st v 8 x1.toNatClampNeg x2) g x1 x3)) ∧ (¬ 0 ≤ x2 → (pX10_tape_J63 x1 x2 x3 Q  (st v 8 x1.toNatClampNeg x2) g x1 (0 : Int32)))))
def pX10_tape_J31 (x1 : Int32) (x2 : Int32) (x3 : Int32) (Q : Int32 → Lf → Lg → Prop) (v : Lf) (g : Lg) : Prop := ((x2 < 0 → (pX10_tape_J42 x1 x2 x3 Q  v g)) ∧ (¬ x2 < 0 → ((0 ≤ x3 → (pX10_tape_J42 x1 x2 x3 Q  v g)) ∧ (¬ 0 ≤ x3 → (Q (-14 : Int32) v g)))))
def pX10_tape (v : Lf) (g : Lg) (x1 : Int32) (x2 : Int32) (x3 : Int32) (Q : Int32 → Lf → Lg → Prop) : Prop := (pX10_isTape x1 (fun r1 => ((¬ r1 = 0 → (pX10_isIn x2 (-1 : Int32) (4 : Int32) (fun r3 => ((r3 = 0 → (Q (-2 : Int32) v g)) ∧ (¬ r3 = 0 → ((x2 < 0 → (pX10_tape_J31 x1 x2 x3 Q  v g)) ∧ (¬ x2 < 0 → ((x3 ≤ (60 : Int32) → (pX10_tape_J31 x1 x2 x3 Q  v g)) ∧ (¬ x3 ≤ (60 : Int32) → (Q (-2 : Int32) v g)))))))))) ∧ (r1 = 0 → (Q (-1 : Int32) v g)))))
abbrev rmX10_tape : Room := { frames := 2, cells := 0, slots := 0, locals := 42 }
abbrev wdX10_tape : List Cond := Cond.code yX10_tape cX10_tape 5 (some .int) :: TB
theorem hdSX10_tape : (yX10_tape).cls ≠ "java/lang/invoke/MethodHandle" ∧ (yX10_tape).cls ≠ "java/lang/invoke/VarHandle" ∧ (parseMethodDescriptor (yX10_tape).desc).map (fun d => d.parameters.length) = some 3 := by decide +kernel
theorem hdX10_tape : (yX10_tape).cls = RX10 ∧ (yX10_tape).cls ≠ "java/lang/invoke/MethodHandle" ∧ (yX10_tape).cls ≠ "java/lang/invoke/VarHandle" ∧ (parseMethodDescriptor (yX10_tape).desc).map (fun d => d.parameters.length) = some 3 := ⟨rfl, hdSX10_tape⟩
set_option maxHeartbeats 4000000 in
set_option maxRecDepth 100000 in
theorem kX10_tape {l : Launch} {D : va_G} {cI cJ cT : ClassId} (d : Nat → Nat)  (v : Lf) (g : Lg) (x1 : Int32) (x2 : Int32) (x3 : Int32) {Q : Int32 → Lf → Lg → Prop} (sz : Nat) (h : pX10_tape v g x1 x2 x3 Q) : Met l yX10_tape wdX10_tape rmX10_tape (Pz D (tyL cI cJ cT) [.ref (d 0), .int x1, .int x2, .int x3] (wX10 cI cJ d v g) sz) (va_Qi (fun (r : Int32) (u : Lf × Lg) => Q r u.1 u.2) (Bz D (tyL cI cJ cT) (wX10 cI cJ d v g) sz (fun (u : Lf × Lg) => (wX10 cI cJ d u.1 u.2))) (va_A (wX10 cI cJ d v g) sz)) 0 0 (va_A (wX10 cI cJ d v g) sz) := by
  refine z_meti (cc := cX10_tape) (maxL := 5) (own := RX10) (lv0 := [(0, .ref (d 0)), (1, .int x1), (2, .int x2), (3, .int x3)]) (by decide) rfl rfl (Nat.le_of_ble_eq_true rfl) rfl ?_
  intro p e s m args below meth c A QQ C hin hret
  have L67 : ∀ (n67 : Nat) (v : Lf) (g : Lg) (x4 : Int32), pX10_tape_L67 x1 x2 x3 Q n67 v g x4 → ZZ p l e rmX10_tape s m args below meth c D A 5 0 0 QQ 67 (wX10 cI cJ d v g) [(0, .ref (d 0)), (1, .int x1), (4, .int x4)] [] := by
    intro n67
    induction n67 with
    | zero => intro v g x4 h; exact False.elim h
    | succ n67 ih67 =>
      intro v g x4 h
      refine z_iload (pc := 67) C 2 dX10_tape_67 rfl ?_
      refine z_aload_n (pc := 69) C 0 dX10_tape_69 rfl ?_
      refine z_get (pc := 70) C uw10 0 rfl rfl 13 (by decide) wq842 rfl dX10_tape_70 ?_
      refine z_iload_n (pc := 73) C 1 dX10_tape_73 rfl ?_
      obtain ⟨g10, h⟩ := h
      refine z_iald (pc := 74) C 9 0 rfl rfl g10 (v 9 x1.toNatClampNeg) rfl dX10_tape_74 ?_
      refine z_icmp_ge (pc := 75) (tgt := 97) C dX10_tape_75 (by decide) (fun c11 => ?_) (fun c11 => ?_)
      · have h := h.1 c11
        refine z_iconst (pc := 97) (v := 1) C dX10_tape_97 (by decide) ?_
        exact hret 98 _ _ (1 : Int32) (v, g) rfl h dX10_tape_98
      · have h := h.2 c11
        refine z_aload_n (pc := 78) C 0 dX10_tape_78 rfl ?_
        refine z_get (pc := 79) C uw10 0 rfl rfl 14 (by decide) wq843 rfl dX10_tape_79 ?_
        refine z_bipush (pc := 82) (v := 60) C dX10_tape_82 (by decide) ?_
        refine z_iload_n (pc := 84) C 1 dX10_tape_84 rfl ?_
        refine z_imul (pc := 85) C dX10_tape_85 ?_
        refine z_iload (pc := 86) C 2 dX10_tape_86 rfl ?_
        refine z_iadd (pc := 88) C dX10_tape_88 ?_
        refine z_lconst (pc := 89) (v := 0) C dX10_tape_89 (by decide) ?_
        obtain ⟨g12, h⟩ := h
        refine z_last (pc := 90) (ws' := (wX10 cI cJ d v (sg g 10 ((((60 : Int32) * x1) + x4).toNatClampNeg) (0 : Int64)))) C 10 1 rfl rfl g12 dX10_tape_90 rfl sX10_a10 ?_
        refine z_iinc (pc := 91) (v := (x4 + 1)) (lv' := [(4, .int (x4 + 1)), (0, .ref (d 0)), (1, .int x1)]) C 2 dX10_tape_91 rfl rfl (by decide) rfl ?_
        refine z_goto (pc := 94) (tgt := 67) C dX10_tape_94 (by decide) ?_
        refine z_sub (lv' := [(0, .ref (d 0)), (1, .int x1), (4, .int (x4 + 1))]) [1, 2, 0] rfl ?_
        exact ih67 v (sg g 10 ((((60 : Int32) * x1) + x4).toNatClampNeg) (0 : Int64)) (x4 + 1) h
  have J63 : ∀ (v : Lf) (g : Lg) (t1 : Int32) (t2 : Int32), pX10_tape_J63 x1 x2 x3 Q v g t1 t2 → ZZ p l e rmX10_tape s m args below meth c D A 5 0 0 QQ 63 (wX10 cI cJ d v g) [(0, .ref (d 0)), (1, .int x1)] [.int t2, .int t1, .ref (d 9)] := by
    intro  v g t1 t2 h
    obtain ⟨g9, h⟩ := h
    refine z_iast (pc := 63) (ws' := (wX10 cI cJ d (st v 9 t1.toNatClampNeg t2) g)) C 9 0 rfl rfl g9 dX10_tape_63 rfl sX10_a9 ?_
    refine z_iconst (pc := 64) (v := 0) C dX10_tape_64 (by decide) ?_
    refine z_istore (pc := 65) (lv' := [(4, .int (0 : Int32)), (0, .ref (d 0)), (1, .int x1)]) C dX10_tape_65 (by decide) rfl ?_
    obtain ⟨n67, h⟩ := h
    refine z_sub (lv' := [(0, .ref (d 0)), (1, .int x1), (4, .int (0 : Int32))]) [1, 2, 0] rfl ?_
    exact L67  n67 (st v 9 t1.toNatClampNeg t2) g (0 : Int32) h
  have J42 : ∀ (v : Lf) (g : Lg), pX10_tape_J42 x1 x2 x3 Q v g → ZZ p l e rmX10_tape s m args below meth c D A 5 0 0 QQ 42 (wX10 cI cJ d v g) [(0, .ref (d 0)), (1, .int x1), (2, .int x2), (3, .int x3)] [] := by
    intro  v g h
    refine z_aload_n (pc := 42) C 0 dX10_tape_42 rfl ?_
    refine z_get (pc := 43) C uw10 0 rfl rfl 12 (by decide) wq841 rfl dX10_tape_43 ?_
    refine z_iload_n (pc := 46) C 1 dX10_tape_46 rfl ?_
    refine z_iload_n (pc := 47) C 2 dX10_tape_47 rfl ?_
    obtain ⟨g7, h⟩ := h
    refine z_iast (pc := 48) (ws' := (wX10 cI cJ d (st v 8 x1.toNatClampNeg x2) g)) C 8 0 rfl rfl g7 dX10_tape_48 rfl sX10_a8 ?_
    refine z_aload_n (pc := 49) C 0 dX10_tape_49 rfl ?_
    refine z_get (pc := 50) C uw10 0 rfl rfl 13 (by decide) wq842 rfl dX10_tape_50 ?_
    refine z_iload_n (pc := 53) C 1 dX10_tape_53 rfl ?_
    refine z_iload_n (pc := 54) C 2 dX10_tape_54 rfl ?_
    refine z_if_ge (pc := 55) (tgt := 62) C dX10_tape_55 (by decide) (fun c8 => ?_) (fun c8 => ?_)
    · have h := h.1 c8
      refine z_iload_n (pc := 62) C 3 dX10_tape_62 rfl ?_
      refine z_sub (lv' := [(0, .ref (d 0)), (1, .int x1)]) [0, 1] rfl ?_
      exact J63  (st v 8 x1.toNatClampNeg x2) g x1 x3 h
    · have h := h.2 c8
      refine z_iconst (pc := 58) (v := 0) C dX10_tape_58 (by decide) ?_
      refine z_goto (pc := 59) (tgt := 63) C dX10_tape_59 (by decide) ?_
      refine z_sub (lv' := [(0, .ref (d 0)), (1, .int x1)]) [0, 1] rfl ?_
      exact J63  (st v 8 x1.toNatClampNeg x2) g x1 (0 : Int32) h
  have J31 : ∀ (v : Lf) (g : Lg), pX10_tape_J31 x1 x2 x3 Q v g → ZZ p l e rmX10_tape s m args below meth c D A 5 0 0 QQ 31 (wX10 cI cJ d v g) [(0, .ref (d 0)), (1, .int x1), (2, .int x2), (3, .int x3)] [] := by
    intro  v g h
    refine z_iload_n (pc := 31) C 2 dX10_tape_31 rfl ?_
    refine z_if_lt (pc := 32) (tgt := 42) C dX10_tape_32 (by decide) (fun c6 => ?_) (fun c6 => ?_)
    · have h := h.1 c6
      exact J42  v g h
    · have h := h.2 c6
      refine z_iload_n (pc := 35) C 3 dX10_tape_35 rfl ?_
      refine z_if_ge (pc := 36) (tgt := 42) C dX10_tape_36 (by decide) (fun c13 => ?_) (fun c13 => ?_)
      · have h := h.1 c13
        exact J42  v g h
      · have h := h.2 c13
        refine z_bipush (pc := 39) (v := -14) C dX10_tape_39 (by decide) ?_
        exact hret 41 _ _ (-14 : Int32) (v, g) rfl h dX10_tape_41
  refine z_iload_n (pc := 0) C 1 dX10_tape_0 rfl ?_
  refine z_call0i (pc := 1) C (z_runS (pc := 1) (wc := ([] : va_W)) (As := [.int x1]) C (fun sz => kX10_isTape x1 sz h) [] rfl (by decide) (gdS wq1137 wq1139 wq1140 wq814) rfl rfl rfl hdSX10_isTape ⟨Nat.le_of_ble_eq_true rfl, Nat.le_of_ble_eq_true rfl⟩ rfl (Nat.le_of_ble_eq_true rfl) ⟨Nat.zero_le _, Nat.zero_le _⟩ dX10_tape_1) (fun r1 u1 h => ?_)
  refine z_if_ne (pc := 4) (tgt := 9) C dX10_tape_4 (by decide) (fun c2 => ?_) (fun c2 => ?_)
  · have h := h.1 c2
    refine z_iload_n (pc := 9) C 2 dX10_tape_9 rfl ?_
    refine z_iconst (pc := 10) (v := -1) C dX10_tape_10 (by decide) ?_
    refine z_iconst (pc := 11) (v := 4) C dX10_tape_11 (by decide) ?_
    refine z_call0i (pc := 12) C (z_runS (pc := 12) (wc := ([] : va_W)) (As := [.int x2, .int (-1 : Int32), .int (4 : Int32)]) C (fun sz => kX10_isIn x2 (-1 : Int32) (4 : Int32) sz h) [] rfl (by decide) (gdS wq849 wq852 wq853 wq814) rfl rfl rfl hdSX10_isIn ⟨Nat.le_of_ble_eq_true rfl, Nat.le_of_ble_eq_true rfl⟩ rfl (Nat.le_of_ble_eq_true rfl) ⟨Nat.zero_le _, Nat.zero_le _⟩ dX10_tape_12) (fun r3 u3 h => ?_)
    refine z_if_eq (pc := 15) (tgt := 28) C dX10_tape_15 (by decide) (fun c4 => ?_) (fun c4 => ?_)
    · have h := h.1 c4
      refine z_bipush (pc := 28) (v := -2) C dX10_tape_28 (by decide) ?_
      exact hret 30 _ _ (-2 : Int32) (v, g) rfl h dX10_tape_30
    · have h := h.2 c4
      refine z_iload_n (pc := 18) C 2 dX10_tape_18 rfl ?_
      refine z_if_lt (pc := 19) (tgt := 31) C dX10_tape_19 (by decide) (fun c5 => ?_) (fun c5 => ?_)
      · have h := h.1 c5
        exact J31  v g h
      · have h := h.2 c5
        refine z_iload_n (pc := 22) C 3 dX10_tape_22 rfl ?_
        refine z_bipush (pc := 23) (v := 60) C dX10_tape_23 (by decide) ?_
        refine z_icmp_le (pc := 25) (tgt := 31) C dX10_tape_25 (by decide) (fun c14 => ?_) (fun c14 => ?_)
        · have h := h.1 c14
          exact J31  v g h
        · have h := h.2 c14
          refine z_bipush (pc := 28) (v := -2) C dX10_tape_28 (by decide) ?_
          exact hret 30 _ _ (-2 : Int32) (v, g) rfl h dX10_tape_30
  · have h := h.2 c2
    refine z_iconst (pc := 7) (v := -1) C dX10_tape_7 (by decide) ?_
    exact hret 8 _ _ (-1 : Int32) (v, g) rfl h dX10_tape_8

def pX10_item_J124 (v : Lf) (x1 : Int32) (x2 : Int32) (x3 : Int64) (Q : Int32 → Lg → Prop) (g : Lg) (t1 : Int32) (t2 : Int64) : Prop := (vp_in t1 360 ∧ (Q (1 : Int32) (sg g 10 t1.toNatClampNeg t2)))
def pX10_item (v : Lf) (g : Lg) (x1 : Int32) (x2 : Int32) (x3 : Int64) (Q : Int32 → Lg → Prop) : Prop := (pX10_isTape x1 (fun r1 => ((¬ r1 = 0 → (vp_in x1 6 ∧ ((0 ≤ (v 8 x1.toNatClampNeg) → (vp_in x1 6 ∧ (pX10_isIn x2 (0 : Int32) ((v 9 x1.toNatClampNeg) - (1 : Int32)) (fun r6 => ((¬ r6 = 0 → (vp_in x1 6 ∧ ((¬ (v 8 x1.toNatClampNeg) = 0 → (vp_in x1 6 ∧ ((¬ (v 8 x1.toNatClampNeg) = (1 : Int32) → (vp_in x1 6 ∧ ((¬ (v 8 x1.toNatClampNeg) = (2 : Int32) → (vp_in x1 6 ∧ ((¬ (v 8 x1.toNatClampNeg) = (3 : Int32) → (((lg_cmp x3 (0 : Int64)) = 0 → (pX10_item_J124 v x1 x2 x3 Q  g (((60 : Int32) * x1) + x2) (0 : Int64))) ∧ (¬ (lg_cmp x3 (0 : Int64)) = 0 → (pX10_item_J124 v x1 x2 x3 Q  g (((60 : Int32) * x1) + x2) (1 : Int64))))) ∧ ((v 8 x1.toNatClampNeg) = (3 : Int32) → (pX10_item_J124 v x1 x2 x3 Q  g (((60 : Int32) * x1) + x2) x3))))) ∧ ((v 8 x1.toNatClampNeg) = (2 : Int32) → (pX10_item_J124 v x1 x2 x3 Q  g (((60 : Int32) * x1) + x2) ((((x3).toInt32)).toInt64)))))) ∧ ((v 8 x1.toNatClampNeg) = (1 : Int32) → (pX10_item_J124 v x1 x2 x3 Q  g (((60 : Int32) * x1) + x2) ((((((x3).toInt32)).toInt16.toInt32)).toInt64)))))) ∧ ((v 8 x1.toNatClampNeg) = 0 → (pX10_item_J124 v x1 x2 x3 Q  g (((60 : Int32) * x1) + x2) ((((((x3).toInt32)).toInt8.toInt32)).toInt64)))))) ∧ (r6 = 0 → (Q (-13 : Int32) g))))))) ∧ (¬ 0 ≤ (v 8 x1.toNatClampNeg) → (Q (-11 : Int32) g))))) ∧ (r1 = 0 → (Q (-1 : Int32) g)))))
abbrev rmX10_item : Room := { frames := 2, cells := 0, slots := 0, locals := 42 }
abbrev wdX10_item : List Cond := Cond.code yX10_item cX10_item 5 (some .int) :: TB
theorem hdSX10_item : (yX10_item).cls ≠ "java/lang/invoke/MethodHandle" ∧ (yX10_item).cls ≠ "java/lang/invoke/VarHandle" ∧ (parseMethodDescriptor (yX10_item).desc).map (fun d => d.parameters.length) = some 3 := by decide +kernel
theorem hdX10_item : (yX10_item).cls = RX10 ∧ (yX10_item).cls ≠ "java/lang/invoke/MethodHandle" ∧ (yX10_item).cls ≠ "java/lang/invoke/VarHandle" ∧ (parseMethodDescriptor (yX10_item).desc).map (fun d => d.parameters.length) = some 3 := ⟨rfl, hdSX10_item⟩
set_option maxHeartbeats 4000000 in
set_option maxRecDepth 100000 in
theorem kX10_item {l : Launch} {D : va_G} {cI cJ cT : ClassId} (d : Nat → Nat)  (v : Lf) (g : Lg) (x1 : Int32) (x2 : Int32) (x3 : Int64) {Q : Int32 → Lg → Prop} (sz : Nat) (h : pX10_item v g x1 x2 x3 Q) : Met l yX10_item wdX10_item rmX10_item (Pz D (tyL cI cJ cT) [.ref (d 0), .int x1, .int x2, .long x3] (wX10 cI cJ d v g) sz) (va_Qi (fun (r : Int32) (u : Lg) => Q r u) (Bz D (tyL cI cJ cT) (wX10 cI cJ d v g) sz (fun (u : Lg) => (wX10 cI cJ d v u))) (va_A (wX10 cI cJ d v g) sz)) 0 0 (va_A (wX10 cI cJ d v g) sz) := by
  refine z_meti (cc := cX10_item) (maxL := 5) (own := RX10) (lv0 := [(0, .ref (d 0)), (1, .int x1), (2, .int x2), (3, .long x3)]) (by decide) rfl rfl (Nat.le_of_ble_eq_true rfl) rfl ?_
  intro p e s m args below meth c A QQ C hin hret
  have J124 : ∀ (g : Lg) (t1 : Int32) (t2 : Int64), pX10_item_J124 v x1 x2 x3 Q g t1 t2 → ZZ p l e rmX10_item s m args below meth c D A 5 0 0 QQ 124 (wX10 cI cJ d v g) [] [.long t2, .int t1, .ref (d 10)] := by
    intro  g t1 t2 h
    obtain ⟨g17, h⟩ := h
    refine z_last (pc := 124) (ws' := (wX10 cI cJ d v (sg g 10 t1.toNatClampNeg t2))) C 10 1 rfl rfl g17 dX10_item_124 rfl sX10_a10 ?_
    refine z_iconst (pc := 125) (v := 1) C dX10_item_125 (by decide) ?_
    exact hret 126 _ _ (1 : Int32) (sg g 10 t1.toNatClampNeg t2) rfl h dX10_item_126
  refine z_iload_n (pc := 0) C 1 dX10_item_0 rfl ?_
  refine z_call0i (pc := 1) C (z_runS (pc := 1) (wc := ([] : va_W)) (As := [.int x1]) C (fun sz => kX10_isTape x1 sz h) [] rfl (by decide) (gdS wq1137 wq1139 wq1140 wq814) rfl rfl rfl hdSX10_isTape ⟨Nat.le_of_ble_eq_true rfl, Nat.le_of_ble_eq_true rfl⟩ rfl (Nat.le_of_ble_eq_true rfl) ⟨Nat.zero_le _, Nat.zero_le _⟩ dX10_item_1) (fun r1 u1 h => ?_)
  refine z_if_ne (pc := 4) (tgt := 9) C dX10_item_4 (by decide) (fun c2 => ?_) (fun c2 => ?_)
  · have h := h.1 c2
    refine z_aload_n (pc := 9) C 0 dX10_item_9 rfl ?_
    refine z_get (pc := 10) C uw10 0 rfl rfl 12 (by decide) wq841 rfl dX10_item_10 ?_
    refine z_iload_n (pc := 13) C 1 dX10_item_13 rfl ?_
    obtain ⟨g3, h⟩ := h
    refine z_iald (pc := 14) C 8 0 rfl rfl g3 (v 8 x1.toNatClampNeg) rfl dX10_item_14 ?_
    refine z_if_ge (pc := 15) (tgt := 21) C dX10_item_15 (by decide) (fun c4 => ?_) (fun c4 => ?_)
    · have h := h.1 c4
      refine z_iload_n (pc := 21) C 2 dX10_item_21 rfl ?_
      refine z_iconst (pc := 22) (v := 0) C dX10_item_22 (by decide) ?_
      refine z_aload_n (pc := 23) C 0 dX10_item_23 rfl ?_
      refine z_get (pc := 24) C uw10 0 rfl rfl 13 (by decide) wq842 rfl dX10_item_24 ?_
      refine z_iload_n (pc := 27) C 1 dX10_item_27 rfl ?_
      obtain ⟨g5, h⟩ := h
      refine z_iald (pc := 28) C 9 0 rfl rfl g5 (v 9 x1.toNatClampNeg) rfl dX10_item_28 ?_
      refine z_iconst (pc := 29) (v := 1) C dX10_item_29 (by decide) ?_
      refine z_isub (pc := 30) C dX10_item_30 ?_
      refine z_call0i (pc := 31) C (z_runS (pc := 31) (wc := ([] : va_W)) (As := [.int x2, .int (0 : Int32), .int ((v 9 x1.toNatClampNeg) - (1 : Int32))]) C (fun sz => kX10_isIn x2 (0 : Int32) ((v 9 x1.toNatClampNeg) - (1 : Int32)) sz h) [] rfl (by decide) (gdS wq849 wq852 wq853 wq814) rfl rfl rfl hdSX10_isIn ⟨Nat.le_of_ble_eq_true rfl, Nat.le_of_ble_eq_true rfl⟩ rfl (Nat.le_of_ble_eq_true rfl) ⟨Nat.zero_le _, Nat.zero_le _⟩ dX10_item_31) (fun r6 u6 h => ?_)
      refine z_if_ne (pc := 34) (tgt := 40) C dX10_item_34 (by decide) (fun c7 => ?_) (fun c7 => ?_)
      · have h := h.1 c7
        refine z_aload_n (pc := 40) C 0 dX10_item_40 rfl ?_
        refine z_get (pc := 41) C uw10 0 rfl rfl 14 (by decide) wq843 rfl dX10_item_41 ?_
        refine z_bipush (pc := 44) (v := 60) C dX10_item_44 (by decide) ?_
        refine z_iload_n (pc := 46) C 1 dX10_item_46 rfl ?_
        refine z_imul (pc := 47) C dX10_item_47 ?_
        refine z_iload_n (pc := 48) C 2 dX10_item_48 rfl ?_
        refine z_iadd (pc := 49) C dX10_item_49 ?_
        refine z_aload_n (pc := 50) C 0 dX10_item_50 rfl ?_
        refine z_get (pc := 51) C uw10 0 rfl rfl 12 (by decide) wq841 rfl dX10_item_51 ?_
        refine z_iload_n (pc := 54) C 1 dX10_item_54 rfl ?_
        obtain ⟨g8, h⟩ := h
        refine z_iald (pc := 55) C 8 0 rfl rfl g8 (v 8 x1.toNatClampNeg) rfl dX10_item_55 ?_
        refine z_if_ne (pc := 56) (tgt := 66) C dX10_item_56 (by decide) (fun c9 => ?_) (fun c9 => ?_)
        · have h := h.1 c9
          refine z_aload_n (pc := 66) C 0 dX10_item_66 rfl ?_
          refine z_get (pc := 67) C uw10 0 rfl rfl 12 (by decide) wq841 rfl dX10_item_67 ?_
          refine z_iload_n (pc := 70) C 1 dX10_item_70 rfl ?_
          obtain ⟨g10, h⟩ := h
          refine z_iald (pc := 71) C 8 0 rfl rfl g10 (v 8 x1.toNatClampNeg) rfl dX10_item_71 ?_
          refine z_iconst (pc := 72) (v := 1) C dX10_item_72 (by decide) ?_
          refine z_icmp_ne (pc := 73) (tgt := 83) C dX10_item_73 (by decide) (fun c11 => ?_) (fun c11 => ?_)
          · have h := h.1 c11
            refine z_aload_n (pc := 83) C 0 dX10_item_83 rfl ?_
            refine z_get (pc := 84) C uw10 0 rfl rfl 12 (by decide) wq841 rfl dX10_item_84 ?_
            refine z_iload_n (pc := 87) C 1 dX10_item_87 rfl ?_
            obtain ⟨g12, h⟩ := h
            refine z_iald (pc := 88) C 8 0 rfl rfl g12 (v 8 x1.toNatClampNeg) rfl dX10_item_88 ?_
            refine z_iconst (pc := 89) (v := 2) C dX10_item_89 (by decide) ?_
            refine z_icmp_ne (pc := 90) (tgt := 99) C dX10_item_90 (by decide) (fun c13 => ?_) (fun c13 => ?_)
            · have h := h.1 c13
              refine z_aload_n (pc := 99) C 0 dX10_item_99 rfl ?_
              refine z_get (pc := 100) C uw10 0 rfl rfl 12 (by decide) wq841 rfl dX10_item_100 ?_
              refine z_iload_n (pc := 103) C 1 dX10_item_103 rfl ?_
              obtain ⟨g14, h⟩ := h
              refine z_iald (pc := 104) C 8 0 rfl rfl g14 (v 8 x1.toNatClampNeg) rfl dX10_item_104 ?_
              refine z_iconst (pc := 105) (v := 3) C dX10_item_105 (by decide) ?_
              refine z_icmp_ne (pc := 106) (tgt := 113) C dX10_item_106 (by decide) (fun c15 => ?_) (fun c15 => ?_)
              · have h := h.1 c15
                refine z_lload_n (pc := 113) C 3 dX10_item_113 rfl ?_
                refine z_lconst (pc := 114) (v := 0) C dX10_item_114 (by decide) ?_
                refine z_lcmp (pc := 115) C dX10_item_115 ?_
                refine z_if_eq (pc := 116) (tgt := 123) C dX10_item_116 (by decide) (fun c16 => ?_) (fun c16 => ?_)
                · have h := h.1 c16
                  refine z_lconst (pc := 123) (v := 0) C dX10_item_123 (by decide) ?_
                  refine z_sub (lv' := []) [] rfl ?_
                  exact J124  g (((60 : Int32) * x1) + x2) (0 : Int64) h
                · have h := h.2 c16
                  refine z_lconst (pc := 119) (v := 1) C dX10_item_119 (by decide) ?_
                  refine z_goto (pc := 120) (tgt := 124) C dX10_item_120 (by decide) ?_
                  refine z_sub (lv' := []) [] rfl ?_
                  exact J124  g (((60 : Int32) * x1) + x2) (1 : Int64) h
              · have h := h.2 c15
                refine z_lload_n (pc := 109) C 3 dX10_item_109 rfl ?_
                refine z_goto (pc := 110) (tgt := 124) C dX10_item_110 (by decide) ?_
                refine z_sub (lv' := []) [] rfl ?_
                exact J124  g (((60 : Int32) * x1) + x2) x3 h
            · have h := h.2 c13
              refine z_lload_n (pc := 93) C 3 dX10_item_93 rfl ?_
              refine z_l2i (pc := 94) C dX10_item_94 ?_
              refine z_i2l (pc := 95) C dX10_item_95 ?_
              refine z_goto (pc := 96) (tgt := 124) C dX10_item_96 (by decide) ?_
              refine z_sub (lv' := []) [] rfl ?_
              exact J124  g (((60 : Int32) * x1) + x2) ((((x3).toInt32)).toInt64) h
          · have h := h.2 c11
            refine z_lload_n (pc := 76) C 3 dX10_item_76 rfl ?_
            refine z_l2i (pc := 77) C dX10_item_77 ?_
            refine z_i2s (pc := 78) C dX10_item_78 ?_
            refine z_i2l (pc := 79) C dX10_item_79 ?_
            refine z_goto (pc := 80) (tgt := 124) C dX10_item_80 (by decide) ?_
            refine z_sub (lv' := []) [] rfl ?_
            exact J124  g (((60 : Int32) * x1) + x2) ((((((x3).toInt32)).toInt16.toInt32)).toInt64) h
        · have h := h.2 c9
          refine z_lload_n (pc := 59) C 3 dX10_item_59 rfl ?_
          refine z_l2i (pc := 60) C dX10_item_60 ?_
          refine z_i2b (pc := 61) C dX10_item_61 ?_
          refine z_i2l (pc := 62) C dX10_item_62 ?_
          refine z_goto (pc := 63) (tgt := 124) C dX10_item_63 (by decide) ?_
          refine z_sub (lv' := []) [] rfl ?_
          exact J124  g (((60 : Int32) * x1) + x2) ((((((x3).toInt32)).toInt8.toInt32)).toInt64) h
      · have h := h.2 c7
        refine z_bipush (pc := 37) (v := -13) C dX10_item_37 (by decide) ?_
        exact hret 39 _ _ (-13 : Int32) g rfl h dX10_item_39
    · have h := h.2 c4
      refine z_bipush (pc := 18) (v := -11) C dX10_item_18 (by decide) ?_
      exact hret 20 _ _ (-11 : Int32) g rfl h dX10_item_20
  · have h := h.2 c2
    refine z_iconst (pc := 7) (v := -1) C dX10_item_7 (by decide) ?_
    exact hret 8 _ _ (-1 : Int32) g rfl h dX10_item_8

def pX10_peek (v : Lf) (g : Lg) (x1 : Int32) (x2 : Int32) (Q : Int64 → Prop) : Prop := (pX10_isTape x1 (fun r1 => ((r1 = 0 → (Q (-9223372036854775808 : Int64) )) ∧ (¬ r1 = 0 → (vp_in x1 6 ∧ (((v 8 x1.toNatClampNeg) < 0 → (Q (-9223372036854775808 : Int64) )) ∧ (¬ (v 8 x1.toNatClampNeg) < 0 → (vp_in x1 6 ∧ (pX10_isIn x2 (0 : Int32) ((v 9 x1.toNatClampNeg) - (1 : Int32)) (fun r6 => ((r6 = 0 → (Q (-9223372036854775808 : Int64) )) ∧ (¬ r6 = 0 → (vp_in (((60 : Int32) * x1) + x2) 360 ∧ (Q (g 10 (((60 : Int32) * x1) + x2).toNatClampNeg) ))))))))))))))
abbrev rmX10_peek : Room := { frames := 2, cells := 0, slots := 0, locals := 42 }
abbrev wdX10_peek : List Cond := Cond.code yX10_peek cX10_peek 3 (some .long) :: TB
theorem hdSX10_peek : (yX10_peek).cls ≠ "java/lang/invoke/MethodHandle" ∧ (yX10_peek).cls ≠ "java/lang/invoke/VarHandle" ∧ (parseMethodDescriptor (yX10_peek).desc).map (fun d => d.parameters.length) = some 2 := by decide +kernel
theorem hdX10_peek : (yX10_peek).cls = RX10 ∧ (yX10_peek).cls ≠ "java/lang/invoke/MethodHandle" ∧ (yX10_peek).cls ≠ "java/lang/invoke/VarHandle" ∧ (parseMethodDescriptor (yX10_peek).desc).map (fun d => d.parameters.length) = some 2 := ⟨rfl, hdSX10_peek⟩
set_option maxHeartbeats 4000000 in
set_option maxRecDepth 100000 in
theorem kX10_peek {l : Launch} {D : va_G} {cI cJ cT : ClassId} (d : Nat → Nat)  (v : Lf) (g : Lg) (x1 : Int32) (x2 : Int32) {Q : Int64 → Prop} (sz : Nat) (h : pX10_peek v g x1 x2 Q) : Met l yX10_peek wdX10_peek rmX10_peek (Pz D (tyL cI cJ cT) [.ref (d 0), .int x1, .int x2] (wX10 cI cJ d v g) sz) (va_Ql (fun (r : Int64) (u : Unit) => Q r) (Bz D (tyL cI cJ cT) (wX10 cI cJ d v g) sz (fun (u : Unit) => (wX10 cI cJ d v g))) (va_A (wX10 cI cJ d v g) sz)) 0 0 (va_A (wX10 cI cJ d v g) sz) := by
  refine z_metl (cc := cX10_peek) (maxL := 3) (own := RX10) (lv0 := [(0, .ref (d 0)), (1, .int x1), (2, .int x2)]) (by decide) rfl rfl (Nat.le_of_ble_eq_true rfl) rfl ?_
  intro p e s m args below meth c A QQ C hin hret
  refine z_iload_n (pc := 0) C 1 dX10_peek_0 rfl ?_
  refine z_call0i (pc := 1) C (z_runS (pc := 1) (wc := ([] : va_W)) (As := [.int x1]) C (fun sz => kX10_isTape x1 sz h) [] rfl (by decide) (gdS wq1137 wq1139 wq1140 wq814) rfl rfl rfl hdSX10_isTape ⟨Nat.le_of_ble_eq_true rfl, Nat.le_of_ble_eq_true rfl⟩ rfl (Nat.le_of_ble_eq_true rfl) ⟨Nat.zero_le _, Nat.zero_le _⟩ dX10_peek_1) (fun r1 u1 h => ?_)
  refine z_if_eq (pc := 4) (tgt := 46) C dX10_peek_4 (by decide) (fun c2 => ?_) (fun c2 => ?_)
  · have h := h.1 c2
    refine z_ldc2 (pc := 46) C wq1120 dX10_peek_46 ?_
    exact hret 49 _ _ (-9223372036854775808 : Int64) () rfl h dX10_peek_49
  · have h := h.2 c2
    refine z_aload_n (pc := 7) C 0 dX10_peek_7 rfl ?_
    refine z_get (pc := 8) C uw10 0 rfl rfl 12 (by decide) wq841 rfl dX10_peek_8 ?_
    refine z_iload_n (pc := 11) C 1 dX10_peek_11 rfl ?_
    obtain ⟨g3, h⟩ := h
    refine z_iald (pc := 12) C 8 0 rfl rfl g3 (v 8 x1.toNatClampNeg) rfl dX10_peek_12 ?_
    refine z_if_lt (pc := 13) (tgt := 46) C dX10_peek_13 (by decide) (fun c4 => ?_) (fun c4 => ?_)
    · have h := h.1 c4
      refine z_ldc2 (pc := 46) C wq1120 dX10_peek_46 ?_
      exact hret 49 _ _ (-9223372036854775808 : Int64) () rfl h dX10_peek_49
    · have h := h.2 c4
      refine z_iload_n (pc := 16) C 2 dX10_peek_16 rfl ?_
      refine z_iconst (pc := 17) (v := 0) C dX10_peek_17 (by decide) ?_
      refine z_aload_n (pc := 18) C 0 dX10_peek_18 rfl ?_
      refine z_get (pc := 19) C uw10 0 rfl rfl 13 (by decide) wq842 rfl dX10_peek_19 ?_
      refine z_iload_n (pc := 22) C 1 dX10_peek_22 rfl ?_
      obtain ⟨g5, h⟩ := h
      refine z_iald (pc := 23) C 9 0 rfl rfl g5 (v 9 x1.toNatClampNeg) rfl dX10_peek_23 ?_
      refine z_iconst (pc := 24) (v := 1) C dX10_peek_24 (by decide) ?_
      refine z_isub (pc := 25) C dX10_peek_25 ?_
      refine z_call0i (pc := 26) C (z_runS (pc := 26) (wc := ([] : va_W)) (As := [.int x2, .int (0 : Int32), .int ((v 9 x1.toNatClampNeg) - (1 : Int32))]) C (fun sz => kX10_isIn x2 (0 : Int32) ((v 9 x1.toNatClampNeg) - (1 : Int32)) sz h) [] rfl (by decide) (gdS wq849 wq852 wq853 wq814) rfl rfl rfl hdSX10_isIn ⟨Nat.le_of_ble_eq_true rfl, Nat.le_of_ble_eq_true rfl⟩ rfl (Nat.le_of_ble_eq_true rfl) ⟨Nat.zero_le _, Nat.zero_le _⟩ dX10_peek_26) (fun r6 u6 h => ?_)
      refine z_if_eq (pc := 29) (tgt := 46) C dX10_peek_29 (by decide) (fun c7 => ?_) (fun c7 => ?_)
      · have h := h.1 c7
        refine z_ldc2 (pc := 46) C wq1120 dX10_peek_46 ?_
        exact hret 49 _ _ (-9223372036854775808 : Int64) () rfl h dX10_peek_49
      · have h := h.2 c7
        refine z_aload_n (pc := 32) C 0 dX10_peek_32 rfl ?_
        refine z_get (pc := 33) C uw10 0 rfl rfl 14 (by decide) wq843 rfl dX10_peek_33 ?_
        refine z_bipush (pc := 36) (v := 60) C dX10_peek_36 (by decide) ?_
        refine z_iload_n (pc := 38) C 1 dX10_peek_38 rfl ?_
        refine z_imul (pc := 39) C dX10_peek_39 ?_
        refine z_iload_n (pc := 40) C 2 dX10_peek_40 rfl ?_
        refine z_iadd (pc := 41) C dX10_peek_41 ?_
        obtain ⟨g8, h⟩ := h
        refine z_lald (pc := 42) C 10 1 rfl rfl g8 (g 10 (((60 : Int32) * x1) + x2).toNatClampNeg) rfl dX10_peek_42 ?_
        refine z_goto (pc := 43) (tgt := 49) C dX10_peek_43 (by decide) ?_
        exact hret 49 _ _ (g 10 (((60 : Int32) * x1) + x2).toNatClampNeg) () rfl h dX10_peek_49

def pX10_shift_L139 (v : Lf) (x1 : Int32) (x2 : Int32) (x3 : Int32) (x4 : Int32) (x5 : Int32) (Q : Int32 → Lg → Prop) : Nat → Lg → Int32 → Prop
  | 0, _, _ => False
  | n139 + 1, g, x6 => ((x5 ≤ x6 → (Q x5 g)) ∧ (¬ x5 ≤ x6 → (vp_in x6 60 ∧ (vp_in ((((60 : Int32) * x3) + x4) + x6) 360 ∧ (pX10_shift_L139 v x1 x2 x3 x4 x5 Q n139 (sg g 10 (((((60 : Int32) * x3) + x4) + x6).toNatClampNeg) (g 11 x6.toNatClampNeg)) (x6 + 1))))))
def pX10_shift_L102 (v : Lf) (x1 : Int32) (x2 : Int32) (x3 : Int32) (x4 : Int32) (x5 : Int32) (Q : Int32 → Lg → Prop) : Nat → Lg → Int32 → Prop
  | 0, _, _ => False
  | n102 + 1, g, x6 => ((x5 ≤ x6 → (∃ n139, pX10_shift_L139 v x1 x2 x3 x4 x5 Q  n139 g (0 : Int32))) ∧ (¬ x5 ≤ x6 → (vp_in ((((60 : Int32) * x1) + x2) + x6) 360 ∧ (vp_in x6 60 ∧ (pX10_shift_L102 v x1 x2 x3 x4 x5 Q n102 (sg g 11 x6.toNatClampNeg (g 10 ((((60 : Int32) * x1) + x2) + x6).toNatClampNeg)) (x6 + 1))))))
def pX10_shift (v : Lf) (g : Lg) (x1 : Int32) (x2 : Int32) (x3 : Int32) (x4 : Int32) (x5 : Int32) (Q : Int32 → Lg → Prop) : Prop := (pX10_isTape x1 (fun r1 => ((r1 = 0 → (Q (-1 : Int32) g)) ∧ (¬ r1 = 0 → (pX10_isTape x3 (fun r3 => ((¬ r3 = 0 → (vp_in x1 6 ∧ (((v 8 x1.toNatClampNeg) < 0 → (Q (-11 : Int32) g)) ∧ (¬ (v 8 x1.toNatClampNeg) < 0 → (vp_in x3 6 ∧ ((0 ≤ (v 8 x3.toNatClampNeg) → (vp_in x1 6 ∧ (vp_in x3 6 ∧ (((v 8 x1.toNatClampNeg) = (v 8 x3.toNatClampNeg) → ((x5 < 0 → (Q (-13 : Int32) g)) ∧ (¬ x5 < 0 → ((x2 < 0 → (Q (-13 : Int32) g)) ∧ (¬ x2 < 0 → ((x4 < 0 → (Q (-13 : Int32) g)) ∧ (¬ x4 < 0 → (vp_in x1 6 ∧ ((((v 9 x1.toNatClampNeg) - x2) < x5 → (Q (-13 : Int32) g)) ∧ (¬ ((v 9 x1.toNatClampNeg) - x2) < x5 → (vp_in x3 6 ∧ ((x5 ≤ ((v 9 x3.toNatClampNeg) - x4) → (∃ n102, pX10_shift_L102 v x1 x2 x3 x4 x5 Q  n102 g (0 : Int32))) ∧ (¬ x5 ≤ ((v 9 x3.toNatClampNeg) - x4) → (Q (-13 : Int32) g)))))))))))))) ∧ (¬ (v 8 x1.toNatClampNeg) = (v 8 x3.toNatClampNeg) → (Q (-12 : Int32) g)))))) ∧ (¬ 0 ≤ (v 8 x3.toNatClampNeg) → (Q (-11 : Int32) g)))))))) ∧ (r3 = 0 → (Q (-1 : Int32) g)))))))))
abbrev rmX10_shift : Room := { frames := 2, cells := 0, slots := 0, locals := 42 }
abbrev wdX10_shift : List Cond := Cond.code yX10_shift cX10_shift 7 (some .int) :: TB
theorem hdSX10_shift : (yX10_shift).cls ≠ "java/lang/invoke/MethodHandle" ∧ (yX10_shift).cls ≠ "java/lang/invoke/VarHandle" ∧ (parseMethodDescriptor (yX10_shift).desc).map (fun d => d.parameters.length) = some 5 := by decide +kernel
theorem hdX10_shift : (yX10_shift).cls = RX10 ∧ (yX10_shift).cls ≠ "java/lang/invoke/MethodHandle" ∧ (yX10_shift).cls ≠ "java/lang/invoke/VarHandle" ∧ (parseMethodDescriptor (yX10_shift).desc).map (fun d => d.parameters.length) = some 5 := ⟨rfl, hdSX10_shift⟩
set_option maxHeartbeats 4000000 in
set_option maxRecDepth 100000 in
theorem kX10_shift {l : Launch} {D : va_G} {cI cJ cT : ClassId} (d : Nat → Nat)  (v : Lf) (g : Lg) (x1 : Int32) (x2 : Int32) (x3 : Int32) (x4 : Int32) (x5 : Int32) {Q : Int32 → Lg → Prop} (sz : Nat) (h : pX10_shift v g x1 x2 x3 x4 x5 Q) : Met l yX10_shift wdX10_shift rmX10_shift (Pz D (tyL cI cJ cT) [.ref (d 0), .int x1, .int x2, .int x3, .int x4, .int x5] (wX10 cI cJ d v g) sz) (va_Qi (fun (r : Int32) (u : Lg) => Q r u) (Bz D (tyL cI cJ cT) (wX10 cI cJ d v g) sz (fun (u : Lg) => (wX10 cI cJ d v u))) (va_A (wX10 cI cJ d v g) sz)) 0 0 (va_A (wX10 cI cJ d v g) sz) := by
  refine z_meti (cc := cX10_shift) (maxL := 7) (own := RX10) (lv0 := [(0, .ref (d 0)), (1, .int x1), (2, .int x2), (3, .int x3), (4, .int x4), (5, .int x5)]) (by decide) rfl rfl (Nat.le_of_ble_eq_true rfl) rfl ?_
  intro p e s m args below meth c A QQ C hin hret
  have L139 : ∀ (n139 : Nat) (g : Lg) (x6 : Int32), pX10_shift_L139 v x1 x2 x3 x4 x5 Q n139 g x6 → ZZ p l e rmX10_shift s m args below meth c D A 7 0 0 QQ 139 (wX10 cI cJ d v g) [(0, .ref (d 0)), (3, .int x3), (4, .int x4), (5, .int x5), (6, .int x6)] [] := by
    intro n139
    induction n139 with
    | zero => intro g x6 h; exact False.elim h
    | succ n139 ih139 =>
      intro g x6 h
      refine z_iload (pc := 139) C 4 dX10_shift_139 rfl ?_
      refine z_iload (pc := 141) C 3 dX10_shift_141 rfl ?_
      refine z_icmp_ge (pc := 143) (tgt := 174) C dX10_shift_143 (by decide) (fun c20 => ?_) (fun c20 => ?_)
      · have h := h.1 c20
        refine z_iload (pc := 174) C 3 dX10_shift_174 rfl ?_
        exact hret 176 _ _ x5 g rfl h dX10_shift_176
      · have h := h.2 c20
        refine z_aload_n (pc := 146) C 0 dX10_shift_146 rfl ?_
        refine z_get (pc := 147) C uw10 0 rfl rfl 14 (by decide) wq843 rfl dX10_shift_147 ?_
        refine z_bipush (pc := 150) (v := 60) C dX10_shift_150 (by decide) ?_
        refine z_iload_n (pc := 152) C 1 dX10_shift_152 rfl ?_
        refine z_imul (pc := 153) C dX10_shift_153 ?_
        refine z_iload (pc := 154) C 2 dX10_shift_154 rfl ?_
        refine z_iadd (pc := 156) C dX10_shift_156 ?_
        refine z_iload (pc := 157) C 4 dX10_shift_157 rfl ?_
        refine z_iadd (pc := 159) C dX10_shift_159 ?_
        refine z_aload_n (pc := 160) C 0 dX10_shift_160 rfl ?_
        refine z_get (pc := 161) C uw10 0 rfl rfl 15 (by decide) wq844 rfl dX10_shift_161 ?_
        refine z_iload (pc := 164) C 4 dX10_shift_164 rfl ?_
        obtain ⟨g21, h⟩ := h
        refine z_lald (pc := 166) C 11 1 rfl rfl g21 (g 11 x6.toNatClampNeg) rfl dX10_shift_166 ?_
        obtain ⟨g22, h⟩ := h
        refine z_last (pc := 167) (ws' := (wX10 cI cJ d v (sg g 10 (((((60 : Int32) * x3) + x4) + x6).toNatClampNeg) (g 11 x6.toNatClampNeg)))) C 10 1 rfl rfl g22 dX10_shift_167 rfl sX10_a10 ?_
        refine z_iinc (pc := 168) (v := (x6 + 1)) (lv' := [(6, .int (x6 + 1)), (0, .ref (d 0)), (3, .int x3), (4, .int x4), (5, .int x5)]) C 4 dX10_shift_168 rfl rfl (by decide) rfl ?_
        refine z_goto (pc := 171) (tgt := 139) C dX10_shift_171 (by decide) ?_
        refine z_sub (lv' := [(0, .ref (d 0)), (3, .int x3), (4, .int x4), (5, .int x5), (6, .int (x6 + 1))]) [1, 2, 3, 4, 0] rfl ?_
        exact ih139 (sg g 10 (((((60 : Int32) * x3) + x4) + x6).toNatClampNeg) (g 11 x6.toNatClampNeg)) (x6 + 1) h
  have L102 : ∀ (n102 : Nat) (g : Lg) (x6 : Int32), pX10_shift_L102 v x1 x2 x3 x4 x5 Q n102 g x6 → ZZ p l e rmX10_shift s m args below meth c D A 7 0 0 QQ 102 (wX10 cI cJ d v g) [(0, .ref (d 0)), (1, .int x1), (2, .int x2), (3, .int x3), (4, .int x4), (5, .int x5), (6, .int x6)] [] := by
    intro n102
    induction n102 with
    | zero => intro g x6 h; exact False.elim h
    | succ n102 ih102 =>
      intro g x6 h
      refine z_iload (pc := 102) C 6 dX10_shift_102 rfl ?_
      refine z_iload (pc := 104) C 5 dX10_shift_104 rfl ?_
      refine z_icmp_ge (pc := 106) (tgt := 136) C dX10_shift_106 (by decide) (fun c19 => ?_) (fun c19 => ?_)
      · have h := h.1 c19
        refine z_iconst (pc := 136) (v := 0) C dX10_shift_136 (by decide) ?_
        refine z_istore (pc := 137) (lv' := [(6, .int (0 : Int32)), (0, .ref (d 0)), (1, .int x1), (2, .int x2), (3, .int x3), (4, .int x4), (5, .int x5)]) C dX10_shift_137 (by decide) rfl ?_
        obtain ⟨n139, h⟩ := h
        refine z_sub (lv' := [(0, .ref (d 0)), (3, .int x3), (4, .int x4), (5, .int x5), (6, .int (0 : Int32))]) [1, 4, 5, 6, 0] rfl ?_
        exact L139  n139 g (0 : Int32) h
      · have h := h.2 c19
        refine z_aload_n (pc := 109) C 0 dX10_shift_109 rfl ?_
        refine z_get (pc := 110) C uw10 0 rfl rfl 15 (by decide) wq844 rfl dX10_shift_110 ?_
        refine z_iload (pc := 113) C 6 dX10_shift_113 rfl ?_
        refine z_aload_n (pc := 115) C 0 dX10_shift_115 rfl ?_
        refine z_get (pc := 116) C uw10 0 rfl rfl 14 (by decide) wq843 rfl dX10_shift_116 ?_
        refine z_bipush (pc := 119) (v := 60) C dX10_shift_119 (by decide) ?_
        refine z_iload_n (pc := 121) C 1 dX10_shift_121 rfl ?_
        refine z_imul (pc := 122) C dX10_shift_122 ?_
        refine z_iload_n (pc := 123) C 2 dX10_shift_123 rfl ?_
        refine z_iadd (pc := 124) C dX10_shift_124 ?_
        refine z_iload (pc := 125) C 6 dX10_shift_125 rfl ?_
        refine z_iadd (pc := 127) C dX10_shift_127 ?_
        obtain ⟨g23, h⟩ := h
        refine z_lald (pc := 128) C 10 1 rfl rfl g23 (g 10 ((((60 : Int32) * x1) + x2) + x6).toNatClampNeg) rfl dX10_shift_128 ?_
        obtain ⟨g24, h⟩ := h
        refine z_last (pc := 129) (ws' := (wX10 cI cJ d v (sg g 11 x6.toNatClampNeg (g 10 ((((60 : Int32) * x1) + x2) + x6).toNatClampNeg)))) C 11 1 rfl rfl g24 dX10_shift_129 rfl sX10_a11 ?_
        refine z_iinc (pc := 130) (v := (x6 + 1)) (lv' := [(6, .int (x6 + 1)), (0, .ref (d 0)), (1, .int x1), (2, .int x2), (3, .int x3), (4, .int x4), (5, .int x5)]) C 6 dX10_shift_130 rfl rfl (by decide) rfl ?_
        refine z_goto (pc := 133) (tgt := 102) C dX10_shift_133 (by decide) ?_
        refine z_sub (lv' := [(0, .ref (d 0)), (1, .int x1), (2, .int x2), (3, .int x3), (4, .int x4), (5, .int x5), (6, .int (x6 + 1))]) [1, 2, 3, 4, 5, 6, 0] rfl ?_
        exact ih102 (sg g 11 x6.toNatClampNeg (g 10 ((((60 : Int32) * x1) + x2) + x6).toNatClampNeg)) (x6 + 1) h
  refine z_iload_n (pc := 0) C 1 dX10_shift_0 rfl ?_
  refine z_call0i (pc := 1) C (z_runS (pc := 1) (wc := ([] : va_W)) (As := [.int x1]) C (fun sz => kX10_isTape x1 sz h) [] rfl (by decide) (gdS wq1137 wq1139 wq1140 wq814) rfl rfl rfl hdSX10_isTape ⟨Nat.le_of_ble_eq_true rfl, Nat.le_of_ble_eq_true rfl⟩ rfl (Nat.le_of_ble_eq_true rfl) ⟨Nat.zero_le _, Nat.zero_le _⟩ dX10_shift_1) (fun r1 u1 h => ?_)
  refine z_if_eq (pc := 4) (tgt := 14) C dX10_shift_4 (by decide) (fun c2 => ?_) (fun c2 => ?_)
  · have h := h.1 c2
    refine z_iconst (pc := 14) (v := -1) C dX10_shift_14 (by decide) ?_
    exact hret 15 _ _ (-1 : Int32) g rfl h dX10_shift_15
  · have h := h.2 c2
    refine z_iload_n (pc := 7) C 3 dX10_shift_7 rfl ?_
    refine z_call0i (pc := 8) C (z_runS (pc := 8) (wc := ([] : va_W)) (As := [.int x3]) C (fun sz => kX10_isTape x3 sz h) [] rfl (by decide) (gdS wq1137 wq1139 wq1140 wq814) rfl rfl rfl hdSX10_isTape ⟨Nat.le_of_ble_eq_true rfl, Nat.le_of_ble_eq_true rfl⟩ rfl (Nat.le_of_ble_eq_true rfl) ⟨Nat.zero_le _, Nat.zero_le _⟩ dX10_shift_8) (fun r3 u3 h => ?_)
    refine z_if_ne (pc := 11) (tgt := 16) C dX10_shift_11 (by decide) (fun c4 => ?_) (fun c4 => ?_)
    · have h := h.1 c4
      refine z_aload_n (pc := 16) C 0 dX10_shift_16 rfl ?_
      refine z_get (pc := 17) C uw10 0 rfl rfl 12 (by decide) wq841 rfl dX10_shift_17 ?_
      refine z_iload_n (pc := 20) C 1 dX10_shift_20 rfl ?_
      obtain ⟨g5, h⟩ := h
      refine z_iald (pc := 21) C 8 0 rfl rfl g5 (v 8 x1.toNatClampNeg) rfl dX10_shift_21 ?_
      refine z_if_lt (pc := 22) (tgt := 34) C dX10_shift_22 (by decide) (fun c6 => ?_) (fun c6 => ?_)
      · have h := h.1 c6
        refine z_bipush (pc := 34) (v := -11) C dX10_shift_34 (by decide) ?_
        exact hret 36 _ _ (-11 : Int32) g rfl h dX10_shift_36
      · have h := h.2 c6
        refine z_aload_n (pc := 25) C 0 dX10_shift_25 rfl ?_
        refine z_get (pc := 26) C uw10 0 rfl rfl 12 (by decide) wq841 rfl dX10_shift_26 ?_
        refine z_iload_n (pc := 29) C 3 dX10_shift_29 rfl ?_
        obtain ⟨g7, h⟩ := h
        refine z_iald (pc := 30) C 8 0 rfl rfl g7 (v 8 x3.toNatClampNeg) rfl dX10_shift_30 ?_
        refine z_if_ge (pc := 31) (tgt := 37) C dX10_shift_31 (by decide) (fun c8 => ?_) (fun c8 => ?_)
        · have h := h.1 c8
          refine z_aload_n (pc := 37) C 0 dX10_shift_37 rfl ?_
          refine z_get (pc := 38) C uw10 0 rfl rfl 12 (by decide) wq841 rfl dX10_shift_38 ?_
          refine z_iload_n (pc := 41) C 1 dX10_shift_41 rfl ?_
          obtain ⟨g9, h⟩ := h
          refine z_iald (pc := 42) C 8 0 rfl rfl g9 (v 8 x1.toNatClampNeg) rfl dX10_shift_42 ?_
          refine z_aload_n (pc := 43) C 0 dX10_shift_43 rfl ?_
          refine z_get (pc := 44) C uw10 0 rfl rfl 12 (by decide) wq841 rfl dX10_shift_44 ?_
          refine z_iload_n (pc := 47) C 3 dX10_shift_47 rfl ?_
          obtain ⟨g10, h⟩ := h
          refine z_iald (pc := 48) C 8 0 rfl rfl g10 (v 8 x3.toNatClampNeg) rfl dX10_shift_48 ?_
          refine z_icmp_eq (pc := 49) (tgt := 55) C dX10_shift_49 (by decide) (fun c11 => ?_) (fun c11 => ?_)
          · have h := h.1 c11
            refine z_iload (pc := 55) C 5 dX10_shift_55 rfl ?_
            refine z_if_lt (pc := 57) (tgt := 96) C dX10_shift_57 (by decide) (fun c12 => ?_) (fun c12 => ?_)
            · have h := h.1 c12
              refine z_bipush (pc := 96) (v := -13) C dX10_shift_96 (by decide) ?_
              exact hret 98 _ _ (-13 : Int32) g rfl h dX10_shift_98
            · have h := h.2 c12
              refine z_iload_n (pc := 60) C 2 dX10_shift_60 rfl ?_
              refine z_if_lt (pc := 61) (tgt := 96) C dX10_shift_61 (by decide) (fun c13 => ?_) (fun c13 => ?_)
              · have h := h.1 c13
                refine z_bipush (pc := 96) (v := -13) C dX10_shift_96 (by decide) ?_
                exact hret 98 _ _ (-13 : Int32) g rfl h dX10_shift_98
              · have h := h.2 c13
                refine z_iload (pc := 64) C 4 dX10_shift_64 rfl ?_
                refine z_if_lt (pc := 66) (tgt := 96) C dX10_shift_66 (by decide) (fun c14 => ?_) (fun c14 => ?_)
                · have h := h.1 c14
                  refine z_bipush (pc := 96) (v := -13) C dX10_shift_96 (by decide) ?_
                  exact hret 98 _ _ (-13 : Int32) g rfl h dX10_shift_98
                · have h := h.2 c14
                  refine z_iload (pc := 69) C 5 dX10_shift_69 rfl ?_
                  refine z_aload_n (pc := 71) C 0 dX10_shift_71 rfl ?_
                  refine z_get (pc := 72) C uw10 0 rfl rfl 13 (by decide) wq842 rfl dX10_shift_72 ?_
                  refine z_iload_n (pc := 75) C 1 dX10_shift_75 rfl ?_
                  obtain ⟨g15, h⟩ := h
                  refine z_iald (pc := 76) C 9 0 rfl rfl g15 (v 9 x1.toNatClampNeg) rfl dX10_shift_76 ?_
                  refine z_iload_n (pc := 77) C 2 dX10_shift_77 rfl ?_
                  refine z_isub (pc := 78) C dX10_shift_78 ?_
                  refine z_icmp_gt (pc := 79) (tgt := 96) C dX10_shift_79 (by decide) (fun c16 => ?_) (fun c16 => ?_)
                  · have h := h.1 c16
                    refine z_bipush (pc := 96) (v := -13) C dX10_shift_96 (by decide) ?_
                    exact hret 98 _ _ (-13 : Int32) g rfl h dX10_shift_98
                  · have h := h.2 c16
                    refine z_iload (pc := 82) C 5 dX10_shift_82 rfl ?_
                    refine z_aload_n (pc := 84) C 0 dX10_shift_84 rfl ?_
                    refine z_get (pc := 85) C uw10 0 rfl rfl 13 (by decide) wq842 rfl dX10_shift_85 ?_
                    refine z_iload_n (pc := 88) C 3 dX10_shift_88 rfl ?_
                    obtain ⟨g17, h⟩ := h
                    refine z_iald (pc := 89) C 9 0 rfl rfl g17 (v 9 x3.toNatClampNeg) rfl dX10_shift_89 ?_
                    refine z_iload (pc := 90) C 4 dX10_shift_90 rfl ?_
                    refine z_isub (pc := 92) C dX10_shift_92 ?_
                    refine z_icmp_le (pc := 93) (tgt := 99) C dX10_shift_93 (by decide) (fun c18 => ?_) (fun c18 => ?_)
                    · have h := h.1 c18
                      refine z_iconst (pc := 99) (v := 0) C dX10_shift_99 (by decide) ?_
                      refine z_istore (pc := 100) (lv' := [(6, .int (0 : Int32)), (0, .ref (d 0)), (1, .int x1), (2, .int x2), (3, .int x3), (4, .int x4), (5, .int x5)]) C dX10_shift_100 (by decide) rfl ?_
                      obtain ⟨n102, h⟩ := h
                      refine z_sub (lv' := [(0, .ref (d 0)), (1, .int x1), (2, .int x2), (3, .int x3), (4, .int x4), (5, .int x5), (6, .int (0 : Int32))]) [1, 2, 3, 4, 5, 6, 0] rfl ?_
                      exact L102  n102 g (0 : Int32) h
                    · have h := h.2 c18
                      refine z_bipush (pc := 96) (v := -13) C dX10_shift_96 (by decide) ?_
                      exact hret 98 _ _ (-13 : Int32) g rfl h dX10_shift_98
          · have h := h.2 c11
            refine z_bipush (pc := 52) (v := -12) C dX10_shift_52 (by decide) ?_
            exact hret 54 _ _ (-12 : Int32) g rfl h dX10_shift_54
        · have h := h.2 c8
          refine z_bipush (pc := 34) (v := -11) C dX10_shift_34 (by decide) ?_
          exact hret 36 _ _ (-11 : Int32) g rfl h dX10_shift_36
    · have h := h.2 c4
      refine z_iconst (pc := 14) (v := -1) C dX10_shift_14 (by decide) ?_
      exact hret 15 _ _ (-1 : Int32) g rfl h dX10_shift_15

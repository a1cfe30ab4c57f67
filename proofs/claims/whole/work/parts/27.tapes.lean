def pX9_judge_L40 (vNc : Lf) (vNcj : Lf) (vNcs : Lf) (vt : Nat → Lf) (gt : Nat → Lg) (x1 : Int32) (x2 : Int32) (Q : Int32 → Prop) : Nat → Int32 → Prop
  | 0, _ => False
  | n40 + 1, x4 => (((vNcj 0 0) ≤ x4 → (Q (-5 : Int32) )) ∧ (¬ (vNcj 0 0) ≤ x4 → (pX6_hasPlace (vt (x1.toNatClampNeg)) (x2 + x4) (fun r6 => ((¬ r6 = 0 → (vp_in (x2 + x4) 60 ∧ (pX0_lightOf vNc vNcj vNcs x4 (fun r9 => (((lg_cmp ((gt (x1.toNatClampNeg)) 1 (x2 + x4).toNatClampNeg) ((r9).toInt64)) = 0 → (pX9_judge_L40 vNc vNcj vNcs vt gt x1 x2 Q n40 (x4 + 1))) ∧ (¬ (lg_cmp ((gt (x1.toNatClampNeg)) 1 (x2 + x4).toNatClampNeg) ((r9).toInt64)) = 0 → (Q x4 ))))))) ∧ (r6 = 0 → (Q ((100 : Int32) + x4) )))))))
def pX9_judge_J37 (vNc : Lf) (vNcj : Lf) (vNcs : Lf) (vt : Nat → Lf) (gt : Nat → Lg) (x1 : Int32) (x2 : Int32) (Q : Int32 → Prop)  : Prop := (∃ n40, pX9_judge_L40 vNc vNcj vNcs vt gt x1 x2 Q  n40 (0 : Int32))
def pX9_judge (vNc : Lf) (vNcj : Lf) (vNcs : Lf) (vt : Nat → Lf) (gt : Nat → Lg) (x1 : Int32) (x2 : Int32) (Q : Int32 → Prop) : Prop := (pX9_within x1 (0 : Int32) (5 : Int32) (fun r1 => ((¬ r1 = 0 → (vp_in x1 6 ∧ ((((vt (x1.toNatClampNeg)) 0 0) = (-5 : Int32) → (pX9_judge_J37 vNc vNcj vNcs vt gt x1 x2 Q  )) ∧ (¬ ((vt (x1.toNatClampNeg)) 0 0) = (-5 : Int32) → ((((vt (x1.toNatClampNeg)) 0 0) = 0 → (pX9_judge_J37 vNc vNcj vNcs vt gt x1 x2 Q  )) ∧ (¬ ((vt (x1.toNatClampNeg)) 0 0) = 0 → (Q (-12 : Int32) ))))))) ∧ (r1 = 0 → (Q (-1 : Int32) )))))
abbrev rmX9_judge : Room := { frames := 2, cells := 0, slots := 0, locals := 43 }
abbrev wdX9_judge : List Cond := Cond.code yX9_judge cX9_judge 5 (some .int) :: TB
theorem hdSX9_judge : (yX9_judge).cls ≠ "java/lang/invoke/MethodHandle" ∧ (yX9_judge).cls ≠ "java/lang/invoke/VarHandle" ∧ (parseMethodDescriptor (yX9_judge).desc).map (fun d => d.parameters.length) = some 2 := by decide +kernel
theorem hdX9_judge : (yX9_judge).cls = RX9 ∧ (yX9_judge).cls ≠ "java/lang/invoke/MethodHandle" ∧ (yX9_judge).cls ≠ "java/lang/invoke/VarHandle" ∧ (parseMethodDescriptor (yX9_judge).desc).map (fun d => d.parameters.length) = some 2 := ⟨rfl, hdSX9_judge⟩

set_option maxHeartbeats 4000000 in
set_option maxRecDepth 100000 in
theorem kX9_judge_0 {l : Launch} {D : va_G} {cI cJ cT : ClassId} (d : Nat → Nat) (dN : Nat → Nat) (dI : Nat → Nat) (dT : Nat → Nat) (dNc : Nat → Nat) (dNcj : Nat → Nat) (dNcs : Nat → Nat) (dNcp : Nat → Nat) (dNw : Nat → Nat) (dx : Nat → Nat) (dtt : Nat) (dNcr : Nat → Nat) (dt : Nat → Nat → Nat)  (v : Lf) (vNc : Lf) (vNcj : Lf) (vNcs : Lf) (vt : Nat → Lf) (gt : Nat → Lg) (x2 : Int32) {Q : Int32 → Prop} (sz : Nat) (h : pX9_judge vNc vNcj vNcs vt gt (nI 0) x2 Q) : Met l yX9_judge wdX9_judge rmX9_judge (Pz D (tyL cI cJ cT) [.ref (d 0), .int (nI 0), .int x2] ((wX9 d (dN 0) (dI 0) (dT 0) (dNc 0) (dNcj 0) (dNcs 0) (dNcp 0) (dNw 0) (dx 0) dtt v) ++ ((wX0 dNc (dNcj 0) (dNcs 0) (dNcp 0) (dNcr 0) vNc) ++ ((wX1 cI dNcj vNcj) ++ ((wX5 cI dNcs vNcs) ++ (wTT cJ cT dtt dt vt gt))))) sz) (va_Qi (fun (r : Int32) (u : Unit) => Q r) (Bz D (tyL cI cJ cT) ((wX9 d (dN 0) (dI 0) (dT 0) (dNc 0) (dNcj 0) (dNcs 0) (dNcp 0) (dNw 0) (dx 0) dtt v) ++ ((wX0 dNc (dNcj 0) (dNcs 0) (dNcp 0) (dNcr 0) vNc) ++ ((wX1 cI dNcj vNcj) ++ ((wX5 cI dNcs vNcs) ++ (wTT cJ cT dtt dt vt gt))))) sz (fun (u : Unit) => ((wX9 d (dN 0) (dI 0) (dT 0) (dNc 0) (dNcj 0) (dNcs 0) (dNcp 0) (dNw 0) (dx 0) dtt v) ++ ((wX0 dNc (dNcj 0) (dNcs 0) (dNcp 0) (dNcr 0) vNc) ++ ((wX1 cI dNcj vNcj) ++ ((wX5 cI dNcs vNcs) ++ (wTT cJ cT dtt dt vt gt))))))) (va_A ((wX9 d (dN 0) (dI 0) (dT 0) (dNc 0) (dNcj 0) (dNcs 0) (dNcp 0) (dNw 0) (dx 0) dtt v) ++ ((wX0 dNc (dNcj 0) (dNcs 0) (dNcp 0) (dNcr 0) vNc) ++ ((wX1 cI dNcj vNcj) ++ ((wX5 cI dNcs vNcs) ++ (wTT cJ cT dtt dt vt gt))))) sz)) 0 0 (va_A ((wX9 d (dN 0) (dI 0) (dT 0) (dNc 0) (dNcj 0) (dNcs 0) (dNcp 0) (dNw 0) (dx 0) dtt v) ++ ((wX0 dNc (dNcj 0) (dNcs 0) (dNcp 0) (dNcr 0) vNc) ++ ((wX1 cI dNcj vNcj) ++ ((wX5 cI dNcs vNcs) ++ (wTT cJ cT dtt dt vt gt))))) sz) := by
  refine z_meti (cc := cX9_judge) (maxL := 5) (own := RX9) (lv0 := [(0, .ref (d 0)), (1, .int (nI 0)), (2, .int x2)]) (by decide) rfl rfl (Nat.le_of_ble_eq_true rfl) rfl ?_
  intro p e s m args below meth c A QQ C hin hret
  have L40 : ∀ (n40 : Nat) (x4 : Int32), pX9_judge_L40 vNc vNcj vNcs vt gt (nI 0) x2 Q n40 x4 → ZZ p l e rmX9_judge s m args below meth c D A 5 0 0 QQ 40 ((wX9 d (dN 0) (dI 0) (dT 0) (dNc 0) (dNcj 0) (dNcs 0) (dNcp 0) (dNw 0) (dx 0) dtt v) ++ ((wX0 dNc (dNcj 0) (dNcs 0) (dNcp 0) (dNcr 0) vNc) ++ ((wX1 cI dNcj vNcj) ++ ((wX5 cI dNcs vNcs) ++ (wTT cJ cT dtt dt vt gt))))) [(0, .ref (d 0)), (2, .int x2), (3, .ref (dt 0 0)), (4, .int x4)] [] := by
    intro n40
    induction n40 with
    | zero => intro x4 h; exact False.elim h
    | succ n40 ih40 =>
      intro x4 h
      refine z_iload (pc := 40) C 3 dX9_judge_40 rfl ?_
      refine z_aload_n (pc := 42) C 0 dX9_judge_42 rfl ?_
      refine z_get (pc := 43) C uw9 0 rfl rfl 4 (by decide) wq533 rfl dX9_judge_43 ?_
      refine z_get (pc := 46) C uw1 2 rfl rfl 0 (by decide) wq552 rfl dX9_judge_46 ?_
      refine z_icmp_ge (pc := 49) (tgt := 101) C dX9_judge_49 (by decide) (fun c5 => ?_) (fun c5 => ?_)
      · have h := h.1 c5
        refine z_bipush (pc := 101) (v := -5) C dX9_judge_101 (by decide) ?_
        exact hret 103 _ _ (-5 : Int32) () rfl h dX9_judge_103
      · have h := h.2 c5
        refine z_aload_n (pc := 52) C 2 dX9_judge_52 rfl ?_
        refine z_iload_n (pc := 53) C 1 dX9_judge_53 rfl ?_
        refine z_iload (pc := 54) C 3 dX9_judge_54 rfl ?_
        refine z_iadd (pc := 56) C dX9_judge_56 ?_
        refine z_callRi (pc := 57) C (z_runV (pc := 57) (wc := (wX6 cJ (dt 0) (vt 0) (gt 0))) (As := [.int (x2 + x4)]) C (fun sz => kX6_hasPlace (dt 0) (vt 0) (gt 0) (x2 + x4) sz h) [17, 18] rfl (by decide) (gdV wq413 wq779 wq780 wq781 wq546) rfl rfl rfl hdX6_hasPlace 17 rfl rfl rfl ⟨Nat.le_of_ble_eq_true rfl, Nat.le_of_ble_eq_true rfl⟩ rfl (Nat.le_of_ble_eq_true rfl) ⟨Nat.zero_le _, Nat.zero_le _⟩ dX9_judge_57) [17, 18] rfl (by decide) (fun r6 u6 h => ?_)
        refine z_if_ne (pc := 60) (tgt := 69) C dX9_judge_60 (by decide) (fun c7 => ?_) (fun c7 => ?_)
        · have h := h.1 c7
          refine z_aload_n (pc := 69) C 2 dX9_judge_69 rfl ?_
          refine z_get (pc := 70) C uw6 17 rfl rfl 2 (by decide) wq778 rfl dX9_judge_70 ?_
          refine z_iload_n (pc := 73) C 1 dX9_judge_73 rfl ?_
          refine z_iload (pc := 74) C 3 dX9_judge_74 rfl ?_
          refine z_iadd (pc := 76) C dX9_judge_76 ?_
          obtain ⟨g8, h⟩ := h
          refine z_lald (pc := 77) C 18 1 rfl rfl g8 ((gt 0) 1 (x2 + x4).toNatClampNeg) rfl dX9_judge_77 ?_
          refine z_aload_n (pc := 78) C 0 dX9_judge_78 rfl ?_
          refine z_get (pc := 79) C uw9 0 rfl rfl 3 (by decide) wq531 rfl dX9_judge_79 ?_
          refine z_iload (pc := 82) C 3 dX9_judge_82 rfl ?_
          refine z_callRi (pc := 84) C (z_runV (pc := 84) (wc := ((wX0 dNc (dNcj 0) (dNcs 0) (dNcp 0) (dNcr 0) vNc) ++ ((wX1 cI dNcj vNcj) ++ (wX5 cI dNcs vNcs)))) (As := [.int x4]) C (fun sz => kX0_lightOf dNc dNcj dNcs dNcp dNcr vNc vNcj vNcs x4 sz h) [1, 2, 3, 4, 5, 6, 7, 8, 9, 10, 11, 12, 13, 14, 15] rfl (by decide) (gdV wq266 wq782 wq272 wq273 wq108) rfl rfl rfl hdX0_lightOf 1 rfl rfl rfl ⟨Nat.le_of_ble_eq_true rfl, Nat.le_of_ble_eq_true rfl⟩ rfl (Nat.le_of_ble_eq_true rfl) ⟨Nat.zero_le _, Nat.zero_le _⟩ dX9_judge_84) [1, 2, 3, 4, 5, 6, 7, 8, 9, 10, 11, 12, 13, 14, 15] rfl (by decide) (fun r9 u9 h => ?_)
          refine z_i2l (pc := 87) C dX9_judge_87 ?_
          refine z_lcmp (pc := 88) C dX9_judge_88 ?_
          refine z_if_eq (pc := 89) (tgt := 95) C dX9_judge_89 (by decide) (fun c10 => ?_) (fun c10 => ?_)
          · have h := h.1 c10
            refine z_iinc (pc := 95) (v := (x4 + 1)) (lv' := [(4, .int (x4 + 1)), (0, .ref (d 0)), (2, .int x2), (3, .ref (dt 0 0))]) C 3 dX9_judge_95 rfl rfl (by decide) rfl ?_
            refine z_goto (pc := 98) (tgt := 40) C dX9_judge_98 (by decide) ?_
            refine z_sub (lv' := [(0, .ref (d 0)), (2, .int x2), (3, .ref (dt 0 0)), (4, .int (x4 + 1))]) [1, 2, 3, 0] rfl ?_
            exact ih40 (x4 + 1) h
          · have h := h.2 c10
            refine z_iload (pc := 92) C 3 dX9_judge_92 rfl ?_
            exact hret 94 _ _ x4 () rfl h dX9_judge_94
        · have h := h.2 c7
          refine z_bipush (pc := 63) (v := 100) C dX9_judge_63 (by decide) ?_
          refine z_iload (pc := 65) C 3 dX9_judge_65 rfl ?_
          refine z_iadd (pc := 67) C dX9_judge_67 ?_
          exact hret 68 _ _ ((100 : Int32) + x4) () rfl h dX9_judge_68
  have J37 :  pX9_judge_J37 vNc vNcj vNcs vt gt (nI 0) x2 Q  → ZZ p l e rmX9_judge s m args below meth c D A 5 0 0 QQ 37 ((wX9 d (dN 0) (dI 0) (dT 0) (dNc 0) (dNcj 0) (dNcs 0) (dNcp 0) (dNw 0) (dx 0) dtt v) ++ ((wX0 dNc (dNcj 0) (dNcs 0) (dNcp 0) (dNcr 0) vNc) ++ ((wX1 cI dNcj vNcj) ++ ((wX5 cI dNcs vNcs) ++ (wTT cJ cT dtt dt vt gt))))) [(0, .ref (d 0)), (2, .int x2), (3, .ref (dt 0 0))] [] := by
    intro   h
    refine z_iconst (pc := 37) (v := 0) C dX9_judge_37 (by decide) ?_
    refine z_istore (pc := 38) (lv' := [(4, .int (0 : Int32)), (0, .ref (d 0)), (2, .int x2), (3, .ref (dt 0 0))]) C dX9_judge_38 (by decide) rfl ?_
    obtain ⟨n40, h⟩ := h
    refine z_sub (lv' := [(0, .ref (d 0)), (2, .int x2), (3, .ref (dt 0 0)), (4, .int (0 : Int32))]) [1, 2, 3, 0] rfl ?_
    exact L40  n40 (0 : Int32) h
  refine z_iload_n (pc := 0) C 1 dX9_judge_0 rfl ?_
  refine z_iconst (pc := 1) (v := 0) C dX9_judge_1 (by decide) ?_
  refine z_iconst (pc := 2) (v := 5) C dX9_judge_2 (by decide) ?_
  refine z_call0i (pc := 3) C (z_runS (pc := 3) (wc := ([] : va_W)) (As := [.int (nI 0), .int (0 : Int32), .int (5 : Int32)]) C (fun sz => kX9_within (nI 0) (0 : Int32) (5 : Int32) sz h) [] rfl (by decide) (gdS wq366 wq553 wq373 wq112) rfl rfl rfl hdSX9_within ⟨Nat.le_of_ble_eq_true rfl, Nat.le_of_ble_eq_true rfl⟩ rfl (Nat.le_of_ble_eq_true rfl) ⟨Nat.zero_le _, Nat.zero_le _⟩ dX9_judge_3) (fun r1 u1 h => ?_)
  refine z_if_ne (pc := 6) (tgt := 11) C dX9_judge_6 (by decide) (fun c2 => ?_) (fun c2 => ?_)
  · have h := h.1 c2
    refine z_aload_n (pc := 11) C 0 dX9_judge_11 rfl ?_
    refine z_get (pc := 12) C uw9 0 rfl rfl 9 (by decide) wq544 rfl dX9_judge_12 ?_
    refine z_iload_n (pc := 15) C 1 dX9_judge_15 rfl ?_
    obtain ⟨g3, h⟩ := h
    refine z_aldq (pc := 16) C 16 2 rfl rfl g3 (.ref (dt 0 0)) rfl dX9_judge_16 ?_
    refine z_astore_n (pc := 17) (lv' := [(3, .ref (dt 0 0)), (0, .ref (d 0)), (1, .int (nI 0)), (2, .int x2)]) C dX9_judge_17 (by decide) rfl ?_
    refine z_aload_n (pc := 18) C 0 dX9_judge_18 rfl ?_
    refine z_get (pc := 19) C uw6 17 rfl rfl 0 (by decide) wq777 rfl dX9_judge_19 ?_
    refine z_bipush (pc := 22) (v := -5) C dX9_judge_22 (by decide) ?_
    refine z_icmp_eq (pc := 24) (tgt := 37) C dX9_judge_24 (by decide) (fun c4 => ?_) (fun c4 => ?_)
    · have h := h.1 c4
      refine z_sub (lv' := [(0, .ref (d 0)), (2, .int x2), (3, .ref (dt 0 0))]) [1, 3, 0] rfl ?_
      exact J37   h
    · have h := h.2 c4
      refine z_aload_n (pc := 27) C 0 dX9_judge_27 rfl ?_
      refine z_get (pc := 28) C uw6 17 rfl rfl 0 (by decide) wq777 rfl dX9_judge_28 ?_
      refine z_if_eq (pc := 31) (tgt := 37) C dX9_judge_31 (by decide) (fun c11 => ?_) (fun c11 => ?_)
      · have h := h.1 c11
        refine z_sub (lv' := [(0, .ref (d 0)), (2, .int x2), (3, .ref (dt 0 0))]) [1, 3, 0] rfl ?_
        exact J37   h
      · have h := h.2 c11
        refine z_bipush (pc := 34) (v := -12) C dX9_judge_34 (by decide) ?_
        exact hret 36 _ _ (-12 : Int32) () rfl h dX9_judge_36
  · have h := h.2 c2
    refine z_iconst (pc := 9) (v := -1) C dX9_judge_9 (by decide) ?_
    exact hret 10 _ _ (-1 : Int32) () rfl h dX9_judge_10

set_option maxHeartbeats 4000000 in
set_option maxRecDepth 100000 in
theorem kX9_judge_1 {l : Launch} {D : va_G} {cI cJ cT : ClassId} (d : Nat → Nat) (dN : Nat → Nat) (dI : Nat → Nat) (dT : Nat → Nat) (dNc : Nat → Nat) (dNcj : Nat → Nat) (dNcs : Nat → Nat) (dNcp : Nat → Nat) (dNw : Nat → Nat) (dx : Nat → Nat) (dtt : Nat) (dNcr : Nat → Nat) (dt : Nat → Nat → Nat)  (v : Lf) (vNc : Lf) (vNcj : Lf) (vNcs : Lf) (vt : Nat → Lf) (gt : Nat → Lg) (x2 : Int32) {Q : Int32 → Prop} (sz : Nat) (h : pX9_judge vNc vNcj vNcs vt gt (nI 1) x2 Q) : Met l yX9_judge wdX9_judge rmX9_judge (Pz D (tyL cI cJ cT) [.ref (d 0), .int (nI 1), .int x2] ((wX9 d (dN 0) (dI 0) (dT 0) (dNc 0) (dNcj 0) (dNcs 0) (dNcp 0) (dNw 0) (dx 0) dtt v) ++ ((wX0 dNc (dNcj 0) (dNcs 0) (dNcp 0) (dNcr 0) vNc) ++ ((wX1 cI dNcj vNcj) ++ ((wX5 cI dNcs vNcs) ++ (wTT cJ cT dtt dt vt gt))))) sz) (va_Qi (fun (r : Int32) (u : Unit) => Q r) (Bz D (tyL cI cJ cT) ((wX9 d (dN 0) (dI 0) (dT 0) (dNc 0) (dNcj 0) (dNcs 0) (dNcp 0) (dNw 0) (dx 0) dtt v) ++ ((wX0 dNc (dNcj 0) (dNcs 0) (dNcp 0) (dNcr 0) vNc) ++ ((wX1 cI dNcj vNcj) ++ ((wX5 cI dNcs vNcs) ++ (wTT cJ cT dtt dt vt gt))))) sz (fun (u : Unit) => ((wX9 d (dN 0) (dI 0) (dT 0) (dNc 0) (dNcj 0) (dNcs 0) (dNcp 0) (dNw 0) (dx 0) dtt v) ++ ((wX0 dNc (dNcj 0) (dNcs 0) (dNcp 0) (dNcr 0) vNc) ++ ((wX1 cI dNcj vNcj) ++ ((wX5 cI dNcs vNcs) ++ (wTT cJ cT dtt dt vt gt))))))) (va_A ((wX9 d (dN 0) (dI 0) (dT 0) (dNc 0) (dNcj 0) (dNcs 0) (dNcp 0) (dNw 0) (dx 0) dtt v) ++ ((wX0 dNc (dNcj 0) (dNcs 0) (dNcp 0) (dNcr 0) vNc) ++ ((wX1 cI dNcj vNcj) ++ ((wX5 cI dNcs vNcs) ++ (wTT cJ cT dtt dt vt gt))))) sz)) 0 0 (va_A ((wX9 d (dN 0) (dI 0) (dT 0) (dNc 0) (dNcj 0) (dNcs 0) (dNcp 0) (dNw 0) (dx 0) dtt v) ++ ((wX0 dNc (dNcj 0) (dNcs 0) (dNcp 0) (dNcr 0) vNc) ++ ((wX1 cI dNcj vNcj) ++ ((wX5 cI dNcs vNcs) ++ (wTT cJ cT dtt dt vt gt))))) sz) := by
  refine z_meti (cc := cX9_judge) (maxL := 5) (own := RX9) (lv0 := [(0, .ref (d 0)), (1, .int (nI 1)), (2, .int x2)]) (by decide) rfl rfl (Nat.le_of_ble_eq_true rfl) rfl ?_
  intro p e s m args below meth c A QQ C hin hret
  have L40 : ∀ (n40 : Nat) (x4 : Int32), pX9_judge_L40 vNc vNcj vNcs vt gt (nI 1) x2 Q n40 x4 → ZZ p l e rmX9_judge s m args below meth c D A 5 0 0 QQ 40 ((wX9 d (dN 0) (dI 0) (dT 0) (dNc 0) (dNcj 0) (dNcs 0) (dNcp 0) (dNw 0) (dx 0) dtt v) ++ ((wX0 dNc (dNcj 0) (dNcs 0) (dNcp 0) (dNcr 0) vNc) ++ ((wX1 cI dNcj vNcj) ++ ((wX5 cI dNcs vNcs) ++ (wTT cJ cT dtt dt vt gt))))) [(0, .ref (d 0)), (2, .int x2), (3, .ref (dt 1 0)), (4, .int x4)] [] := by
    intro n40
    induction n40 with
    | zero => intro x4 h; exact False.elim h
    | succ n40 ih40 =>
      intro x4 h
      refine z_iload (pc := 40) C 3 dX9_judge_40 rfl ?_
      refine z_aload_n (pc := 42) C 0 dX9_judge_42 rfl ?_
      refine z_get (pc := 43) C uw9 0 rfl rfl 4 (by decide) wq533 rfl dX9_judge_43 ?_
      refine z_get (pc := 46) C uw1 2 rfl rfl 0 (by decide) wq552 rfl dX9_judge_46 ?_
      refine z_icmp_ge (pc := 49) (tgt := 101) C dX9_judge_49 (by decide) (fun c5 => ?_) (fun c5 => ?_)
      · have h := h.1 c5
        refine z_bipush (pc := 101) (v := -5) C dX9_judge_101 (by decide) ?_
        exact hret 103 _ _ (-5 : Int32) () rfl h dX9_judge_103
      · have h := h.2 c5
        refine z_aload_n (pc := 52) C 2 dX9_judge_52 rfl ?_
        refine z_iload_n (pc := 53) C 1 dX9_judge_53 rfl ?_
        refine z_iload (pc := 54) C 3 dX9_judge_54 rfl ?_
        refine z_iadd (pc := 56) C dX9_judge_56 ?_
        refine z_callRi (pc := 57) C (z_runV (pc := 57) (wc := (wX6 cJ (dt 1) (vt 1) (gt 1))) (As := [.int (x2 + x4)]) C (fun sz => kX6_hasPlace (dt 1) (vt 1) (gt 1) (x2 + x4) sz h) [19, 20] rfl (by decide) (gdV wq413 wq779 wq780 wq781 wq546) rfl rfl rfl hdX6_hasPlace 19 rfl rfl rfl ⟨Nat.le_of_ble_eq_true rfl, Nat.le_of_ble_eq_true rfl⟩ rfl (Nat.le_of_ble_eq_true rfl) ⟨Nat.zero_le _, Nat.zero_le _⟩ dX9_judge_57) [19, 20] rfl (by decide) (fun r6 u6 h => ?_)
        refine z_if_ne (pc := 60) (tgt := 69) C dX9_judge_60 (by decide) (fun c7 => ?_) (fun c7 => ?_)
        · have h := h.1 c7
          refine z_aload_n (pc := 69) C 2 dX9_judge_69 rfl ?_
          refine z_get (pc := 70) C uw6 19 rfl rfl 2 (by decide) wq778 rfl dX9_judge_70 ?_
          refine z_iload_n (pc := 73) C 1 dX9_judge_73 rfl ?_
          refine z_iload (pc := 74) C 3 dX9_judge_74 rfl ?_
          refine z_iadd (pc := 76) C dX9_judge_76 ?_
          obtain ⟨g8, h⟩ := h
          refine z_lald (pc := 77) C 20 1 rfl rfl g8 ((gt 1) 1 (x2 + x4).toNatClampNeg) rfl dX9_judge_77 ?_
          refine z_aload_n (pc := 78) C 0 dX9_judge_78 rfl ?_
          refine z_get (pc := 79) C uw9 0 rfl rfl 3 (by decide) wq531 rfl dX9_judge_79 ?_
          refine z_iload (pc := 82) C 3 dX9_judge_82 rfl ?_
          refine z_callRi (pc := 84) C (z_runV (pc := 84) (wc := ((wX0 dNc (dNcj 0) (dNcs 0) (dNcp 0) (dNcr 0) vNc) ++ ((wX1 cI dNcj vNcj) ++ (wX5 cI dNcs vNcs)))) (As := [.int x4]) C (fun sz => kX0_lightOf dNc dNcj dNcs dNcp dNcr vNc vNcj vNcs x4 sz h) [1, 2, 3, 4, 5, 6, 7, 8, 9, 10, 11, 12, 13, 14, 15] rfl (by decide) (gdV wq266 wq782 wq272 wq273 wq108) rfl rfl rfl hdX0_lightOf 1 rfl rfl rfl ⟨Nat.le_of_ble_eq_true rfl, Nat.le_of_ble_eq_true rfl⟩ rfl (Nat.le_of_ble_eq_true rfl) ⟨Nat.zero_le _, Nat.zero_le _⟩ dX9_judge_84) [1, 2, 3, 4, 5, 6, 7, 8, 9, 10, 11, 12, 13, 14, 15] rfl (by decide) (fun r9 u9 h => ?_)
          refine z_i2l (pc := 87) C dX9_judge_87 ?_
          refine z_lcmp (pc := 88) C dX9_judge_88 ?_
          refine z_if_eq (pc := 89) (tgt := 95) C dX9_judge_89 (by decide) (fun c10 => ?_) (fun c10 => ?_)
          · have h := h.1 c10
            refine z_iinc (pc := 95) (v := (x4 + 1)) (lv' := [(4, .int (x4 + 1)), (0, .ref (d 0)), (2, .int x2), (3, .ref (dt 1 0))]) C 3 dX9_judge_95 rfl rfl (by decide) rfl ?_
            refine z_goto (pc := 98) (tgt := 40) C dX9_judge_98 (by decide) ?_
            refine z_sub (lv' := [(0, .ref (d 0)), (2, .int x2), (3, .ref (dt 1 0)), (4, .int (x4 + 1))]) [1, 2, 3, 0] rfl ?_
            exact ih40 (x4 + 1) h
          · have h := h.2 c10
            refine z_iload (pc := 92) C 3 dX9_judge_92 rfl ?_
            exact hret 94 _ _ x4 () rfl h dX9_judge_94
        · have h := h.2 c7
          refine z_bipush (pc := 63) (v := 100) C dX9_judge_63 (by decide) ?_
          refine z_iload (pc := 65) C 3 dX9_judge_65 rfl ?_
          refine z_iadd (pc := 67) C dX9_judge_67 ?_
          exact hret 68 _ _ ((100 : Int32) + x4) () rfl h dX9_judge_68
  have J37 :  pX9_judge_J37 vNc vNcj vNcs vt gt (nI 1) x2 Q  → ZZ p l e rmX9_judge s m args below meth c D A 5 0 0 QQ 37 ((wX9 d (dN 0) (dI 0) (dT 0) (dNc 0) (dNcj 0) (dNcs 0) (dNcp 0) (dNw 0) (dx 0) dtt v) ++ ((wX0 dNc (dNcj 0) (dNcs 0) (dNcp 0) (dNcr 0) vNc) ++ ((wX1 cI dNcj vNcj) ++ ((wX5 cI dNcs vNcs) ++ (wTT cJ cT dtt dt vt gt))))) [(0, .ref (d 0)), (2, .int x2), (3, .ref (dt 1 0))] [] := by
    intro   h
    refine z_iconst (pc := 37) (v := 0) C dX9_judge_37 (by decide) ?_
    refine z_istore (pc := 38) (lv' := [(4, .int (0 : Int32)), (0, .ref (d 0)), (2, .int x2), (3, .ref (dt 1 0))]) C dX9_judge_38 (by decide) rfl ?_
    obtain ⟨n40, h⟩ := h
    refine z_sub (lv' := [(0, .ref (d 0)), (2, .int x2), (3, .ref (dt 1 0)), (4, .int (0 : Int32))]) [1, 2, 3, 0] rfl ?_
    exact L40  n40 (0 : Int32) h
  refine z_iload_n (pc := 0) C 1 dX9_judge_0 rfl ?_
  refine z_iconst (pc := 1) (v := 0) C dX9_judge_1 (by decide) ?_
  refine z_iconst (pc := 2) (v := 5) C dX9_judge_2 (by decide) ?_
  refine z_call0i (pc := 3) C (z_runS (pc := 3) (wc := ([] : va_W)) (As := [.int (nI 1), .int (0 : Int32), .int (5 : Int32)]) C (fun sz => kX9_within (nI 1) (0 : Int32) (5 : Int32) sz h) [] rfl (by decide) (gdS wq366 wq553 wq373 wq112) rfl rfl rfl hdSX9_within ⟨Nat.le_of_ble_eq_true rfl, Nat.le_of_ble_eq_true rfl⟩ rfl (Nat.le_of_ble_eq_true rfl) ⟨Nat.zero_le _, Nat.zero_le _⟩ dX9_judge_3) (fun r1 u1 h => ?_)
  refine z_if_ne (pc := 6) (tgt := 11) C dX9_judge_6 (by decide) (fun c2 => ?_) (fun c2 => ?_)
  · have h := h.1 c2
    refine z_aload_n (pc := 11) C 0 dX9_judge_11 rfl ?_
    refine z_get (pc := 12) C uw9 0 rfl rfl 9 (by decide) wq544 rfl dX9_judge_12 ?_
    refine z_iload_n (pc := 15) C 1 dX9_judge_15 rfl ?_
    obtain ⟨g3, h⟩ := h
    refine z_aldq (pc := 16) C 16 2 rfl rfl g3 (.ref (dt 1 0)) rfl dX9_judge_16 ?_
    refine z_astore_n (pc := 17) (lv' := [(3, .ref (dt 1 0)), (0, .ref (d 0)), (1, .int (nI 1)), (2, .int x2)]) C dX9_judge_17 (by decide) rfl ?_
    refine z_aload_n (pc := 18) C 0 dX9_judge_18 rfl ?_
    refine z_get (pc := 19) C uw6 19 rfl rfl 0 (by decide) wq777 rfl dX9_judge_19 ?_
    refine z_bipush (pc := 22) (v := -5) C dX9_judge_22 (by decide) ?_
    refine z_icmp_eq (pc := 24) (tgt := 37) C dX9_judge_24 (by decide) (fun c4 => ?_) (fun c4 => ?_)
    · have h := h.1 c4
      refine z_sub (lv' := [(0, .ref (d 0)), (2, .int x2), (3, .ref (dt 1 0))]) [1, 3, 0] rfl ?_
      exact J37   h
    · have h := h.2 c4
      refine z_aload_n (pc := 27) C 0 dX9_judge_27 rfl ?_
      refine z_get (pc := 28) C uw6 19 rfl rfl 0 (by decide) wq777 rfl dX9_judge_28 ?_
      refine z_if_eq (pc := 31) (tgt := 37) C dX9_judge_31 (by decide) (fun c11 => ?_) (fun c11 => ?_)
      · have h := h.1 c11
        refine z_sub (lv' := [(0, .ref (d 0)), (2, .int x2), (3, .ref (dt 1 0))]) [1, 3, 0] rfl ?_
        exact J37   h
      · have h := h.2 c11
        refine z_bipush (pc := 34) (v := -12) C dX9_judge_34 (by decide) ?_
        exact hret 36 _ _ (-12 : Int32) () rfl h dX9_judge_36
  · have h := h.2 c2
    refine z_iconst (pc := 9) (v := -1) C dX9_judge_9 (by decide) ?_
    exact hret 10 _ _ (-1 : Int32) () rfl h dX9_judge_10

set_option maxHeartbeats 4000000 in
set_option maxRecDepth 100000 in
theorem kX9_judge_2 {l : Launch} {D : va_G} {cI cJ cT : ClassId} (d : Nat → Nat) (dN : Nat → Nat) (dI : Nat → Nat) (dT : Nat → Nat) (dNc : Nat → Nat) (dNcj : Nat → Nat) (dNcs : Nat → Nat) (dNcp : Nat → Nat) (dNw : Nat → Nat) (dx : Nat → Nat) (dtt : Nat) (dNcr : Nat → Nat) (dt : Nat → Nat → Nat)  (v : Lf) (vNc : Lf) (vNcj : Lf) (vNcs : Lf) (vt : Nat → Lf) (gt : Nat → Lg) (x2 : Int32) {Q : Int32 → Prop} (sz : Nat) (h : pX9_judge vNc vNcj vNcs vt gt (nI 2) x2 Q) : Met l yX9_judge wdX9_judge rmX9_judge (Pz D (tyL cI cJ cT) [.ref (d 0), .int (nI 2), .int x2] ((wX9 d (dN 0) (dI 0) (dT 0) (dNc 0) (dNcj 0) (dNcs 0) (dNcp 0) (dNw 0) (dx 0) dtt v) ++ ((wX0 dNc (dNcj 0) (dNcs 0) (dNcp 0) (dNcr 0) vNc) ++ ((wX1 cI dNcj vNcj) ++ ((wX5 cI dNcs vNcs) ++ (wTT cJ cT dtt dt vt gt))))) sz) (va_Qi (fun (r : Int32) (u : Unit) => Q r) (Bz D (tyL cI cJ cT) ((wX9 d (dN 0) (dI 0) (dT 0) (dNc 0) (dNcj 0) (dNcs 0) (dNcp 0) (dNw 0) (dx 0) dtt v) ++ ((wX0 dNc (dNcj 0) (dNcs 0) (dNcp 0) (dNcr 0) vNc) ++ ((wX1 cI dNcj vNcj) ++ ((wX5 cI dNcs vNcs) ++ (wTT cJ cT dtt dt vt gt))))) sz (fun (u : Unit) => ((wX9 d (dN 0) (dI 0) (dT 0) (dNc 0) (dNcj 0) (dNcs 0) (dNcp 0) (dNw 0) (dx 0) dtt v) ++ ((wX0 dNc (dNcj 0) (dNcs 0) (dNcp 0) (dNcr 0) vNc) ++ ((wX1 cI dNcj vNcj) ++ ((wX5 cI dNcs vNcs) ++ (wTT cJ cT dtt dt vt gt))))))) (va_A ((wX9 d (dN 0) (dI 0) (dT 0) (dNc 0) (dNcj 0) (dNcs 0) (dNcp 0) (dNw 0) (dx 0) dtt v) ++ ((wX0 dNc (dNcj 0) (dNcs 0) (dNcp 0) (dNcr 0) vNc) ++ ((wX1 cI dNcj vNcj) ++ ((wX5 cI dNcs vNcs) ++ (wTT cJ cT dtt dt vt gt))))) sz)) 0 0 (va_A ((wX9 d (dN 0) (dI 0) (dT 0) (dNc 0) (dNcj 0) (dNcs 0) (dNcp 0) (dNw 0) (dx 0) dtt v) ++ ((wX0 dNc (dNcj 0) (dNcs 0) (dNcp 0) (dNcr 0) vNc) ++ ((wX1 cI dNcj vNcj) ++ ((wX5 cI dNcs vNcs) ++ (wTT cJ cT dtt dt vt gt))))) sz) := by
  refine z_meti (cc := cX9_judge) (maxL := 5) (own := RX9) (lv0 := [(0, .ref (d 0)), (1, .int (nI 2)), (2, .int x2)]) (by decide) rfl rfl (Nat.le_of_ble_eq_true rfl) rfl ?_
  intro p e s m args below meth c A QQ C hin hret
  have L40 : ∀ (n40 : Nat) (x4 : Int32), pX9_judge_L40 vNc vNcj vNcs vt gt (nI 2) x2 Q n40 x4 → ZZ p l e rmX9_judge s m args below meth c D A 5 0 0 QQ 40 ((wX9 d (dN 0) (dI 0) (dT 0) (dNc 0) (dNcj 0) (dNcs 0) (dNcp 0) (dNw 0) (dx 0) dtt v) ++ ((wX0 dNc (dNcj 0) (dNcs 0) (dNcp 0) (dNcr 0) vNc) ++ ((wX1 cI dNcj vNcj) ++ ((wX5 cI dNcs vNcs) ++ (wTT cJ cT dtt dt vt gt))))) [(0, .ref (d 0)), (2, .int x2), (3, .ref (dt 2 0)), (4, .int x4)] [] := by
    intro n40
    induction n40 with
    | zero => intro x4 h; exact False.elim h
    | succ n40 ih40 =>
      intro x4 h
      refine z_iload (pc := 40) C 3 dX9_judge_40 rfl ?_
      refine z_aload_n (pc := 42) C 0 dX9_judge_42 rfl ?_
      refine z_get (pc := 43) C uw9 0 rfl rfl 4 (by decide) wq533 rfl dX9_judge_43 ?_
      refine z_get (pc := 46) C uw1 2 rfl rfl 0 (by decide) wq552 rfl dX9_judge_46 ?_
      refine z_icmp_ge (pc := 49) (tgt := 101) C dX9_judge_49 (by decide) (fun c5 => ?_) (fun c5 => ?_)
      · have h := h.1 c5
        refine z_bipush (pc := 101) (v := -5) C dX9_judge_101 (by decide) ?_
        exact hret 103 _ _ (-5 : Int32) () rfl h dX9_judge_103
      · have h := h.2 c5
        refine z_aload_n (pc := 52) C 2 dX9_judge_52 rfl ?_
        refine z_iload_n (pc := 53) C 1 dX9_judge_53 rfl ?_
        refine z_iload (pc := 54) C 3 dX9_judge_54 rfl ?_
        refine z_iadd (pc := 56) C dX9_judge_56 ?_
        refine z_callRi (pc := 57) C (z_runV (pc := 57) (wc := (wX6 cJ (dt 2) (vt 2) (gt 2))) (As := [.int (x2 + x4)]) C (fun sz => kX6_hasPlace (dt 2) (vt 2) (gt 2) (x2 + x4) sz h) [21, 22] rfl (by decide) (gdV wq413 wq779 wq780 wq781 wq546) rfl rfl rfl hdX6_hasPlace 21 rfl rfl rfl ⟨Nat.le_of_ble_eq_true rfl, Nat.le_of_ble_eq_true rfl⟩ rfl (Nat.le_of_ble_eq_true rfl) ⟨Nat.zero_le _, Nat.zero_le _⟩ dX9_judge_57) [21, 22] rfl (by decide) (fun r6 u6 h => ?_)
        refine z_if_ne (pc := 60) (tgt := 69) C dX9_judge_60 (by decide) (fun c7 => ?_) (fun c7 => ?_)
        · have h := h.1 c7
          refine z_aload_n (pc := 69) C 2 dX9_judge_69 rfl ?_
          refine z_get (pc := 70) C uw6 21 rfl rfl 2 (by decide) wq778 rfl dX9_judge_70 ?_
          refine z_iload_n (pc := 73) C 1 dX9_judge_73 rfl ?_
          refine z_iload (pc := 74) C 3 dX9_judge_74 rfl ?_
          refine z_iadd (pc := 76) C dX9_judge_76 ?_
          obtain ⟨g8, h⟩ := h
          refine z_lald (pc := 77) C 22 1 rfl rfl g8 ((gt 2) 1 (x2 + x4).toNatClampNeg) rfl dX9_judge_77 ?_
          refine z_aload_n (pc := 78) C 0 dX9_judge_78 rfl ?_
          refine z_get (pc := 79) C uw9 0 rfl rfl 3 (by decide) wq531 rfl dX9_judge_79 ?_
          refine z_iload (pc := 82) C 3 dX9_judge_82 rfl ?_
          refine z_callRi (pc := 84) C (z_runV (pc := 84) (wc := ((wX0 dNc (dNcj 0) (dNcs 0) (dNcp 0) (dNcr 0) vNc) ++ ((wX1 cI dNcj vNcj) ++ (wX5 cI dNcs vNcs)))) (As := [.int x4]) C (fun sz => kX0_lightOf dNc dNcj dNcs dNcp dNcr vNc vNcj vNcs x4 sz h) [1, 2, 3, 4, 5, 6, 7, 8, 9, 10, 11, 12, 13, 14, 15] rfl (by decide) (gdV wq266 wq782 wq272 wq273 wq108) rfl rfl rfl hdX0_lightOf 1 rfl rfl rfl ⟨Nat.le_of_ble_eq_true rfl, Nat.le_of_ble_eq_true rfl⟩ rfl (Nat.le_of_ble_eq_true rfl) ⟨Nat.zero_le _, Nat.zero_le _⟩ dX9_judge_84) [1, 2, 3, 4, 5, 6, 7, 8, 9, 10, 11, 12, 13, 14, 15] rfl (by decide) (fun r9 u9 h => ?_)
          refine z_i2l (pc := 87) C dX9_judge_87 ?_
          refine z_lcmp (pc := 88) C dX9_judge_88 ?_
          refine z_if_eq (pc := 89) (tgt := 95) C dX9_judge_89 (by decide) (fun c10 => ?_) (fun c10 => ?_)
          · have h := h.1 c10
            refine z_iinc (pc := 95) (v := (x4 + 1)) (lv' := [(4, .int (x4 + 1)), (0, .ref (d 0)), (2, .int x2), (3, .ref (dt 2 0))]) C 3 dX9_judge_95 rfl rfl (by decide) rfl ?_
            refine z_goto (pc := 98) (tgt := 40) C dX9_judge_98 (by decide) ?_
            refine z_sub (lv' := [(0, .ref (d 0)), (2, .int x2), (3, .ref (dt 2 0)), (4, .int (x4 + 1))]) [1, 2, 3, 0] rfl ?_
            exact ih40 (x4 + 1) h
          · have h := h.2 c10
            refine z_iload (pc := 92) C 3 dX9_judge_92 rfl ?_
            exact hret 94 _ _ x4 () rfl h dX9_judge_94
        · have h := h.2 c7
          refine z_bipush (pc := 63) (v := 100) C dX9_judge_63 (by decide) ?_
          refine z_iload (pc := 65) C 3 dX9_judge_65 rfl ?_
          refine z_iadd (pc := 67) C dX9_judge_67 ?_
          exact hret 68 _ _ ((100 : Int32) + x4) () rfl h dX9_judge_68
  have J37 :  pX9_judge_J37 vNc vNcj vNcs vt gt (nI 2) x2 Q  → ZZ p l e rmX9_judge s m args below meth c D A 5 0 0 QQ 37 ((wX9 d (dN 0) (dI 0) (dT 0) (dNc 0) (dNcj 0) (dNcs 0) (dNcp 0) (dNw 0) (dx 0) dtt v) ++ ((wX0 dNc (dNcj 0) (dNcs 0) (dNcp 0) (dNcr 0) vNc) ++ ((wX1 cI dNcj vNcj) ++ ((wX5 cI dNcs vNcs) ++ (wTT cJ cT dtt dt vt gt))))) [(0, .ref (d 0)), (2, .int x2), (3, .ref (dt 2 0))] [] := by
    intro   h
    refine z_iconst (pc := 37) (v := 0) C dX9_judge_37 (by decide) ?_
    refine z_istore (pc := 38) (lv' := [(4, .int (0 : Int32)), (0, .ref (d 0)), (2, .int x2), (3, .ref (dt 2 0))]) C dX9_judge_38 (by decide) rfl ?_
    obtain ⟨n40, h⟩ := h
    refine z_sub (lv' := [(0, .ref (d 0)), (2, .int x2), (3, .ref (dt 2 0)), (4, .int (0 : Int32))]) [1, 2, 3, 0] rfl ?_
    exact L40  n40 (0 : Int32) h
  refine z_iload_n (pc := 0) C 1 dX9_judge_0 rfl ?_
  refine z_iconst (pc := 1) (v := 0) C dX9_judge_1 (by decide) ?_
  refine z_iconst (pc := 2) (v := 5) C dX9_judge_2 (by decide) ?_
  refine z_call0i (pc := 3) C (z_runS (pc := 3) (wc := ([] : va_W)) (As := [.int (nI 2), .int (0 : Int32), .int (5 : Int32)]) C (fun sz => kX9_within (nI 2) (0 : Int32) (5 : Int32) sz h) [] rfl (by decide) (gdS wq366 wq553 wq373 wq112) rfl rfl rfl hdSX9_within ⟨Nat.le_of_ble_eq_true rfl, Nat.le_of_ble_eq_true rfl⟩ rfl (Nat.le_of_ble_eq_true rfl) ⟨Nat.zero_le _, Nat.zero_le _⟩ dX9_judge_3) (fun r1 u1 h => ?_)
  refine z_if_ne (pc := 6) (tgt := 11) C dX9_judge_6 (by decide) (fun c2 => ?_) (fun c2 => ?_)
  · have h := h.1 c2
    refine z_aload_n (pc := 11) C 0 dX9_judge_11 rfl ?_
    refine z_get (pc := 12) C uw9 0 rfl rfl 9 (by decide) wq544 rfl dX9_judge_12 ?_
    refine z_iload_n (pc := 15) C 1 dX9_judge_15 rfl ?_
    obtain ⟨g3, h⟩ := h
    refine z_aldq (pc := 16) C 16 2 rfl rfl g3 (.ref (dt 2 0)) rfl dX9_judge_16 ?_
    refine z_astore_n (pc := 17) (lv' := [(3, .ref (dt 2 0)), (0, .ref (d 0)), (1, .int (nI 2)), (2, .int x2)]) C dX9_judge_17 (by decide) rfl ?_
    refine z_aload_n (pc := 18) C 0 dX9_judge_18 rfl ?_
    refine z_get (pc := 19) C uw6 21 rfl rfl 0 (by decide) wq777 rfl dX9_judge_19 ?_
    refine z_bipush (pc := 22) (v := -5) C dX9_judge_22 (by decide) ?_
    refine z_icmp_eq (pc := 24) (tgt := 37) C dX9_judge_24 (by decide) (fun c4 => ?_) (fun c4 => ?_)
    · have h := h.1 c4
      refine z_sub (lv' := [(0, .ref (d 0)), (2, .int x2), (3, .ref (dt 2 0))]) [1, 3, 0] rfl ?_
      exact J37   h
    · have h := h.2 c4
      refine z_aload_n (pc := 27) C 0 dX9_judge_27 rfl ?_
      refine z_get (pc := 28) C uw6 21 rfl rfl 0 (by decide) wq777 rfl dX9_judge_28 ?_
      refine z_if_eq (pc := 31) (tgt := 37) C dX9_judge_31 (by decide) (fun c11 => ?_) (fun c11 => ?_)
      · have h := h.1 c11
        refine z_sub (lv' := [(0, .ref (d 0)), (2, .int x2), (3, .ref (dt 2 0))]) [1, 3, 0] rfl ?_
        exact J37   h
      · have h := h.2 c11
        refine z_bipush (pc := 34) (v := -12) C dX9_judge_34 (by decide) ?_
        exact hret 36 _ _ (-12 : Int32) () rfl h dX9_judge_36
  · have h := h.2 c2
    refine z_iconst (pc := 9) (v := -1) C dX9_judge_9 (by decide) ?_
    exact hret 10 _ _ (-1 : Int32) () rfl h dX9_judge_10

set_option maxHeartbeats 4000000 in
set_option maxRecDepth 100000 in
theorem kX9_judge_3 {l : Launch} {D : va_G} {cI cJ cT : ClassId} (d : Nat → Nat) (dN : Nat → Nat) (dI : Nat → Nat) (dT : Nat → Nat) (dNc : Nat → Nat) (dNcj : Nat → Nat) (dNcs : Nat → Nat) (dNcp : Nat → Nat) (dNw : Nat → Nat) (dx : Nat → Nat) (dtt : Nat) (dNcr : Nat → Nat) (dt : Nat → Nat → Nat)  (v : Lf) (vNc : Lf) (vNcj : Lf) (vNcs : Lf) (vt : Nat → Lf) (gt : Nat → Lg) (x2 : Int32) {Q : Int32 → Prop} (sz : Nat) (h : pX9_judge vNc vNcj vNcs vt gt (nI 3) x2 Q) : Met l yX9_judge wdX9_judge rmX9_judge (Pz D (tyL cI cJ cT) [.ref (d 0), .int (nI 3), .int x2] ((wX9 d (dN 0) (dI 0) (dT 0) (dNc 0) (dNcj 0) (dNcs 0) (dNcp 0) (dNw 0) (dx 0) dtt v) ++ ((wX0 dNc (dNcj 0) (dNcs 0) (dNcp 0) (dNcr 0) vNc) ++ ((wX1 cI dNcj vNcj) ++ ((wX5 cI dNcs vNcs) ++ (wTT cJ cT dtt dt vt gt))))) sz) (va_Qi (fun (r : Int32) (u : Unit) => Q r) (Bz D (tyL cI cJ cT) ((wX9 d (dN 0) (dI 0) (dT 0) (dNc 0) (dNcj 0) (dNcs 0) (dNcp 0) (dNw 0) (dx 0) dtt v) ++ ((wX0 dNc (dNcj 0) (dNcs 0) (dNcp 0) (dNcr 0) vNc) ++ ((wX1 cI dNcj vNcj) ++ ((wX5 cI dNcs vNcs) ++ (wTT cJ cT dtt dt vt gt))))) sz (fun (u : Unit) => ((wX9 d (dN 0) (dI 0) (dT 0) (dNc 0) (dNcj 0) (dNcs 0) (dNcp 0) (dNw 0) (dx 0) dtt v) ++ ((wX0 dNc (dNcj 0) (dNcs 0) (dNcp 0) (dNcr 0) vNc) ++ ((wX1 cI dNcj vNcj) ++ ((wX5 cI dNcs vNcs) ++ (wTT cJ cT dtt dt vt gt))))))) (va_A ((wX9 d (dN 0) (dI 0) (dT 0) (dNc 0) (dNcj 0) (dNcs 0) (dNcp 0) (dNw 0) (dx 0) dtt v) ++ ((wX0 dNc (dNcj 0) (dNcs 0) (dNcp 0) (dNcr 0) vNc) ++ ((wX1 cI dNcj vNcj) ++ ((wX5 cI dNcs vNcs) ++ (wTT cJ cT dtt dt vt gt))))) sz)) 0 0 (va_A ((wX9 d (dN 0) (dI 0) (dT 0) (dNc 0) (dNcj 0) (dNcs 0) (dNcp 0) (dNw 0) (dx 0) dtt v) ++ ((wX0 dNc (dNcj 0) (dNcs 0) (dNcp 0) (dNcr 0) vNc) ++ ((wX1 cI dNcj vNcj) ++ ((wX5 cI dNcs vNcs) ++ (wTT cJ cT dtt dt vt gt))))) sz) := by
  refine z_meti (cc := cX9_judge) (maxL := 5) (own := RX9) (lv0 := [(0, .ref (d 0)), (1, .int (nI 3)), (2, .int x2)]) (by decide) rfl rfl (Nat.le_of_ble_eq_true rfl) rfl ?_
  intro p e s m args below meth c A QQ C hin hret
  have L40 : ∀ (n40 : Nat) (x4 : Int32), pX9_judge_L40 vNc vNcj vNcs vt gt (nI 3) x2 Q n40 x4 → ZZ p l e rmX9_judge s m args below meth c D A 5 0 0 QQ 40 ((wX9 d (dN 0) (dI 0) (dT 0) (dNc 0) (dNcj 0) (dNcs 0) (dNcp 0) (dNw 0) (dx 0) dtt v) ++ ((wX0 dNc (dNcj 0) (dNcs 0) (dNcp 0) (dNcr 0) vNc) ++ ((wX1 cI dNcj vNcj) ++ ((wX5 cI dNcs vNcs) ++ (wTT cJ cT dtt dt vt gt))))) [(0, .ref (d 0)), (2, .int x2), (3, .ref (dt 3 0)), (4, .int x4)] [] := by
    intro n40
    induction n40 with
    | zero => intro x4 h; exact False.elim h
    | succ n40 ih40 =>
      intro x4 h
      refine z_iload (pc := 40) C 3 dX9_judge_40 rfl ?_
      refine z_aload_n (pc := 42) C 0 dX9_judge_42 rfl ?_
      refine z_get (pc := 43) C uw9 0 rfl rfl 4 (by decide) wq533 rfl dX9_judge_43 ?_
      refine z_get (pc := 46) C uw1 2 rfl rfl 0 (by decide) wq552 rfl dX9_judge_46 ?_
      refine z_icmp_ge (pc := 49) (tgt := 101) C dX9_judge_49 (by decide) (fun c5 => ?_) (fun c5 => ?_)
      · have h := h.1 c5
        refine z_bipush (pc := 101) (v := -5) C dX9_judge_101 (by decide) ?_
        exact hret 103 _ _ (-5 : Int32) () rfl h dX9_judge_103
      · have h := h.2 c5
        refine z_aload_n (pc := 52) C 2 dX9_judge_52 rfl ?_
        refine z_iload_n (pc := 53) C 1 dX9_judge_53 rfl ?_
        refine z_iload (pc := 54) C 3 dX9_judge_54 rfl ?_
        refine z_iadd (pc := 56) C dX9_judge_56 ?_
        refine z_callRi (pc := 57) C (z_runV (pc := 57) (wc := (wX6 cJ (dt 3) (vt 3) (gt 3))) (As := [.int (x2 + x4)]) C (fun sz => kX6_hasPlace (dt 3) (vt 3) (gt 3) (x2 + x4) sz h) [23, 24] rfl (by decide) (gdV wq413 wq779 wq780 wq781 wq546) rfl rfl rfl hdX6_hasPlace 23 rfl rfl rfl ⟨Nat.le_of_ble_eq_true rfl, Nat.le_of_ble_eq_true rfl⟩ rfl (Nat.le_of_ble_eq_true rfl) ⟨Nat.zero_le _, Nat.zero_le _⟩ dX9_judge_57) [23, 24] rfl (by decide) (fun r6 u6 h => ?_)
        refine z_if_ne (pc := 60) (tgt := 69) C dX9_judge_60 (by decide) (fun c7 => ?_) (fun c7 => ?_)
        · have h := h.1 c7
          refine z_aload_n (pc := 69) C 2 dX9_judge_69 rfl ?_
          refine z_get (pc := 70) C uw6 23 rfl rfl 2 (by decide) wq778 rfl dX9_judge_70 ?_
          refine z_iload_n (pc := 73) C 1 dX9_judge_73 rfl ?_
          refine z_iload (pc := 74) C 3 dX9_judge_74 rfl ?_
          refine z_iadd (pc := 76) C dX9_judge_76 ?_
          obtain ⟨g8, h⟩ := h
          refine z_lald (pc := 77) C 24 1 rfl rfl g8 ((gt 3) 1 (x2 + x4).toNatClampNeg) rfl dX9_judge_77 ?_
          refine z_aload_n (pc := 78) C 0 dX9_judge_78 rfl ?_
          refine z_get (pc := 79) C uw9 0 rfl rfl 3 (by decide) wq531 rfl dX9_judge_79 ?_
          refine z_iload (pc := 82) C 3 dX9_judge_82 rfl ?_
          refine z_callRi (pc := 84) C (z_runV (pc := 84) (wc := ((wX0 dNc (dNcj 0) (dNcs 0) (dNcp 0) (dNcr 0) vNc) ++ ((wX1 cI dNcj vNcj) ++ (wX5 cI dNcs vNcs)))) (As := [.int x4]) C (fun sz => kX0_lightOf dNc dNcj dNcs dNcp dNcr vNc vNcj vNcs x4 sz h) [1, 2, 3, 4, 5, 6, 7, 8, 9, 10, 11, 12, 13, 14, 15] rfl (by decide) (gdV wq266 wq782 wq272 wq273 wq108) rfl rfl rfl hdX0_lightOf 1 rfl rfl rfl ⟨Nat.le_of_ble_eq_true rfl, Nat.le_of_ble_eq_true rfl⟩ rfl (Nat.le_of_ble_eq_true rfl) ⟨Nat.zero_le _, Nat.zero_le _⟩ dX9_judge_84) [1, 2, 3, 4, 5, 6, 7, 8, 9, 10, 11, 12, 13, 14, 15] rfl (by decide) (fun r9 u9 h => ?_)
          refine z_i2l (pc := 87) C dX9_judge_87 ?_
          refine z_lcmp (pc := 88) C dX9_judge_88 ?_
          refine z_if_eq (pc := 89) (tgt := 95) C dX9_judge_89 (by decide) (fun c10 => ?_) (fun c10 => ?_)
          · have h := h.1 c10
            refine z_iinc (pc := 95) (v := (x4 + 1)) (lv' := [(4, .int (x4 + 1)), (0, .ref (d 0)), (2, .int x2), (3, .ref (dt 3 0))]) C 3 dX9_judge_95 rfl rfl (by decide) rfl ?_
            refine z_goto (pc := 98) (tgt := 40) C dX9_judge_98 (by decide) ?_
            refine z_sub (lv' := [(0, .ref (d 0)), (2, .int x2), (3, .ref (dt 3 0)), (4, .int (x4 + 1))]) [1, 2, 3, 0] rfl ?_
            exact ih40 (x4 + 1) h
          · have h := h.2 c10
            refine z_iload (pc := 92) C 3 dX9_judge_92 rfl ?_
            exact hret 94 _ _ x4 () rfl h dX9_judge_94
        · have h := h.2 c7
          refine z_bipush (pc := 63) (v := 100) C dX9_judge_63 (by decide) ?_
          refine z_iload (pc := 65) C 3 dX9_judge_65 rfl ?_
          refine z_iadd (pc := 67) C dX9_judge_67 ?_
          exact hret 68 _ _ ((100 : Int32) + x4) () rfl h dX9_judge_68
  have J37 :  pX9_judge_J37 vNc vNcj vNcs vt gt (nI 3) x2 Q  → ZZ p l e rmX9_judge s m args below meth c D A 5 0 0 QQ 37 ((wX9 d (dN 0) (dI 0) (dT 0) (dNc 0) (dNcj 0) (dNcs 0) (dNcp 0) (dNw 0) (dx 0) dtt v) ++ ((wX0 dNc (dNcj 0) (dNcs 0) (dNcp 0) (dNcr 0) vNc) ++ ((wX1 cI dNcj vNcj) ++ ((wX5 cI dNcs vNcs) ++ (wTT cJ cT dtt dt vt gt))))) [(0, .ref (d 0)), (2, .int x2), (3, .ref (dt 3 0))] [] := by
    intro   h
    refine z_iconst (pc := 37) (v := 0) C dX9_judge_37 (by decide) ?_
    refine z_istore (pc := 38) (lv' := [(4, .int (0 : Int32)), (0, .ref (d 0)), (2, .int x2), (3, .ref (dt 3 0))]) C dX9_judge_38 (by decide) rfl ?_
    obtain ⟨n40, h⟩ := h
    refine z_sub (lv' := [(0, .ref (d 0)), (2, .int x2), (3, .ref (dt 3 0)), (4, .int (0 : Int32))]) [1, 2, 3, 0] rfl ?_
    exact L40  n40 (0 : Int32) h
  refine z_iload_n (pc := 0) C 1 dX9_judge_0 rfl ?_
  refine z_iconst (pc := 1) (v := 0) C dX9_judge_1 (by decide) ?_
  refine z_iconst (pc := 2) (v := 5) C dX9_judge_2 (by decide) ?_
  refine z_call0i (pc := 3) C (z_runS (pc := 3) (wc := ([] : va_W)) (As := [.int (nI 3), .int (0 : Int32), .int (5 : Int32)]) C (fun sz => kX9_within (nI 3) (0 : Int32) (5 : Int32) sz h) [] rfl (by decide) (gdS wq366 wq553 wq373 wq112) rfl rfl rfl hdSX9_within ⟨Nat.le_of_ble_eq_true rfl, Nat.le_of_ble_eq_true rfl⟩ rfl (Nat.le_of_ble_eq_true rfl) ⟨Nat.zero_le _, Nat.zero_le _⟩ dX9_judge_3) (fun r1 u1 h => ?_)
  refine z_if_ne (pc := 6) (tgt := 11) C dX9_judge_6 (by decide) (fun c2 => ?_) (fun c2 => ?_)
  · have h := h.1 c2
    refine z_aload_n (pc := 11) C 0 dX9_judge_11 rfl ?_
    refine z_get (pc := 12) C uw9 0 rfl rfl 9 (by decide) wq544 rfl dX9_judge_12 ?_
    refine z_iload_n (pc := 15) C 1 dX9_judge_15 rfl ?_
    obtain ⟨g3, h⟩ := h
    refine z_aldq (pc := 16) C 16 2 rfl rfl g3 (.ref (dt 3 0)) rfl dX9_judge_16 ?_
    refine z_astore_n (pc := 17) (lv' := [(3, .ref (dt 3 0)), (0, .ref (d 0)), (1, .int (nI 3)), (2, .int x2)]) C dX9_judge_17 (by decide) rfl ?_
    refine z_aload_n (pc := 18) C 0 dX9_judge_18 rfl ?_
    refine z_get (pc := 19) C uw6 23 rfl rfl 0 (by decide) wq777 rfl dX9_judge_19 ?_
    refine z_bipush (pc := 22) (v := -5) C dX9_judge_22 (by decide) ?_
    refine z_icmp_eq (pc := 24) (tgt := 37) C dX9_judge_24 (by decide) (fun c4 => ?_) (fun c4 => ?_)
    · have h := h.1 c4
      refine z_sub (lv' := [(0, .ref (d 0)), (2, .int x2), (3, .ref (dt 3 0))]) [1, 3, 0] rfl ?_
      exact J37   h
    · have h := h.2 c4
      refine z_aload_n (pc := 27) C 0 dX9_judge_27 rfl ?_
      refine z_get (pc := 28) C uw6 23 rfl rfl 0 (by decide) wq777 rfl dX9_judge_28 ?_
      refine z_if_eq (pc := 31) (tgt := 37) C dX9_judge_31 (by decide) (fun c11 => ?_) (fun c11 => ?_)
      · have h := h.1 c11
        refine z_sub (lv' := [(0, .ref (d 0)), (2, .int x2), (3, .ref (dt 3 0))]) [1, 3, 0] rfl ?_
        exact J37   h
      · have h := h.2 c11
        refine z_bipush (pc := 34) (v := -12) C dX9_judge_34 (by decide) ?_
        exact hret 36 _ _ (-12 : Int32) () rfl h dX9_judge_36
  · have h := h.2 c2
    refine z_iconst (pc := 9) (v := -1) C dX9_judge_9 (by decide) ?_
    exact hret 10 _ _ (-1 : Int32) () rfl h dX9_judge_10

set_option maxHeartbeats 4000000 in
set_option maxRecDepth 100000 in
theorem kX9_judge_4 {l : Launch} {D : va_G} {cI cJ cT : ClassId} (d : Nat → Nat) (dN : Nat → Nat) (dI : Nat → Nat) (dT : Nat → Nat) (dNc : Nat → Nat) (dNcj : Nat → Nat) (dNcs : Nat → Nat) (dNcp : Nat → Nat) (dNw : Nat → Nat) (dx : Nat → Nat) (dtt : Nat) (dNcr : Nat → Nat) (dt : Nat → Nat → Nat)  (v : Lf) (vNc : Lf) (vNcj : Lf) (vNcs : Lf) (vt : Nat → Lf) (gt : Nat → Lg) (x2 : Int32) {Q : Int32 → Prop} (sz : Nat) (h : pX9_judge vNc vNcj vNcs vt gt (nI 4) x2 Q) : Met l yX9_judge wdX9_judge rmX9_judge (Pz D (tyL cI cJ cT) [.ref (d 0), .int (nI 4), .int x2] ((wX9 d (dN 0) (dI 0) (dT 0) (dNc 0) (dNcj 0) (dNcs 0) (dNcp 0) (dNw 0) (dx 0) dtt v) ++ ((wX0 dNc (dNcj 0) (dNcs 0) (dNcp 0) (dNcr 0) vNc) ++ ((wX1 cI dNcj vNcj) ++ ((wX5 cI dNcs vNcs) ++ (wTT cJ cT dtt dt vt gt))))) sz) (va_Qi (fun (r : Int32) (u : Unit) => Q r) (Bz D (tyL cI cJ cT) ((wX9 d (dN 0) (dI 0) (dT 0) (dNc 0) (dNcj 0) (dNcs 0) (dNcp 0) (dNw 0) (dx 0) dtt v) ++ ((wX0 dNc (dNcj 0) (dNcs 0) (dNcp 0) (dNcr 0) vNc) ++ ((wX1 cI dNcj vNcj) ++ ((wX5 cI dNcs vNcs) ++ (wTT cJ cT dtt dt vt gt))))) sz (fun (u : Unit) => ((wX9 d (dN 0) (dI 0) (dT 0) (dNc 0) (dNcj 0) (dNcs 0) (dNcp 0) (dNw 0) (dx 0) dtt v) ++ ((wX0 dNc (dNcj 0) (dNcs 0) (dNcp 0) (dNcr 0) vNc) ++ ((wX1 cI dNcj vNcj) ++ ((wX5 cI dNcs vNcs) ++ (wTT cJ cT dtt dt vt gt))))))) (va_A ((wX9 d (dN 0) (dI 0) (dT 0) (dNc 0) (dNcj 0) (dNcs 0) (dNcp 0) (dNw 0) (dx 0) dtt v) ++ ((wX0 dNc (dNcj 0) (dNcs 0) (dNcp 0) (dNcr 0) vNc) ++ ((wX1 cI dNcj vNcj) ++ ((wX5 cI dNcs vNcs) ++ (wTT cJ cT dtt dt vt gt))))) sz)) 0 0 (va_A ((wX9 d (dN 0) (dI 0) (dT 0) (dNc 0) (dNcj 0) (dNcs 0) (dNcp 0) (dNw 0) (dx 0) dtt v) ++ ((wX0 dNc (dNcj 0) (dNcs 0) (dNcp 0) (dNcr 0) vNc) ++ ((wX1 cI dNcj vNcj) ++ ((wX5 cI dNcs vNcs) ++ (wTT cJ cT dtt dt vt gt))))) sz) := by
  refine z_meti (cc := cX9_judge) (maxL := 5) (own := RX9) (lv0 := [(0, .ref (d 0)), (1, .int (nI 4)), (2, .int x2)]) (by decide) rfl rfl (Nat.le_of_ble_eq_true rfl) rfl ?_
  intro p e s m args below meth c A QQ C hin hret
  have L40 : ∀ (n40 : Nat) (x4 : Int32), pX9_judge_L40 vNc vNcj vNcs vt gt (nI 4) x2 Q n40 x4 → ZZ p l e rmX9_judge s m args below meth c D A 5 0 0 QQ 40 ((wX9 d (dN 0) (dI 0) (dT 0) (dNc 0) (dNcj 0) (dNcs 0) (dNcp 0) (dNw 0) (dx 0) dtt v) ++ ((wX0 dNc (dNcj 0) (dNcs 0) (dNcp 0) (dNcr 0) vNc) ++ ((wX1 cI dNcj vNcj) ++ ((wX5 cI dNcs vNcs) ++ (wTT cJ cT dtt dt vt gt))))) [(0, .ref (d 0)), (2, .int x2), (3, .ref (dt 4 0)), (4, .int x4)] [] := by
    intro n40
    induction n40 with
    | zero => intro x4 h; exact False.elim h
    | succ n40 ih40 =>
      intro x4 h
      refine z_iload (pc := 40) C 3 dX9_judge_40 rfl ?_
      refine z_aload_n (pc := 42) C 0 dX9_judge_42 rfl ?_
      refine z_get (pc := 43) C uw9 0 rfl rfl 4 (by decide) wq533 rfl dX9_judge_43 ?_
      refine z_get (pc := 46) C uw1 2 rfl rfl 0 (by decide) wq552 rfl dX9_judge_46 ?_
      refine z_icmp_ge (pc := 49) (tgt := 101) C dX9_judge_49 (by decide) (fun c5 => ?_) (fun c5 => ?_)
      · have h := h.1 c5
        refine z_bipush (pc := 101) (v := -5) C dX9_judge_101 (by decide) ?_
        exact hret 103 _ _ (-5 : Int32) () rfl h dX9_judge_103
      · have h := h.2 c5
        refine z_aload_n (pc := 52) C 2 dX9_judge_52 rfl ?_
        refine z_iload_n (pc := 53) C 1 dX9_judge_53 rfl ?_
        refine z_iload (pc := 54) C 3 dX9_judge_54 rfl ?_
        refine z_iadd (pc := 56) C dX9_judge_56 ?_
        refine z_callRi (pc := 57) C (z_runV (pc := 57) (wc := (wX6 cJ (dt 4) (vt 4) (gt 4))) (As := [.int (x2 + x4)]) C (fun sz => kX6_hasPlace (dt 4) (vt 4) (gt 4) (x2 + x4) sz h) [25, 26] rfl (by decide) (gdV wq413 wq779 wq780 wq781 wq546) rfl rfl rfl hdX6_hasPlace 25 rfl rfl rfl ⟨Nat.le_of_ble_eq_true rfl, Nat.le_of_ble_eq_true rfl⟩ rfl (Nat.le_of_ble_eq_true rfl) ⟨Nat.zero_le _, Nat.zero_le _⟩ dX9_judge_57) [25, 26] rfl (by decide) (fun r6 u6 h => ?_)
        refine z_if_ne (pc := 60) (tgt := 69) C dX9_judge_60 (by decide) (fun c7 => ?_) (fun c7 => ?_)
        · have h := h.1 c7
          refine z_aload_n (pc := 69) C 2 dX9_judge_69 rfl ?_
          refine z_get (pc := 70) C uw6 25 rfl rfl 2 (by decide) wq778 rfl dX9_judge_70 ?_
          refine z_iload_n (pc := 73) C 1 dX9_judge_73 rfl ?_
          refine z_iload (pc := 74) C 3 dX9_judge_74 rfl ?_
          refine z_iadd (pc := 76) C dX9_judge_76 ?_
          obtain ⟨g8, h⟩ := h
          refine z_lald (pc := 77) C 26 1 rfl rfl g8 ((gt 4) 1 (x2 + x4).toNatClampNeg) rfl dX9_judge_77 ?_
          refine z_aload_n (pc := 78) C 0 dX9_judge_78 rfl ?_
          refine z_get (pc := 79) C uw9 0 rfl rfl 3 (by decide) wq531 rfl dX9_judge_79 ?_
          refine z_iload (pc := 82) C 3 dX9_judge_82 rfl ?_
          refine z_callRi (pc := 84) C (z_runV (pc := 84) (wc := ((wX0 dNc (dNcj 0) (dNcs 0) (dNcp 0) (dNcr 0) vNc) ++ ((wX1 cI dNcj vNcj) ++ (wX5 cI dNcs vNcs)))) (As := [.int x4]) C (fun sz => kX0_lightOf dNc dNcj dNcs dNcp dNcr vNc vNcj vNcs x4 sz h) [1, 2, 3, 4, 5, 6, 7, 8, 9, 10, 11, 12, 13, 14, 15] rfl (by decide) (gdV wq266 wq782 wq272 wq273 wq108) rfl rfl rfl hdX0_lightOf 1 rfl rfl rfl ⟨Nat.le_of_ble_eq_true rfl, Nat.le_of_ble_eq_true rfl⟩ rfl (Nat.le_of_ble_eq_true rfl) ⟨Nat.zero_le _, Nat.zero_le _⟩ dX9_judge_84) [1, 2, 3, 4, 5, 6, 7, 8, 9, 10, 11, 12, 13, 14, 15] rfl (by decide) (fun r9 u9 h => ?_)
          refine z_i2l (pc := 87) C dX9_judge_87 ?_
          refine z_lcmp (pc := 88) C dX9_judge_88 ?_
          refine z_if_eq (pc := 89) (tgt := 95) C dX9_judge_89 (by decide) (fun c10 => ?_) (fun c10 => ?_)
          · have h := h.1 c10
            refine z_iinc (pc := 95) (v := (x4 + 1)) (lv' := [(4, .int (x4 + 1)), (0, .ref (d 0)), (2, .int x2), (3, .ref (dt 4 0))]) C 3 dX9_judge_95 rfl rfl (by decide) rfl ?_
            refine z_goto (pc := 98) (tgt := 40) C dX9_judge_98 (by decide) ?_
            refine z_sub (lv' := [(0, .ref (d 0)), (2, .int x2), (3, .ref (dt 4 0)), (4, .int (x4 + 1))]) [1, 2, 3, 0] rfl ?_
            exact ih40 (x4 + 1) h
          · have h := h.2 c10
            refine z_iload (pc := 92) C 3 dX9_judge_92 rfl ?_
            exact hret 94 _ _ x4 () rfl h dX9_judge_94
        · have h := h.2 c7
          refine z_bipush (pc := 63) (v := 100) C dX9_judge_63 (by decide) ?_
          refine z_iload (pc := 65) C 3 dX9_judge_65 rfl ?_
          refine z_iadd (pc := 67) C dX9_judge_67 ?_
          exact hret 68 _ _ ((100 : Int32) + x4) () rfl h dX9_judge_68
  have J37 :  pX9_judge_J37 vNc vNcj vNcs vt gt (nI 4) x2 Q  → ZZ p l e rmX9_judge s m args below meth c D A 5 0 0 QQ 37 ((wX9 d (dN 0) (dI 0) (dT 0) (dNc 0) (dNcj 0) (dNcs 0) (dNcp 0) (dNw 0) (dx 0) dtt v) ++ ((wX0 dNc (dNcj 0) (dNcs 0) (dNcp 0) (dNcr 0) vNc) ++ ((wX1 cI dNcj vNcj) ++ ((wX5 cI dNcs vNcs) ++ (wTT cJ cT dtt dt vt gt))))) [(0, .ref (d 0)), (2, .int x2), (3, .ref (dt 4 0))] [] := by
    intro   h
    refine z_iconst (pc := 37) (v := 0) C dX9_judge_37 (by decide) ?_
    refine z_istore (pc := 38) (lv' := [(4, .int (0 : Int32)), (0, .ref (d 0)), (2, .int x2), (3, .ref (dt 4 0))]) C dX9_judge_38 (by decide) rfl ?_
    obtain ⟨n40, h⟩ := h
    refine z_sub (lv' := [(0, .ref (d 0)), (2, .int x2), (3, .ref (dt 4 0)), (4, .int (0 : Int32))]) [1, 2, 3, 0] rfl ?_
    exact L40  n40 (0 : Int32) h
  refine z_iload_n (pc := 0) C 1 dX9_judge_0 rfl ?_
  refine z_iconst (pc := 1) (v := 0) C dX9_judge_1 (by decide) ?_
  refine z_iconst (pc := 2) (v := 5) C dX9_judge_2 (by decide) ?_
  refine z_call0i (pc := 3) C (z_runS (pc := 3) (wc := ([] : va_W)) (As := [.int (nI 4), .int (0 : Int32), .int (5 : Int32)]) C (fun sz => kX9_within (nI 4) (0 : Int32) (5 : Int32) sz h) [] rfl (by decide) (gdS wq366 wq553 wq373 wq112) rfl rfl rfl hdSX9_within ⟨Nat.le_of_ble_eq_true rfl, Nat.le_of_ble_eq_true rfl⟩ rfl (Nat.le_of_ble_eq_true rfl) ⟨Nat.zero_le _, Nat.zero_le _⟩ dX9_judge_3) (fun r1 u1 h => ?_)
  refine z_if_ne (pc := 6) (tgt := 11) C dX9_judge_6 (by decide) (fun c2 => ?_) (fun c2 => ?_)
  · have h := h.1 c2
    refine z_aload_n (pc := 11) C 0 dX9_judge_11 rfl ?_
    refine z_get (pc := 12) C uw9 0 rfl rfl 9 (by decide) wq544 rfl dX9_judge_12 ?_
    refine z_iload_n (pc := 15) C 1 dX9_judge_15 rfl ?_
    obtain ⟨g3, h⟩ := h
    refine z_aldq (pc := 16) C 16 2 rfl rfl g3 (.ref (dt 4 0)) rfl dX9_judge_16 ?_
    refine z_astore_n (pc := 17) (lv' := [(3, .ref (dt 4 0)), (0, .ref (d 0)), (1, .int (nI 4)), (2, .int x2)]) C dX9_judge_17 (by decide) rfl ?_
    refine z_aload_n (pc := 18) C 0 dX9_judge_18 rfl ?_
    refine z_get (pc := 19) C uw6 25 rfl rfl 0 (by decide) wq777 rfl dX9_judge_19 ?_
    refine z_bipush (pc := 22) (v := -5) C dX9_judge_22 (by decide) ?_
    refine z_icmp_eq (pc := 24) (tgt := 37) C dX9_judge_24 (by decide) (fun c4 => ?_) (fun c4 => ?_)
    · have h := h.1 c4
      refine z_sub (lv' := [(0, .ref (d 0)), (2, .int x2), (3, .ref (dt 4 0))]) [1, 3, 0] rfl ?_
      exact J37   h
    · have h := h.2 c4
      refine z_aload_n (pc := 27) C 0 dX9_judge_27 rfl ?_
      refine z_get (pc := 28) C uw6 25 rfl rfl 0 (by decide) wq777 rfl dX9_judge_28 ?_
      refine z_if_eq (pc := 31) (tgt := 37) C dX9_judge_31 (by decide) (fun c11 => ?_) (fun c11 => ?_)
      · have h := h.1 c11
        refine z_sub (lv' := [(0, .ref (d 0)), (2, .int x2), (3, .ref (dt 4 0))]) [1, 3, 0] rfl ?_
        exact J37   h
      · have h := h.2 c11
        refine z_bipush (pc := 34) (v := -12) C dX9_judge_34 (by decide) ?_
        exact hret 36 _ _ (-12 : Int32) () rfl h dX9_judge_36
  · have h := h.2 c2
    refine z_iconst (pc := 9) (v := -1) C dX9_judge_9 (by decide) ?_
    exact hret 10 _ _ (-1 : Int32) () rfl h dX9_judge_10

set_option maxHeartbeats 4000000 in
set_option maxRecDepth 100000 in
theorem kX9_judge_5 {l : Launch} {D : va_G} {cI cJ cT : ClassId} (d : Nat → Nat) (dN : Nat → Nat) (dI : Nat → Nat) (dT : Nat → Nat) (dNc : Nat → Nat) (dNcj : Nat → Nat) (dNcs : Nat → Nat) (dNcp : Nat → Nat) (dNw : Nat → Nat) (dx : Nat → Nat) (dtt : Nat) (dNcr : Nat → Nat) (dt : Nat → Nat → Nat)  (v : Lf) (vNc : Lf) (vNcj : Lf) (vNcs : Lf) (vt : Nat → Lf) (gt : Nat → Lg) (x2 : Int32) {Q : Int32 → Prop} (sz : Nat) (h : pX9_judge vNc vNcj vNcs vt gt (nI 5) x2 Q) : Met l yX9_judge wdX9_judge rmX9_judge (Pz D (tyL cI cJ cT) [.ref (d 0), .int (nI 5), .int x2] ((wX9 d (dN 0) (dI 0) (dT 0) (dNc 0) (dNcj 0) (dNcs 0) (dNcp 0) (dNw 0) (dx 0) dtt v) ++ ((wX0 dNc (dNcj 0) (dNcs 0) (dNcp 0) (dNcr 0) vNc) ++ ((wX1 cI dNcj vNcj) ++ ((wX5 cI dNcs vNcs) ++ (wTT cJ cT dtt dt vt gt))))) sz) (va_Qi (fun (r : Int32) (u : Unit) => Q r) (Bz D (tyL cI cJ cT) ((wX9 d (dN 0) (dI 0) (dT 0) (dNc 0) (dNcj 0) (dNcs 0) (dNcp 0) (dNw 0) (dx 0) dtt v) ++ ((wX0 dNc (dNcj 0) (dNcs 0) (dNcp 0) (dNcr 0) vNc) ++ ((wX1 cI dNcj vNcj) ++ ((wX5 cI dNcs vNcs) ++ (wTT cJ cT dtt dt vt gt))))) sz (fun (u : Unit) => ((wX9 d (dN 0) (dI 0) (dT 0) (dNc 0) (dNcj 0) (dNcs 0) (dNcp 0) (dNw 0) (dx 0) dtt v) ++ ((wX0 dNc (dNcj 0) (dNcs 0) (dNcp 0) (dNcr 0) vNc) ++ ((wX1 cI dNcj vNcj) ++ ((wX5 cI dNcs vNcs) ++ (wTT cJ cT dtt dt vt gt))))))) (va_A ((wX9 d (dN 0) (dI 0) (dT 0) (dNc 0) (dNcj 0) (dNcs 0) (dNcp 0) (dNw 0) (dx 0) dtt v) ++ ((wX0 dNc (dNcj 0) (dNcs 0) (dNcp 0) (dNcr 0) vNc) ++ ((wX1 cI dNcj vNcj) ++ ((wX5 cI dNcs vNcs) ++ (wTT cJ cT dtt dt vt gt))))) sz)) 0 0 (va_A ((wX9 d (dN 0) (dI 0) (dT 0) (dNc 0) (dNcj 0) (dNcs 0) (dNcp 0) (dNw 0) (dx 0) dtt v) ++ ((wX0 dNc (dNcj 0) (dNcs 0) (dNcp 0) (dNcr 0) vNc) ++ ((wX1 cI dNcj vNcj) ++ ((wX5 cI dNcs vNcs) ++ (wTT cJ cT dtt dt vt gt))))) sz) := by
  refine z_meti (cc := cX9_judge) (maxL := 5) (own := RX9) (lv0 := [(0, .ref (d 0)), (1, .int (nI 5)), (2, .int x2)]) (by decide) rfl rfl (Nat.le_of_ble_eq_true rfl) rfl ?_
  intro p e s m args below meth c A QQ C hin hret
  have L40 : ∀ (n40 : Nat) (x4 : Int32), pX9_judge_L40 vNc vNcj vNcs vt gt (nI 5) x2 Q n40 x4 → ZZ p l e rmX9_judge s m args below meth c D A 5 0 0 QQ 40 ((wX9 d (dN 0) (dI 0) (dT 0) (dNc 0) (dNcj 0) (dNcs 0) (dNcp 0) (dNw 0) (dx 0) dtt v) ++ ((wX0 dNc (dNcj 0) (dNcs 0) (dNcp 0) (dNcr 0) vNc) ++ ((wX1 cI dNcj vNcj) ++ ((wX5 cI dNcs vNcs) ++ (wTT cJ cT dtt dt vt gt))))) [(0, .ref (d 0)), (2, .int x2), (3, .ref (dt 5 0)), (4, .int x4)] [] := by
    intro n40
    induction n40 with
    | zero => intro x4 h; exact False.elim h
    | succ n40 ih40 =>
      intro x4 h
      refine z_iload (pc := 40) C 3 dX9_judge_40 rfl ?_
      refine z_aload_n (pc := 42) C 0 dX9_judge_42 rfl ?_
      refine z_get (pc := 43) C uw9 0 rfl rfl 4 (by decide) wq533 rfl dX9_judge_43 ?_
      refine z_get (pc := 46) C uw1 2 rfl rfl 0 (by decide) wq552 rfl dX9_judge_46 ?_
      refine z_icmp_ge (pc := 49) (tgt := 101) C dX9_judge_49 (by decide) (fun c5 => ?_) (fun c5 => ?_)
      · have h := h.1 c5
        refine z_bipush (pc := 101) (v := -5) C dX9_judge_101 (by decide) ?_
        exact hret 103 _ _ (-5 : Int32) () rfl h dX9_judge_103
      · have h := h.2 c5
        refine z_aload_n (pc := 52) C 2 dX9_judge_52 rfl ?_
        refine z_iload_n (pc := 53) C 1 dX9_judge_53 rfl ?_
        refine z_iload (pc := 54) C 3 dX9_judge_54 rfl ?_
        refine z_iadd (pc := 56) C dX9_judge_56 ?_
        refine z_callRi (pc := 57) C (z_runV (pc := 57) (wc := (wX6 cJ (dt 5) (vt 5) (gt 5))) (As := [.int (x2 + x4)]) C (fun sz => kX6_hasPlace (dt 5) (vt 5) (gt 5) (x2 + x4) sz h) [27, 28] rfl (by decide) (gdV wq413 wq779 wq780 wq781 wq546) rfl rfl rfl hdX6_hasPlace 27 rfl rfl rfl ⟨Nat.le_of_ble_eq_true rfl, Nat.le_of_ble_eq_true rfl⟩ rfl (Nat.le_of_ble_eq_true rfl) ⟨Nat.zero_le _, Nat.zero_le _⟩ dX9_judge_57) [27, 28] rfl (by decide) (fun r6 u6 h => ?_)
        refine z_if_ne (pc := 60) (tgt := 69) C dX9_judge_60 (by decide) (fun c7 => ?_) (fun c7 => ?_)
        · have h := h.1 c7
          refine z_aload_n (pc := 69) C 2 dX9_judge_69 rfl ?_
          refine z_get (pc := 70) C uw6 27 rfl rfl 2 (by decide) wq778 rfl dX9_judge_70 ?_
          refine z_iload_n (pc := 73) C 1 dX9_judge_73 rfl ?_
          refine z_iload (pc := 74) C 3 dX9_judge_74 rfl ?_
          refine z_iadd (pc := 76) C dX9_judge_76 ?_
          obtain ⟨g8, h⟩ := h
          refine z_lald (pc := 77) C 28 1 rfl rfl g8 ((gt 5) 1 (x2 + x4).toNatClampNeg) rfl dX9_judge_77 ?_
          refine z_aload_n (pc := 78) C 0 dX9_judge_78 rfl ?_
          refine z_get (pc := 79) C uw9 0 rfl rfl 3 (by decide) wq531 rfl dX9_judge_79 ?_
          refine z_iload (pc := 82) C 3 dX9_judge_82 rfl ?_
          refine z_callRi (pc := 84) C (z_runV (pc := 84) (wc := ((wX0 dNc (dNcj 0) (dNcs 0) (dNcp 0) (dNcr 0) vNc) ++ ((wX1 cI dNcj vNcj) ++ (wX5 cI dNcs vNcs)))) (As := [.int x4]) C (fun sz => kX0_lightOf dNc dNcj dNcs dNcp dNcr vNc vNcj vNcs x4 sz h) [1, 2, 3, 4, 5, 6, 7, 8, 9, 10, 11, 12, 13, 14, 15] rfl (by decide) (gdV wq266 wq782 wq272 wq273 wq108) rfl rfl rfl hdX0_lightOf 1 rfl rfl rfl ⟨Nat.le_of_ble_eq_true rfl, Nat.le_of_ble_eq_true rfl⟩ rfl (Nat.le_of_ble_eq_true rfl) ⟨Nat.zero_le _, Nat.zero_le _⟩ dX9_judge_84) [1, 2, 3, 4, 5, 6, 7, 8, 9, 10, 11, 12, 13, 14, 15] rfl (by decide) (fun r9 u9 h => ?_)
          refine z_i2l (pc := 87) C dX9_judge_87 ?_
          refine z_lcmp (pc := 88) C dX9_judge_88 ?_
          refine z_if_eq (pc := 89) (tgt := 95) C dX9_judge_89 (by decide) (fun c10 => ?_) (fun c10 => ?_)
          · have h := h.1 c10
            refine z_iinc (pc := 95) (v := (x4 + 1)) (lv' := [(4, .int (x4 + 1)), (0, .ref (d 0)), (2, .int x2), (3, .ref (dt 5 0))]) C 3 dX9_judge_95 rfl rfl (by decide) rfl ?_
            refine z_goto (pc := 98) (tgt := 40) C dX9_judge_98 (by decide) ?_
            refine z_sub (lv' := [(0, .ref (d 0)), (2, .int x2), (3, .ref (dt 5 0)), (4, .int (x4 + 1))]) [1, 2, 3, 0] rfl ?_
            exact ih40 (x4 + 1) h
          · have h := h.2 c10
            refine z_iload (pc := 92) C 3 dX9_judge_92 rfl ?_
            exact hret 94 _ _ x4 () rfl h dX9_judge_94
        · have h := h.2 c7
          refine z_bipush (pc := 63) (v := 100) C dX9_judge_63 (by decide) ?_
          refine z_iload (pc := 65) C 3 dX9_judge_65 rfl ?_
          refine z_iadd (pc := 67) C dX9_judge_67 ?_
          exact hret 68 _ _ ((100 : Int32) + x4) () rfl h dX9_judge_68
  have J37 :  pX9_judge_J37 vNc vNcj vNcs vt gt (nI 5) x2 Q  → ZZ p l e rmX9_judge s m args below meth c D A 5 0 0 QQ 37 ((wX9 d (dN 0) (dI 0) (dT 0) (dNc 0) (dNcj 0) (dNcs 0) (dNcp 0) (dNw 0) (dx 0) dtt v) ++ ((wX0 dNc (dNcj 0) (dNcs 0) (dNcp 0) (dNcr 0) vNc) ++ ((wX1 cI dNcj vNcj) ++ ((wX5 cI dNcs vNcs) ++ (wTT cJ cT dtt dt vt gt))))) [(0, .ref (d 0)), (2, .int x2), (3, .ref (dt 5 0))] [] := by
    intro   h
    refine z_iconst (pc := 37) (v := 0) C dX9_judge_37 (by decide) ?_
    refine z_istore (pc := 38) (lv' := [(4, .int (0 : Int32)), (0, .ref (d 0)), (2, .int x2), (3, .ref (dt 5 0))]) C dX9_judge_38 (by decide) rfl ?_
    obtain ⟨n40, h⟩ := h
    refine z_sub (lv' := [(0, .ref (d 0)), (2, .int x2), (3, .ref (dt 5 0)), (4, .int (0 : Int32))]) [1, 2, 3, 0] rfl ?_
    exact L40  n40 (0 : Int32) h
  refine z_iload_n (pc := 0) C 1 dX9_judge_0 rfl ?_
  refine z_iconst (pc := 1) (v := 0) C dX9_judge_1 (by decide) ?_
  refine z_iconst (pc := 2) (v := 5) C dX9_judge_2 (by decide) ?_
  refine z_call0i (pc := 3) C (z_runS (pc := 3) (wc := ([] : va_W)) (As := [.int (nI 5), .int (0 : Int32), .int (5 : Int32)]) C (fun sz => kX9_within (nI 5) (0 : Int32) (5 : Int32) sz h) [] rfl (by decide) (gdS wq366 wq553 wq373 wq112) rfl rfl rfl hdSX9_within ⟨Nat.le_of_ble_eq_true rfl, Nat.le_of_ble_eq_true rfl⟩ rfl (Nat.le_of_ble_eq_true rfl) ⟨Nat.zero_le _, Nat.zero_le _⟩ dX9_judge_3) (fun r1 u1 h => ?_)
  refine z_if_ne (pc := 6) (tgt := 11) C dX9_judge_6 (by decide) (fun c2 => ?_) (fun c2 => ?_)
  · have h := h.1 c2
    refine z_aload_n (pc := 11) C 0 dX9_judge_11 rfl ?_
    refine z_get (pc := 12) C uw9 0 rfl rfl 9 (by decide) wq544 rfl dX9_judge_12 ?_
    refine z_iload_n (pc := 15) C 1 dX9_judge_15 rfl ?_
    obtain ⟨g3, h⟩ := h
    refine z_aldq (pc := 16) C 16 2 rfl rfl g3 (.ref (dt 5 0)) rfl dX9_judge_16 ?_
    refine z_astore_n (pc := 17) (lv' := [(3, .ref (dt 5 0)), (0, .ref (d 0)), (1, .int (nI 5)), (2, .int x2)]) C dX9_judge_17 (by decide) rfl ?_
    refine z_aload_n (pc := 18) C 0 dX9_judge_18 rfl ?_
    refine z_get (pc := 19) C uw6 27 rfl rfl 0 (by decide) wq777 rfl dX9_judge_19 ?_
    refine z_bipush (pc := 22) (v := -5) C dX9_judge_22 (by decide) ?_
    refine z_icmp_eq (pc := 24) (tgt := 37) C dX9_judge_24 (by decide) (fun c4 => ?_) (fun c4 => ?_)
    · have h := h.1 c4
      refine z_sub (lv' := [(0, .ref (d 0)), (2, .int x2), (3, .ref (dt 5 0))]) [1, 3, 0] rfl ?_
      exact J37   h
    · have h := h.2 c4
      refine z_aload_n (pc := 27) C 0 dX9_judge_27 rfl ?_
      refine z_get (pc := 28) C uw6 27 rfl rfl 0 (by decide) wq777 rfl dX9_judge_28 ?_
      refine z_if_eq (pc := 31) (tgt := 37) C dX9_judge_31 (by decide) (fun c11 => ?_) (fun c11 => ?_)
      · have h := h.1 c11
        refine z_sub (lv' := [(0, .ref (d 0)), (2, .int x2), (3, .ref (dt 5 0))]) [1, 3, 0] rfl ?_
        exact J37   h
      · have h := h.2 c11
        refine z_bipush (pc := 34) (v := -12) C dX9_judge_34 (by decide) ?_
        exact hret 36 _ _ (-12 : Int32) () rfl h dX9_judge_36
  · have h := h.2 c2
    refine z_iconst (pc := 9) (v := -1) C dX9_judge_9 (by decide) ?_
    exact hret 10 _ _ (-1 : Int32) () rfl h dX9_judge_10

set_option maxHeartbeats 4000000 in
set_option maxRecDepth 100000 in
theorem kX9_judge_n {l : Launch} {D : va_G} {cI cJ cT : ClassId} (d : Nat → Nat) (dN : Nat → Nat) (dI : Nat → Nat) (dT : Nat → Nat) (dNc : Nat → Nat) (dNcj : Nat → Nat) (dNcs : Nat → Nat) (dNcp : Nat → Nat) (dNw : Nat → Nat) (dx : Nat → Nat) (dtt : Nat) (dNcr : Nat → Nat) (dt : Nat → Nat → Nat)  (v : Lf) (vNc : Lf) (vNcj : Lf) (vNcs : Lf) (vt : Nat → Lf) (gt : Nat → Lg) (x1 : Int32) (x2 : Int32) (g1 : ¬ vp_in x1 6) {Q : Int32 → Prop} (sz : Nat) (h : pX9_judge vNc vNcj vNcs vt gt x1 x2 Q) : Met l yX9_judge wdX9_judge rmX9_judge (Pz D (tyL cI cJ cT) [.ref (d 0), .int x1, .int x2] ((wX9 d (dN 0) (dI 0) (dT 0) (dNc 0) (dNcj 0) (dNcs 0) (dNcp 0) (dNw 0) (dx 0) dtt v) ++ ((wX0 dNc (dNcj 0) (dNcs 0) (dNcp 0) (dNcr 0) vNc) ++ ((wX1 cI dNcj vNcj) ++ ((wX5 cI dNcs vNcs) ++ (wTT cJ cT dtt dt vt gt))))) sz) (va_Qi (fun (r : Int32) (u : Unit) => Q r) (Bz D (tyL cI cJ cT) ((wX9 d (dN 0) (dI 0) (dT 0) (dNc 0) (dNcj 0) (dNcs 0) (dNcp 0) (dNw 0) (dx 0) dtt v) ++ ((wX0 dNc (dNcj 0) (dNcs 0) (dNcp 0) (dNcr 0) vNc) ++ ((wX1 cI dNcj vNcj) ++ ((wX5 cI dNcs vNcs) ++ (wTT cJ cT dtt dt vt gt))))) sz (fun (u : Unit) => ((wX9 d (dN 0) (dI 0) (dT 0) (dNc 0) (dNcj 0) (dNcs 0) (dNcp 0) (dNw 0) (dx 0) dtt v) ++ ((wX0 dNc (dNcj 0) (dNcs 0) (dNcp 0) (dNcr 0) vNc) ++ ((wX1 cI dNcj vNcj) ++ ((wX5 cI dNcs vNcs) ++ (wTT cJ cT dtt dt vt gt))))))) (va_A ((wX9 d (dN 0) (dI 0) (dT 0) (dNc 0) (dNcj 0) (dNcs 0) (dNcp 0) (dNw 0) (dx 0) dtt v) ++ ((wX0 dNc (dNcj 0) (dNcs 0) (dNcp 0) (dNcr 0) vNc) ++ ((wX1 cI dNcj vNcj) ++ ((wX5 cI dNcs vNcs) ++ (wTT cJ cT dtt dt vt gt))))) sz)) 0 0 (va_A ((wX9 d (dN 0) (dI 0) (dT 0) (dNc 0) (dNcj 0) (dNcs 0) (dNcp 0) (dNw 0) (dx 0) dtt v) ++ ((wX0 dNc (dNcj 0) (dNcs 0) (dNcp 0) (dNcr 0) vNc) ++ ((wX1 cI dNcj vNcj) ++ ((wX5 cI dNcs vNcs) ++ (wTT cJ cT dtt dt vt gt))))) sz) := by
  refine z_meti (cc := cX9_judge) (maxL := 5) (own := RX9) (lv0 := [(0, .ref (d 0)), (1, .int x1), (2, .int x2)]) (by decide) rfl rfl (Nat.le_of_ble_eq_true rfl) rfl ?_
  intro p e s m args below meth c A QQ C hin hret
  refine z_iload_n (pc := 0) C 1 dX9_judge_0 rfl ?_
  refine z_iconst (pc := 1) (v := 0) C dX9_judge_1 (by decide) ?_
  refine z_iconst (pc := 2) (v := 5) C dX9_judge_2 (by decide) ?_
  refine z_call0i (pc := 3) C (z_runS (pc := 3) (wc := ([] : va_W)) (As := [.int x1, .int (0 : Int32), .int (5 : Int32)]) C (fun sz => kX9_within x1 (0 : Int32) (5 : Int32) sz h) [] rfl (by decide) (gdS wq366 wq553 wq373 wq112) rfl rfl rfl hdSX9_within ⟨Nat.le_of_ble_eq_true rfl, Nat.le_of_ble_eq_true rfl⟩ rfl (Nat.le_of_ble_eq_true rfl) ⟨Nat.zero_le _, Nat.zero_le _⟩ dX9_judge_3) (fun r1 u1 h => ?_)
  refine z_if_ne (pc := 6) (tgt := 11) C dX9_judge_6 (by decide) (fun c2 => ?_) (fun c2 => ?_)
  · have h := h.1 c2
    refine z_aload_n (pc := 11) C 0 dX9_judge_11 rfl ?_
    refine z_get (pc := 12) C uw9 0 rfl rfl 9 (by decide) wq544 rfl dX9_judge_12 ?_
    refine z_iload_n (pc := 15) C 1 dX9_judge_15 rfl ?_
    obtain ⟨g3, h⟩ := h
    exact absurd g3 g1
  · have h := h.2 c2
    refine z_iconst (pc := 9) (v := -1) C dX9_judge_9 (by decide) ?_
    exact hret 10 _ _ (-1 : Int32) () rfl h dX9_judge_10

set_option maxHeartbeats 4000000 in
theorem kX9_judge {l : Launch} {D : va_G} {cI cJ cT : ClassId} (d : Nat → Nat) (dN : Nat → Nat) (dI : Nat → Nat) (dT : Nat → Nat) (dNc : Nat → Nat) (dNcj : Nat → Nat) (dNcs : Nat → Nat) (dNcp : Nat → Nat) (dNw : Nat → Nat) (dx : Nat → Nat) (dtt : Nat) (dNcr : Nat → Nat) (dt : Nat → Nat → Nat)  (v : Lf) (vNc : Lf) (vNcj : Lf) (vNcs : Lf) (vt : Nat → Lf) (gt : Nat → Lg) (x1 : Int32) (x2 : Int32) {Q : Int32 → Prop} (sz : Nat) (h : pX9_judge vNc vNcj vNcs vt gt x1 x2 Q) : Met l yX9_judge wdX9_judge rmX9_judge (Pz D (tyL cI cJ cT) [.ref (d 0), .int x1, .int x2] ((wX9 d (dN 0) (dI 0) (dT 0) (dNc 0) (dNcj 0) (dNcs 0) (dNcp 0) (dNw 0) (dx 0) dtt v) ++ ((wX0 dNc (dNcj 0) (dNcs 0) (dNcp 0) (dNcr 0) vNc) ++ ((wX1 cI dNcj vNcj) ++ ((wX5 cI dNcs vNcs) ++ (wTT cJ cT dtt dt vt gt))))) sz) (va_Qi (fun (r : Int32) (u : Unit) => Q r) (Bz D (tyL cI cJ cT) ((wX9 d (dN 0) (dI 0) (dT 0) (dNc 0) (dNcj 0) (dNcs 0) (dNcp 0) (dNw 0) (dx 0) dtt v) ++ ((wX0 dNc (dNcj 0) (dNcs 0) (dNcp 0) (dNcr 0) vNc) ++ ((wX1 cI dNcj vNcj) ++ ((wX5 cI dNcs vNcs) ++ (wTT cJ cT dtt dt vt gt))))) sz (fun (u : Unit) => ((wX9 d (dN 0) (dI 0) (dT 0) (dNc 0) (dNcj 0) (dNcs 0) (dNcp 0) (dNw 0) (dx 0) dtt v) ++ ((wX0 dNc (dNcj 0) (dNcs 0) (dNcp 0) (dNcr 0) vNc) ++ ((wX1 cI dNcj vNcj) ++ ((wX5 cI dNcs vNcs) ++ (wTT cJ cT dtt dt vt gt))))))) (va_A ((wX9 d (dN 0) (dI 0) (dT 0) (dNc 0) (dNcj 0) (dNcs 0) (dNcp 0) (dNw 0) (dx 0) dtt v) ++ ((wX0 dNc (dNcj 0) (dNcs 0) (dNcp 0) (dNcr 0) vNc) ++ ((wX1 cI dNcj vNcj) ++ ((wX5 cI dNcs vNcs) ++ (wTT cJ cT dtt dt vt gt))))) sz)) 0 0 (va_A ((wX9 d (dN 0) (dI 0) (dT 0) (dNc 0) (dNcj 0) (dNcs 0) (dNcp 0) (dNw 0) (dx 0) dtt v) ++ ((wX0 dNc (dNcj 0) (dNcs 0) (dNcp 0) (dNcr 0) vNc) ++ ((wX1 cI dNcj vNcj) ++ ((wX5 cI dNcs vNcs) ++ (wTT cJ cT dtt dt vt gt))))) sz) := by
  by_cases g1 : vp_in x1 6
  · obtain ⟨j, hj, rfl⟩ := vp_in_of g1 (by decide)
    rcases (show j = 0 ∨ j = 1 ∨ j = 2 ∨ j = 3 ∨ j = 4 ∨ j = 5 by omega) with rfl | rfl | rfl | rfl | rfl | rfl
    · exact kX9_judge_0 d dN dI dT dNc dNcj dNcs dNcp dNw dx dtt dNcr dt v vNc vNcj vNcs vt gt x2 sz h
    · exact kX9_judge_1 d dN dI dT dNc dNcj dNcs dNcp dNw dx dtt dNcr dt v vNc vNcj vNcs vt gt x2 sz h
    · exact kX9_judge_2 d dN dI dT dNc dNcj dNcs dNcp dNw dx dtt dNcr dt v vNc vNcj vNcs vt gt x2 sz h
    · exact kX9_judge_3 d dN dI dT dNc dNcj dNcs dNcp dNw dx dtt dNcr dt v vNc vNcj vNcs vt gt x2 sz h
    · exact kX9_judge_4 d dN dI dT dNc dNcj dNcs dNcp dNw dx dtt dNcr dt v vNc vNcj vNcs vt gt x2 sz h
    · exact kX9_judge_5 d dN dI dT dNc dNcj dNcs dNcp dNw dx dtt dNcr dt v vNc vNcj vNcs vt gt x2 sz h
  · exact kX9_judge_n d dN dI dT dNc dNcj dNcs dNcp dNw dx dtt dNcr dt v vNc vNcj vNcs vt gt x1 x2 g1 sz h

def pX9_tape (vt : Nat → Lf) (gt : Nat → Lg) (x1 : Int32) (x2 : Int32) (x3 : Int32) (Q : Int32 → (Nat → Lf) → (Nat → Lg) → Prop) : Prop := (pX9_within x1 (0 : Int32) (5 : Int32) (fun r1 => ((¬ r1 = 0 → ((¬ x2 = (-1 : Int32) → (pX9_within x2 (0 : Int32) (4 : Int32) (fun r4 => ((r4 = 0 → (Q (-2 : Int32) vt gt)) ∧ (¬ r4 = 0 → ((x3 ≤ (60 : Int32) → ((0 ≤ x3 → (vp_in x1 6 ∧ (pX6_hold (vt (x1.toNatClampNeg)) (gt (x1.toNatClampNeg)) x2 x3 (fun vE_9 gE_9 => (Q (1 : Int32) (va_up vt (x1.toNatClampNeg) vE_9) (va_up gt (x1.toNatClampNeg) gE_9)))))) ∧ (¬ 0 ≤ x3 → (Q (-14 : Int32) vt gt)))) ∧ (¬ x3 ≤ (60 : Int32) → (Q (-2 : Int32) vt gt)))))))) ∧ (x2 = (-1 : Int32) → (vp_in x1 6 ∧ (pX6_holdNothing (vt (x1.toNatClampNeg)) (fun vE_11 => (Q (1 : Int32) (va_up vt (x1.toNatClampNeg) vE_11) gt))))))) ∧ (r1 = 0 → (Q (-1 : Int32) vt gt)))))
abbrev rmX9_tape : Room := { frames := 2, cells := 0, slots := 0, locals := 46 }
abbrev wdX9_tape : List Cond := Cond.code yX9_tape cX9_tape 4 (some .int) :: TB
theorem hdSX9_tape : (yX9_tape).cls ≠ "java/lang/invoke/MethodHandle" ∧ (yX9_tape).cls ≠ "java/lang/invoke/VarHandle" ∧ (parseMethodDescriptor (yX9_tape).desc).map (fun d => d.parameters.length) = some 3 := by decide +kernel
theorem hdX9_tape : (yX9_tape).cls = RX9 ∧ (yX9_tape).cls ≠ "java/lang/invoke/MethodHandle" ∧ (yX9_tape).cls ≠ "java/lang/invoke/VarHandle" ∧ (parseMethodDescriptor (yX9_tape).desc).map (fun d => d.parameters.length) = some 3 := ⟨rfl, hdSX9_tape⟩

set_option maxHeartbeats 4000000 in
set_option maxRecDepth 100000 in
theorem kX9_tape_0 {l : Launch} {D : va_G} {cI cJ cT : ClassId} (d : Nat → Nat) (dN : Nat → Nat) (dI : Nat → Nat) (dT : Nat → Nat) (dNc : Nat → Nat) (dNcj : Nat → Nat) (dNcs : Nat → Nat) (dNcp : Nat → Nat) (dNw : Nat → Nat) (dx : Nat → Nat) (dtt : Nat) (dt : Nat → Nat → Nat)  (v : Lf) (vt : Nat → Lf) (gt : Nat → Lg) (x2 : Int32) (x3 : Int32) {Q : Int32 → (Nat → Lf) → (Nat → Lg) → Prop} (sz : Nat) (h : pX9_tape vt gt (nI 0) x2 x3 Q) : Met l yX9_tape wdX9_tape rmX9_tape (Pz D (tyL cI cJ cT) [.ref (d 0), .int (nI 0), .int x2, .int x3] ((wX9 d (dN 0) (dI 0) (dT 0) (dNc 0) (dNcj 0) (dNcs 0) (dNcp 0) (dNw 0) (dx 0) dtt v) ++ (wTT cJ cT dtt dt vt gt)) sz) (va_Qi (fun (r : Int32) (u : (Nat → Lf) × (Nat → Lg)) => Q r u.1 u.2) (Bz D (tyL cI cJ cT) ((wX9 d (dN 0) (dI 0) (dT 0) (dNc 0) (dNcj 0) (dNcs 0) (dNcp 0) (dNw 0) (dx 0) dtt v) ++ (wTT cJ cT dtt dt vt gt)) sz (fun (u : (Nat → Lf) × (Nat → Lg)) => ((wX9 d (dN 0) (dI 0) (dT 0) (dNc 0) (dNcj 0) (dNcs 0) (dNcp 0) (dNw 0) (dx 0) dtt v) ++ (wTT cJ cT dtt dt u.1 u.2)))) (va_A ((wX9 d (dN 0) (dI 0) (dT 0) (dNc 0) (dNcj 0) (dNcs 0) (dNcp 0) (dNw 0) (dx 0) dtt v) ++ (wTT cJ cT dtt dt vt gt)) sz)) 0 0 (va_A ((wX9 d (dN 0) (dI 0) (dT 0) (dNc 0) (dNcj 0) (dNcs 0) (dNcp 0) (dNw 0) (dx 0) dtt v) ++ (wTT cJ cT dtt dt vt gt)) sz) := by
  refine z_meti (cc := cX9_tape) (maxL := 4) (own := RX9) (lv0 := [(0, .ref (d 0)), (1, .int (nI 0)), (2, .int x2), (3, .int x3)]) (by decide) rfl rfl (Nat.le_of_ble_eq_true rfl) rfl ?_
  intro p e s m args below meth c A QQ C hin hret
  refine z_iload_n (pc := 0) C 1 dX9_tape_0 rfl ?_
  refine z_iconst (pc := 1) (v := 0) C dX9_tape_1 (by decide) ?_
  refine z_iconst (pc := 2) (v := 5) C dX9_tape_2 (by decide) ?_
  refine z_call0i (pc := 3) C (z_runS (pc := 3) (wc := ([] : va_W)) (As := [.int (nI 0), .int (0 : Int32), .int (5 : Int32)]) C (fun sz => kX9_within (nI 0) (0 : Int32) (5 : Int32) sz h) [] rfl (by decide) (gdS wq366 wq553 wq373 wq112) rfl rfl rfl hdSX9_within ⟨Nat.le_of_ble_eq_true rfl, Nat.le_of_ble_eq_true rfl⟩ rfl (Nat.le_of_ble_eq_true rfl) ⟨Nat.zero_le _, Nat.zero_le _⟩ dX9_tape_3) (fun r1 u1 h => ?_)
  refine z_if_ne (pc := 6) (tgt := 11) C dX9_tape_6 (by decide) (fun c2 => ?_) (fun c2 => ?_)
  · have h := h.1 c2
    refine z_iload_n (pc := 11) C 2 dX9_tape_11 rfl ?_
    refine z_iconst (pc := 12) (v := -1) C dX9_tape_12 (by decide) ?_
    refine z_icmp_ne (pc := 13) (tgt := 27) C dX9_tape_13 (by decide) (fun c3 => ?_) (fun c3 => ?_)
    · have h := h.1 c3
      refine z_iload_n (pc := 27) C 2 dX9_tape_27 rfl ?_
      refine z_iconst (pc := 28) (v := 0) C dX9_tape_28 (by decide) ?_
      refine z_iconst (pc := 29) (v := 4) C dX9_tape_29 (by decide) ?_
      refine z_call0i (pc := 30) C (z_runS (pc := 30) (wc := ([] : va_W)) (As := [.int x2, .int (0 : Int32), .int (4 : Int32)]) C (fun sz => kX9_within x2 (0 : Int32) (4 : Int32) sz h) [] rfl (by decide) (gdS wq366 wq553 wq373 wq112) rfl rfl rfl hdSX9_within ⟨Nat.le_of_ble_eq_true rfl, Nat.le_of_ble_eq_true rfl⟩ rfl (Nat.le_of_ble_eq_true rfl) ⟨Nat.zero_le _, Nat.zero_le _⟩ dX9_tape_30) (fun r4 u4 h => ?_)
      refine z_if_eq (pc := 33) (tgt := 42) C dX9_tape_33 (by decide) (fun c5 => ?_) (fun c5 => ?_)
      · have h := h.1 c5
        refine z_bipush (pc := 42) (v := -2) C dX9_tape_42 (by decide) ?_
        exact hret 44 _ _ (-2 : Int32) (vt, gt) rfl h dX9_tape_44
      · have h := h.2 c5
        refine z_iload_n (pc := 36) C 3 dX9_tape_36 rfl ?_
        refine z_bipush (pc := 37) (v := 60) C dX9_tape_37 (by decide) ?_
        refine z_icmp_le (pc := 39) (tgt := 45) C dX9_tape_39 (by decide) (fun c6 => ?_) (fun c6 => ?_)
        · have h := h.1 c6
          refine z_iload_n (pc := 45) C 3 dX9_tape_45 rfl ?_
          refine z_if_ge (pc := 46) (tgt := 52) C dX9_tape_46 (by decide) (fun c7 => ?_) (fun c7 => ?_)
          · have h := h.1 c7
            refine z_aload_n (pc := 52) C 0 dX9_tape_52 rfl ?_
            refine z_get (pc := 53) C uw9 0 rfl rfl 9 (by decide) wq544 rfl dX9_tape_53 ?_
            refine z_iload_n (pc := 56) C 1 dX9_tape_56 rfl ?_
            obtain ⟨g8, h⟩ := h
            refine z_aldq (pc := 57) C 1 2 rfl rfl g8 (.ref (dt 0 0)) rfl dX9_tape_57 ?_
            refine z_iload_n (pc := 58) C 2 dX9_tape_58 rfl ?_
            refine z_iload_n (pc := 59) C 3 dX9_tape_59 rfl ?_
            refine z_callv (pc := 60) (wr := (List.filterMap (fun i => (((wX9 d (dN 0) (dI 0) (dT 0) (dNc 0) (dNcj 0) (dNcs 0) (dNcp 0) (dNw 0) (dx 0) dtt v) ++ (wTT cJ cT dtt dt vt gt)))[i]?) [0, 1, 4, 5, 6, 7, 8, 9, 10, 11, 12, 13])) (w1 := fun (u : Lf × Lg) => (wX6 cJ (dt 0) u.1 u.2)) (w2 := fun (u : Lf × Lg) => ((wX9 d (dN 0) (dI 0) (dT 0) (dNc 0) (dNcj 0) (dNcs 0) (dNcp 0) (dNw 0) (dx 0) dtt v) ++ (wTT cJ cT dtt dt (va_up vt 0 u.1) (va_up gt 0 u.2)))) C (z_runV (pc := 60) (wc := (wX6 cJ (dt 0) (vt 0) (gt 0))) (As := [.int x2, .int x3]) C (fun sz => kX6_hold (dt 0) (vt 0) (gt 0) x2 x3 sz h) [2, 3] rfl (by decide) (gdV wq410 wq795 wq796 wq797 wq546) rfl rfl rfl hdX6_hold 2 rfl rfl rfl ⟨Nat.le_of_ble_eq_true rfl, Nat.le_of_ble_eq_true rfl⟩ rfl (Nat.le_of_ble_eq_true rfl) ⟨Nat.zero_le _, Nat.zero_le _⟩ dX9_tape_60) [2, 3] [0, 1, 4, 5, 6, 7, 8, 9, 10, 11, 12, 13] [0, 1, 12, 13, 2, 3, 4, 5, 6, 7, 8, 9, 10, 11] rfl rfl (by decide) (by decide) (fun _ => rfl) (by decide) (fun u9 h => ?_)
            obtain ⟨vE_9, gE_9⟩ := u9
            dsimp only at h
            refine z_iconst (pc := 63) (v := 1) C dX9_tape_63 (by decide) ?_
            exact hret 64 _ _ (1 : Int32) ((va_up vt 0 vE_9), (va_up gt 0 gE_9)) rfl h dX9_tape_64
          · have h := h.2 c7
            refine z_bipush (pc := 49) (v := -14) C dX9_tape_49 (by decide) ?_
            exact hret 51 _ _ (-14 : Int32) (vt, gt) rfl h dX9_tape_51
        · have h := h.2 c6
          refine z_bipush (pc := 42) (v := -2) C dX9_tape_42 (by decide) ?_
          exact hret 44 _ _ (-2 : Int32) (vt, gt) rfl h dX9_tape_44
    · have h := h.2 c3
      refine z_aload_n (pc := 16) C 0 dX9_tape_16 rfl ?_
      refine z_get (pc := 17) C uw9 0 rfl rfl 9 (by decide) wq544 rfl dX9_tape_17 ?_
      refine z_iload_n (pc := 20) C 1 dX9_tape_20 rfl ?_
      obtain ⟨g10, h⟩ := h
      refine z_aldq (pc := 21) C 1 2 rfl rfl g10 (.ref (dt 0 0)) rfl dX9_tape_21 ?_
      refine z_callv (pc := 22) (wr := (List.filterMap (fun i => (((wX9 d (dN 0) (dI 0) (dT 0) (dNc 0) (dNcj 0) (dNcs 0) (dNcp 0) (dNw 0) (dx 0) dtt v) ++ (wTT cJ cT dtt dt vt gt)))[i]?) [0, 1, 4, 5, 6, 7, 8, 9, 10, 11, 12, 13])) (w1 := fun (u : Lf) => (wX6 cJ (dt 0) u (gt 0))) (w2 := fun (u : Lf) => ((wX9 d (dN 0) (dI 0) (dT 0) (dNc 0) (dNcj 0) (dNcs 0) (dNcp 0) (dNw 0) (dx 0) dtt v) ++ (wTT cJ cT dtt dt (va_up vt 0 u) gt))) C (z_runV (pc := 22) (wc := (wX6 cJ (dt 0) (vt 0) (gt 0))) (As := []) C (fun sz => kX6_holdNothing (dt 0) (vt 0) (gt 0) sz h) [2, 3] rfl (by decide) (gdV wq407 wq792 wq793 wq794 wq546) rfl rfl rfl hdX6_holdNothing 2 rfl rfl rfl ⟨Nat.le_of_ble_eq_true rfl, Nat.le_of_ble_eq_true rfl⟩ rfl (Nat.le_of_ble_eq_true rfl) ⟨Nat.zero_le _, Nat.zero_le _⟩ dX9_tape_22) [2, 3] [0, 1, 4, 5, 6, 7, 8, 9, 10, 11, 12, 13] [0, 1, 12, 13, 2, 3, 4, 5, 6, 7, 8, 9, 10, 11] rfl rfl (by decide) (by decide) (fun _ => rfl) (by decide) (fun u11 h => ?_)
      obtain ⟨vE_11, hu11⟩ : ∃ z, z = u11 := ⟨_, rfl⟩
      subst hu11
      refine z_iconst (pc := 25) (v := 1) C dX9_tape_25 (by decide) ?_
      exact hret 26 _ _ (1 : Int32) ((va_up vt 0 vE_11), gt) rfl h dX9_tape_26
  · have h := h.2 c2
    refine z_iconst (pc := 9) (v := -1) C dX9_tape_9 (by decide) ?_
    exact hret 10 _ _ (-1 : Int32) (vt, gt) rfl h dX9_tape_10

set_option maxHeartbeats 4000000 in
set_option maxRecDepth 100000 in
theorem kX9_tape_1 {l : Launch} {D : va_G} {cI cJ cT : ClassId} (d : Nat → Nat) (dN : Nat → Nat) (dI : Nat → Nat) (dT : Nat → Nat) (dNc : Nat → Nat) (dNcj : Nat → Nat) (dNcs : Nat → Nat) (dNcp : Nat → Nat) (dNw : Nat → Nat) (dx : Nat → Nat) (dtt : Nat) (dt : Nat → Nat → Nat)  (v : Lf) (vt : Nat → Lf) (gt : Nat → Lg) (x2 : Int32) (x3 : Int32) {Q : Int32 → (Nat → Lf) → (Nat → Lg) → Prop} (sz : Nat) (h : pX9_tape vt gt (nI 1) x2 x3 Q) : Met l yX9_tape wdX9_tape rmX9_tape (Pz D (tyL cI cJ cT) [.ref (d 0), .int (nI 1), .int x2, .int x3] ((wX9 d (dN 0) (dI 0) (dT 0) (dNc 0) (dNcj 0) (dNcs 0) (dNcp 0) (dNw 0) (dx 0) dtt v) ++ (wTT cJ cT dtt dt vt gt)) sz) (va_Qi (fun (r : Int32) (u : (Nat → Lf) × (Nat → Lg)) => Q r u.1 u.2) (Bz D (tyL cI cJ cT) ((wX9 d (dN 0) (dI 0) (dT 0) (dNc 0) (dNcj 0) (dNcs 0) (dNcp 0) (dNw 0) (dx 0) dtt v) ++ (wTT cJ cT dtt dt vt gt)) sz (fun (u : (Nat → Lf) × (Nat → Lg)) => ((wX9 d (dN 0) (dI 0) (dT 0) (dNc 0) (dNcj 0) (dNcs 0) (dNcp 0) (dNw 0) (dx 0) dtt v) ++ (wTT cJ cT dtt dt u.1 u.2)))) (va_A ((wX9 d (dN 0) (dI 0) (dT 0) (dNc 0) (dNcj 0) (dNcs 0) (dNcp 0) (dNw 0) (dx 0) dtt v) ++ (wTT cJ cT dtt dt vt gt)) sz)) 0 0 (va_A ((wX9 d (dN 0) (dI 0) (dT 0) (dNc 0) (dNcj 0) (dNcs 0) (dNcp 0) (dNw 0) (dx 0) dtt v) ++ (wTT cJ cT dtt dt vt gt)) sz) := by
  refine z_meti (cc := cX9_tape) (maxL := 4) (own := RX9) (lv0 := [(0, .ref (d 0)), (1, .int (nI 1)), (2, .int x2), (3, .int x3)]) (by decide) rfl rfl (Nat.le_of_ble_eq_true rfl) rfl ?_
  intro p e s m args below meth c A QQ C hin hret
  refine z_iload_n (pc := 0) C 1 dX9_tape_0 rfl ?_
  refine z_iconst (pc := 1) (v := 0) C dX9_tape_1 (by decide) ?_
  refine z_iconst (pc := 2) (v := 5) C dX9_tape_2 (by decide) ?_
  refine z_call0i (pc := 3) C (z_runS (pc := 3) (wc := ([] : va_W)) (As := [.int (nI 1), .int (0 : Int32), .int (5 : Int32)]) C (fun sz => kX9_within (nI 1) (0 : Int32) (5 : Int32) sz h) [] rfl (by decide) (gdS wq366 wq553 wq373 wq112) rfl rfl rfl hdSX9_within ⟨Nat.le_of_ble_eq_true rfl, Nat.le_of_ble_eq_true rfl⟩ rfl (Nat.le_of_ble_eq_true rfl) ⟨Nat.zero_le _, Nat.zero_le _⟩ dX9_tape_3) (fun r1 u1 h => ?_)
  refine z_if_ne (pc := 6) (tgt := 11) C dX9_tape_6 (by decide) (fun c2 => ?_) (fun c2 => ?_)
  · have h := h.1 c2
    refine z_iload_n (pc := 11) C 2 dX9_tape_11 rfl ?_
    refine z_iconst (pc := 12) (v := -1) C dX9_tape_12 (by decide) ?_
    refine z_icmp_ne (pc := 13) (tgt := 27) C dX9_tape_13 (by decide) (fun c3 => ?_) (fun c3 => ?_)
    · have h := h.1 c3
      refine z_iload_n (pc := 27) C 2 dX9_tape_27 rfl ?_
      refine z_iconst (pc := 28) (v := 0) C dX9_tape_28 (by decide) ?_
      refine z_iconst (pc := 29) (v := 4) C dX9_tape_29 (by decide) ?_
      refine z_call0i (pc := 30) C (z_runS (pc := 30) (wc := ([] : va_W)) (As := [.int x2, .int (0 : Int32), .int (4 : Int32)]) C (fun sz => kX9_within x2 (0 : Int32) (4 : Int32) sz h) [] rfl (by decide) (gdS wq366 wq553 wq373 wq112) rfl rfl rfl hdSX9_within ⟨Nat.le_of_ble_eq_true rfl, Nat.le_of_ble_eq_true rfl⟩ rfl (Nat.le_of_ble_eq_true rfl) ⟨Nat.zero_le _, Nat.zero_le _⟩ dX9_tape_30) (fun r4 u4 h => ?_)
      refine z_if_eq (pc := 33) (tgt := 42) C dX9_tape_33 (by decide) (fun c5 => ?_) (fun c5 => ?_)
      · have h := h.1 c5
        refine z_bipush (pc := 42) (v := -2) C dX9_tape_42 (by decide) ?_
        exact hret 44 _ _ (-2 : Int32) (vt, gt) rfl h dX9_tape_44
      · have h := h.2 c5
        refine z_iload_n (pc := 36) C 3 dX9_tape_36 rfl ?_
        refine z_bipush (pc := 37) (v := 60) C dX9_tape_37 (by decide) ?_
        refine z_icmp_le (pc := 39) (tgt := 45) C dX9_tape_39 (by decide) (fun c6 => ?_) (fun c6 => ?_)
        · have h := h.1 c6
          refine z_iload_n (pc := 45) C 3 dX9_tape_45 rfl ?_
          refine z_if_ge (pc := 46) (tgt := 52) C dX9_tape_46 (by decide) (fun c7 => ?_) (fun c7 => ?_)
          · have h := h.1 c7
            refine z_aload_n (pc := 52) C 0 dX9_tape_52 rfl ?_
            refine z_get (pc := 53) C uw9 0 rfl rfl 9 (by decide) wq544 rfl dX9_tape_53 ?_
            refine z_iload_n (pc := 56) C 1 dX9_tape_56 rfl ?_
            obtain ⟨g8, h⟩ := h
            refine z_aldq (pc := 57) C 1 2 rfl rfl g8 (.ref (dt 1 0)) rfl dX9_tape_57 ?_
            refine z_iload_n (pc := 58) C 2 dX9_tape_58 rfl ?_
            refine z_iload_n (pc := 59) C 3 dX9_tape_59 rfl ?_
            refine z_callv (pc := 60) (wr := (List.filterMap (fun i => (((wX9 d (dN 0) (dI 0) (dT 0) (dNc 0) (dNcj 0) (dNcs 0) (dNcp 0) (dNw 0) (dx 0) dtt v) ++ (wTT cJ cT dtt dt vt gt)))[i]?) [0, 1, 2, 3, 6, 7, 8, 9, 10, 11, 12, 13])) (w1 := fun (u : Lf × Lg) => (wX6 cJ (dt 1) u.1 u.2)) (w2 := fun (u : Lf × Lg) => ((wX9 d (dN 0) (dI 0) (dT 0) (dNc 0) (dNcj 0) (dNcs 0) (dNcp 0) (dNw 0) (dx 0) dtt v) ++ (wTT cJ cT dtt dt (va_up vt 1 u.1) (va_up gt 1 u.2)))) C (z_runV (pc := 60) (wc := (wX6 cJ (dt 1) (vt 1) (gt 1))) (As := [.int x2, .int x3]) C (fun sz => kX6_hold (dt 1) (vt 1) (gt 1) x2 x3 sz h) [4, 5] rfl (by decide) (gdV wq410 wq795 wq796 wq797 wq546) rfl rfl rfl hdX6_hold 4 rfl rfl rfl ⟨Nat.le_of_ble_eq_true rfl, Nat.le_of_ble_eq_true rfl⟩ rfl (Nat.le_of_ble_eq_true rfl) ⟨Nat.zero_le _, Nat.zero_le _⟩ dX9_tape_60) [4, 5] [0, 1, 2, 3, 6, 7, 8, 9, 10, 11, 12, 13] [0, 1, 2, 3, 12, 13, 4, 5, 6, 7, 8, 9, 10, 11] rfl rfl (by decide) (by decide) (fun _ => rfl) (by decide) (fun u9 h => ?_)
            obtain ⟨vE_9, gE_9⟩ := u9
            dsimp only at h
            refine z_iconst (pc := 63) (v := 1) C dX9_tape_63 (by decide) ?_
            exact hret 64 _ _ (1 : Int32) ((va_up vt 1 vE_9), (va_up gt 1 gE_9)) rfl h dX9_tape_64
          · have h := h.2 c7
            refine z_bipush (pc := 49) (v := -14) C dX9_tape_49 (by decide) ?_
            exact hret 51 _ _ (-14 : Int32) (vt, gt) rfl h dX9_tape_51
        · have h := h.2 c6
          refine z_bipush (pc := 42) (v := -2) C dX9_tape_42 (by decide) ?_
          exact hret 44 _ _ (-2 : Int32) (vt, gt) rfl h dX9_tape_44
    · have h := h.2 c3
      refine z_aload_n (pc := 16) C 0 dX9_tape_16 rfl ?_
      refine z_get (pc := 17) C uw9 0 rfl rfl 9 (by decide) wq544 rfl dX9_tape_17 ?_
      refine z_iload_n (pc := 20) C 1 dX9_tape_20 rfl ?_
      obtain ⟨g10, h⟩ := h
      refine z_aldq (pc := 21) C 1 2 rfl rfl g10 (.ref (dt 1 0)) rfl dX9_tape_21 ?_
      refine z_callv (pc := 22) (wr := (List.filterMap (fun i => (((wX9 d (dN 0) (dI 0) (dT 0) (dNc 0) (dNcj 0) (dNcs 0) (dNcp 0) (dNw 0) (dx 0) dtt v) ++ (wTT cJ cT dtt dt vt gt)))[i]?) [0, 1, 2, 3, 6, 7, 8, 9, 10, 11, 12, 13])) (w1 := fun (u : Lf) => (wX6 cJ (dt 1) u (gt 1))) (w2 := fun (u : Lf) => ((wX9 d (dN 0) (dI 0) (dT 0) (dNc 0) (dNcj 0) (dNcs 0) (dNcp 0) (dNw 0) (dx 0) dtt v) ++ (wTT cJ cT dtt dt (va_up vt 1 u) gt))) C (z_runV (pc := 22) (wc := (wX6 cJ (dt 1) (vt 1) (gt 1))) (As := []) C (fun sz => kX6_holdNothing (dt 1) (vt 1) (gt 1) sz h) [4, 5] rfl (by decide) (gdV wq407 wq792 wq793 wq794 wq546) rfl rfl rfl hdX6_holdNothing 4 rfl rfl rfl ⟨Nat.le_of_ble_eq_true rfl, Nat.le_of_ble_eq_true rfl⟩ rfl (Nat.le_of_ble_eq_true rfl) ⟨Nat.zero_le _, Nat.zero_le _⟩ dX9_tape_22) [4, 5] [0, 1, 2, 3, 6, 7, 8, 9, 10, 11, 12, 13] [0, 1, 2, 3, 12, 13, 4, 5, 6, 7, 8, 9, 10, 11] rfl rfl (by decide) (by decide) (fun _ => rfl) (by decide) (fun u11 h => ?_)
      obtain ⟨vE_11, hu11⟩ : ∃ z, z = u11 := ⟨_, rfl⟩
      subst hu11
      refine z_iconst (pc := 25) (v := 1) C dX9_tape_25 (by decide) ?_
      exact hret 26 _ _ (1 : Int32) ((va_up vt 1 vE_11), gt) rfl h dX9_tape_26
  · have h := h.2 c2
    refine z_iconst (pc := 9) (v := -1) C dX9_tape_9 (by decide) ?_
    exact hret 10 _ _ (-1 : Int32) (vt, gt) rfl h dX9_tape_10

set_option maxHeartbeats 4000000 in
set_option maxRecDepth 100000 in
theorem kX9_tape_2 {l : Launch} {D : va_G} {cI cJ cT : ClassId} (d : Nat → Nat) (dN : Nat → Nat) (dI : Nat → Nat) (dT : Nat → Nat) (dNc : Nat → Nat) (dNcj : Nat → Nat) (dNcs : Nat → Nat) (dNcp : Nat → Nat) (dNw : Nat → Nat) (dx : Nat → Nat) (dtt : Nat) (dt : Nat → Nat → Nat)  (v : Lf) (vt : Nat → Lf) (gt : Nat → Lg) (x2 : Int32) (x3 : Int32) {Q : Int32 → (Nat → Lf) → (Nat → Lg) → Prop} (sz : Nat) (h : pX9_tape vt gt (nI 2) x2 x3 Q) : Met l yX9_tape wdX9_tape rmX9_tape (Pz D (tyL cI cJ cT) [.ref (d 0), .int (nI 2), .int x2, .int x3] ((wX9 d (dN 0) (dI 0) (dT 0) (dNc 0) (dNcj 0) (dNcs 0) (dNcp 0) (dNw 0) (dx 0) dtt v) ++ (wTT cJ cT dtt dt vt gt)) sz) (va_Qi (fun (r : Int32) (u : (Nat → Lf) × (Nat → Lg)) => Q r u.1 u.2) (Bz D (tyL cI cJ cT) ((wX9 d (dN 0) (dI 0) (dT 0) (dNc 0) (dNcj 0) (dNcs 0) (dNcp 0) (dNw 0) (dx 0) dtt v) ++ (wTT cJ cT dtt dt vt gt)) sz (fun (u : (Nat → Lf) × (Nat → Lg)) => ((wX9 d (dN 0) (dI 0) (dT 0) (dNc 0) (dNcj 0) (dNcs 0) (dNcp 0) (dNw 0) (dx 0) dtt v) ++ (wTT cJ cT dtt dt u.1 u.2)))) (va_A ((wX9 d (dN 0) (dI 0) (dT 0) (dNc 0) (dNcj 0) (dNcs 0) (dNcp 0) (dNw 0) (dx 0) dtt v) ++ (wTT cJ cT dtt dt vt gt)) sz)) 0 0 (va_A ((wX9 d (dN 0) (dI 0) (dT 0) (dNc 0) (dNcj 0) (dNcs 0) (dNcp 0) (dNw 0) (dx 0) dtt v) ++ (wTT cJ cT dtt dt vt gt)) sz) := by
  refine z_meti (cc := cX9_tape) (maxL := 4) (own := RX9) (lv0 := [(0, .ref (d 0)), (1, .int (nI 2)), (2, .int x2), (3, .int x3)]) (by decide) rfl rfl (Nat.le_of_ble_eq_true rfl) rfl ?_
  intro p e s m args below meth c A QQ C hin hret
  refine z_iload_n (pc := 0) C 1 dX9_tape_0 rfl ?_
  refine z_iconst (pc := 1) (v := 0) C dX9_tape_1 (by decide) ?_
  refine z_iconst (pc := 2) (v := 5) C dX9_tape_2 (by decide) ?_
  refine z_call0i (pc := 3) C (z_runS (pc := 3) (wc := ([] : va_W)) (As := [.int (nI 2), .int (0 : Int32), .int (5 : Int32)]) C (fun sz => kX9_within (nI 2) (0 : Int32) (5 : Int32) sz h) [] rfl (by decide) (gdS wq366 wq553 wq373 wq112) rfl rfl rfl hdSX9_within ⟨Nat.le_of_ble_eq_true rfl, Nat.le_of_ble_eq_true rfl⟩ rfl (Nat.le_of_ble_eq_true rfl) ⟨Nat.zero_le _, Nat.zero_le _⟩ dX9_tape_3) (fun r1 u1 h => ?_)
  refine z_if_ne (pc := 6) (tgt := 11) C dX9_tape_6 (by decide) (fun c2 => ?_) (fun c2 => ?_)
  · have h := h.1 c2
    refine z_iload_n (pc := 11) C 2 dX9_tape_11 rfl ?_
    refine z_iconst (pc := 12) (v := -1) C dX9_tape_12 (by decide) ?_
    refine z_icmp_ne (pc := 13) (tgt := 27) C dX9_tape_13 (by decide) (fun c3 => ?_) (fun c3 => ?_)
    · have h := h.1 c3
      refine z_iload_n (pc := 27) C 2 dX9_tape_27 rfl ?_
      refine z_iconst (pc := 28) (v := 0) C dX9_tape_28 (by decide) ?_
      refine z_iconst (pc := 29) (v := 4) C dX9_tape_29 (by decide) ?_
      refine z_call0i (pc := 30) C (z_runS (pc := 30) (wc := ([] : va_W)) (As := [.int x2, .int (0 : Int32), .int (4 : Int32)]) C (fun sz => kX9_within x2 (0 : Int32) (4 : Int32) sz h) [] rfl (by decide) (gdS wq366 wq553 wq373 wq112) rfl rfl rfl hdSX9_within ⟨Nat.le_of_ble_eq_true rfl, Nat.le_of_ble_eq_true rfl⟩ rfl (Nat.le_of_ble_eq_true rfl) ⟨Nat.zero_le _, Nat.zero_le _⟩ dX9_tape_30) (fun r4 u4 h => ?_)
      refine z_if_eq (pc := 33) (tgt := 42) C dX9_tape_33 (by decide) (fun c5 => ?_) (fun c5 => ?_)
      · have h := h.1 c5
        refine z_bipush (pc := 42) (v := -2) C dX9_tape_42 (by decide) ?_
        exact hret 44 _ _ (-2 : Int32) (vt, gt) rfl h dX9_tape_44
      · have h := h.2 c5
        refine z_iload_n (pc := 36) C 3 dX9_tape_36 rfl ?_
        refine z_bipush (pc := 37) (v := 60) C dX9_tape_37 (by decide) ?_
        refine z_icmp_le (pc := 39) (tgt := 45) C dX9_tape_39 (by decide) (fun c6 => ?_) (fun c6 => ?_)
        · have h := h.1 c6
          refine z_iload_n (pc := 45) C 3 dX9_tape_45 rfl ?_
          refine z_if_ge (pc := 46) (tgt := 52) C dX9_tape_46 (by decide) (fun c7 => ?_) (fun c7 => ?_)
          · have h := h.1 c7
            refine z_aload_n (pc := 52) C 0 dX9_tape_52 rfl ?_
            refine z_get (pc := 53) C uw9 0 rfl rfl 9 (by decide) wq544 rfl dX9_tape_53 ?_
            refine z_iload_n (pc := 56) C 1 dX9_tape_56 rfl ?_
            obtain ⟨g8, h⟩ := h
            refine z_aldq (pc := 57) C 1 2 rfl rfl g8 (.ref (dt 2 0)) rfl dX9_tape_57 ?_
            refine z_iload_n (pc := 58) C 2 dX9_tape_58 rfl ?_
            refine z_iload_n (pc := 59) C 3 dX9_tape_59 rfl ?_
            refine z_callv (pc := 60) (wr := (List.filterMap (fun i => (((wX9 d (dN 0) (dI 0) (dT 0) (dNc 0) (dNcj 0) (dNcs 0) (dNcp 0) (dNw 0) (dx 0) dtt v) ++ (wTT cJ cT dtt dt vt gt)))[i]?) [0, 1, 2, 3, 4, 5, 8, 9, 10, 11, 12, 13])) (w1 := fun (u : Lf × Lg) => (wX6 cJ (dt 2) u.1 u.2)) (w2 := fun (u : Lf × Lg) => ((wX9 d (dN 0) (dI 0) (dT 0) (dNc 0) (dNcj 0) (dNcs 0) (dNcp 0) (dNw 0) (dx 0) dtt v) ++ (wTT cJ cT dtt dt (va_up vt 2 u.1) (va_up gt 2 u.2)))) C (z_runV (pc := 60) (wc := (wX6 cJ (dt 2) (vt 2) (gt 2))) (As := [.int x2, .int x3]) C (fun sz => kX6_hold (dt 2) (vt 2) (gt 2) x2 x3 sz h) [6, 7] rfl (by decide) (gdV wq410 wq795 wq796 wq797 wq546) rfl rfl rfl hdX6_hold 6 rfl rfl rfl ⟨Nat.le_of_ble_eq_true rfl, Nat.le_of_ble_eq_true rfl⟩ rfl (Nat.le_of_ble_eq_true rfl) ⟨Nat.zero_le _, Nat.zero_le _⟩ dX9_tape_60) [6, 7] [0, 1, 2, 3, 4, 5, 8, 9, 10, 11, 12, 13] [0, 1, 2, 3, 4, 5, 12, 13, 6, 7, 8, 9, 10, 11] rfl rfl (by decide) (by decide) (fun _ => rfl) (by decide) (fun u9 h => ?_)
            obtain ⟨vE_9, gE_9⟩ := u9
            dsimp only at h
            refine z_iconst (pc := 63) (v := 1) C dX9_tape_63 (by decide) ?_
            exact hret 64 _ _ (1 : Int32) ((va_up vt 2 vE_9), (va_up gt 2 gE_9)) rfl h dX9_tape_64
          · have h := h.2 c7
            refine z_bipush (pc := 49) (v := -14) C dX9_tape_49 (by decide) ?_
            exact hret 51 _ _ (-14 : Int32) (vt, gt) rfl h dX9_tape_51
        · have h := h.2 c6
          refine z_bipush (pc := 42) (v := -2) C dX9_tape_42 (by decide) ?_
          exact hret 44 _ _ (-2 : Int32) (vt, gt) rfl h dX9_tape_44
    · have h := h.2 c3
      refine z_aload_n (pc := 16) C 0 dX9_tape_16 rfl ?_
      refine z_get (pc := 17) C uw9 0 rfl rfl 9 (by decide) wq544 rfl dX9_tape_17 ?_
      refine z_iload_n (pc := 20) C 1 dX9_tape_20 rfl ?_
      obtain ⟨g10, h⟩ := h
      refine z_aldq (pc := 21) C 1 2 rfl rfl g10 (.ref (dt 2 0)) rfl dX9_tape_21 ?_
      refine z_callv (pc := 22) (wr := (List.filterMap (fun i => (((wX9 d (dN 0) (dI 0) (dT 0) (dNc 0) (dNcj 0) (dNcs 0) (dNcp 0) (dNw 0) (dx 0) dtt v) ++ (wTT cJ cT dtt dt vt gt)))[i]?) [0, 1, 2, 3, 4, 5, 8, 9, 10, 11, 12, 13])) (w1 := fun (u : Lf) => (wX6 cJ (dt 2) u (gt 2))) (w2 := fun (u : Lf) => ((wX9 d (dN 0) (dI 0) (dT 0) (dNc 0) (dNcj 0) (dNcs 0) (dNcp 0) (dNw 0) (dx 0) dtt v) ++ (wTT cJ cT dtt dt (va_up vt 2 u) gt))) C (z_runV (pc := 22) (wc := (wX6 cJ (dt 2) (vt 2) (gt 2))) (As := []) C (fun sz => kX6_holdNothing (dt 2) (vt 2) (gt 2) sz h) [6, 7] rfl (by decide) (gdV wq407 wq792 wq793 wq794 wq546) rfl rfl rfl hdX6_holdNothing 6 rfl rfl rfl ⟨Nat.le_of_ble_eq_true rfl, Nat.le_of_ble_eq_true rfl⟩ rfl (Nat.le_of_ble_eq_true rfl) ⟨Nat.zero_le _, Nat.zero_le _⟩ dX9_tape_22) [6, 7] [0, 1, 2, 3, 4, 5, 8, 9, 10, 11, 12, 13] [0, 1, 2, 3, 4, 5, 12, 13, 6, 7, 8, 9, 10, 11] rfl rfl (by decide) (by decide) (fun _ => rfl) (by decide) (fun u11 h => ?_)
      obtain ⟨vE_11, hu11⟩ : ∃ z, z = u11 := ⟨_, rfl⟩
      subst hu11
      refine z_iconst (pc := 25) (v := 1) C dX9_tape_25 (by decide) ?_
      exact hret 26 _ _ (1 : Int32) ((va_up vt 2 vE_11), gt) rfl h dX9_tape_26
  · have h := h.2 c2
    refine z_iconst (pc := 9) (v := -1) C dX9_tape_9 (by decide) ?_
    exact hret 10 _ _ (-1 : Int32) (vt, gt) rfl h dX9_tape_10

set_option maxHeartbeats 4000000 in
set_option maxRecDepth 100000 in
theorem kX9_tape_3 {l : Launch} {D : va_G} {cI cJ cT : ClassId} (d : Nat → Nat) (dN : Nat → Nat) (dI : Nat → Nat) (dT : Nat → Nat) (dNc : Nat → Nat) (dNcj : Nat → Nat) (dNcs : Nat → Nat) (dNcp : Nat → Nat) (dNw : Nat → Nat) (dx : Nat → Nat) (dtt : Nat) (dt : Nat → Nat → Nat)  (v : Lf) (vt : Nat → Lf) (gt : Nat → Lg) (x2 : Int32) (x3 : Int32) {Q : Int32 → (Nat → Lf) → (Nat → Lg) → Prop} (sz : Nat) (h : pX9_tape vt gt (nI 3) x2 x3 Q) : Met l yX9_tape wdX9_tape rmX9_tape (Pz D (tyL cI cJ cT) [.ref (d 0), .int (nI 3), .int x2, .int x3] ((wX9 d (dN 0) (dI 0) (dT 0) (dNc 0) (dNcj 0) (dNcs 0) (dNcp 0) (dNw 0) (dx 0) dtt v) ++ (wTT cJ cT dtt dt vt gt)) sz) (va_Qi (fun (r : Int32) (u : (Nat → Lf) × (Nat → Lg)) => Q r u.1 u.2) (Bz D (tyL cI cJ cT) ((wX9 d (dN 0) (dI 0) (dT 0) (dNc 0) (dNcj 0) (dNcs 0) (dNcp 0) (dNw 0) (dx 0) dtt v) ++ (wTT cJ cT dtt dt vt gt)) sz (fun (u : (Nat → Lf) × (Nat → Lg)) => ((wX9 d (dN 0) (dI 0) (dT 0) (dNc 0) (dNcj 0) (dNcs 0) (dNcp 0) (dNw 0) (dx 0) dtt v) ++ (wTT cJ cT dtt dt u.1 u.2)))) (va_A ((wX9 d (dN 0) (dI 0) (dT 0) (dNc 0) (dNcj 0) (dNcs 0) (dNcp 0) (dNw 0) (dx 0) dtt v) ++ (wTT cJ cT dtt dt vt gt)) sz)) 0 0 (va_A ((wX9 d (dN 0) (dI 0) (dT 0) (dNc 0) (dNcj 0) (dNcs 0) (dNcp 0) (dNw 0) (dx 0) dtt v) ++ (wTT cJ cT dtt dt vt gt)) sz) := by
  refine z_meti (cc := cX9_tape) (maxL := 4) (own := RX9) (lv0 := [(0, .ref (d 0)), (1, .int (nI 3)), (2, .int x2), (3, .int x3)]) (by decide) rfl rfl (Nat.le_of_ble_eq_true rfl) rfl ?_
  intro p e s m args below meth c A QQ C hin hret
  refine z_iload_n (pc := 0) C 1 dX9_tape_0 rfl ?_
  refine z_iconst (pc := 1) (v := 0) C dX9_tape_1 (by decide) ?_
  refine z_iconst (pc := 2) (v := 5) C dX9_tape_2 (by decide) ?_
  refine z_call0i (pc := 3) C (z_runS (pc := 3) (wc := ([] : va_W)) (As := [.int (nI 3), .int (0 : Int32), .int (5 : Int32)]) C (fun sz => kX9_within (nI 3) (0 : Int32) (5 : Int32) sz h) [] rfl (by decide) (gdS wq366 wq553 wq373 wq112) rfl rfl rfl hdSX9_within ⟨Nat.le_of_ble_eq_true rfl, Nat.le_of_ble_eq_true rfl⟩ rfl (Nat.le_of_ble_eq_true rfl) ⟨Nat.zero_le _, Nat.zero_le _⟩ dX9_tape_3) (fun r1 u1 h => ?_)
  refine z_if_ne (pc := 6) (tgt := 11) C dX9_tape_6 (by decide) (fun c2 => ?_) (fun c2 => ?_)
  · have h := h.1 c2
    refine z_iload_n (pc := 11) C 2 dX9_tape_11 rfl ?_
    refine z_iconst (pc := 12) (v := -1) C dX9_tape_12 (by decide) ?_
    refine z_icmp_ne (pc := 13) (tgt := 27) C dX9_tape_13 (by decide) (fun c3 => ?_) (fun c3 => ?_)
    · have h := h.1 c3
      refine z_iload_n (pc := 27) C 2 dX9_tape_27 rfl ?_
      refine z_iconst (pc := 28) (v := 0) C dX9_tape_28 (by decide) ?_
      refine z_iconst (pc := 29) (v := 4) C dX9_tape_29 (by decide) ?_
      refine z_call0i (pc := 30) C (z_runS (pc := 30) (wc := ([] : va_W)) (As := [.int x2, .int (0 : Int32), .int (4 : Int32)]) C (fun sz => kX9_within x2 (0 : Int32) (4 : Int32) sz h) [] rfl (by decide) (gdS wq366 wq553 wq373 wq112) rfl rfl rfl hdSX9_within ⟨Nat.le_of_ble_eq_true rfl, Nat.le_of_ble_eq_true rfl⟩ rfl (Nat.le_of_ble_eq_true rfl) ⟨Nat.zero_le _, Nat.zero_le _⟩ dX9_tape_30) (fun r4 u4 h => ?_)
      refine z_if_eq (pc := 33) (tgt := 42) C dX9_tape_33 (by decide) (fun c5 => ?_) (fun c5 => ?_)
      · have h := h.1 c5
        refine z_bipush (pc := 42) (v := -2) C dX9_tape_42 (by decide) ?_
        exact hret 44 _ _ (-2 : Int32) (vt, gt) rfl h dX9_tape_44
      · have h := h.2 c5
        refine z_iload_n (pc := 36) C 3 dX9_tape_36 rfl ?_
        refine z_bipush (pc := 37) (v := 60) C dX9_tape_37 (by decide) ?_
        refine z_icmp_le (pc := 39) (tgt := 45) C dX9_tape_39 (by decide) (fun c6 => ?_) (fun c6 => ?_)
        · have h := h.1 c6
          refine z_iload_n (pc := 45) C 3 dX9_tape_45 rfl ?_
          refine z_if_ge (pc := 46) (tgt := 52) C dX9_tape_46 (by decide) (fun c7 => ?_) (fun c7 => ?_)
          · have h := h.1 c7
            refine z_aload_n (pc := 52) C 0 dX9_tape_52 rfl ?_
            refine z_get (pc := 53) C uw9 0 rfl rfl 9 (by decide) wq544 rfl dX9_tape_53 ?_
            refine z_iload_n (pc := 56) C 1 dX9_tape_56 rfl ?_
            obtain ⟨g8, h⟩ := h
            refine z_aldq (pc := 57) C 1 2 rfl rfl g8 (.ref (dt 3 0)) rfl dX9_tape_57 ?_
            refine z_iload_n (pc := 58) C 2 dX9_tape_58 rfl ?_
            refine z_iload_n (pc := 59) C 3 dX9_tape_59 rfl ?_
            refine z_callv (pc := 60) (wr := (List.filterMap (fun i => (((wX9 d (dN 0) (dI 0) (dT 0) (dNc 0) (dNcj 0) (dNcs 0) (dNcp 0) (dNw 0) (dx 0) dtt v) ++ (wTT cJ cT dtt dt vt gt)))[i]?) [0, 1, 2, 3, 4, 5, 6, 7, 10, 11, 12, 13])) (w1 := fun (u : Lf × Lg) => (wX6 cJ (dt 3) u.1 u.2)) (w2 := fun (u : Lf × Lg) => ((wX9 d (dN 0) (dI 0) (dT 0) (dNc 0) (dNcj 0) (dNcs 0) (dNcp 0) (dNw 0) (dx 0) dtt v) ++ (wTT cJ cT dtt dt (va_up vt 3 u.1) (va_up gt 3 u.2)))) C (z_runV (pc := 60) (wc := (wX6 cJ (dt 3) (vt 3) (gt 3))) (As := [.int x2, .int x3]) C (fun sz => kX6_hold (dt 3) (vt 3) (gt 3) x2 x3 sz h) [8, 9] rfl (by decide) (gdV wq410 wq795 wq796 wq797 wq546) rfl rfl rfl hdX6_hold 8 rfl rfl rfl ⟨Nat.le_of_ble_eq_true rfl, Nat.le_of_ble_eq_true rfl⟩ rfl (Nat.le_of_ble_eq_true rfl) ⟨Nat.zero_le _, Nat.zero_le _⟩ dX9_tape_60) [8, 9] [0, 1, 2, 3, 4, 5, 6, 7, 10, 11, 12, 13] [0, 1, 2, 3, 4, 5, 6, 7, 12, 13, 8, 9, 10, 11] rfl rfl (by decide) (by decide) (fun _ => rfl) (by decide) (fun u9 h => ?_)
            obtain ⟨vE_9, gE_9⟩ := u9
            dsimp only at h
            refine z_iconst (pc := 63) (v := 1) C dX9_tape_63 (by decide) ?_
            exact hret 64 _ _ (1 : Int32) ((va_up vt 3 vE_9), (va_up gt 3 gE_9)) rfl h dX9_tape_64
          · have h := h.2 c7
            refine z_bipush (pc := 49) (v := -14) C dX9_tape_49 (by decide) ?_
            exact hret 51 _ _ (-14 : Int32) (vt, gt) rfl h dX9_tape_51
        · have h := h.2 c6
          refine z_bipush (pc := 42) (v := -2) C dX9_tape_42 (by decide) ?_
          exact hret 44 _ _ (-2 : Int32) (vt, gt) rfl h dX9_tape_44
    · have h := h.2 c3
      refine z_aload_n (pc := 16) C 0 dX9_tape_16 rfl ?_
      refine z_get (pc := 17) C uw9 0 rfl rfl 9 (by decide) wq544 rfl dX9_tape_17 ?_
      refine z_iload_n (pc := 20) C 1 dX9_tape_20 rfl ?_
      obtain ⟨g10, h⟩ := h
      refine z_aldq (pc := 21) C 1 2 rfl rfl g10 (.ref (dt 3 0)) rfl dX9_tape_21 ?_
      refine z_callv (pc := 22) (wr := (List.filterMap (fun i => (((wX9 d (dN 0) (dI 0) (dT 0) (dNc 0) (dNcj 0) (dNcs 0) (dNcp 0) (dNw 0) (dx 0) dtt v) ++ (wTT cJ cT dtt dt vt gt)))[i]?) [0, 1, 2, 3, 4, 5, 6, 7, 10, 11, 12, 13])) (w1 := fun (u : Lf) => (wX6 cJ (dt 3) u (gt 3))) (w2 := fun (u : Lf) => ((wX9 d (dN 0) (dI 0) (dT 0) (dNc 0) (dNcj 0) (dNcs 0) (dNcp 0) (dNw 0) (dx 0) dtt v) ++ (wTT cJ cT dtt dt (va_up vt 3 u) gt))) C (z_runV (pc := 22) (wc := (wX6 cJ (dt 3) (vt 3) (gt 3))) (As := []) C (fun sz => kX6_holdNothing (dt 3) (vt 3) (gt 3) sz h) [8, 9] rfl (by decide) (gdV wq407 wq792 wq793 wq794 wq546) rfl rfl rfl hdX6_holdNothing 8 rfl rfl rfl ⟨Nat.le_of_ble_eq_true rfl, Nat.le_of_ble_eq_true rfl⟩ rfl (Nat.le_of_ble_eq_true rfl) ⟨Nat.zero_le _, Nat.zero_le _⟩ dX9_tape_22) [8, 9] [0, 1, 2, 3, 4, 5, 6, 7, 10, 11, 12, 13] [0, 1, 2, 3, 4, 5, 6, 7, 12, 13, 8, 9, 10, 11] rfl rfl (by decide) (by decide) (fun _ => rfl) (by decide) (fun u11 h => ?_)
      obtain ⟨vE_11, hu11⟩ : ∃ z, z = u11 := ⟨_, rfl⟩
      subst hu11
      refine z_iconst (pc := 25) (v := 1) C dX9_tape_25 (by decide) ?_
      exact hret 26 _ _ (1 : Int32) ((va_up vt 3 vE_11), gt) rfl h dX9_tape_26
  · have h := h.2 c2
    refine z_iconst (pc := 9) (v := -1) C dX9_tape_9 (by decide) ?_
    exact hret 10 _ _ (-1 : Int32) (vt, gt) rfl h dX9_tape_10

set_option maxHeartbeats 4000000 in
set_option maxRecDepth 100000 in
theorem kX9_tape_4 {l : Launch} {D : va_G} {cI cJ cT : ClassId} (d : Nat → Nat) (dN : Nat → Nat) (dI : Nat → Nat) (dT : Nat → Nat) (dNc : Nat → Nat) (dNcj : Nat → Nat) (dNcs : Nat → Nat) (dNcp : Nat → Nat) (dNw : Nat → Nat) (dx : Nat → Nat) (dtt : Nat) (dt : Nat → Nat → Nat)  (v : Lf) (vt : Nat → Lf) (gt : Nat → Lg) (x2 : Int32) (x3 : Int32) {Q : Int32 → (Nat → Lf) → (Nat → Lg) → Prop} (sz : Nat) (h : pX9_tape vt gt (nI 4) x2 x3 Q) : Met l yX9_tape wdX9_tape rmX9_tape (Pz D (tyL cI cJ cT) [.ref (d 0), .int (nI 4), .int x2, .int x3] ((wX9 d (dN 0) (dI 0) (dT 0) (dNc 0) (dNcj 0) (dNcs 0) (dNcp 0) (dNw 0) (dx 0) dtt v) ++ (wTT cJ cT dtt dt vt gt)) sz) (va_Qi (fun (r : Int32) (u : (Nat → Lf) × (Nat → Lg)) => Q r u.1 u.2) (Bz D (tyL cI cJ cT) ((wX9 d (dN 0) (dI 0) (dT 0) (dNc 0) (dNcj 0) (dNcs 0) (dNcp 0) (dNw 0) (dx 0) dtt v) ++ (wTT cJ cT dtt dt vt gt)) sz (fun (u : (Nat → Lf) × (Nat → Lg)) => ((wX9 d (dN 0) (dI 0) (dT 0) (dNc 0) (dNcj 0) (dNcs 0) (dNcp 0) (dNw 0) (dx 0) dtt v) ++ (wTT cJ cT dtt dt u.1 u.2)))) (va_A ((wX9 d (dN 0) (dI 0) (dT 0) (dNc 0) (dNcj 0) (dNcs 0) (dNcp 0) (dNw 0) (dx 0) dtt v) ++ (wTT cJ cT dtt dt vt gt)) sz)) 0 0 (va_A ((wX9 d (dN 0) (dI 0) (dT 0) (dNc 0) (dNcj 0) (dNcs 0) (dNcp 0) (dNw 0) (dx 0) dtt v) ++ (wTT cJ cT dtt dt vt gt)) sz) := by
  refine z_meti (cc := cX9_tape) (maxL := 4) (own := RX9) (lv0 := [(0, .ref (d 0)), (1, .int (nI 4)), (2, .int x2), (3, .int x3)]) (by decide) rfl rfl (Nat.le_of_ble_eq_true rfl) rfl ?_
  intro p e s m args below meth c A QQ C hin hret
  refine z_iload_n (pc := 0) C 1 dX9_tape_0 rfl ?_
  refine z_iconst (pc := 1) (v := 0) C dX9_tape_1 (by decide) ?_
  refine z_iconst (pc := 2) (v := 5) C dX9_tape_2 (by decide) ?_
  refine z_call0i (pc := 3) C (z_runS (pc := 3) (wc := ([] : va_W)) (As := [.int (nI 4), .int (0 : Int32), .int (5 : Int32)]) C (fun sz => kX9_within (nI 4) (0 : Int32) (5 : Int32) sz h) [] rfl (by decide) (gdS wq366 wq553 wq373 wq112) rfl rfl rfl hdSX9_within ⟨Nat.le_of_ble_eq_true rfl, Nat.le_of_ble_eq_true rfl⟩ rfl (Nat.le_of_ble_eq_true rfl) ⟨Nat.zero_le _, Nat.zero_le _⟩ dX9_tape_3) (fun r1 u1 h => ?_)
  refine z_if_ne (pc := 6) (tgt := 11) C dX9_tape_6 (by decide) (fun c2 => ?_) (fun c2 => ?_)
  · have h := h.1 c2
    refine z_iload_n (pc := 11) C 2 dX9_tape_11 rfl ?_
    refine z_iconst (pc := 12) (v := -1) C dX9_tape_12 (by decide) ?_
    refine z_icmp_ne (pc := 13) (tgt := 27) C dX9_tape_13 (by decide) (fun c3 => ?_) (fun c3 => ?_)
    · have h := h.1 c3
      refine z_iload_n (pc := 27) C 2 dX9_tape_27 rfl ?_
      refine z_iconst (pc := 28) (v := 0) C dX9_tape_28 (by decide) ?_
      refine z_iconst (pc := 29) (v := 4) C dX9_tape_29 (by decide) ?_
      refine z_call0i (pc := 30) C (z_runS (pc := 30) (wc := ([] : va_W)) (As := [.int x2, .int (0 : Int32), .int (4 : Int32)]) C (fun sz => kX9_within x2 (0 : Int32) (4 : Int32) sz h) [] rfl (by decide) (gdS wq366 wq553 wq373 wq112) rfl rfl rfl hdSX9_within ⟨Nat.le_of_ble_eq_true rfl, Nat.le_of_ble_eq_true rfl⟩ rfl (Nat.le_of_ble_eq_true rfl) ⟨Nat.zero_le _, Nat.zero_le _⟩ dX9_tape_30) (fun r4 u4 h => ?_)
      refine z_if_eq (pc := 33) (tgt := 42) C dX9_tape_33 (by decide) (fun c5 => ?_) (fun c5 => ?_)
      · have h := h.1 c5
        refine z_bipush (pc := 42) (v := -2) C dX9_tape_42 (by decide) ?_
        exact hret 44 _ _ (-2 : Int32) (vt, gt) rfl h dX9_tape_44
      · have h := h.2 c5
        refine z_iload_n (pc := 36) C 3 dX9_tape_36 rfl ?_
        refine z_bipush (pc := 37) (v := 60) C dX9_tape_37 (by decide) ?_
        refine z_icmp_le (pc := 39) (tgt := 45) C dX9_tape_39 (by decide) (fun c6 => ?_) (fun c6 => ?_)
        · have h := h.1 c6
          refine z_iload_n (pc := 45) C 3 dX9_tape_45 rfl ?_
          refine z_if_ge (pc := 46) (tgt := 52) C dX9_tape_46 (by decide) (fun c7 => ?_) (fun c7 => ?_)
          · have h := h.1 c7
            refine z_aload_n (pc := 52) C 0 dX9_tape_52 rfl ?_
            refine z_get (pc := 53) C uw9 0 rfl rfl 9 (by decide) wq544 rfl dX9_tape_53 ?_
            refine z_iload_n (pc := 56) C 1 dX9_tape_56 rfl ?_
            obtain ⟨g8, h⟩ := h
            refine z_aldq (pc := 57) C 1 2 rfl rfl g8 (.ref (dt 4 0)) rfl dX9_tape_57 ?_
            refine z_iload_n (pc := 58) C 2 dX9_tape_58 rfl ?_
            refine z_iload_n (pc := 59) C 3 dX9_tape_59 rfl ?_
            refine z_callv (pc := 60) (wr := (List.filterMap (fun i => (((wX9 d (dN 0) (dI 0) (dT 0) (dNc 0) (dNcj 0) (dNcs 0) (dNcp 0) (dNw 0) (dx 0) dtt v) ++ (wTT cJ cT dtt dt vt gt)))[i]?) [0, 1, 2, 3, 4, 5, 6, 7, 8, 9, 12, 13])) (w1 := fun (u : Lf × Lg) => (wX6 cJ (dt 4) u.1 u.2)) (w2 := fun (u : Lf × Lg) => ((wX9 d (dN 0) (dI 0) (dT 0) (dNc 0) (dNcj 0) (dNcs 0) (dNcp 0) (dNw 0) (dx 0) dtt v) ++ (wTT cJ cT dtt dt (va_up vt 4 u.1) (va_up gt 4 u.2)))) C (z_runV (pc := 60) (wc := (wX6 cJ (dt 4) (vt 4) (gt 4))) (As := [.int x2, .int x3]) C (fun sz => kX6_hold (dt 4) (vt 4) (gt 4) x2 x3 sz h) [10, 11] rfl (by decide) (gdV wq410 wq795 wq796 wq797 wq546) rfl rfl rfl hdX6_hold 10 rfl rfl rfl ⟨Nat.le_of_ble_eq_true rfl, Nat.le_of_ble_eq_true rfl⟩ rfl (Nat.le_of_ble_eq_true rfl) ⟨Nat.zero_le _, Nat.zero_le _⟩ dX9_tape_60) [10, 11] [0, 1, 2, 3, 4, 5, 6, 7, 8, 9, 12, 13] [0, 1, 2, 3, 4, 5, 6, 7, 8, 9, 12, 13, 10, 11] rfl rfl (by decide) (by decide) (fun _ => rfl) (by decide) (fun u9 h => ?_)
            obtain ⟨vE_9, gE_9⟩ := u9
            dsimp only at h
            refine z_iconst (pc := 63) (v := 1) C dX9_tape_63 (by decide) ?_
            exact hret 64 _ _ (1 : Int32) ((va_up vt 4 vE_9), (va_up gt 4 gE_9)) rfl h dX9_tape_64
          · have h := h.2 c7
            refine z_bipush (pc := 49) (v := -14) C dX9_tape_49 (by decide) ?_
            exact hret 51 _ _ (-14 : Int32) (vt, gt) rfl h dX9_tape_51
        · have h := h.2 c6
          refine z_bipush (pc := 42) (v := -2) C dX9_tape_42 (by decide) ?_
          exact hret 44 _ _ (-2 : Int32) (vt, gt) rfl h dX9_tape_44
    · have h := h.2 c3
      refine z_aload_n (pc := 16) C 0 dX9_tape_16 rfl ?_
      refine z_get (pc := 17) C uw9 0 rfl rfl 9 (by decide) wq544 rfl dX9_tape_17 ?_
      refine z_iload_n (pc := 20) C 1 dX9_tape_20 rfl ?_
      obtain ⟨g10, h⟩ := h
      refine z_aldq (pc := 21) C 1 2 rfl rfl g10 (.ref (dt 4 0)) rfl dX9_tape_21 ?_
      refine z_callv (pc := 22) (wr := (List.filterMap (fun i => (((wX9 d (dN 0) (dI 0) (dT 0) (dNc 0) (dNcj 0) (dNcs 0) (dNcp 0) (dNw 0) (dx 0) dtt v) ++ (wTT cJ cT dtt dt vt gt)))[i]?) [0, 1, 2, 3, 4, 5, 6, 7, 8, 9, 12, 13])) (w1 := fun (u : Lf) => (wX6 cJ (dt 4) u (gt 4))) (w2 := fun (u : Lf) => ((wX9 d (dN 0) (dI 0) (dT 0) (dNc 0) (dNcj 0) (dNcs 0) (dNcp 0) (dNw 0) (dx 0) dtt v) ++ (wTT cJ cT dtt dt (va_up vt 4 u) gt))) C (z_runV (pc := 22) (wc := (wX6 cJ (dt 4) (vt 4) (gt 4))) (As := []) C (fun sz => kX6_holdNothing (dt 4) (vt 4) (gt 4) sz h) [10, 11] rfl (by decide) (gdV wq407 wq792 wq793 wq794 wq546) rfl rfl rfl hdX6_holdNothing 10 rfl rfl rfl ⟨Nat.le_of_ble_eq_true rfl, Nat.le_of_ble_eq_true rfl⟩ rfl (Nat.le_of_ble_eq_true rfl) ⟨Nat.zero_le _, Nat.zero_le _⟩ dX9_tape_22) [10, 11] [0, 1, 2, 3, 4, 5, 6, 7, 8, 9, 12, 13] [0, 1, 2, 3, 4, 5, 6, 7, 8, 9, 12, 13, 10, 11] rfl rfl (by decide) (by decide) (fun _ => rfl) (by decide) (fun u11 h => ?_)
      obtain ⟨vE_11, hu11⟩ : ∃ z, z = u11 := ⟨_, rfl⟩
      subst hu11
      refine z_iconst (pc := 25) (v := 1) C dX9_tape_25 (by decide) ?_
      exact hret 26 _ _ (1 : Int32) ((va_up vt 4 vE_11), gt) rfl h dX9_tape_26
  · have h := h.2 c2
    refine z_iconst (pc := 9) (v := -1) C dX9_tape_9 (by decide) ?_
    exact hret 10 _ _ (-1 : Int32) (vt, gt) rfl h dX9_tape_10

set_option maxHeartbeats 4000000 in
set_option maxRecDepth 100000 in
theorem kX9_tape_5 {l : Launch} {D : va_G} {cI cJ cT : ClassId} (d : Nat → Nat) (dN : Nat → Nat) (dI : Nat → Nat) (dT : Nat → Nat) (dNc : Nat → Nat) (dNcj : Nat → Nat) (dNcs : Nat → Nat) (dNcp : Nat → Nat) (dNw : Nat → Nat) (dx : Nat → Nat) (dtt : Nat) (dt : Nat → Nat → Nat)  (v : Lf) (vt : Nat → Lf) (gt : Nat → Lg) (x2 : Int32) (x3 : Int32) {Q : Int32 → (Nat → Lf) → (Nat → Lg) → Prop} (sz : Nat) (h : pX9_tape vt gt (nI 5) x2 x3 Q) : Met l yX9_tape wdX9_tape rmX9_tape (Pz D (tyL cI cJ cT) [.ref (d 0), .int (nI 5), .int x2, .int x3] ((wX9 d (dN 0) (dI 0) (dT 0) (dNc 0) (dNcj 0) (dNcs 0) (dNcp 0) (dNw 0) (dx 0) dtt v) ++ (wTT cJ cT dtt dt vt gt)) sz) (va_Qi (fun (r : Int32) (u : (Nat → Lf) × (Nat → Lg)) => Q r u.1 u.2) (Bz D (tyL cI cJ cT) ((wX9 d (dN 0) (dI 0) (dT 0) (dNc 0) (dNcj 0) (dNcs 0) (dNcp 0) (dNw 0) (dx 0) dtt v) ++ (wTT cJ cT dtt dt vt gt)) sz (fun (u : (Nat → Lf) × (Nat → Lg)) => ((wX9 d (dN 0) (dI 0) (dT 0) (dNc 0) (dNcj 0) (dNcs 0) (dNcp 0) (dNw 0) (dx 0) dtt v) ++ (wTT cJ cT dtt dt u.1 u.2)))) (va_A ((wX9 d (dN 0) (dI 0) (dT 0) (dNc 0) (dNcj 0) (dNcs 0) (dNcp 0) (dNw 0) (dx 0) dtt v) ++ (wTT cJ cT dtt dt vt gt)) sz)) 0 0 (va_A ((wX9 d (dN 0) (dI 0) (dT 0) (dNc 0) (dNcj 0) (dNcs 0) (dNcp 0) (dNw 0) (dx 0) dtt v) ++ (wTT cJ cT dtt dt vt gt)) sz) := by
  refine z_meti (cc := cX9_tape) (maxL := 4) (own := RX9) (lv0 := [(0, .ref (d 0)), (1, .int (nI 5)), (2, .int x2), (3, .int x3)]) (by decide) rfl rfl (Nat.le_of_ble_eq_true rfl) rfl ?_
  intro p e s m args below meth c A QQ C hin hret
  refine z_iload_n (pc := 0) C 1 dX9_tape_0 rfl ?_
  refine z_iconst (pc := 1) (v := 0) C dX9_tape_1 (by decide) ?_
  refine z_iconst (pc := 2) (v := 5) C dX9_tape_2 (by decide) ?_
  refine z_call0i (pc := 3) C (z_runS (pc := 3) (wc := ([] : va_W)) (As := [.int (nI 5), .int (0 : Int32), .int (5 : Int32)]) C (fun sz => kX9_within (nI 5) (0 : Int32) (5 : Int32) sz h) [] rfl (by decide) (gdS wq366 wq553 wq373 wq112) rfl rfl rfl hdSX9_within ⟨Nat.le_of_ble_eq_true rfl, Nat.le_of_ble_eq_true rfl⟩ rfl (Nat.le_of_ble_eq_true rfl) ⟨Nat.zero_le _, Nat.zero_le _⟩ dX9_tape_3) (fun r1 u1 h => ?_)
  refine z_if_ne (pc := 6) (tgt := 11) C dX9_tape_6 (by decide) (fun c2 => ?_) (fun c2 => ?_)
  · have h := h.1 c2
    refine z_iload_n (pc := 11) C 2 dX9_tape_11 rfl ?_
    refine z_iconst (pc := 12) (v := -1) C dX9_tape_12 (by decide) ?_
    refine z_icmp_ne (pc := 13) (tgt := 27) C dX9_tape_13 (by decide) (fun c3 => ?_) (fun c3 => ?_)
    · have h := h.1 c3
      refine z_iload_n (pc := 27) C 2 dX9_tape_27 rfl ?_
      refine z_iconst (pc := 28) (v := 0) C dX9_tape_28 (by decide) ?_
      refine z_iconst (pc := 29) (v := 4) C dX9_tape_29 (by decide) ?_
      refine z_call0i (pc := 30) C (z_runS (pc := 30) (wc := ([] : va_W)) (As := [.int x2, .int (0 : Int32), .int (4 : Int32)]) C (fun sz => kX9_within x2 (0 : Int32) (4 : Int32) sz h) [] rfl (by decide) (gdS wq366 wq553 wq373 wq112) rfl rfl rfl hdSX9_within ⟨Nat.le_of_ble_eq_true rfl, Nat.le_of_ble_eq_true rfl⟩ rfl (Nat.le_of_ble_eq_true rfl) ⟨Nat.zero_le _, Nat.zero_le _⟩ dX9_tape_30) (fun r4 u4 h => ?_)
      refine z_if_eq (pc := 33) (tgt := 42) C dX9_tape_33 (by decide) (fun c5 => ?_) (fun c5 => ?_)
      · have h := h.1 c5
        refine z_bipush (pc := 42) (v := -2) C dX9_tape_42 (by decide) ?_
        exact hret 44 _ _ (-2 : Int32) (vt, gt) rfl h dX9_tape_44
      · have h := h.2 c5
        refine z_iload_n (pc := 36) C 3 dX9_tape_36 rfl ?_
        refine z_bipush (pc := 37) (v := 60) C dX9_tape_37 (by decide) ?_
        refine z_icmp_le (pc := 39) (tgt := 45) C dX9_tape_39 (by decide) (fun c6 => ?_) (fun c6 => ?_)
        · have h := h.1 c6
          refine z_iload_n (pc := 45) C 3 dX9_tape_45 rfl ?_
          refine z_if_ge (pc := 46) (tgt := 52) C dX9_tape_46 (by decide) (fun c7 => ?_) (fun c7 => ?_)
          · have h := h.1 c7
            refine z_aload_n (pc := 52) C 0 dX9_tape_52 rfl ?_
            refine z_get (pc := 53) C uw9 0 rfl rfl 9 (by decide) wq544 rfl dX9_tape_53 ?_
            refine z_iload_n (pc := 56) C 1 dX9_tape_56 rfl ?_
            obtain ⟨g8, h⟩ := h
            refine z_aldq (pc := 57) C 1 2 rfl rfl g8 (.ref (dt 5 0)) rfl dX9_tape_57 ?_
            refine z_iload_n (pc := 58) C 2 dX9_tape_58 rfl ?_
            refine z_iload_n (pc := 59) C 3 dX9_tape_59 rfl ?_
            refine z_callv (pc := 60) (wr := (List.filterMap (fun i => (((wX9 d (dN 0) (dI 0) (dT 0) (dNc 0) (dNcj 0) (dNcs 0) (dNcp 0) (dNw 0) (dx 0) dtt v) ++ (wTT cJ cT dtt dt vt gt)))[i]?) [0, 1, 2, 3, 4, 5, 6, 7, 8, 9, 10, 11])) (w1 := fun (u : Lf × Lg) => (wX6 cJ (dt 5) u.1 u.2)) (w2 := fun (u : Lf × Lg) => ((wX9 d (dN 0) (dI 0) (dT 0) (dNc 0) (dNcj 0) (dNcs 0) (dNcp 0) (dNw 0) (dx 0) dtt v) ++ (wTT cJ cT dtt dt (va_up vt 5 u.1) (va_up gt 5 u.2)))) C (z_runV (pc := 60) (wc := (wX6 cJ (dt 5) (vt 5) (gt 5))) (As := [.int x2, .int x3]) C (fun sz => kX6_hold (dt 5) (vt 5) (gt 5) x2 x3 sz h) [12, 13] rfl (by decide) (gdV wq410 wq795 wq796 wq797 wq546) rfl rfl rfl hdX6_hold 12 rfl rfl rfl ⟨Nat.le_of_ble_eq_true rfl, Nat.le_of_ble_eq_true rfl⟩ rfl (Nat.le_of_ble_eq_true rfl) ⟨Nat.zero_le _, Nat.zero_le _⟩ dX9_tape_60) [12, 13] [0, 1, 2, 3, 4, 5, 6, 7, 8, 9, 10, 11] [0, 1, 2, 3, 4, 5, 6, 7, 8, 9, 10, 11, 12, 13] rfl rfl (by decide) (by decide) (fun _ => rfl) (by decide) (fun u9 h => ?_)
            obtain ⟨vE_9, gE_9⟩ := u9
            dsimp only at h
            refine z_iconst (pc := 63) (v := 1) C dX9_tape_63 (by decide) ?_
            exact hret 64 _ _ (1 : Int32) ((va_up vt 5 vE_9), (va_up gt 5 gE_9)) rfl h dX9_tape_64
          · have h := h.2 c7
            refine z_bipush (pc := 49) (v := -14) C dX9_tape_49 (by decide) ?_
            exact hret 51 _ _ (-14 : Int32) (vt, gt) rfl h dX9_tape_51
        · have h := h.2 c6
          refine z_bipush (pc := 42) (v := -2) C dX9_tape_42 (by decide) ?_
          exact hret 44 _ _ (-2 : Int32) (vt, gt) rfl h dX9_tape_44
    · have h := h.2 c3
      refine z_aload_n (pc := 16) C 0 dX9_tape_16 rfl ?_
      refine z_get (pc := 17) C uw9 0 rfl rfl 9 (by decide) wq544 rfl dX9_tape_17 ?_
      refine z_iload_n (pc := 20) C 1 dX9_tape_20 rfl ?_
      obtain ⟨g10, h⟩ := h
      refine z_aldq (pc := 21) C 1 2 rfl rfl g10 (.ref (dt 5 0)) rfl dX9_tape_21 ?_
      refine z_callv (pc := 22) (wr := (List.filterMap (fun i => (((wX9 d (dN 0) (dI 0) (dT 0) (dNc 0) (dNcj 0) (dNcs 0) (dNcp 0) (dNw 0) (dx 0) dtt v) ++ (wTT cJ cT dtt dt vt gt)))[i]?) [0, 1, 2, 3, 4, 5, 6, 7, 8, 9, 10, 11])) (w1 := fun (u : Lf) => (wX6 cJ (dt 5) u (gt 5))) (w2 := fun (u : Lf) => ((wX9 d (dN 0) (dI 0) (dT 0) (dNc 0) (dNcj 0) (dNcs 0) (dNcp 0) (dNw 0) (dx 0) dtt v) ++ (wTT cJ cT dtt dt (va_up vt 5 u) gt))) C (z_runV (pc := 22) (wc := (wX6 cJ (dt 5) (vt 5) (gt 5))) (As := []) C (fun sz => kX6_holdNothing (dt 5) (vt 5) (gt 5) sz h) [12, 13] rfl (by decide) (gdV wq407 wq792 wq793 wq794 wq546) rfl rfl rfl hdX6_holdNothing 12 rfl rfl rfl ⟨Nat.le_of_ble_eq_true rfl, Nat.le_of_ble_eq_true rfl⟩ rfl (Nat.le_of_ble_eq_true rfl) ⟨Nat.zero_le _, Nat.zero_le _⟩ dX9_tape_22) [12, 13] [0, 1, 2, 3, 4, 5, 6, 7, 8, 9, 10, 11] [0, 1, 2, 3, 4, 5, 6, 7, 8, 9, 10, 11, 12, 13] rfl rfl (by decide) (by decide) (fun _ => rfl) (by decide) (fun u11 h => ?_)
      obtain ⟨vE_11, hu11⟩ : ∃ z, z = u11 := ⟨_, rfl⟩
      subst hu11
      refine z_iconst (pc := 25) (v := 1) C dX9_tape_25 (by decide) ?_
      exact hret 26 _ _ (1 : Int32) ((va_up vt 5 vE_11), gt) rfl h dX9_tape_26
  · have h := h.2 c2
    refine z_iconst (pc := 9) (v := -1) C dX9_tape_9 (by decide) ?_
    exact hret 10 _ _ (-1 : Int32) (vt, gt) rfl h dX9_tape_10

set_option maxHeartbeats 4000000 in
set_option maxRecDepth 100000 in
theorem kX9_tape_n {l : Launch} {D : va_G} {cI cJ cT : ClassId} (d : Nat → Nat) (dN : Nat → Nat) (dI : Nat → Nat) (dT : Nat → Nat) (dNc : Nat → Nat) (dNcj : Nat → Nat) (dNcs : Nat → Nat) (dNcp : Nat → Nat) (dNw : Nat → Nat) (dx : Nat → Nat) (dtt : Nat) (dt : Nat → Nat → Nat)  (v : Lf) (vt : Nat → Lf) (gt : Nat → Lg) (x1 : Int32) (x2 : Int32) (x3 : Int32) (g1 : ¬ vp_in x1 6) {Q : Int32 → (Nat → Lf) → (Nat → Lg) → Prop} (sz : Nat) (h : pX9_tape vt gt x1 x2 x3 Q) : Met l yX9_tape wdX9_tape rmX9_tape (Pz D (tyL cI cJ cT) [.ref (d 0), .int x1, .int x2, .int x3] ((wX9 d (dN 0) (dI 0) (dT 0) (dNc 0) (dNcj 0) (dNcs 0) (dNcp 0) (dNw 0) (dx 0) dtt v) ++ (wTT cJ cT dtt dt vt gt)) sz) (va_Qi (fun (r : Int32) (u : (Nat → Lf) × (Nat → Lg)) => Q r u.1 u.2) (Bz D (tyL cI cJ cT) ((wX9 d (dN 0) (dI 0) (dT 0) (dNc 0) (dNcj 0) (dNcs 0) (dNcp 0) (dNw 0) (dx 0) dtt v) ++ (wTT cJ cT dtt dt vt gt)) sz (fun (u : (Nat → Lf) × (Nat → Lg)) => ((wX9 d (dN 0) (dI 0) (dT 0) (dNc 0) (dNcj 0) (dNcs 0) (dNcp 0) (dNw 0) (dx 0) dtt v) ++ (wTT cJ cT dtt dt u.1 u.2)))) (va_A ((wX9 d (dN 0) (dI 0) (dT 0) (dNc 0) (dNcj 0) (dNcs 0) (dNcp 0) (dNw 0) (dx 0) dtt v) ++ (wTT cJ cT dtt dt vt gt)) sz)) 0 0 (va_A ((wX9 d (dN 0) (dI 0) (dT 0) (dNc 0) (dNcj 0) (dNcs 0) (dNcp 0) (dNw 0) (dx 0) dtt v) ++ (wTT cJ cT dtt dt vt gt)) sz) := by
  refine z_meti (cc := cX9_tape) (maxL := 4) (own := RX9) (lv0 := [(0, .ref (d 0)), (1, .int x1), (2, .int x2), (3, .int x3)]) (by decide) rfl rfl (Nat.le_of_ble_eq_true rfl) rfl ?_
  intro p e s m args below meth c A QQ C hin hret
  refine z_iload_n (pc := 0) C 1 dX9_tape_0 rfl ?_
  refine z_iconst (pc := 1) (v := 0) C dX9_tape_1 (by decide) ?_
  refine z_iconst (pc := 2) (v := 5) C dX9_tape_2 (by decide) ?_
  refine z_call0i (pc := 3) C (z_runS (pc := 3) (wc := ([] : va_W)) (As := [.int x1, .int (0 : Int32), .int (5 : Int32)]) C (fun sz => kX9_within x1 (0 : Int32) (5 : Int32) sz h) [] rfl (by decide) (gdS wq366 wq553 wq373 wq112) rfl rfl rfl hdSX9_within ⟨Nat.le_of_ble_eq_true rfl, Nat.le_of_ble_eq_true rfl⟩ rfl (Nat.le_of_ble_eq_true rfl) ⟨Nat.zero_le _, Nat.zero_le _⟩ dX9_tape_3) (fun r1 u1 h => ?_)
  refine z_if_ne (pc := 6) (tgt := 11) C dX9_tape_6 (by decide) (fun c2 => ?_) (fun c2 => ?_)
  · have h := h.1 c2
    refine z_iload_n (pc := 11) C 2 dX9_tape_11 rfl ?_
    refine z_iconst (pc := 12) (v := -1) C dX9_tape_12 (by decide) ?_
    refine z_icmp_ne (pc := 13) (tgt := 27) C dX9_tape_13 (by decide) (fun c3 => ?_) (fun c3 => ?_)
    · have h := h.1 c3
      refine z_iload_n (pc := 27) C 2 dX9_tape_27 rfl ?_
      refine z_iconst (pc := 28) (v := 0) C dX9_tape_28 (by decide) ?_
      refine z_iconst (pc := 29) (v := 4) C dX9_tape_29 (by decide) ?_
      refine z_call0i (pc := 30) C (z_runS (pc := 30) (wc := ([] : va_W)) (As := [.int x2, .int (0 : Int32), .int (4 : Int32)]) C (fun sz => kX9_within x2 (0 : Int32) (4 : Int32) sz h) [] rfl (by decide) (gdS wq366 wq553 wq373 wq112) rfl rfl rfl hdSX9_within ⟨Nat.le_of_ble_eq_true rfl, Nat.le_of_ble_eq_true rfl⟩ rfl (Nat.le_of_ble_eq_true rfl) ⟨Nat.zero_le _, Nat.zero_le _⟩ dX9_tape_30) (fun r4 u4 h => ?_)
      refine z_if_eq (pc := 33) (tgt := 42) C dX9_tape_33 (by decide) (fun c5 => ?_) (fun c5 => ?_)
      · have h := h.1 c5
        refine z_bipush (pc := 42) (v := -2) C dX9_tape_42 (by decide) ?_
        exact hret 44 _ _ (-2 : Int32) (vt, gt) rfl h dX9_tape_44
      · have h := h.2 c5
        refine z_iload_n (pc := 36) C 3 dX9_tape_36 rfl ?_
        refine z_bipush (pc := 37) (v := 60) C dX9_tape_37 (by decide) ?_
        refine z_icmp_le (pc := 39) (tgt := 45) C dX9_tape_39 (by decide) (fun c6 => ?_) (fun c6 => ?_)
        · have h := h.1 c6
          refine z_iload_n (pc := 45) C 3 dX9_tape_45 rfl ?_
          refine z_if_ge (pc := 46) (tgt := 52) C dX9_tape_46 (by decide) (fun c7 => ?_) (fun c7 => ?_)
          · have h := h.1 c7
            refine z_aload_n (pc := 52) C 0 dX9_tape_52 rfl ?_
            refine z_get (pc := 53) C uw9 0 rfl rfl 9 (by decide) wq544 rfl dX9_tape_53 ?_
            refine z_iload_n (pc := 56) C 1 dX9_tape_56 rfl ?_
            obtain ⟨g8, h⟩ := h
            exact absurd g8 g1
          · have h := h.2 c7
            refine z_bipush (pc := 49) (v := -14) C dX9_tape_49 (by decide) ?_
            exact hret 51 _ _ (-14 : Int32) (vt, gt) rfl h dX9_tape_51
        · have h := h.2 c6
          refine z_bipush (pc := 42) (v := -2) C dX9_tape_42 (by decide) ?_
          exact hret 44 _ _ (-2 : Int32) (vt, gt) rfl h dX9_tape_44
    · have h := h.2 c3
      refine z_aload_n (pc := 16) C 0 dX9_tape_16 rfl ?_
      refine z_get (pc := 17) C uw9 0 rfl rfl 9 (by decide) wq544 rfl dX9_tape_17 ?_
      refine z_iload_n (pc := 20) C 1 dX9_tape_20 rfl ?_
      obtain ⟨g9, h⟩ := h
      exact absurd g9 g1
  · have h := h.2 c2
    refine z_iconst (pc := 9) (v := -1) C dX9_tape_9 (by decide) ?_
    exact hret 10 _ _ (-1 : Int32) (vt, gt) rfl h dX9_tape_10

set_option maxHeartbeats 4000000 in
theorem kX9_tape {l : Launch} {D : va_G} {cI cJ cT : ClassId} (d : Nat → Nat) (dN : Nat → Nat) (dI : Nat → Nat) (dT : Nat → Nat) (dNc : Nat → Nat) (dNcj : Nat → Nat) (dNcs : Nat → Nat) (dNcp : Nat → Nat) (dNw : Nat → Nat) (dx : Nat → Nat) (dtt : Nat) (dt : Nat → Nat → Nat)  (v : Lf) (vt : Nat → Lf) (gt : Nat → Lg) (x1 : Int32) (x2 : Int32) (x3 : Int32) {Q : Int32 → (Nat → Lf) → (Nat → Lg) → Prop} (sz : Nat) (h : pX9_tape vt gt x1 x2 x3 Q) : Met l yX9_tape wdX9_tape rmX9_tape (Pz D (tyL cI cJ cT) [.ref (d 0), .int x1, .int x2, .int x3] ((wX9 d (dN 0) (dI 0) (dT 0) (dNc 0) (dNcj 0) (dNcs 0) (dNcp 0) (dNw 0) (dx 0) dtt v) ++ (wTT cJ cT dtt dt vt gt)) sz) (va_Qi (fun (r : Int32) (u : (Nat → Lf) × (Nat → Lg)) => Q r u.1 u.2) (Bz D (tyL cI cJ cT) ((wX9 d (dN 0) (dI 0) (dT 0) (dNc 0) (dNcj 0) (dNcs 0) (dNcp 0) (dNw 0) (dx 0) dtt v) ++ (wTT cJ cT dtt dt vt gt)) sz (fun (u : (Nat → Lf) × (Nat → Lg)) => ((wX9 d (dN 0) (dI 0) (dT 0) (dNc 0) (dNcj 0) (dNcs 0) (dNcp 0) (dNw 0) (dx 0) dtt v) ++ (wTT cJ cT dtt dt u.1 u.2)))) (va_A ((wX9 d (dN 0) (dI 0) (dT 0) (dNc 0) (dNcj 0) (dNcs 0) (dNcp 0) (dNw 0) (dx 0) dtt v) ++ (wTT cJ cT dtt dt vt gt)) sz)) 0 0 (va_A ((wX9 d (dN 0) (dI 0) (dT 0) (dNc 0) (dNcj 0) (dNcs 0) (dNcp 0) (dNw 0) (dx 0) dtt v) ++ (wTT cJ cT dtt dt vt gt)) sz) := by
  by_cases g1 : vp_in x1 6
  · obtain ⟨j, hj, rfl⟩ := vp_in_of g1 (by decide)
    rcases (show j = 0 ∨ j = 1 ∨ j = 2 ∨ j = 3 ∨ j = 4 ∨ j = 5 by omega) with rfl | rfl | rfl | rfl | rfl | rfl
    · exact kX9_tape_0 d dN dI dT dNc dNcj dNcs dNcp dNw dx dtt dt v vt gt x2 x3 sz h
    · exact kX9_tape_1 d dN dI dT dNc dNcj dNcs dNcp dNw dx dtt dt v vt gt x2 x3 sz h
    · exact kX9_tape_2 d dN dI dT dNc dNcj dNcs dNcp dNw dx dtt dt v vt gt x2 x3 sz h
    · exact kX9_tape_3 d dN dI dT dNc dNcj dNcs dNcp dNw dx dtt dt v vt gt x2 x3 sz h
    · exact kX9_tape_4 d dN dI dT dNc dNcj dNcs dNcp dNw dx dtt dt v vt gt x2 x3 sz h
    · exact kX9_tape_5 d dN dI dT dNc dNcj dNcs dNcp dNw dx dtt dt v vt gt x2 x3 sz h
  · exact kX9_tape_n d dN dI dT dNc dNcj dNcs dNcp dNw dx dtt dt v vt gt x1 x2 x3 g1 sz h

def pX9_item (vt : Nat → Lf) (gt : Nat → Lg) (x1 : Int32) (x2 : Int32) (x3 : Int64) (Q : Int32 → (Nat → Lg) → Prop) : Prop := (pX9_within x1 (0 : Int32) (5 : Int32) (fun r1 => ((¬ r1 = 0 → (vp_in x1 6 ∧ ((¬ ((vt (x1.toNatClampNeg)) 0 0) = (-5 : Int32) → (pX6_hasPlace (vt (x1.toNatClampNeg)) x2 (fun r5 => ((¬ r5 = 0 → (pX6_narrowed (vt (x1.toNatClampNeg)) x3 (fun r7 => (vp_in x2 60 ∧ (Q (1 : Int32) (va_up gt (x1.toNatClampNeg) (sg (gt (x1.toNatClampNeg)) 1 x2.toNatClampNeg r7))))))) ∧ (r5 = 0 → (Q (-13 : Int32) gt)))))) ∧ (((vt (x1.toNatClampNeg)) 0 0) = (-5 : Int32) → (Q (-11 : Int32) gt))))) ∧ (r1 = 0 → (Q (-1 : Int32) gt)))))
abbrev rmX9_item : Room := { frames := 2, cells := 0, slots := 0, locals := 43 }
abbrev wdX9_item : List Cond := Cond.code yX9_item cX9_item 6 (some .int) :: TB
theorem hdSX9_item : (yX9_item).cls ≠ "java/lang/invoke/MethodHandle" ∧ (yX9_item).cls ≠ "java/lang/invoke/VarHandle" ∧ (parseMethodDescriptor (yX9_item).desc).map (fun d => d.parameters.length) = some 3 := by decide +kernel
theorem hdX9_item : (yX9_item).cls = RX9 ∧ (yX9_item).cls ≠ "java/lang/invoke/MethodHandle" ∧ (yX9_item).cls ≠ "java/lang/invoke/VarHandle" ∧ (parseMethodDescriptor (yX9_item).desc).map (fun d => d.parameters.length) = some 3 := ⟨rfl, hdSX9_item⟩

set_option maxHeartbeats 4000000 in
set_option maxRecDepth 100000 in
theorem kX9_item_0 {l : Launch} {D : va_G} {cI cJ cT : ClassId} (d : Nat → Nat) (dN : Nat → Nat) (dI : Nat → Nat) (dT : Nat → Nat) (dNc : Nat → Nat) (dNcj : Nat → Nat) (dNcs : Nat → Nat) (dNcp : Nat → Nat) (dNw : Nat → Nat) (dx : Nat → Nat) (dtt : Nat) (dt : Nat → Nat → Nat)  (v : Lf) (vt : Nat → Lf) (gt : Nat → Lg) (x2 : Int32) (x3 : Int64) {Q : Int32 → (Nat → Lg) → Prop} (sz : Nat) (h : pX9_item vt gt (nI 0) x2 x3 Q) : Met l yX9_item wdX9_item rmX9_item (Pz D (tyL cI cJ cT) [.ref (d 0), .int (nI 0), .int x2, .long x3] ((wX9 d (dN 0) (dI 0) (dT 0) (dNc 0) (dNcj 0) (dNcs 0) (dNcp 0) (dNw 0) (dx 0) dtt v) ++ (wTT cJ cT dtt dt vt gt)) sz) (va_Qi (fun (r : Int32) (u : (Nat → Lg)) => Q r u) (Bz D (tyL cI cJ cT) ((wX9 d (dN 0) (dI 0) (dT 0) (dNc 0) (dNcj 0) (dNcs 0) (dNcp 0) (dNw 0) (dx 0) dtt v) ++ (wTT cJ cT dtt dt vt gt)) sz (fun (u : (Nat → Lg)) => ((wX9 d (dN 0) (dI 0) (dT 0) (dNc 0) (dNcj 0) (dNcs 0) (dNcp 0) (dNw 0) (dx 0) dtt v) ++ (wTT cJ cT dtt dt vt u)))) (va_A ((wX9 d (dN 0) (dI 0) (dT 0) (dNc 0) (dNcj 0) (dNcs 0) (dNcp 0) (dNw 0) (dx 0) dtt v) ++ (wTT cJ cT dtt dt vt gt)) sz)) 0 0 (va_A ((wX9 d (dN 0) (dI 0) (dT 0) (dNc 0) (dNcj 0) (dNcs 0) (dNcp 0) (dNw 0) (dx 0) dtt v) ++ (wTT cJ cT dtt dt vt gt)) sz) := by
  refine z_meti (cc := cX9_item) (maxL := 6) (own := RX9) (lv0 := [(0, .ref (d 0)), (1, .int (nI 0)), (2, .int x2), (3, .long x3)]) (by decide) rfl rfl (Nat.le_of_ble_eq_true rfl) rfl ?_
  intro p e s m args below meth c A QQ C hin hret
  refine z_iload_n (pc := 0) C 1 dX9_item_0 rfl ?_
  refine z_iconst (pc := 1) (v := 0) C dX9_item_1 (by decide) ?_
  refine z_iconst (pc := 2) (v := 5) C dX9_item_2 (by decide) ?_
  refine z_call0i (pc := 3) C (z_runS (pc := 3) (wc := ([] : va_W)) (As := [.int (nI 0), .int (0 : Int32), .int (5 : Int32)]) C (fun sz => kX9_within (nI 0) (0 : Int32) (5 : Int32) sz h) [] rfl (by decide) (gdS wq366 wq553 wq373 wq112) rfl rfl rfl hdSX9_within ⟨Nat.le_of_ble_eq_true rfl, Nat.le_of_ble_eq_true rfl⟩ rfl (Nat.le_of_ble_eq_true rfl) ⟨Nat.zero_le _, Nat.zero_le _⟩ dX9_item_3) (fun r1 u1 h => ?_)
  refine z_if_ne (pc := 6) (tgt := 11) C dX9_item_6 (by decide) (fun c2 => ?_) (fun c2 => ?_)
  · have h := h.1 c2
    refine z_aload_n (pc := 11) C 0 dX9_item_11 rfl ?_
    refine z_get (pc := 12) C uw9 0 rfl rfl 9 (by decide) wq544 rfl dX9_item_12 ?_
    refine z_iload_n (pc := 15) C 1 dX9_item_15 rfl ?_
    obtain ⟨g3, h⟩ := h
    refine z_aldq (pc := 16) C 1 2 rfl rfl g3 (.ref (dt 0 0)) rfl dX9_item_16 ?_
    refine z_astore (pc := 17) (lv' := [(5, .ref (dt 0 0)), (0, .ref (d 0)), (1, .int (nI 0)), (2, .int x2), (3, .long x3)]) C dX9_item_17 (by decide) rfl ?_
    refine z_aload (pc := 19) C 0 dX9_item_19 rfl ?_
    refine z_get (pc := 21) C uw6 2 rfl rfl 0 (by decide) wq777 rfl dX9_item_21 ?_
    refine z_bipush (pc := 24) (v := -5) C dX9_item_24 (by decide) ?_
    refine z_icmp_ne (pc := 26) (tgt := 32) C dX9_item_26 (by decide) (fun c4 => ?_) (fun c4 => ?_)
    · have h := h.1 c4
      refine z_aload (pc := 32) C 0 dX9_item_32 rfl ?_
      refine z_iload_n (pc := 34) C 3 dX9_item_34 rfl ?_
      refine z_callRi (pc := 35) C (z_runV (pc := 35) (wc := (wX6 cJ (dt 0) (vt 0) (gt 0))) (As := [.int x2]) C (fun sz => kX6_hasPlace (dt 0) (vt 0) (gt 0) x2 sz h) [2, 3] rfl (by decide) (gdV wq413 wq779 wq780 wq781 wq546) rfl rfl rfl hdX6_hasPlace 2 rfl rfl rfl ⟨Nat.le_of_ble_eq_true rfl, Nat.le_of_ble_eq_true rfl⟩ rfl (Nat.le_of_ble_eq_true rfl) ⟨Nat.zero_le _, Nat.zero_le _⟩ dX9_item_35) [2, 3] rfl (by decide) (fun r5 u5 h => ?_)
      refine z_if_ne (pc := 38) (tgt := 44) C dX9_item_38 (by decide) (fun c6 => ?_) (fun c6 => ?_)
      · have h := h.1 c6
        refine z_aload (pc := 44) C 0 dX9_item_44 rfl ?_
        refine z_get (pc := 46) C uw6 2 rfl rfl 2 (by decide) wq778 rfl dX9_item_46 ?_
        refine z_iload_n (pc := 49) C 3 dX9_item_49 rfl ?_
        refine z_aload (pc := 50) C 0 dX9_item_50 rfl ?_
        refine z_lload_n (pc := 52) C 4 dX9_item_52 rfl ?_
        refine z_callRl (pc := 53) C (z_runV (pc := 53) (wc := (wX6 cJ (dt 0) (vt 0) (gt 0))) (As := [.long x3]) C (fun sz => kX6_narrowed (dt 0) (vt 0) (gt 0) x3 sz h) [2, 3] rfl (by decide) (gdV wq415 wq799 wq800 wq801 wq546) rfl rfl rfl hdX6_narrowed 2 rfl rfl rfl ⟨Nat.le_of_ble_eq_true rfl, Nat.le_of_ble_eq_true rfl⟩ rfl (Nat.le_of_ble_eq_true rfl) ⟨Nat.zero_le _, Nat.zero_le _⟩ dX9_item_53) [2, 3] rfl (by decide) (fun r7 u7 h => ?_)
        obtain ⟨g8, h⟩ := h
        refine z_last (pc := 56) (ws' := ((wX9 d (dN 0) (dI 0) (dT 0) (dNc 0) (dNcj 0) (dNcs 0) (dNcp 0) (dNw 0) (dx 0) dtt v) ++ (wTT cJ cT dtt dt vt (va_up gt 0 (sg (gt 0) 1 x2.toNatClampNeg r7))))) C 3 1 rfl rfl g8 dX9_item_56 rfl (set_r (k := 1) (i := 2) rfl sTT_a0) ?_
        refine z_iconst (pc := 57) (v := 1) C dX9_item_57 (by decide) ?_
        exact hret 58 _ _ (1 : Int32) (va_up gt 0 (sg (gt 0) 1 x2.toNatClampNeg r7)) rfl h dX9_item_58
      · have h := h.2 c6
        refine z_bipush (pc := 41) (v := -13) C dX9_item_41 (by decide) ?_
        exact hret 43 _ _ (-13 : Int32) gt rfl h dX9_item_43
    · have h := h.2 c4
      refine z_bipush (pc := 29) (v := -11) C dX9_item_29 (by decide) ?_
      exact hret 31 _ _ (-11 : Int32) gt rfl h dX9_item_31
  · have h := h.2 c2
    refine z_iconst (pc := 9) (v := -1) C dX9_item_9 (by decide) ?_
    exact hret 10 _ _ (-1 : Int32) gt rfl h dX9_item_10

set_option maxHeartbeats 4000000 in
set_option maxRecDepth 100000 in
theorem kX9_item_1 {l : Launch} {D : va_G} {cI cJ cT : ClassId} (d : Nat → Nat) (dN : Nat → Nat) (dI : Nat → Nat) (dT : Nat → Nat) (dNc : Nat → Nat) (dNcj : Nat → Nat) (dNcs : Nat → Nat) (dNcp : Nat → Nat) (dNw : Nat → Nat) (dx : Nat → Nat) (dtt : Nat) (dt : Nat → Nat → Nat)  (v : Lf) (vt : Nat → Lf) (gt : Nat → Lg) (x2 : Int32) (x3 : Int64) {Q : Int32 → (Nat → Lg) → Prop} (sz : Nat) (h : pX9_item vt gt (nI 1) x2 x3 Q) : Met l yX9_item wdX9_item rmX9_item (Pz D (tyL cI cJ cT) [.ref (d 0), .int (nI 1), .int x2, .long x3] ((wX9 d (dN 0) (dI 0) (dT 0) (dNc 0) (dNcj 0) (dNcs 0) (dNcp 0) (dNw 0) (dx 0) dtt v) ++ (wTT cJ cT dtt dt vt gt)) sz) (va_Qi (fun (r : Int32) (u : (Nat → Lg)) => Q r u) (Bz D (tyL cI cJ cT) ((wX9 d (dN 0) (dI 0) (dT 0) (dNc 0) (dNcj 0) (dNcs 0) (dNcp 0) (dNw 0) (dx 0) dtt v) ++ (wTT cJ cT dtt dt vt gt)) sz (fun (u : (Nat → Lg)) => ((wX9 d (dN 0) (dI 0) (dT 0) (dNc 0) (dNcj 0) (dNcs 0) (dNcp 0) (dNw 0) (dx 0) dtt v) ++ (wTT cJ cT dtt dt vt u)))) (va_A ((wX9 d (dN 0) (dI 0) (dT 0) (dNc 0) (dNcj 0) (dNcs 0) (dNcp 0) (dNw 0) (dx 0) dtt v) ++ (wTT cJ cT dtt dt vt gt)) sz)) 0 0 (va_A ((wX9 d (dN 0) (dI 0) (dT 0) (dNc 0) (dNcj 0) (dNcs 0) (dNcp 0) (dNw 0) (dx 0) dtt v) ++ (wTT cJ cT dtt dt vt gt)) sz) := by
  refine z_meti (cc := cX9_item) (maxL := 6) (own := RX9) (lv0 := [(0, .ref (d 0)), (1, .int (nI 1)), (2, .int x2), (3, .long x3)]) (by decide) rfl rfl (Nat.le_of_ble_eq_true rfl) rfl ?_
  intro p e s m args below meth c A QQ C hin hret
  refine z_iload_n (pc := 0) C 1 dX9_item_0 rfl ?_
  refine z_iconst (pc := 1) (v := 0) C dX9_item_1 (by decide) ?_
  refine z_iconst (pc := 2) (v := 5) C dX9_item_2 (by decide) ?_
  refine z_call0i (pc := 3) C (z_runS (pc := 3) (wc := ([] : va_W)) (As := [.int (nI 1), .int (0 : Int32), .int (5 : Int32)]) C (fun sz => kX9_within (nI 1) (0 : Int32) (5 : Int32) sz h) [] rfl (by decide) (gdS wq366 wq553 wq373 wq112) rfl rfl rfl hdSX9_within ⟨Nat.le_of_ble_eq_true rfl, Nat.le_of_ble_eq_true rfl⟩ rfl (Nat.le_of_ble_eq_true rfl) ⟨Nat.zero_le _, Nat.zero_le _⟩ dX9_item_3) (fun r1 u1 h => ?_)
  refine z_if_ne (pc := 6) (tgt := 11) C dX9_item_6 (by decide) (fun c2 => ?_) (fun c2 => ?_)
  · have h := h.1 c2
    refine z_aload_n (pc := 11) C 0 dX9_item_11 rfl ?_
    refine z_get (pc := 12) C uw9 0 rfl rfl 9 (by decide) wq544 rfl dX9_item_12 ?_
    refine z_iload_n (pc := 15) C 1 dX9_item_15 rfl ?_
    obtain ⟨g3, h⟩ := h
    refine z_aldq (pc := 16) C 1 2 rfl rfl g3 (.ref (dt 1 0)) rfl dX9_item_16 ?_
    refine z_astore (pc := 17) (lv' := [(5, .ref (dt 1 0)), (0, .ref (d 0)), (1, .int (nI 1)), (2, .int x2), (3, .long x3)]) C dX9_item_17 (by decide) rfl ?_
    refine z_aload (pc := 19) C 0 dX9_item_19 rfl ?_
    refine z_get (pc := 21) C uw6 4 rfl rfl 0 (by decide) wq777 rfl dX9_item_21 ?_
    refine z_bipush (pc := 24) (v := -5) C dX9_item_24 (by decide) ?_
    refine z_icmp_ne (pc := 26) (tgt := 32) C dX9_item_26 (by decide) (fun c4 => ?_) (fun c4 => ?_)
    · have h := h.1 c4
      refine z_aload (pc := 32) C 0 dX9_item_32 rfl ?_
      refine z_iload_n (pc := 34) C 3 dX9_item_34 rfl ?_
      refine z_callRi (pc := 35) C (z_runV (pc := 35) (wc := (wX6 cJ (dt 1) (vt 1) (gt 1))) (As := [.int x2]) C (fun sz => kX6_hasPlace (dt 1) (vt 1) (gt 1) x2 sz h) [4, 5] rfl (by decide) (gdV wq413 wq779 wq780 wq781 wq546) rfl rfl rfl hdX6_hasPlace 4 rfl rfl rfl ⟨Nat.le_of_ble_eq_true rfl, Nat.le_of_ble_eq_true rfl⟩ rfl (Nat.le_of_ble_eq_true rfl) ⟨Nat.zero_le _, Nat.zero_le _⟩ dX9_item_35) [4, 5] rfl (by decide) (fun r5 u5 h => ?_)
      refine z_if_ne (pc := 38) (tgt := 44) C dX9_item_38 (by decide) (fun c6 => ?_) (fun c6 => ?_)
      · have h := h.1 c6
        refine z_aload (pc := 44) C 0 dX9_item_44 rfl ?_
        refine z_get (pc := 46) C uw6 4 rfl rfl 2 (by decide) wq778 rfl dX9_item_46 ?_
        refine z_iload_n (pc := 49) C 3 dX9_item_49 rfl ?_
        refine z_aload (pc := 50) C 0 dX9_item_50 rfl ?_
        refine z_lload_n (pc := 52) C 4 dX9_item_52 rfl ?_
        refine z_callRl (pc := 53) C (z_runV (pc := 53) (wc := (wX6 cJ (dt 1) (vt 1) (gt 1))) (As := [.long x3]) C (fun sz => kX6_narrowed (dt 1) (vt 1) (gt 1) x3 sz h) [4, 5] rfl (by decide) (gdV wq415 wq799 wq800 wq801 wq546) rfl rfl rfl hdX6_narrowed 4 rfl rfl rfl ⟨Nat.le_of_ble_eq_true rfl, Nat.le_of_ble_eq_true rfl⟩ rfl (Nat.le_of_ble_eq_true rfl) ⟨Nat.zero_le _, Nat.zero_le _⟩ dX9_item_53) [4, 5] rfl (by decide) (fun r7 u7 h => ?_)
        obtain ⟨g8, h⟩ := h
        refine z_last (pc := 56) (ws' := ((wX9 d (dN 0) (dI 0) (dT 0) (dNc 0) (dNcj 0) (dNcs 0) (dNcp 0) (dNw 0) (dx 0) dtt v) ++ (wTT cJ cT dtt dt vt (va_up gt 1 (sg (gt 1) 1 x2.toNatClampNeg r7))))) C 5 1 rfl rfl g8 dX9_item_56 rfl (set_r (k := 1) (i := 4) rfl sTT_a1) ?_
        refine z_iconst (pc := 57) (v := 1) C dX9_item_57 (by decide) ?_
        exact hret 58 _ _ (1 : Int32) (va_up gt 1 (sg (gt 1) 1 x2.toNatClampNeg r7)) rfl h dX9_item_58
      · have h := h.2 c6
        refine z_bipush (pc := 41) (v := -13) C dX9_item_41 (by decide) ?_
        exact hret 43 _ _ (-13 : Int32) gt rfl h dX9_item_43
    · have h := h.2 c4
      refine z_bipush (pc := 29) (v := -11) C dX9_item_29 (by decide) ?_
      exact hret 31 _ _ (-11 : Int32) gt rfl h dX9_item_31
  · have h := h.2 c2
    refine z_iconst (pc := 9) (v := -1) C dX9_item_9 (by decide) ?_
    exact hret 10 _ _ (-1 : Int32) gt rfl h dX9_item_10

set_option maxHeartbeats 4000000 in
set_option maxRecDepth 100000 in
theorem kX9_item_2 {l : Launch} {D : va_G} {cI cJ cT : ClassId} (d : Nat → Nat) (dN : Nat → Nat) (dI : Nat → Nat) (dT : Nat → Nat) (dNc : Nat → Nat) (dNcj : Nat → Nat) (dNcs : Nat → Nat) (dNcp : Nat → Nat) (dNw : Nat → Nat) (dx : Nat → Nat) (dtt : Nat) (dt : Nat → Nat → Nat)  (v : Lf) (vt : Nat → Lf) (gt : Nat → Lg) (x2 : Int32) (x3 : Int64) {Q : Int32 → (Nat → Lg) → Prop} (sz : Nat) (h : pX9_item vt gt (nI 2) x2 x3 Q) : Met l yX9_item wdX9_item rmX9_item (Pz D (tyL cI cJ cT) [.ref (d 0), .int (nI 2), .int x2, .long x3] ((wX9 d (dN 0) (dI 0) (dT 0) (dNc 0) (dNcj 0) (dNcs 0) (dNcp 0) (dNw 0) (dx 0) dtt v) ++ (wTT cJ cT dtt dt vt gt)) sz) (va_Qi (fun (r : Int32) (u : (Nat → Lg)) => Q r u) (Bz D (tyL cI cJ cT) ((wX9 d (dN 0) (dI 0) (dT 0) (dNc 0) (dNcj 0) (dNcs 0) (dNcp 0) (dNw 0) (dx 0) dtt v) ++ (wTT cJ cT dtt dt vt gt)) sz (fun (u : (Nat → Lg)) => ((wX9 d (dN 0) (dI 0) (dT 0) (dNc 0) (dNcj 0) (dNcs 0) (dNcp 0) (dNw 0) (dx 0) dtt v) ++ (wTT cJ cT dtt dt vt u)))) (va_A ((wX9 d (dN 0) (dI 0) (dT 0) (dNc 0) (dNcj 0) (dNcs 0) (dNcp 0) (dNw 0) (dx 0) dtt v) ++ (wTT cJ cT dtt dt vt gt)) sz)) 0 0 (va_A ((wX9 d (dN 0) (dI 0) (dT 0) (dNc 0) (dNcj 0) (dNcs 0) (dNcp 0) (dNw 0) (dx 0) dtt v) ++ (wTT cJ cT dtt dt vt gt)) sz) := by
  refine z_meti (cc := cX9_item) (maxL := 6) (own := RX9) (lv0 := [(0, .ref (d 0)), (1, .int (nI 2)), (2, .int x2), (3, .long x3)]) (by decide) rfl rfl (Nat.le_of_ble_eq_true rfl) rfl ?_
  intro p e s m args below meth c A QQ C hin hret
  refine z_iload_n (pc := 0) C 1 dX9_item_0 rfl ?_
  refine z_iconst (pc := 1) (v := 0) C dX9_item_1 (by decide) ?_
  refine z_iconst (pc := 2) (v := 5) C dX9_item_2 (by decide) ?_
  refine z_call0i (pc := 3) C (z_runS (pc := 3) (wc := ([] : va_W)) (As := [.int (nI 2), .int (0 : Int32), .int (5 : Int32)]) C (fun sz => kX9_within (nI 2) (0 : Int32) (5 : Int32) sz h) [] rfl (by decide) (gdS wq366 wq553 wq373 wq112) rfl rfl rfl hdSX9_within ⟨Nat.le_of_ble_eq_true rfl, Nat.le_of_ble_eq_true rfl⟩ rfl (Nat.le_of_ble_eq_true rfl) ⟨Nat.zero_le _, Nat.zero_le _⟩ dX9_item_3) (fun r1 u1 h => ?_)
  refine z_if_ne (pc := 6) (tgt := 11) C dX9_item_6 (by decide) (fun c2 => ?_) (fun c2 => ?_)
  · have h := h.1 c2
    refine z_aload_n (pc := 11) C 0 dX9_item_11 rfl ?_
    refine z_get (pc := 12) C uw9 0 rfl rfl 9 (by decide) wq544 rfl dX9_item_12 ?_
    refine z_iload_n (pc := 15) C 1 dX9_item_15 rfl ?_
    obtain ⟨g3, h⟩ := h
    refine z_aldq (pc := 16) C 1 2 rfl rfl g3 (.ref (dt 2 0)) rfl dX9_item_16 ?_
    refine z_astore (pc := 17) (lv' := [(5, .ref (dt 2 0)), (0, .ref (d 0)), (1, .int (nI 2)), (2, .int x2), (3, .long x3)]) C dX9_item_17 (by decide) rfl ?_
    refine z_aload (pc := 19) C 0 dX9_item_19 rfl ?_
    refine z_get (pc := 21) C uw6 6 rfl rfl 0 (by decide) wq777 rfl dX9_item_21 ?_
    refine z_bipush (pc := 24) (v := -5) C dX9_item_24 (by decide) ?_
    refine z_icmp_ne (pc := 26) (tgt := 32) C dX9_item_26 (by decide) (fun c4 => ?_) (fun c4 => ?_)
    · have h := h.1 c4
      refine z_aload (pc := 32) C 0 dX9_item_32 rfl ?_
      refine z_iload_n (pc := 34) C 3 dX9_item_34 rfl ?_
      refine z_callRi (pc := 35) C (z_runV (pc := 35) (wc := (wX6 cJ (dt 2) (vt 2) (gt 2))) (As := [.int x2]) C (fun sz => kX6_hasPlace (dt 2) (vt 2) (gt 2) x2 sz h) [6, 7] rfl (by decide) (gdV wq413 wq779 wq780 wq781 wq546) rfl rfl rfl hdX6_hasPlace 6 rfl rfl rfl ⟨Nat.le_of_ble_eq_true rfl, Nat.le_of_ble_eq_true rfl⟩ rfl (Nat.le_of_ble_eq_true rfl) ⟨Nat.zero_le _, Nat.zero_le _⟩ dX9_item_35) [6, 7] rfl (by decide) (fun r5 u5 h => ?_)
      refine z_if_ne (pc := 38) (tgt := 44) C dX9_item_38 (by decide) (fun c6 => ?_) (fun c6 => ?_)
      · have h := h.1 c6
        refine z_aload (pc := 44) C 0 dX9_item_44 rfl ?_
        refine z_get (pc := 46) C uw6 6 rfl rfl 2 (by decide) wq778 rfl dX9_item_46 ?_
        refine z_iload_n (pc := 49) C 3 dX9_item_49 rfl ?_
        refine z_aload (pc := 50) C 0 dX9_item_50 rfl ?_
        refine z_lload_n (pc := 52) C 4 dX9_item_52 rfl ?_
        refine z_callRl (pc := 53) C (z_runV (pc := 53) (wc := (wX6 cJ (dt 2) (vt 2) (gt 2))) (As := [.long x3]) C (fun sz => kX6_narrowed (dt 2) (vt 2) (gt 2) x3 sz h) [6, 7] rfl (by decide) (gdV wq415 wq799 wq800 wq801 wq546) rfl rfl rfl hdX6_narrowed 6 rfl rfl rfl ⟨Nat.le_of_ble_eq_true rfl, Nat.le_of_ble_eq_true rfl⟩ rfl (Nat.le_of_ble_eq_true rfl) ⟨Nat.zero_le _, Nat.zero_le _⟩ dX9_item_53) [6, 7] rfl (by decide) (fun r7 u7 h => ?_)
        obtain ⟨g8, h⟩ := h
        refine z_last (pc := 56) (ws' := ((wX9 d (dN 0) (dI 0) (dT 0) (dNc 0) (dNcj 0) (dNcs 0) (dNcp 0) (dNw 0) (dx 0) dtt v) ++ (wTT cJ cT dtt dt vt (va_up gt 2 (sg (gt 2) 1 x2.toNatClampNeg r7))))) C 7 1 rfl rfl g8 dX9_item_56 rfl (set_r (k := 1) (i := 6) rfl sTT_a2) ?_
        refine z_iconst (pc := 57) (v := 1) C dX9_item_57 (by decide) ?_
        exact hret 58 _ _ (1 : Int32) (va_up gt 2 (sg (gt 2) 1 x2.toNatClampNeg r7)) rfl h dX9_item_58
      · have h := h.2 c6
        refine z_bipush (pc := 41) (v := -13) C dX9_item_41 (by decide) ?_
        exact hret 43 _ _ (-13 : Int32) gt rfl h dX9_item_43
    · have h := h.2 c4
      refine z_bipush (pc := 29) (v := -11) C dX9_item_29 (by decide) ?_
      exact hret 31 _ _ (-11 : Int32) gt rfl h dX9_item_31
  · have h := h.2 c2
    refine z_iconst (pc := 9) (v := -1) C dX9_item_9 (by decide) ?_
    exact hret 10 _ _ (-1 : Int32) gt rfl h dX9_item_10

set_option maxHeartbeats 4000000 in
set_option maxRecDepth 100000 in
theorem kX9_item_3 {l : Launch} {D : va_G} {cI cJ cT : ClassId} (d : Nat → Nat) (dN : Nat → Nat) (dI : Nat → Nat) (dT : Nat → Nat) (dNc : Nat → Nat) (dNcj : Nat → Nat) (dNcs : Nat → Nat) (dNcp : Nat → Nat) (dNw : Nat → Nat) (dx : Nat → Nat) (dtt : Nat) (dt : Nat → Nat → Nat)  (v : Lf) (vt : Nat → Lf) (gt : Nat → Lg) (x2 : Int32) (x3 : Int64) {Q : Int32 → (Nat → Lg) → Prop} (sz : Nat) (h : pX9_item vt gt (nI 3) x2 x3 Q) : Met l yX9_item wdX9_item rmX9_item (Pz D (tyL cI cJ cT) [.ref (d 0), .int (nI 3), .int x2, .long x3] ((wX9 d (dN 0) (dI 0) (dT 0) (dNc 0) (dNcj 0) (dNcs 0) (dNcp 0) (dNw 0) (dx 0) dtt v) ++ (wTT cJ cT dtt dt vt gt)) sz) (va_Qi (fun (r : Int32) (u : (Nat → Lg)) => Q r u) (Bz D (tyL cI cJ cT) ((wX9 d (dN 0) (dI 0) (dT 0) (dNc 0) (dNcj 0) (dNcs 0) (dNcp 0) (dNw 0) (dx 0) dtt v) ++ (wTT cJ cT dtt dt vt gt)) sz (fun (u : (Nat → Lg)) => ((wX9 d (dN 0) (dI 0) (dT 0) (dNc 0) (dNcj 0) (dNcs 0) (dNcp 0) (dNw 0) (dx 0) dtt v) ++ (wTT cJ cT dtt dt vt u)))) (va_A ((wX9 d (dN 0) (dI 0) (dT 0) (dNc 0) (dNcj 0) (dNcs 0) (dNcp 0) (dNw 0) (dx 0) dtt v) ++ (wTT cJ cT dtt dt vt gt)) sz)) 0 0 (va_A ((wX9 d (dN 0) (dI 0) (dT 0) (dNc 0) (dNcj 0) (dNcs 0) (dNcp 0) (dNw 0) (dx 0) dtt v) ++ (wTT cJ cT dtt dt vt gt)) sz) := by
  refine z_meti (cc := cX9_item) (maxL := 6) (own := RX9) (lv0 := [(0, .ref (d 0)), (1, .int (nI 3)), (2, .int x2), (3, .long x3)]) (by decide) rfl rfl (Nat.le_of_ble_eq_true rfl) rfl ?_
  intro p e s m args below meth c A QQ C hin hret
  refine z_iload_n (pc := 0) C 1 dX9_item_0 rfl ?_
  refine z_iconst (pc := 1) (v := 0) C dX9_item_1 (by decide) ?_
  refine z_iconst (pc := 2) (v := 5) C dX9_item_2 (by decide) ?_
  refine z_call0i (pc := 3) C (z_runS (pc := 3) (wc := ([] : va_W)) (As := [.int (nI 3), .int (0 : Int32), .int (5 : Int32)]) C (fun sz => kX9_within (nI 3) (0 : Int32) (5 : Int32) sz h) [] rfl (by decide) (gdS wq366 wq553 wq373 wq112) rfl rfl rfl hdSX9_within ⟨Nat.le_of_ble_eq_true rfl, Nat.le_of_ble_eq_true rfl⟩ rfl (Nat.le_of_ble_eq_true rfl) ⟨Nat.zero_le _, Nat.zero_le _⟩ dX9_item_3) (fun r1 u1 h => ?_)
  refine z_if_ne (pc := 6) (tgt := 11) C dX9_item_6 (by decide) (fun c2 => ?_) (fun c2 => ?_)
  · have h := h.1 c2
    refine z_aload_n (pc := 11) C 0 dX9_item_11 rfl ?_
    refine z_get (pc := 12) C uw9 0 rfl rfl 9 (by decide) wq544 rfl dX9_item_12 ?_
    refine z_iload_n (pc := 15) C 1 dX9_item_15 rfl ?_
    obtain ⟨g3, h⟩ := h
    refine z_aldq (pc := 16) C 1 2 rfl rfl g3 (.ref (dt 3 0)) rfl dX9_item_16 ?_
    refine z_astore (pc := 17) (lv' := [(5, .ref (dt 3 0)), (0, .ref (d 0)), (1, .int (nI 3)), (2, .int x2), (3, .long x3)]) C dX9_item_17 (by decide) rfl ?_
    refine z_aload (pc := 19) C 0 dX9_item_19 rfl ?_
    refine z_get (pc := 21) C uw6 8 rfl rfl 0 (by decide) wq777 rfl dX9_item_21 ?_
    refine z_bipush (pc := 24) (v := -5) C dX9_item_24 (by decide) ?_
    refine z_icmp_ne (pc := 26) (tgt := 32) C dX9_item_26 (by decide) (fun c4 => ?_) (fun c4 => ?_)
    · have h := h.1 c4
      refine z_aload (pc := 32) C 0 dX9_item_32 rfl ?_
      refine z_iload_n (pc := 34) C 3 dX9_item_34 rfl ?_
      refine z_callRi (pc := 35) C (z_runV (pc := 35) (wc := (wX6 cJ (dt 3) (vt 3) (gt 3))) (As := [.int x2]) C (fun sz => kX6_hasPlace (dt 3) (vt 3) (gt 3) x2 sz h) [8, 9] rfl (by decide) (gdV wq413 wq779 wq780 wq781 wq546) rfl rfl rfl hdX6_hasPlace 8 rfl rfl rfl ⟨Nat.le_of_ble_eq_true rfl, Nat.le_of_ble_eq_true rfl⟩ rfl (Nat.le_of_ble_eq_true rfl) ⟨Nat.zero_le _, Nat.zero_le _⟩ dX9_item_35) [8, 9] rfl (by decide) (fun r5 u5 h => ?_)
      refine z_if_ne (pc := 38) (tgt := 44) C dX9_item_38 (by decide) (fun c6 => ?_) (fun c6 => ?_)
      · have h := h.1 c6
        refine z_aload (pc := 44) C 0 dX9_item_44 rfl ?_
        refine z_get (pc := 46) C uw6 8 rfl rfl 2 (by decide) wq778 rfl dX9_item_46 ?_
        refine z_iload_n (pc := 49) C 3 dX9_item_49 rfl ?_
        refine z_aload (pc := 50) C 0 dX9_item_50 rfl ?_
        refine z_lload_n (pc := 52) C 4 dX9_item_52 rfl ?_
        refine z_callRl (pc := 53) C (z_runV (pc := 53) (wc := (wX6 cJ (dt 3) (vt 3) (gt 3))) (As := [.long x3]) C (fun sz => kX6_narrowed (dt 3) (vt 3) (gt 3) x3 sz h) [8, 9] rfl (by decide) (gdV wq415 wq799 wq800 wq801 wq546) rfl rfl rfl hdX6_narrowed 8 rfl rfl rfl ⟨Nat.le_of_ble_eq_true rfl, Nat.le_of_ble_eq_true rfl⟩ rfl (Nat.le_of_ble_eq_true rfl) ⟨Nat.zero_le _, Nat.zero_le _⟩ dX9_item_53) [8, 9] rfl (by decide) (fun r7 u7 h => ?_)
        obtain ⟨g8, h⟩ := h
        refine z_last (pc := 56) (ws' := ((wX9 d (dN 0) (dI 0) (dT 0) (dNc 0) (dNcj 0) (dNcs 0) (dNcp 0) (dNw 0) (dx 0) dtt v) ++ (wTT cJ cT dtt dt vt (va_up gt 3 (sg (gt 3) 1 x2.toNatClampNeg r7))))) C 9 1 rfl rfl g8 dX9_item_56 rfl (set_r (k := 1) (i := 8) rfl sTT_a3) ?_
        refine z_iconst (pc := 57) (v := 1) C dX9_item_57 (by decide) ?_
        exact hret 58 _ _ (1 : Int32) (va_up gt 3 (sg (gt 3) 1 x2.toNatClampNeg r7)) rfl h dX9_item_58
      · have h := h.2 c6
        refine z_bipush (pc := 41) (v := -13) C dX9_item_41 (by decide) ?_
        exact hret 43 _ _ (-13 : Int32) gt rfl h dX9_item_43
    · have h := h.2 c4
      refine z_bipush (pc := 29) (v := -11) C dX9_item_29 (by decide) ?_
      exact hret 31 _ _ (-11 : Int32) gt rfl h dX9_item_31
  · have h := h.2 c2
    refine z_iconst (pc := 9) (v := -1) C dX9_item_9 (by decide) ?_
    exact hret 10 _ _ (-1 : Int32) gt rfl h dX9_item_10

set_option maxHeartbeats 4000000 in
set_option maxRecDepth 100000 in
theorem kX9_item_4 {l : Launch} {D : va_G} {cI cJ cT : ClassId} (d : Nat → Nat) (dN : Nat → Nat) (dI : Nat → Nat) (dT : Nat → Nat) (dNc : Nat → Nat) (dNcj : Nat → Nat) (dNcs : Nat → Nat) (dNcp : Nat → Nat) (dNw : Nat → Nat) (dx : Nat → Nat) (dtt : Nat) (dt : Nat → Nat → Nat)  (v : Lf) (vt : Nat → Lf) (gt : Nat → Lg) (x2 : Int32) (x3 : Int64) {Q : Int32 → (Nat → Lg) → Prop} (sz : Nat) (h : pX9_item vt gt (nI 4) x2 x3 Q) : Met l yX9_item wdX9_item rmX9_item (Pz D (tyL cI cJ cT) [.ref (d 0), .int (nI 4), .int x2, .long x3] ((wX9 d (dN 0) (dI 0) (dT 0) (dNc 0) (dNcj 0) (dNcs 0) (dNcp 0) (dNw 0) (dx 0) dtt v) ++ (wTT cJ cT dtt dt vt gt)) sz) (va_Qi (fun (r : Int32) (u : (Nat → Lg)) => Q r u) (Bz D (tyL cI cJ cT) ((wX9 d (dN 0) (dI 0) (dT 0) (dNc 0) (dNcj 0) (dNcs 0) (dNcp 0) (dNw 0) (dx 0) dtt v) ++ (wTT cJ cT dtt dt vt gt)) sz (fun (u : (Nat → Lg)) => ((wX9 d (dN 0) (dI 0) (dT 0) (dNc 0) (dNcj 0) (dNcs 0) (dNcp 0) (dNw 0) (dx 0) dtt v) ++ (wTT cJ cT dtt dt vt u)))) (va_A ((wX9 d (dN 0) (dI 0) (dT 0) (dNc 0) (dNcj 0) (dNcs 0) (dNcp 0) (dNw 0) (dx 0) dtt v) ++ (wTT cJ cT dtt dt vt gt)) sz)) 0 0 (va_A ((wX9 d (dN 0) (dI 0) (dT 0) (dNc 0) (dNcj 0) (dNcs 0) (dNcp 0) (dNw 0) (dx 0) dtt v) ++ (wTT cJ cT dtt dt vt gt)) sz) := by
  refine z_meti (cc := cX9_item) (maxL := 6) (own := RX9) (lv0 := [(0, .ref (d 0)), (1, .int (nI 4)), (2, .int x2), (3, .long x3)]) (by decide) rfl rfl (Nat.le_of_ble_eq_true rfl) rfl ?_
  intro p e s m args below meth c A QQ C hin hret
  refine z_iload_n (pc := 0) C 1 dX9_item_0 rfl ?_
  refine z_iconst (pc := 1) (v := 0) C dX9_item_1 (by decide) ?_
  refine z_iconst (pc := 2) (v := 5) C dX9_item_2 (by decide) ?_
  refine z_call0i (pc := 3) C (z_runS (pc := 3) (wc := ([] : va_W)) (As := [.int (nI 4), .int (0 : Int32), .int (5 : Int32)]) C (fun sz => kX9_within (nI 4) (0 : Int32) (5 : Int32) sz h) [] rfl (by decide) (gdS wq366 wq553 wq373 wq112) rfl rfl rfl hdSX9_within ⟨Nat.le_of_ble_eq_true rfl, Nat.le_of_ble_eq_true rfl⟩ rfl (Nat.le_of_ble_eq_true rfl) ⟨Nat.zero_le _, Nat.zero_le _⟩ dX9_item_3) (fun r1 u1 h => ?_)
  refine z_if_ne (pc := 6) (tgt := 11) C dX9_item_6 (by decide) (fun c2 => ?_) (fun c2 => ?_)
  · have h := h.1 c2
    refine z_aload_n (pc := 11) C 0 dX9_item_11 rfl ?_
    refine z_get (pc := 12) C uw9 0 rfl rfl 9 (by decide) wq544 rfl dX9_item_12 ?_
    refine z_iload_n (pc := 15) C 1 dX9_item_15 rfl ?_
    obtain ⟨g3, h⟩ := h
    refine z_aldq (pc := 16) C 1 2 rfl rfl g3 (.ref (dt 4 0)) rfl dX9_item_16 ?_
    refine z_astore (pc := 17) (lv' := [(5, .ref (dt 4 0)), (0, .ref (d 0)), (1, .int (nI 4)), (2, .int x2), (3, .long x3)]) C dX9_item_17 (by decide) rfl ?_
    refine z_aload (pc := 19) C 0 dX9_item_19 rfl ?_
    refine z_get (pc := 21) C uw6 10 rfl rfl 0 (by decide) wq777 rfl dX9_item_21 ?_
    refine z_bipush (pc := 24) (v := -5) C dX9_item_24 (by decide) ?_
    refine z_icmp_ne (pc := 26) (tgt := 32) C dX9_item_26 (by decide) (fun c4 => ?_) (fun c4 => ?_)
    · have h := h.1 c4
      refine z_aload (pc := 32) C 0 dX9_item_32 rfl ?_
      refine z_iload_n (pc := 34) C 3 dX9_item_34 rfl ?_
      refine z_callRi (pc := 35) C (z_runV (pc := 35) (wc := (wX6 cJ (dt 4) (vt 4) (gt 4))) (As := [.int x2]) C (fun sz => kX6_hasPlace (dt 4) (vt 4) (gt 4) x2 sz h) [10, 11] rfl (by decide) (gdV wq413 wq779 wq780 wq781 wq546) rfl rfl rfl hdX6_hasPlace 10 rfl rfl rfl ⟨Nat.le_of_ble_eq_true rfl, Nat.le_of_ble_eq_true rfl⟩ rfl (Nat.le_of_ble_eq_true rfl) ⟨Nat.zero_le _, Nat.zero_le _⟩ dX9_item_35) [10, 11] rfl (by decide) (fun r5 u5 h => ?_)
      refine z_if_ne (pc := 38) (tgt := 44) C dX9_item_38 (by decide) (fun c6 => ?_) (fun c6 => ?_)
      · have h := h.1 c6
        refine z_aload (pc := 44) C 0 dX9_item_44 rfl ?_
        refine z_get (pc := 46) C uw6 10 rfl rfl 2 (by decide) wq778 rfl dX9_item_46 ?_
        refine z_iload_n (pc := 49) C 3 dX9_item_49 rfl ?_
        refine z_aload (pc := 50) C 0 dX9_item_50 rfl ?_
        refine z_lload_n (pc := 52) C 4 dX9_item_52 rfl ?_
        refine z_callRl (pc := 53) C (z_runV (pc := 53) (wc := (wX6 cJ (dt 4) (vt 4) (gt 4))) (As := [.long x3]) C (fun sz => kX6_narrowed (dt 4) (vt 4) (gt 4) x3 sz h) [10, 11] rfl (by decide) (gdV wq415 wq799 wq800 wq801 wq546) rfl rfl rfl hdX6_narrowed 10 rfl rfl rfl ⟨Nat.le_of_ble_eq_true rfl, Nat.le_of_ble_eq_true rfl⟩ rfl (Nat.le_of_ble_eq_true rfl) ⟨Nat.zero_le _, Nat.zero_le _⟩ dX9_item_53) [10, 11] rfl (by decide) (fun r7 u7 h => ?_)
        obtain ⟨g8, h⟩ := h
        refine z_last (pc := 56) (ws' := ((wX9 d (dN 0) (dI 0) (dT 0) (dNc 0) (dNcj 0) (dNcs 0) (dNcp 0) (dNw 0) (dx 0) dtt v) ++ (wTT cJ cT dtt dt vt (va_up gt 4 (sg (gt 4) 1 x2.toNatClampNeg r7))))) C 11 1 rfl rfl g8 dX9_item_56 rfl (set_r (k := 1) (i := 10) rfl sTT_a4) ?_
        refine z_iconst (pc := 57) (v := 1) C dX9_item_57 (by decide) ?_
        exact hret 58 _ _ (1 : Int32) (va_up gt 4 (sg (gt 4) 1 x2.toNatClampNeg r7)) rfl h dX9_item_58
      · have h := h.2 c6
        refine z_bipush (pc := 41) (v := -13) C dX9_item_41 (by decide) ?_
        exact hret 43 _ _ (-13 : Int32) gt rfl h dX9_item_43
    · have h := h.2 c4
      refine z_bipush (pc := 29) (v := -11) C dX9_item_29 (by decide) ?_
      exact hret 31 _ _ (-11 : Int32) gt rfl h dX9_item_31
  · have h := h.2 c2
    refine z_iconst (pc := 9) (v := -1) C dX9_item_9 (by decide) ?_
    exact hret 10 _ _ (-1 : Int32) gt rfl h dX9_item_10

set_option maxHeartbeats 4000000 in
set_option maxRecDepth 100000 in
theorem kX9_item_5 {l : Launch} {D : va_G} {cI cJ cT : ClassId} (d : Nat → Nat) (dN : Nat → Nat) (dI : Nat → Nat) (dT : Nat → Nat) (dNc : Nat → Nat) (dNcj : Nat → Nat) (dNcs : Nat → Nat) (dNcp : Nat → Nat) (dNw : Nat → Nat) (dx : Nat → Nat) (dtt : Nat) (dt : Nat → Nat → Nat)  (v : Lf) (vt : Nat → Lf) (gt : Nat → Lg) (x2 : Int32) (x3 : Int64) {Q : Int32 → (Nat → Lg) → Prop} (sz : Nat) (h : pX9_item vt gt (nI 5) x2 x3 Q) : Met l yX9_item wdX9_item rmX9_item (Pz D (tyL cI cJ cT) [.ref (d 0), .int (nI 5), .int x2, .long x3] ((wX9 d (dN 0) (dI 0) (dT 0) (dNc 0) (dNcj 0) (dNcs 0) (dNcp 0) (dNw 0) (dx 0) dtt v) ++ (wTT cJ cT dtt dt vt gt)) sz) (va_Qi (fun (r : Int32) (u : (Nat → Lg)) => Q r u) (Bz D (tyL cI cJ cT) ((wX9 d (dN 0) (dI 0) (dT 0) (dNc 0) (dNcj 0) (dNcs 0) (dNcp 0) (dNw 0) (dx 0) dtt v) ++ (wTT cJ cT dtt dt vt gt)) sz (fun (u : (Nat → Lg)) => ((wX9 d (dN 0) (dI 0) (dT 0) (dNc 0) (dNcj 0) (dNcs 0) (dNcp 0) (dNw 0) (dx 0) dtt v) ++ (wTT cJ cT dtt dt vt u)))) (va_A ((wX9 d (dN 0) (dI 0) (dT 0) (dNc 0) (dNcj 0) (dNcs 0) (dNcp 0) (dNw 0) (dx 0) dtt v) ++ (wTT cJ cT dtt dt vt gt)) sz)) 0 0 (va_A ((wX9 d (dN 0) (dI 0) (dT 0) (dNc 0) (dNcj 0) (dNcs 0) (dNcp 0) (dNw 0) (dx 0) dtt v) ++ (wTT cJ cT dtt dt vt gt)) sz) := by
  refine z_meti (cc := cX9_item) (maxL := 6) (own := RX9) (lv0 := [(0, .ref (d 0)), (1, .int (nI 5)), (2, .int x2), (3, .long x3)]) (by decide) rfl rfl (Nat.le_of_ble_eq_true rfl) rfl ?_
  intro p e s m args below meth c A QQ C hin hret
  refine z_iload_n (pc := 0) C 1 dX9_item_0 rfl ?_
  refine z_iconst (pc := 1) (v := 0) C dX9_item_1 (by decide) ?_
  refine z_iconst (pc := 2) (v := 5) C dX9_item_2 (by decide) ?_
  refine z_call0i (pc := 3) C (z_runS (pc := 3) (wc := ([] : va_W)) (As := [.int (nI 5), .int (0 : Int32), .int (5 : Int32)]) C (fun sz => kX9_within (nI 5) (0 : Int32) (5 : Int32) sz h) [] rfl (by decide) (gdS wq366 wq553 wq373 wq112) rfl rfl rfl hdSX9_within ⟨Nat.le_of_ble_eq_true rfl, Nat.le_of_ble_eq_true rfl⟩ rfl (Nat.le_of_ble_eq_true rfl) ⟨Nat.zero_le _, Nat.zero_le _⟩ dX9_item_3) (fun r1 u1 h => ?_)
  refine z_if_ne (pc := 6) (tgt := 11) C dX9_item_6 (by decide) (fun c2 => ?_) (fun c2 => ?_)
  · have h := h.1 c2
    refine z_aload_n (pc := 11) C 0 dX9_item_11 rfl ?_
    refine z_get (pc := 12) C uw9 0 rfl rfl 9 (by decide) wq544 rfl dX9_item_12 ?_
    refine z_iload_n (pc := 15) C 1 dX9_item_15 rfl ?_
    obtain ⟨g3, h⟩ := h
    refine z_aldq (pc := 16) C 1 2 rfl rfl g3 (.ref (dt 5 0)) rfl dX9_item_16 ?_
    refine z_astore (pc := 17) (lv' := [(5, .ref (dt 5 0)), (0, .ref (d 0)), (1, .int (nI 5)), (2, .int x2), (3, .long x3)]) C dX9_item_17 (by decide) rfl ?_
    refine z_aload (pc := 19) C 0 dX9_item_19 rfl ?_
    refine z_get (pc := 21) C uw6 12 rfl rfl 0 (by decide) wq777 rfl dX9_item_21 ?_
    refine z_bipush (pc := 24) (v := -5) C dX9_item_24 (by decide) ?_
    refine z_icmp_ne (pc := 26) (tgt := 32) C dX9_item_26 (by decide) (fun c4 => ?_) (fun c4 => ?_)
    · have h := h.1 c4
      refine z_aload (pc := 32) C 0 dX9_item_32 rfl ?_
      refine z_iload_n (pc := 34) C 3 dX9_item_34 rfl ?_
      refine z_callRi (pc := 35) C (z_runV (pc := 35) (wc := (wX6 cJ (dt 5) (vt 5) (gt 5))) (As := [.int x2]) C (fun sz => kX6_hasPlace (dt 5) (vt 5) (gt 5) x2 sz h) [12, 13] rfl (by decide) (gdV wq413 wq779 wq780 wq781 wq546) rfl rfl rfl hdX6_hasPlace 12 rfl rfl rfl ⟨Nat.le_of_ble_eq_true rfl, Nat.le_of_ble_eq_true rfl⟩ rfl (Nat.le_of_ble_eq_true rfl) ⟨Nat.zero_le _, Nat.zero_le _⟩ dX9_item_35) [12, 13] rfl (by decide) (fun r5 u5 h => ?_)
      refine z_if_ne (pc := 38) (tgt := 44) C dX9_item_38 (by decide) (fun c6 => ?_) (fun c6 => ?_)
      · have h := h.1 c6
        refine z_aload (pc := 44) C 0 dX9_item_44 rfl ?_
        refine z_get (pc := 46) C uw6 12 rfl rfl 2 (by decide) wq778 rfl dX9_item_46 ?_
        refine z_iload_n (pc := 49) C 3 dX9_item_49 rfl ?_
        refine z_aload (pc := 50) C 0 dX9_item_50 rfl ?_
        refine z_lload_n (pc := 52) C 4 dX9_item_52 rfl ?_
        refine z_callRl (pc := 53) C (z_runV (pc := 53) (wc := (wX6 cJ (dt 5) (vt 5) (gt 5))) (As := [.long x3]) C (fun sz => kX6_narrowed (dt 5) (vt 5) (gt 5) x3 sz h) [12, 13] rfl (by decide) (gdV wq415 wq799 wq800 wq801 wq546) rfl rfl rfl hdX6_narrowed 12 rfl rfl rfl ⟨Nat.le_of_ble_eq_true rfl, Nat.le_of_ble_eq_true rfl⟩ rfl (Nat.le_of_ble_eq_true rfl) ⟨Nat.zero_le _, Nat.zero_le _⟩ dX9_item_53) [12, 13] rfl (by decide) (fun r7 u7 h => ?_)
        obtain ⟨g8, h⟩ := h
        refine z_last (pc := 56) (ws' := ((wX9 d (dN 0) (dI 0) (dT 0) (dNc 0) (dNcj 0) (dNcs 0) (dNcp 0) (dNw 0) (dx 0) dtt v) ++ (wTT cJ cT dtt dt vt (va_up gt 5 (sg (gt 5) 1 x2.toNatClampNeg r7))))) C 13 1 rfl rfl g8 dX9_item_56 rfl (set_r (k := 1) (i := 12) rfl sTT_a5) ?_
        refine z_iconst (pc := 57) (v := 1) C dX9_item_57 (by decide) ?_
        exact hret 58 _ _ (1 : Int32) (va_up gt 5 (sg (gt 5) 1 x2.toNatClampNeg r7)) rfl h dX9_item_58
      · have h := h.2 c6
        refine z_bipush (pc := 41) (v := -13) C dX9_item_41 (by decide) ?_
        exact hret 43 _ _ (-13 : Int32) gt rfl h dX9_item_43
    · have h := h.2 c4
      refine z_bipush (pc := 29) (v := -11) C dX9_item_29 (by decide) ?_
      exact hret 31 _ _ (-11 : Int32) gt rfl h dX9_item_31
  · have h := h.2 c2
    refine z_iconst (pc := 9) (v := -1) C dX9_item_9 (by decide) ?_
    exact hret 10 _ _ (-1 : Int32) gt rfl h dX9_item_10

set_option maxHeartbeats 4000000 in
set_option maxRecDepth 100000 in
theorem kX9_item_n {l : Launch} {D : va_G} {cI cJ cT : ClassId} (d : Nat → Nat) (dN : Nat → Nat) (dI : Nat → Nat) (dT : Nat → Nat) (dNc : Nat → Nat) (dNcj : Nat → Nat) (dNcs : Nat → Nat) (dNcp : Nat → Nat) (dNw : Nat → Nat) (dx : Nat → Nat) (dtt : Nat) (dt : Nat → Nat → Nat)  (v : Lf) (vt : Nat → Lf) (gt : Nat → Lg) (x1 : Int32) (x2 : Int32) (x3 : Int64) (g1 : ¬ vp_in x1 6) {Q : Int32 → (Nat → Lg) → Prop} (sz : Nat) (h : pX9_item vt gt x1 x2 x3 Q) : Met l yX9_item wdX9_item rmX9_item (Pz D (tyL cI cJ cT) [.ref (d 0), .int x1, .int x2, .long x3] ((wX9 d (dN 0) (dI 0) (dT 0) (dNc 0) (dNcj 0) (dNcs 0) (dNcp 0) (dNw 0) (dx 0) dtt v) ++ (wTT cJ cT dtt dt vt gt)) sz) (va_Qi (fun (r : Int32) (u : (Nat → Lg)) => Q r u) (Bz D (tyL cI cJ cT) ((wX9 d (dN 0) (dI 0) (dT 0) (dNc 0) (dNcj 0) (dNcs 0) (dNcp 0) (dNw 0) (dx 0) dtt v) ++ (wTT cJ cT dtt dt vt gt)) sz (fun (u : (Nat → Lg)) => ((wX9 d (dN 0) (dI 0) (dT 0) (dNc 0) (dNcj 0) (dNcs 0) (dNcp 0) (dNw 0) (dx 0) dtt v) ++ (wTT cJ cT dtt dt vt u)))) (va_A ((wX9 d (dN 0) (dI 0) (dT 0) (dNc 0) (dNcj 0) (dNcs 0) (dNcp 0) (dNw 0) (dx 0) dtt v) ++ (wTT cJ cT dtt dt vt gt)) sz)) 0 0 (va_A ((wX9 d (dN 0) (dI 0) (dT 0) (dNc 0) (dNcj 0) (dNcs 0) (dNcp 0) (dNw 0) (dx 0) dtt v) ++ (wTT cJ cT dtt dt vt gt)) sz) := by
  refine z_meti (cc := cX9_item) (maxL := 6) (own := RX9) (lv0 := [(0, .ref (d 0)), (1, .int x1), (2, .int x2), (3, .long x3)]) (by decide) rfl rfl (Nat.le_of_ble_eq_true rfl) rfl ?_
  intro p e s m args below meth c A QQ C hin hret
  refine z_iload_n (pc := 0) C 1 dX9_item_0 rfl ?_
  refine z_iconst (pc := 1) (v := 0) C dX9_item_1 (by decide) ?_
  refine z_iconst (pc := 2) (v := 5) C dX9_item_2 (by decide) ?_
  refine z_call0i (pc := 3) C (z_runS (pc := 3) (wc := ([] : va_W)) (As := [.int x1, .int (0 : Int32), .int (5 : Int32)]) C (fun sz => kX9_within x1 (0 : Int32) (5 : Int32) sz h) [] rfl (by decide) (gdS wq366 wq553 wq373 wq112) rfl rfl rfl hdSX9_within ⟨Nat.le_of_ble_eq_true rfl, Nat.le_of_ble_eq_true rfl⟩ rfl (Nat.le_of_ble_eq_true rfl) ⟨Nat.zero_le _, Nat.zero_le _⟩ dX9_item_3) (fun r1 u1 h => ?_)
  refine z_if_ne (pc := 6) (tgt := 11) C dX9_item_6 (by decide) (fun c2 => ?_) (fun c2 => ?_)
  · have h := h.1 c2
    refine z_aload_n (pc := 11) C 0 dX9_item_11 rfl ?_
    refine z_get (pc := 12) C uw9 0 rfl rfl 9 (by decide) wq544 rfl dX9_item_12 ?_
    refine z_iload_n (pc := 15) C 1 dX9_item_15 rfl ?_
    obtain ⟨g3, h⟩ := h
    exact absurd g3 g1
  · have h := h.2 c2
    refine z_iconst (pc := 9) (v := -1) C dX9_item_9 (by decide) ?_
    exact hret 10 _ _ (-1 : Int32) gt rfl h dX9_item_10

set_option maxHeartbeats 4000000 in
theorem kX9_item {l : Launch} {D : va_G} {cI cJ cT : ClassId} (d : Nat → Nat) (dN : Nat → Nat) (dI : Nat → Nat) (dT : Nat → Nat) (dNc : Nat → Nat) (dNcj : Nat → Nat) (dNcs : Nat → Nat) (dNcp : Nat → Nat) (dNw : Nat → Nat) (dx : Nat → Nat) (dtt : Nat) (dt : Nat → Nat → Nat)  (v : Lf) (vt : Nat → Lf) (gt : Nat → Lg) (x1 : Int32) (x2 : Int32) (x3 : Int64) {Q : Int32 → (Nat → Lg) → Prop} (sz : Nat) (h : pX9_item vt gt x1 x2 x3 Q) : Met l yX9_item wdX9_item rmX9_item (Pz D (tyL cI cJ cT) [.ref (d 0), .int x1, .int x2, .long x3] ((wX9 d (dN 0) (dI 0) (dT 0) (dNc 0) (dNcj 0) (dNcs 0) (dNcp 0) (dNw 0) (dx 0) dtt v) ++ (wTT cJ cT dtt dt vt gt)) sz) (va_Qi (fun (r : Int32) (u : (Nat → Lg)) => Q r u) (Bz D (tyL cI cJ cT) ((wX9 d (dN 0) (dI 0) (dT 0) (dNc 0) (dNcj 0) (dNcs 0) (dNcp 0) (dNw 0) (dx 0) dtt v) ++ (wTT cJ cT dtt dt vt gt)) sz (fun (u : (Nat → Lg)) => ((wX9 d (dN 0) (dI 0) (dT 0) (dNc 0) (dNcj 0) (dNcs 0) (dNcp 0) (dNw 0) (dx 0) dtt v) ++ (wTT cJ cT dtt dt vt u)))) (va_A ((wX9 d (dN 0) (dI 0) (dT 0) (dNc 0) (dNcj 0) (dNcs 0) (dNcp 0) (dNw 0) (dx 0) dtt v) ++ (wTT cJ cT dtt dt vt gt)) sz)) 0 0 (va_A ((wX9 d (dN 0) (dI 0) (dT 0) (dNc 0) (dNcj 0) (dNcs 0) (dNcp 0) (dNw 0) (dx 0) dtt v) ++ (wTT cJ cT dtt dt vt gt)) sz) := by
  by_cases g1 : vp_in x1 6
  · obtain ⟨j, hj, rfl⟩ := vp_in_of g1 (by decide)
    rcases (show j = 0 ∨ j = 1 ∨ j = 2 ∨ j = 3 ∨ j = 4 ∨ j = 5 by omega) with rfl | rfl | rfl | rfl | rfl | rfl
    · exact kX9_item_0 d dN dI dT dNc dNcj dNcs dNcp dNw dx dtt dt v vt gt x2 x3 sz h
    · exact kX9_item_1 d dN dI dT dNc dNcj dNcs dNcp dNw dx dtt dt v vt gt x2 x3 sz h
    · exact kX9_item_2 d dN dI dT dNc dNcj dNcs dNcp dNw dx dtt dt v vt gt x2 x3 sz h
    · exact kX9_item_3 d dN dI dT dNc dNcj dNcs dNcp dNw dx dtt dt v vt gt x2 x3 sz h
    · exact kX9_item_4 d dN dI dT dNc dNcj dNcs dNcp dNw dx dtt dt v vt gt x2 x3 sz h
    · exact kX9_item_5 d dN dI dT dNc dNcj dNcs dNcp dNw dx dtt dt v vt gt x2 x3 sz h
  · exact kX9_item_n d dN dI dT dNc dNcj dNcs dNcp dNw dx dtt dt v vt gt x1 x2 x3 g1 sz h

def pX9_peek (vt : Nat → Lf) (gt : Nat → Lg) (x1 : Int32) (x2 : Int32) (Q : Int64 → Prop) : Prop := (pX9_within x1 (0 : Int32) (5 : Int32) (fun r1 => ((r1 = 0 → (Q (-9223372036854775808 : Int64) )) ∧ (¬ r1 = 0 → (vp_in x1 6 ∧ (pX6_hasPlace (vt (x1.toNatClampNeg)) x2 (fun r4 => ((¬ r4 = 0 → (vp_in x1 6 ∧ (vp_in x2 60 ∧ (Q ((gt (x1.toNatClampNeg)) 1 x2.toNatClampNeg) )))) ∧ (r4 = 0 → (Q (-9223372036854775808 : Int64) ))))))))))
abbrev rmX9_peek : Room := { frames := 2, cells := 0, slots := 0, locals := 43 }
abbrev wdX9_peek : List Cond := Cond.code yX9_peek cX9_peek 3 (some .long) :: TB
theorem hdSX9_peek : (yX9_peek).cls ≠ "java/lang/invoke/MethodHandle" ∧ (yX9_peek).cls ≠ "java/lang/invoke/VarHandle" ∧ (parseMethodDescriptor (yX9_peek).desc).map (fun d => d.parameters.length) = some 2 := by decide +kernel
theorem hdX9_peek : (yX9_peek).cls = RX9 ∧ (yX9_peek).cls ≠ "java/lang/invoke/MethodHandle" ∧ (yX9_peek).cls ≠ "java/lang/invoke/VarHandle" ∧ (parseMethodDescriptor (yX9_peek).desc).map (fun d => d.parameters.length) = some 2 := ⟨rfl, hdSX9_peek⟩

set_option maxHeartbeats 4000000 in
set_option maxRecDepth 100000 in
theorem kX9_peek_0 {l : Launch} {D : va_G} {cI cJ cT : ClassId} (d : Nat → Nat) (dN : Nat → Nat) (dI : Nat → Nat) (dT : Nat → Nat) (dNc : Nat → Nat) (dNcj : Nat → Nat) (dNcs : Nat → Nat) (dNcp : Nat → Nat) (dNw : Nat → Nat) (dx : Nat → Nat) (dtt : Nat) (dt : Nat → Nat → Nat)  (v : Lf) (vt : Nat → Lf) (gt : Nat → Lg) (x2 : Int32) {Q : Int64 → Prop} (sz : Nat) (h : pX9_peek vt gt (nI 0) x2 Q) : Met l yX9_peek wdX9_peek rmX9_peek (Pz D (tyL cI cJ cT) [.ref (d 0), .int (nI 0), .int x2] ((wX9 d (dN 0) (dI 0) (dT 0) (dNc 0) (dNcj 0) (dNcs 0) (dNcp 0) (dNw 0) (dx 0) dtt v) ++ (wTT cJ cT dtt dt vt gt)) sz) (va_Ql (fun (r : Int64) (u : Unit) => Q r) (Bz D (tyL cI cJ cT) ((wX9 d (dN 0) (dI 0) (dT 0) (dNc 0) (dNcj 0) (dNcs 0) (dNcp 0) (dNw 0) (dx 0) dtt v) ++ (wTT cJ cT dtt dt vt gt)) sz (fun (u : Unit) => ((wX9 d (dN 0) (dI 0) (dT 0) (dNc 0) (dNcj 0) (dNcs 0) (dNcp 0) (dNw 0) (dx 0) dtt v) ++ (wTT cJ cT dtt dt vt gt)))) (va_A ((wX9 d (dN 0) (dI 0) (dT 0) (dNc 0) (dNcj 0) (dNcs 0) (dNcp 0) (dNw 0) (dx 0) dtt v) ++ (wTT cJ cT dtt dt vt gt)) sz)) 0 0 (va_A ((wX9 d (dN 0) (dI 0) (dT 0) (dNc 0) (dNcj 0) (dNcs 0) (dNcp 0) (dNw 0) (dx 0) dtt v) ++ (wTT cJ cT dtt dt vt gt)) sz) := by
  refine z_metl (cc := cX9_peek) (maxL := 3) (own := RX9) (lv0 := [(0, .ref (d 0)), (1, .int (nI 0)), (2, .int x2)]) (by decide) rfl rfl (Nat.le_of_ble_eq_true rfl) rfl ?_
  intro p e s m args below meth c A QQ C hin hret
  refine z_iload_n (pc := 0) C 1 dX9_peek_0 rfl ?_
  refine z_iconst (pc := 1) (v := 0) C dX9_peek_1 (by decide) ?_
  refine z_iconst (pc := 2) (v := 5) C dX9_peek_2 (by decide) ?_
  refine z_call0i (pc := 3) C (z_runS (pc := 3) (wc := ([] : va_W)) (As := [.int (nI 0), .int (0 : Int32), .int (5 : Int32)]) C (fun sz => kX9_within (nI 0) (0 : Int32) (5 : Int32) sz h) [] rfl (by decide) (gdS wq366 wq553 wq373 wq112) rfl rfl rfl hdSX9_within ⟨Nat.le_of_ble_eq_true rfl, Nat.le_of_ble_eq_true rfl⟩ rfl (Nat.le_of_ble_eq_true rfl) ⟨Nat.zero_le _, Nat.zero_le _⟩ dX9_peek_3) (fun r1 u1 h => ?_)
  refine z_if_eq (pc := 6) (tgt := 22) C dX9_peek_6 (by decide) (fun c2 => ?_) (fun c2 => ?_)
  · have h := h.1 c2
    refine z_ldc2 (pc := 22) C wq761 dX9_peek_22 ?_
    exact hret 25 _ _ (-9223372036854775808 : Int64) () rfl h dX9_peek_25
  · have h := h.2 c2
    refine z_aload_n (pc := 9) C 0 dX9_peek_9 rfl ?_
    refine z_get (pc := 10) C uw9 0 rfl rfl 9 (by decide) wq544 rfl dX9_peek_10 ?_
    refine z_iload_n (pc := 13) C 1 dX9_peek_13 rfl ?_
    obtain ⟨g3, h⟩ := h
    refine z_aldq (pc := 14) C 1 2 rfl rfl g3 (.ref (dt 0 0)) rfl dX9_peek_14 ?_
    refine z_iload_n (pc := 15) C 2 dX9_peek_15 rfl ?_
    refine z_callRi (pc := 16) C (z_runV (pc := 16) (wc := (wX6 cJ (dt 0) (vt 0) (gt 0))) (As := [.int x2]) C (fun sz => kX6_hasPlace (dt 0) (vt 0) (gt 0) x2 sz h) [2, 3] rfl (by decide) (gdV wq413 wq779 wq780 wq781 wq546) rfl rfl rfl hdX6_hasPlace 2 rfl rfl rfl ⟨Nat.le_of_ble_eq_true rfl, Nat.le_of_ble_eq_true rfl⟩ rfl (Nat.le_of_ble_eq_true rfl) ⟨Nat.zero_le _, Nat.zero_le _⟩ dX9_peek_16) [2, 3] rfl (by decide) (fun r4 u4 h => ?_)
    refine z_if_ne (pc := 19) (tgt := 26) C dX9_peek_19 (by decide) (fun c5 => ?_) (fun c5 => ?_)
    · have h := h.1 c5
      refine z_aload_n (pc := 26) C 0 dX9_peek_26 rfl ?_
      refine z_get (pc := 27) C uw9 0 rfl rfl 9 (by decide) wq544 rfl dX9_peek_27 ?_
      refine z_iload_n (pc := 30) C 1 dX9_peek_30 rfl ?_
      obtain ⟨g6, h⟩ := h
      refine z_aldq (pc := 31) C 1 2 rfl rfl g6 (.ref (dt 0 0)) rfl dX9_peek_31 ?_
      refine z_get (pc := 32) C uw6 2 rfl rfl 2 (by decide) wq778 rfl dX9_peek_32 ?_
      refine z_iload_n (pc := 35) C 2 dX9_peek_35 rfl ?_
      obtain ⟨g7, h⟩ := h
      refine z_lald (pc := 36) C 3 1 rfl rfl g7 ((gt 0) 1 x2.toNatClampNeg) rfl dX9_peek_36 ?_
      exact hret 37 _ _ ((gt 0) 1 x2.toNatClampNeg) () rfl h dX9_peek_37
    · have h := h.2 c5
      refine z_ldc2 (pc := 22) C wq761 dX9_peek_22 ?_
      exact hret 25 _ _ (-9223372036854775808 : Int64) () rfl h dX9_peek_25

set_option maxHeartbeats 4000000 in
set_option maxRecDepth 100000 in
theorem kX9_peek_1 {l : Launch} {D : va_G} {cI cJ cT : ClassId} (d : Nat → Nat) (dN : Nat → Nat) (dI : Nat → Nat) (dT : Nat → Nat) (dNc : Nat → Nat) (dNcj : Nat → Nat) (dNcs : Nat → Nat) (dNcp : Nat → Nat) (dNw : Nat → Nat) (dx : Nat → Nat) (dtt : Nat) (dt : Nat → Nat → Nat)  (v : Lf) (vt : Nat → Lf) (gt : Nat → Lg) (x2 : Int32) {Q : Int64 → Prop} (sz : Nat) (h : pX9_peek vt gt (nI 1) x2 Q) : Met l yX9_peek wdX9_peek rmX9_peek (Pz D (tyL cI cJ cT) [.ref (d 0), .int (nI 1), .int x2] ((wX9 d (dN 0) (dI 0) (dT 0) (dNc 0) (dNcj 0) (dNcs 0) (dNcp 0) (dNw 0) (dx 0) dtt v) ++ (wTT cJ cT dtt dt vt gt)) sz) (va_Ql (fun (r : Int64) (u : Unit) => Q r) (Bz D (tyL cI cJ cT) ((wX9 d (dN 0) (dI 0) (dT 0) (dNc 0) (dNcj 0) (dNcs 0) (dNcp 0) (dNw 0) (dx 0) dtt v) ++ (wTT cJ cT dtt dt vt gt)) sz (fun (u : Unit) => ((wX9 d (dN 0) (dI 0) (dT 0) (dNc 0) (dNcj 0) (dNcs 0) (dNcp 0) (dNw 0) (dx 0) dtt v) ++ (wTT cJ cT dtt dt vt gt)))) (va_A ((wX9 d (dN 0) (dI 0) (dT 0) (dNc 0) (dNcj 0) (dNcs 0) (dNcp 0) (dNw 0) (dx 0) dtt v) ++ (wTT cJ cT dtt dt vt gt)) sz)) 0 0 (va_A ((wX9 d (dN 0) (dI 0) (dT 0) (dNc 0) (dNcj 0) (dNcs 0) (dNcp 0) (dNw 0) (dx 0) dtt v) ++ (wTT cJ cT dtt dt vt gt)) sz) := by
  refine z_metl (cc := cX9_peek) (maxL := 3) (own := RX9) (lv0 := [(0, .ref (d 0)), (1, .int (nI 1)), (2, .int x2)]) (by decide) rfl rfl (Nat.le_of_ble_eq_true rfl) rfl ?_
  intro p e s m args below meth c A QQ C hin hret
  refine z_iload_n (pc := 0) C 1 dX9_peek_0 rfl ?_
  refine z_iconst (pc := 1) (v := 0) C dX9_peek_1 (by decide) ?_
  refine z_iconst (pc := 2) (v := 5) C dX9_peek_2 (by decide) ?_
  refine z_call0i (pc := 3) C (z_runS (pc := 3) (wc := ([] : va_W)) (As := [.int (nI 1), .int (0 : Int32), .int (5 : Int32)]) C (fun sz => kX9_within (nI 1) (0 : Int32) (5 : Int32) sz h) [] rfl (by decide) (gdS wq366 wq553 wq373 wq112) rfl rfl rfl hdSX9_within ⟨Nat.le_of_ble_eq_true rfl, Nat.le_of_ble_eq_true rfl⟩ rfl (Nat.le_of_ble_eq_true rfl) ⟨Nat.zero_le _, Nat.zero_le _⟩ dX9_peek_3) (fun r1 u1 h => ?_)
  refine z_if_eq (pc := 6) (tgt := 22) C dX9_peek_6 (by decide) (fun c2 => ?_) (fun c2 => ?_)
  · have h := h.1 c2
    refine z_ldc2 (pc := 22) C wq761 dX9_peek_22 ?_
    exact hret 25 _ _ (-9223372036854775808 : Int64) () rfl h dX9_peek_25
  · have h := h.2 c2
    refine z_aload_n (pc := 9) C 0 dX9_peek_9 rfl ?_
    refine z_get (pc := 10) C uw9 0 rfl rfl 9 (by decide) wq544 rfl dX9_peek_10 ?_
    refine z_iload_n (pc := 13) C 1 dX9_peek_13 rfl ?_
    obtain ⟨g3, h⟩ := h
    refine z_aldq (pc := 14) C 1 2 rfl rfl g3 (.ref (dt 1 0)) rfl dX9_peek_14 ?_
    refine z_iload_n (pc := 15) C 2 dX9_peek_15 rfl ?_
    refine z_callRi (pc := 16) C (z_runV (pc := 16) (wc := (wX6 cJ (dt 1) (vt 1) (gt 1))) (As := [.int x2]) C (fun sz => kX6_hasPlace (dt 1) (vt 1) (gt 1) x2 sz h) [4, 5] rfl (by decide) (gdV wq413 wq779 wq780 wq781 wq546) rfl rfl rfl hdX6_hasPlace 4 rfl rfl rfl ⟨Nat.le_of_ble_eq_true rfl, Nat.le_of_ble_eq_true rfl⟩ rfl (Nat.le_of_ble_eq_true rfl) ⟨Nat.zero_le _, Nat.zero_le _⟩ dX9_peek_16) [4, 5] rfl (by decide) (fun r4 u4 h => ?_)
    refine z_if_ne (pc := 19) (tgt := 26) C dX9_peek_19 (by decide) (fun c5 => ?_) (fun c5 => ?_)
    · have h := h.1 c5
      refine z_aload_n (pc := 26) C 0 dX9_peek_26 rfl ?_
      refine z_get (pc := 27) C uw9 0 rfl rfl 9 (by decide) wq544 rfl dX9_peek_27 ?_
      refine z_iload_n (pc := 30) C 1 dX9_peek_30 rfl ?_
      obtain ⟨g6, h⟩ := h
      refine z_aldq (pc := 31) C 1 2 rfl rfl g6 (.ref (dt 1 0)) rfl dX9_peek_31 ?_
      refine z_get (pc := 32) C uw6 4 rfl rfl 2 (by decide) wq778 rfl dX9_peek_32 ?_
      refine z_iload_n (pc := 35) C 2 dX9_peek_35 rfl ?_
      obtain ⟨g7, h⟩ := h
      refine z_lald (pc := 36) C 5 1 rfl rfl g7 ((gt 1) 1 x2.toNatClampNeg) rfl dX9_peek_36 ?_
      exact hret 37 _ _ ((gt 1) 1 x2.toNatClampNeg) () rfl h dX9_peek_37
    · have h := h.2 c5
      refine z_ldc2 (pc := 22) C wq761 dX9_peek_22 ?_
      exact hret 25 _ _ (-9223372036854775808 : Int64) () rfl h dX9_peek_25

set_option maxHeartbeats 4000000 in
set_option maxRecDepth 100000 in
theorem kX9_peek_2 {l : Launch} {D : va_G} {cI cJ cT : ClassId} (d : Nat → Nat) (dN : Nat → Nat) (dI : Nat → Nat) (dT : Nat → Nat) (dNc : Nat → Nat) (dNcj : Nat → Nat) (dNcs : Nat → Nat) (dNcp : Nat → Nat) (dNw : Nat → Nat) (dx : Nat → Nat) (dtt : Nat) (dt : Nat → Nat → Nat)  (v : Lf) (vt : Nat → Lf) (gt : Nat → Lg) (x2 : Int32) {Q : Int64 → Prop} (sz : Nat) (h : pX9_peek vt gt (nI 2) x2 Q) : Met l yX9_peek wdX9_peek rmX9_peek (Pz D (tyL cI cJ cT) [.ref (d 0), .int (nI 2), .int x2] ((wX9 d (dN 0) (dI 0) (dT 0) (dNc 0) (dNcj 0) (dNcs 0) (dNcp 0) (dNw 0) (dx 0) dtt v) ++ (wTT cJ cT dtt dt vt gt)) sz) (va_Ql (fun (r : Int64) (u : Unit) => Q r) (Bz D (tyL cI cJ cT) ((wX9 d (dN 0) (dI 0) (dT 0) (dNc 0) (dNcj 0) (dNcs 0) (dNcp 0) (dNw 0) (dx 0) dtt v) ++ (wTT cJ cT dtt dt vt gt)) sz (fun (u : Unit) => ((wX9 d (dN 0) (dI 0) (dT 0) (dNc 0) (dNcj 0) (dNcs 0) (dNcp 0) (dNw 0) (dx 0) dtt v) ++ (wTT cJ cT dtt dt vt gt)))) (va_A ((wX9 d (dN 0) (dI 0) (dT 0) (dNc 0) (dNcj 0) (dNcs 0) (dNcp 0) (dNw 0) (dx 0) dtt v) ++ (wTT cJ cT dtt dt vt gt)) sz)) 0 0 (va_A ((wX9 d (dN 0) (dI 0) (dT 0) (dNc 0) (dNcj 0) (dNcs 0) (dNcp 0) (dNw 0) (dx 0) dtt v) ++ (wTT cJ cT dtt dt vt gt)) sz) := by
  refine z_metl (cc := cX9_peek) (maxL := 3) (own := RX9) (lv0 := [(0, .ref (d 0)), (1, .int (nI 2)), (2, .int x2)]) (by decide) rfl rfl (Nat.le_of_ble_eq_true rfl) rfl ?_
  intro p e s m args below meth c A QQ C hin hret
  refine z_iload_n (pc := 0) C 1 dX9_peek_0 rfl ?_
  refine z_iconst (pc := 1) (v := 0) C dX9_peek_1 (by decide) ?_
  refine z_iconst (pc := 2) (v := 5) C dX9_peek_2 (by decide) ?_
  refine z_call0i (pc := 3) C (z_runS (pc := 3) (wc := ([] : va_W)) (As := [.int (nI 2), .int (0 : Int32), .int (5 : Int32)]) C (fun sz => kX9_within (nI 2) (0 : Int32) (5 : Int32) sz h) [] rfl (by decide) (gdS wq366 wq553 wq373 wq112) rfl rfl rfl hdSX9_within ⟨Nat.le_of_ble_eq_true rfl, Nat.le_of_ble_eq_true rfl⟩ rfl (Nat.le_of_ble_eq_true rfl) ⟨Nat.zero_le _, Nat.zero_le _⟩ dX9_peek_3) (fun r1 u1 h => ?_)
  refine z_if_eq (pc := 6) (tgt := 22) C dX9_peek_6 (by decide) (fun c2 => ?_) (fun c2 => ?_)
  · have h := h.1 c2
    refine z_ldc2 (pc := 22) C wq761 dX9_peek_22 ?_
    exact hret 25 _ _ (-9223372036854775808 : Int64) () rfl h dX9_peek_25
  · have h := h.2 c2
    refine z_aload_n (pc := 9) C 0 dX9_peek_9 rfl ?_
    refine z_get (pc := 10) C uw9 0 rfl rfl 9 (by decide) wq544 rfl dX9_peek_10 ?_
    refine z_iload_n (pc := 13) C 1 dX9_peek_13 rfl ?_
    obtain ⟨g3, h⟩ := h
    refine z_aldq (pc := 14) C 1 2 rfl rfl g3 (.ref (dt 2 0)) rfl dX9_peek_14 ?_
    refine z_iload_n (pc := 15) C 2 dX9_peek_15 rfl ?_
    refine z_callRi (pc := 16) C (z_runV (pc := 16) (wc := (wX6 cJ (dt 2) (vt 2) (gt 2))) (As := [.int x2]) C (fun sz => kX6_hasPlace (dt 2) (vt 2) (gt 2) x2 sz h) [6, 7] rfl (by decide) (gdV wq413 wq779 wq780 wq781 wq546) rfl rfl rfl hdX6_hasPlace 6 rfl rfl rfl ⟨Nat.le_of_ble_eq_true rfl, Nat.le_of_ble_eq_true rfl⟩ rfl (Nat.le_of_ble_eq_true rfl) ⟨Nat.zero_le _, Nat.zero_le _⟩ dX9_peek_16) [6, 7] rfl (by decide) (fun r4 u4 h => ?_)
    refine z_if_ne (pc := 19) (tgt := 26) C dX9_peek_19 (by decide) (fun c5 => ?_) (fun c5 => ?_)
    · have h := h.1 c5
      refine z_aload_n (pc := 26) C 0 dX9_peek_26 rfl ?_
      refine z_get (pc := 27) C uw9 0 rfl rfl 9 (by decide) wq544 rfl dX9_peek_27 ?_
      refine z_iload_n (pc := 30) C 1 dX9_peek_30 rfl ?_
      obtain ⟨g6, h⟩ := h
      refine z_aldq (pc := 31) C 1 2 rfl rfl g6 (.ref (dt 2 0)) rfl dX9_peek_31 ?_
      refine z_get (pc := 32) C uw6 6 rfl rfl 2 (by decide) wq778 rfl dX9_peek_32 ?_
      refine z_iload_n (pc := 35) C 2 dX9_peek_35 rfl ?_
      obtain ⟨g7, h⟩ := h
      refine z_lald (pc := 36) C 7 1 rfl rfl g7 ((gt 2) 1 x2.toNatClampNeg) rfl dX9_peek_36 ?_
      exact hret 37 _ _ ((gt 2) 1 x2.toNatClampNeg) () rfl h dX9_peek_37
    · have h := h.2 c5
      refine z_ldc2 (pc := 22) C wq761 dX9_peek_22 ?_
      exact hret 25 _ _ (-9223372036854775808 : Int64) () rfl h dX9_peek_25

set_option maxHeartbeats 4000000 in
set_option maxRecDepth 100000 in
theorem kX9_peek_3 {l : Launch} {D : va_G} {cI cJ cT : ClassId} (d : Nat → Nat) (dN : Nat → Nat) (dI : Nat → Nat) (dT : Nat → Nat) (dNc : Nat → Nat) (dNcj : Nat → Nat) (dNcs : Nat → Nat) (dNcp : Nat → Nat) (dNw : Nat → Nat) (dx : Nat → Nat) (dtt : Nat) (dt : Nat → Nat → Nat)  (v : Lf) (vt : Nat → Lf) (gt : Nat → Lg) (x2 : Int32) {Q : Int64 → Prop} (sz : Nat) (h : pX9_peek vt gt (nI 3) x2 Q) : Met l yX9_peek wdX9_peek rmX9_peek (Pz D (tyL cI cJ cT) [.ref (d 0), .int (nI 3), .int x2] ((wX9 d (dN 0) (dI 0) (dT 0) (dNc 0) (dNcj 0) (dNcs 0) (dNcp 0) (dNw 0) (dx 0) dtt v) ++ (wTT cJ cT dtt dt vt gt)) sz) (va_Ql (fun (r : Int64) (u : Unit) => Q r) (Bz D (tyL cI cJ cT) ((wX9 d (dN 0) (dI 0) (dT 0) (dNc 0) (dNcj 0) (dNcs 0) (dNcp 0) (dNw 0) (dx 0) dtt v) ++ (wTT cJ cT dtt dt vt gt)) sz (fun (u : Unit) => ((wX9 d (dN 0) (dI 0) (dT 0) (dNc 0) (dNcj 0) (dNcs 0) (dNcp 0) (dNw 0) (dx 0) dtt v) ++ (wTT cJ cT dtt dt vt gt)))) (va_A ((wX9 d (dN 0) (dI 0) (dT 0) (dNc 0) (dNcj 0) (dNcs 0) (dNcp 0) (dNw 0) (dx 0) dtt v) ++ (wTT cJ cT dtt dt vt gt)) sz)) 0 0 (va_A ((wX9 d (dN 0) (dI 0) (dT 0) (dNc 0) (dNcj 0) (dNcs 0) (dNcp 0) (dNw 0) (dx 0) dtt v) ++ (wTT cJ cT dtt dt vt gt)) sz) := by
  refine z_metl (cc := cX9_peek) (maxL := 3) (own := RX9) (lv0 := [(0, .ref (d 0)), (1, .int (nI 3)), (2, .int x2)]) (by decide) rfl rfl (Nat.le_of_ble_eq_true rfl) rfl ?_
  intro p e s m args below meth c A QQ C hin hret
  refine z_iload_n (pc := 0) C 1 dX9_peek_0 rfl ?_
  refine z_iconst (pc := 1) (v := 0) C dX9_peek_1 (by decide) ?_
  refine z_iconst (pc := 2) (v := 5) C dX9_peek_2 (by decide) ?_
  refine z_call0i (pc := 3) C (z_runS (pc := 3) (wc := ([] : va_W)) (As := [.int (nI 3), .int (0 : Int32), .int (5 : Int32)]) C (fun sz => kX9_within (nI 3) (0 : Int32) (5 : Int32) sz h) [] rfl (by decide) (gdS wq366 wq553 wq373 wq112) rfl rfl rfl hdSX9_within ⟨Nat.le_of_ble_eq_true rfl, Nat.le_of_ble_eq_true rfl⟩ rfl (Nat.le_of_ble_eq_true rfl) ⟨Nat.zero_le _, Nat.zero_le _⟩ dX9_peek_3) (fun r1 u1 h => ?_)
  refine z_if_eq (pc := 6) (tgt := 22) C dX9_peek_6 (by decide) (fun c2 => ?_) (fun c2 => ?_)
  · have h := h.1 c2
    refine z_ldc2 (pc := 22) C wq761 dX9_peek_22 ?_
    exact hret 25 _ _ (-9223372036854775808 : Int64) () rfl h dX9_peek_25
  · have h := h.2 c2
    refine z_aload_n (pc := 9) C 0 dX9_peek_9 rfl ?_
    refine z_get (pc := 10) C uw9 0 rfl rfl 9 (by decide) wq544 rfl dX9_peek_10 ?_
    refine z_iload_n (pc := 13) C 1 dX9_peek_13 rfl ?_
    obtain ⟨g3, h⟩ := h
    refine z_aldq (pc := 14) C 1 2 rfl rfl g3 (.ref (dt 3 0)) rfl dX9_peek_14 ?_
    refine z_iload_n (pc := 15) C 2 dX9_peek_15 rfl ?_
    refine z_callRi (pc := 16) C (z_runV (pc := 16) (wc := (wX6 cJ (dt 3) (vt 3) (gt 3))) (As := [.int x2]) C (fun sz => kX6_hasPlace (dt 3) (vt 3) (gt 3) x2 sz h) [8, 9] rfl (by decide) (gdV wq413 wq779 wq780 wq781 wq546) rfl rfl rfl hdX6_hasPlace 8 rfl rfl rfl ⟨Nat.le_of_ble_eq_true rfl, Nat.le_of_ble_eq_true rfl⟩ rfl (Nat.le_of_ble_eq_true rfl) ⟨Nat.zero_le _, Nat.zero_le _⟩ dX9_peek_16) [8, 9] rfl (by decide) (fun r4 u4 h => ?_)
    refine z_if_ne (pc := 19) (tgt := 26) C dX9_peek_19 (by decide) (fun c5 => ?_) (fun c5 => ?_)
    · have h := h.1 c5
      refine z_aload_n (pc := 26) C 0 dX9_peek_26 rfl ?_
      refine z_get (pc := 27) C uw9 0 rfl rfl 9 (by decide) wq544 rfl dX9_peek_27 ?_
      refine z_iload_n (pc := 30) C 1 dX9_peek_30 rfl ?_
      obtain ⟨g6, h⟩ := h
      refine z_aldq (pc := 31) C 1 2 rfl rfl g6 (.ref (dt 3 0)) rfl dX9_peek_31 ?_
      refine z_get (pc := 32) C uw6 8 rfl rfl 2 (by decide) wq778 rfl dX9_peek_32 ?_
      refine z_iload_n (pc := 35) C 2 dX9_peek_35 rfl ?_
      obtain ⟨g7, h⟩ := h
      refine z_lald (pc := 36) C 9 1 rfl rfl g7 ((gt 3) 1 x2.toNatClampNeg) rfl dX9_peek_36 ?_
      exact hret 37 _ _ ((gt 3) 1 x2.toNatClampNeg) () rfl h dX9_peek_37
    · have h := h.2 c5
      refine z_ldc2 (pc := 22) C wq761 dX9_peek_22 ?_
      exact hret 25 _ _ (-9223372036854775808 : Int64) () rfl h dX9_peek_25

set_option maxHeartbeats 4000000 in
set_option maxRecDepth 100000 in
theorem kX9_peek_4 {l : Launch} {D : va_G} {cI cJ cT : ClassId} (d : Nat → Nat) (dN : Nat → Nat) (dI : Nat → Nat) (dT : Nat → Nat) (dNc : Nat → Nat) (dNcj : Nat → Nat) (dNcs : Nat → Nat) (dNcp : Nat → Nat) (dNw : Nat → Nat) (dx : Nat → Nat) (dtt : Nat) (dt : Nat → Nat → Nat)  (v : Lf) (vt : Nat → Lf) (gt : Nat → Lg) (x2 : Int32) {Q : Int64 → Prop} (sz : Nat) (h : pX9_peek vt gt (nI 4) x2 Q) : Met l yX9_peek wdX9_peek rmX9_peek (Pz D (tyL cI cJ cT) [.ref (d 0), .int (nI 4), .int x2] ((wX9 d (dN 0) (dI 0) (dT 0) (dNc 0) (dNcj 0) (dNcs 0) (dNcp 0) (dNw 0) (dx 0) dtt v) ++ (wTT cJ cT dtt dt vt gt)) sz) (va_Ql (fun (r : Int64) (u : Unit) => Q r) (Bz D (tyL cI cJ cT) ((wX9 d (dN 0) (dI 0) (dT 0) (dNc 0) (dNcj 0) (dNcs 0) (dNcp 0) (dNw 0) (dx 0) dtt v) ++ (wTT cJ cT dtt dt vt gt)) sz (fun (u : Unit) => ((wX9 d (dN 0) (dI 0) (dT 0) (dNc 0) (dNcj 0) (dNcs 0) (dNcp 0) (dNw 0) (dx 0) dtt v) ++ (wTT cJ cT dtt dt vt gt)))) (va_A ((wX9 d (dN 0) (dI 0) (dT 0) (dNc 0) (dNcj 0) (dNcs 0) (dNcp 0) (dNw 0) (dx 0) dtt v) ++ (wTT cJ cT dtt dt vt gt)) sz)) 0 0 (va_A ((wX9 d (dN 0) (dI 0) (dT 0) (dNc 0) (dNcj 0) (dNcs 0) (dNcp 0) (dNw 0) (dx 0) dtt v) ++ (wTT cJ cT dtt dt vt gt)) sz) := by
  refine z_metl (cc := cX9_peek) (maxL := 3) (own := RX9) (lv0 := [(0, .ref (d 0)), (1, .int (nI 4)), (2, .int x2)]) (by decide) rfl rfl (Nat.le_of_ble_eq_true rfl) rfl ?_
  intro p e s m args below meth c A QQ C hin hret
  refine z_iload_n (pc := 0) C 1 dX9_peek_0 rfl ?_
  refine z_iconst (pc := 1) (v := 0) C dX9_peek_1 (by decide) ?_
  refine z_iconst (pc := 2) (v := 5) C dX9_peek_2 (by decide) ?_
  refine z_call0i (pc := 3) C (z_runS (pc := 3) (wc := ([] : va_W)) (As := [.int (nI 4), .int (0 : Int32), .int (5 : Int32)]) C (fun sz => kX9_within (nI 4) (0 : Int32) (5 : Int32) sz h) [] rfl (by decide) (gdS wq366 wq553 wq373 wq112) rfl rfl rfl hdSX9_within ⟨Nat.le_of_ble_eq_true rfl, Nat.le_of_ble_eq_true rfl⟩ rfl (Nat.le_of_ble_eq_true rfl) ⟨Nat.zero_le _, Nat.zero_le _⟩ dX9_peek_3) (fun r1 u1 h => ?_)
  refine z_if_eq (pc := 6) (tgt := 22) C dX9_peek_6 (by decide) (fun c2 => ?_) (fun c2 => ?_)
  · have h := h.1 c2
    refine z_ldc2 (pc := 22) C wq761 dX9_peek_22 ?_
    exact hret 25 _ _ (-9223372036854775808 : Int64) () rfl h dX9_peek_25
  · have h := h.2 c2
    refine z_aload_n (pc := 9) C 0 dX9_peek_9 rfl ?_
    refine z_get (pc := 10) C uw9 0 rfl rfl 9 (by decide) wq544 rfl dX9_peek_10 ?_
    refine z_iload_n (pc := 13) C 1 dX9_peek_13 rfl ?_
    obtain ⟨g3, h⟩ := h
    refine z_aldq (pc := 14) C 1 2 rfl rfl g3 (.ref (dt 4 0)) rfl dX9_peek_14 ?_
    refine z_iload_n (pc := 15) C 2 dX9_peek_15 rfl ?_
    refine z_callRi (pc := 16) C (z_runV (pc := 16) (wc := (wX6 cJ (dt 4) (vt 4) (gt 4))) (As := [.int x2]) C (fun sz => kX6_hasPlace (dt 4) (vt 4) (gt 4) x2 sz h) [10, 11] rfl (by decide) (gdV wq413 wq779 wq780 wq781 wq546) rfl rfl rfl hdX6_hasPlace 10 rfl rfl rfl ⟨Nat.le_of_ble_eq_true rfl, Nat.le_of_ble_eq_true rfl⟩ rfl (Nat.le_of_ble_eq_true rfl) ⟨Nat.zero_le _, Nat.zero_le _⟩ dX9_peek_16) [10, 11] rfl (by decide) (fun r4 u4 h => ?_)
    refine z_if_ne (pc := 19) (tgt := 26) C dX9_peek_19 (by decide) (fun c5 => ?_) (fun c5 => ?_)
    · have h := h.1 c5
      refine z_aload_n (pc := 26) C 0 dX9_peek_26 rfl ?_
      refine z_get (pc := 27) C uw9 0 rfl rfl 9 (by decide) wq544 rfl dX9_peek_27 ?_
      refine z_iload_n (pc := 30) C 1 dX9_peek_30 rfl ?_
      obtain ⟨g6, h⟩ := h
      refine z_aldq (pc := 31) C 1 2 rfl rfl g6 (.ref (dt 4 0)) rfl dX9_peek_31 ?_
      refine z_get (pc := 32) C uw6 10 rfl rfl 2 (by decide) wq778 rfl dX9_peek_32 ?_
      refine z_iload_n (pc := 35) C 2 dX9_peek_35 rfl ?_
      obtain ⟨g7, h⟩ := h
      refine z_lald (pc := 36) C 11 1 rfl rfl g7 ((gt 4) 1 x2.toNatClampNeg) rfl dX9_peek_36 ?_
      exact hret 37 _ _ ((gt 4) 1 x2.toNatClampNeg) () rfl h dX9_peek_37
    · have h := h.2 c5
      refine z_ldc2 (pc := 22) C wq761 dX9_peek_22 ?_
      exact hret 25 _ _ (-9223372036854775808 : Int64) () rfl h dX9_peek_25

set_option maxHeartbeats 4000000 in
set_option maxRecDepth 100000 in
theorem kX9_peek_5 {l : Launch} {D : va_G} {cI cJ cT : ClassId} (d : Nat → Nat) (dN : Nat → Nat) (dI : Nat → Nat) (dT : Nat → Nat) (dNc : Nat → Nat) (dNcj : Nat → Nat) (dNcs : Nat → Nat) (dNcp : Nat → Nat) (dNw : Nat → Nat) (dx : Nat → Nat) (dtt : Nat) (dt : Nat → Nat → Nat)  (v : Lf) (vt : Nat → Lf) (gt : Nat → Lg) (x2 : Int32) {Q : Int64 → Prop} (sz : Nat) (h : pX9_peek vt gt (nI 5) x2 Q) : Met l yX9_peek wdX9_peek rmX9_peek (Pz D (tyL cI cJ cT) [.ref (d 0), .int (nI 5), .int x2] ((wX9 d (dN 0) (dI 0) (dT 0) (dNc 0) (dNcj 0) (dNcs 0) (dNcp 0) (dNw 0) (dx 0) dtt v) ++ (wTT cJ cT dtt dt vt gt)) sz) (va_Ql (fun (r : Int64) (u : Unit) => Q r) (Bz D (tyL cI cJ cT) ((wX9 d (dN 0) (dI 0) (dT 0) (dNc 0) (dNcj 0) (dNcs 0) (dNcp 0) (dNw 0) (dx 0) dtt v) ++ (wTT cJ cT dtt dt vt gt)) sz (fun (u : Unit) => ((wX9 d (dN 0) (dI 0) (dT 0) (dNc 0) (dNcj 0) (dNcs 0) (dNcp 0) (dNw 0) (dx 0) dtt v) ++ (wTT cJ cT dtt dt vt gt)))) (va_A ((wX9 d (dN 0) (dI 0) (dT 0) (dNc 0) (dNcj 0) (dNcs 0) (dNcp 0) (dNw 0) (dx 0) dtt v) ++ (wTT cJ cT dtt dt vt gt)) sz)) 0 0 (va_A ((wX9 d (dN 0) (dI 0) (dT 0) (dNc 0) (dNcj 0) (dNcs 0) (dNcp 0) (dNw 0) (dx 0) dtt v) ++ (wTT cJ cT dtt dt vt gt)) sz) := by
  refine z_metl (cc := cX9_peek) (maxL := 3) (own := RX9) (lv0 := [(0, .ref (d 0)), (1, .int (nI 5)), (2, .int x2)]) (by decide) rfl rfl (Nat.le_of_ble_eq_true rfl) rfl ?_
  intro p e s m args below meth c A QQ C hin hret
  refine z_iload_n (pc := 0) C 1 dX9_peek_0 rfl ?_
  refine z_iconst (pc := 1) (v := 0) C dX9_peek_1 (by decide) ?_
  refine z_iconst (pc := 2) (v := 5) C dX9_peek_2 (by decide) ?_
  refine z_call0i (pc := 3) C (z_runS (pc := 3) (wc := ([] : va_W)) (As := [.int (nI 5), .int (0 : Int32), .int (5 : Int32)]) C (fun sz => kX9_within (nI 5) (0 : Int32) (5 : Int32) sz h) [] rfl (by decide) (gdS wq366 wq553 wq373 wq112) rfl rfl rfl hdSX9_within ⟨Nat.le_of_ble_eq_true rfl, Nat.le_of_ble_eq_true rfl⟩ rfl (Nat.le_of_ble_eq_true rfl) ⟨Nat.zero_le _, Nat.zero_le _⟩ dX9_peek_3) (fun r1 u1 h => ?_)
  refine z_if_eq (pc := 6) (tgt := 22) C dX9_peek_6 (by decide) (fun c2 => ?_) (fun c2 => ?_)
  · have h := h.1 c2
    refine z_ldc2 (pc := 22) C wq761 dX9_peek_22 ?_
    exact hret 25 _ _ (-9223372036854775808 : Int64) () rfl h dX9_peek_25
  · have h := h.2 c2
    refine z_aload_n (pc := 9) C 0 dX9_peek_9 rfl ?_
    refine z_get (pc := 10) C uw9 0 rfl rfl 9 (by decide) wq544 rfl dX9_peek_10 ?_
    refine z_iload_n (pc := 13) C 1 dX9_peek_13 rfl ?_
    obtain ⟨g3, h⟩ := h
    refine z_aldq (pc := 14) C 1 2 rfl rfl g3 (.ref (dt 5 0)) rfl dX9_peek_14 ?_
    refine z_iload_n (pc := 15) C 2 dX9_peek_15 rfl ?_
    refine z_callRi (pc := 16) C (z_runV (pc := 16) (wc := (wX6 cJ (dt 5) (vt 5) (gt 5))) (As := [.int x2]) C (fun sz => kX6_hasPlace (dt 5) (vt 5) (gt 5) x2 sz h) [12, 13] rfl (by decide) (gdV wq413 wq779 wq780 wq781 wq546) rfl rfl rfl hdX6_hasPlace 12 rfl rfl rfl ⟨Nat.le_of_ble_eq_true rfl, Nat.le_of_ble_eq_true rfl⟩ rfl (Nat.le_of_ble_eq_true rfl) ⟨Nat.zero_le _, Nat.zero_le _⟩ dX9_peek_16) [12, 13] rfl (by decide) (fun r4 u4 h => ?_)
    refine z_if_ne (pc := 19) (tgt := 26) C dX9_peek_19 (by decide) (fun c5 => ?_) (fun c5 => ?_)
    · have h := h.1 c5
      refine z_aload_n (pc := 26) C 0 dX9_peek_26 rfl ?_
      refine z_get (pc := 27) C uw9 0 rfl rfl 9 (by decide) wq544 rfl dX9_peek_27 ?_
      refine z_iload_n (pc := 30) C 1 dX9_peek_30 rfl ?_
      obtain ⟨g6, h⟩ := h
      refine z_aldq (pc := 31) C 1 2 rfl rfl g6 (.ref (dt 5 0)) rfl dX9_peek_31 ?_
      refine z_get (pc := 32) C uw6 12 rfl rfl 2 (by decide) wq778 rfl dX9_peek_32 ?_
      refine z_iload_n (pc := 35) C 2 dX9_peek_35 rfl ?_
      obtain ⟨g7, h⟩ := h
      refine z_lald (pc := 36) C 13 1 rfl rfl g7 ((gt 5) 1 x2.toNatClampNeg) rfl dX9_peek_36 ?_
      exact hret 37 _ _ ((gt 5) 1 x2.toNatClampNeg) () rfl h dX9_peek_37
    · have h := h.2 c5
      refine z_ldc2 (pc := 22) C wq761 dX9_peek_22 ?_
      exact hret 25 _ _ (-9223372036854775808 : Int64) () rfl h dX9_peek_25

set_option maxHeartbeats 4000000 in
set_option maxRecDepth 100000 in
theorem kX9_peek_n {l : Launch} {D : va_G} {cI cJ cT : ClassId} (d : Nat → Nat) (dN : Nat → Nat) (dI : Nat → Nat) (dT : Nat → Nat) (dNc : Nat → Nat) (dNcj : Nat → Nat) (dNcs : Nat → Nat) (dNcp : Nat → Nat) (dNw : Nat → Nat) (dx : Nat → Nat) (dtt : Nat) (dt : Nat → Nat → Nat)  (v : Lf) (vt : Nat → Lf) (gt : Nat → Lg) (x1 : Int32) (x2 : Int32) (g1 : ¬ vp_in x1 6) {Q : Int64 → Prop} (sz : Nat) (h : pX9_peek vt gt x1 x2 Q) : Met l yX9_peek wdX9_peek rmX9_peek (Pz D (tyL cI cJ cT) [.ref (d 0), .int x1, .int x2] ((wX9 d (dN 0) (dI 0) (dT 0) (dNc 0) (dNcj 0) (dNcs 0) (dNcp 0) (dNw 0) (dx 0) dtt v) ++ (wTT cJ cT dtt dt vt gt)) sz) (va_Ql (fun (r : Int64) (u : Unit) => Q r) (Bz D (tyL cI cJ cT) ((wX9 d (dN 0) (dI 0) (dT 0) (dNc 0) (dNcj 0) (dNcs 0) (dNcp 0) (dNw 0) (dx 0) dtt v) ++ (wTT cJ cT dtt dt vt gt)) sz (fun (u : Unit) => ((wX9 d (dN 0) (dI 0) (dT 0) (dNc 0) (dNcj 0) (dNcs 0) (dNcp 0) (dNw 0) (dx 0) dtt v) ++ (wTT cJ cT dtt dt vt gt)))) (va_A ((wX9 d (dN 0) (dI 0) (dT 0) (dNc 0) (dNcj 0) (dNcs 0) (dNcp 0) (dNw 0) (dx 0) dtt v) ++ (wTT cJ cT dtt dt vt gt)) sz)) 0 0 (va_A ((wX9 d (dN 0) (dI 0) (dT 0) (dNc 0) (dNcj 0) (dNcs 0) (dNcp 0) (dNw 0) (dx 0) dtt v) ++ (wTT cJ cT dtt dt vt gt)) sz) := by
  refine z_metl (cc := cX9_peek) (maxL := 3) (own := RX9) (lv0 := [(0, .ref (d 0)), (1, .int x1), (2, .int x2)]) (by decide) rfl rfl (Nat.le_of_ble_eq_true rfl) rfl ?_
  intro p e s m args below meth c A QQ C hin hret
  refine z_iload_n (pc := 0) C 1 dX9_peek_0 rfl ?_
  refine z_iconst (pc := 1) (v := 0) C dX9_peek_1 (by decide) ?_
  refine z_iconst (pc := 2) (v := 5) C dX9_peek_2 (by decide) ?_
  refine z_call0i (pc := 3) C (z_runS (pc := 3) (wc := ([] : va_W)) (As := [.int x1, .int (0 : Int32), .int (5 : Int32)]) C (fun sz => kX9_within x1 (0 : Int32) (5 : Int32) sz h) [] rfl (by decide) (gdS wq366 wq553 wq373 wq112) rfl rfl rfl hdSX9_within ⟨Nat.le_of_ble_eq_true rfl, Nat.le_of_ble_eq_true rfl⟩ rfl (Nat.le_of_ble_eq_true rfl) ⟨Nat.zero_le _, Nat.zero_le _⟩ dX9_peek_3) (fun r1 u1 h => ?_)
  refine z_if_eq (pc := 6) (tgt := 22) C dX9_peek_6 (by decide) (fun c2 => ?_) (fun c2 => ?_)
  · have h := h.1 c2
    refine z_ldc2 (pc := 22) C wq761 dX9_peek_22 ?_
    exact hret 25 _ _ (-9223372036854775808 : Int64) () rfl h dX9_peek_25
  · have h := h.2 c2
    refine z_aload_n (pc := 9) C 0 dX9_peek_9 rfl ?_
    refine z_get (pc := 10) C uw9 0 rfl rfl 9 (by decide) wq544 rfl dX9_peek_10 ?_
    refine z_iload_n (pc := 13) C 1 dX9_peek_13 rfl ?_
    obtain ⟨g3, h⟩ := h
    exact absurd g3 g1

set_option maxHeartbeats 4000000 in
theorem kX9_peek {l : Launch} {D : va_G} {cI cJ cT : ClassId} (d : Nat → Nat) (dN : Nat → Nat) (dI : Nat → Nat) (dT : Nat → Nat) (dNc : Nat → Nat) (dNcj : Nat → Nat) (dNcs : Nat → Nat) (dNcp : Nat → Nat) (dNw : Nat → Nat) (dx : Nat → Nat) (dtt : Nat) (dt : Nat → Nat → Nat)  (v : Lf) (vt : Nat → Lf) (gt : Nat → Lg) (x1 : Int32) (x2 : Int32) {Q : Int64 → Prop} (sz : Nat) (h : pX9_peek vt gt x1 x2 Q) : Met l yX9_peek wdX9_peek rmX9_peek (Pz D (tyL cI cJ cT) [.ref (d 0), .int x1, .int x2] ((wX9 d (dN 0) (dI 0) (dT 0) (dNc 0) (dNcj 0) (dNcs 0) (dNcp 0) (dNw 0) (dx 0) dtt v) ++ (wTT cJ cT dtt dt vt gt)) sz) (va_Ql (fun (r : Int64) (u : Unit) => Q r) (Bz D (tyL cI cJ cT) ((wX9 d (dN 0) (dI 0) (dT 0) (dNc 0) (dNcj 0) (dNcs 0) (dNcp 0) (dNw 0) (dx 0) dtt v) ++ (wTT cJ cT dtt dt vt gt)) sz (fun (u : Unit) => ((wX9 d (dN 0) (dI 0) (dT 0) (dNc 0) (dNcj 0) (dNcs 0) (dNcp 0) (dNw 0) (dx 0) dtt v) ++ (wTT cJ cT dtt dt vt gt)))) (va_A ((wX9 d (dN 0) (dI 0) (dT 0) (dNc 0) (dNcj 0) (dNcs 0) (dNcp 0) (dNw 0) (dx 0) dtt v) ++ (wTT cJ cT dtt dt vt gt)) sz)) 0 0 (va_A ((wX9 d (dN 0) (dI 0) (dT 0) (dNc 0) (dNcj 0) (dNcs 0) (dNcp 0) (dNw 0) (dx 0) dtt v) ++ (wTT cJ cT dtt dt vt gt)) sz) := by
  by_cases g1 : vp_in x1 6
  · obtain ⟨j, hj, rfl⟩ := vp_in_of g1 (by decide)
    rcases (show j = 0 ∨ j = 1 ∨ j = 2 ∨ j = 3 ∨ j = 4 ∨ j = 5 by omega) with rfl | rfl | rfl | rfl | rfl | rfl
    · exact kX9_peek_0 d dN dI dT dNc dNcj dNcs dNcp dNw dx dtt dt v vt gt x2 sz h
    · exact kX9_peek_1 d dN dI dT dNc dNcj dNcs dNcp dNw dx dtt dt v vt gt x2 sz h
    · exact kX9_peek_2 d dN dI dT dNc dNcj dNcs dNcp dNw dx dtt dt v vt gt x2 sz h
    · exact kX9_peek_3 d dN dI dT dNc dNcj dNcs dNcp dNw dx dtt dt v vt gt x2 sz h
    · exact kX9_peek_4 d dN dI dT dNc dNcj dNcs dNcp dNw dx dtt dt v vt gt x2 sz h
    · exact kX9_peek_5 d dN dI dT dNc dNcj dNcs dNcp dNw dx dtt dt v vt gt x2 sz h
  · exact kX9_peek_n d dN dI dT dNc dNcj dNcs dNcp dNw dx dtt dt v vt gt x1 x2 g1 sz h

def pX9_shift (vt : Nat → Lf) (gt : Nat → Lg) (x1 : Int32) (x2 : Int32) (x3 : Int32) (x4 : Int32) (x5 : Int32) (Q : Int32 → (Nat → Lg) → Prop) : Prop := (pX9_within x1 (0 : Int32) (5 : Int32) (fun r1 => ((r1 = 0 → (Q (-1 : Int32) gt)) ∧ (¬ r1 = 0 → (pX9_within x3 (0 : Int32) (5 : Int32) (fun r3 => ((¬ r3 = 0 → (vp_in x1 6 ∧ (vp_in x3 6 ∧ ((((vt (x1.toNatClampNeg)) 0 0) = (-5 : Int32) → (Q (-11 : Int32) gt)) ∧ (¬ ((vt (x1.toNatClampNeg)) 0 0) = (-5 : Int32) → ((¬ ((vt (x3.toNatClampNeg)) 0 0) = (-5 : Int32) → ((((vt (x1.toNatClampNeg)) 0 0) = ((vt (x3.toNatClampNeg)) 0 0) → (pX6_hasPlaces (vt (x1.toNatClampNeg)) x2 x5 (fun r10 => ((r10 = 0 → (Q (-13 : Int32) gt)) ∧ (¬ r10 = 0 → (pX6_hasPlaces (vt (x3.toNatClampNeg)) x4 x5 (fun r12 => ((¬ r12 = 0 → ((¬ x2 < 0 ∧ ¬ x4 < 0 ∧ ¬ x5 < 0 ∧ x2.toNatClampNeg + x5.toNatClampNeg ≤ 60 ∧ x4.toNatClampNeg + x5.toNatClampNeg ≤ 60) ∧ (Q x5 (va_up gt (x3.toNatClampNeg) (sb (gt (x3.toNatClampNeg)) 1 (va_cpy ((gt (x1.toNatClampNeg)) 1) ((gt (x3.toNatClampNeg)) 1) x2.toNatClampNeg x4.toNatClampNeg x5.toNatClampNeg)))))) ∧ (r12 = 0 → (Q (-13 : Int32) gt)))))))))) ∧ (¬ ((vt (x1.toNatClampNeg)) 0 0) = ((vt (x3.toNatClampNeg)) 0 0) → (Q (-12 : Int32) gt)))) ∧ (((vt (x3.toNatClampNeg)) 0 0) = (-5 : Int32) → (Q (-11 : Int32) gt)))))))) ∧ (r3 = 0 → (Q (-1 : Int32) gt)))))))))
abbrev rmX9_shift : Room := { frames := 2, cells := 0, slots := 0, locals := 100 }
abbrev wdX9_shift : List Cond := Cond.code yX9_shift cX9_shift 8 (some .int) :: TB
theorem hdSX9_shift : (yX9_shift).cls ≠ "java/lang/invoke/MethodHandle" ∧ (yX9_shift).cls ≠ "java/lang/invoke/VarHandle" ∧ (parseMethodDescriptor (yX9_shift).desc).map (fun d => d.parameters.length) = some 5 := by decide +kernel
theorem hdX9_shift : (yX9_shift).cls = RX9 ∧ (yX9_shift).cls ≠ "java/lang/invoke/MethodHandle" ∧ (yX9_shift).cls ≠ "java/lang/invoke/VarHandle" ∧ (parseMethodDescriptor (yX9_shift).desc).map (fun d => d.parameters.length) = some 5 := ⟨rfl, hdSX9_shift⟩

set_option maxHeartbeats 4000000 in
set_option maxRecDepth 100000 in
theorem kX9_shift_0_0 {l : Launch} {D : va_G} {cI cJ cT : ClassId} (d : Nat → Nat) (dN : Nat → Nat) (dI : Nat → Nat) (dT : Nat → Nat) (dNc : Nat → Nat) (dNcj : Nat → Nat) (dNcs : Nat → Nat) (dNcp : Nat → Nat) (dNw : Nat → Nat) (dx : Nat → Nat) (dtt : Nat) (dt : Nat → Nat → Nat)  (v : Lf) (vt : Nat → Lf) (gt : Nat → Lg) (x2 : Int32) (x4 : Int32) (x5 : Int32) {Q : Int32 → (Nat → Lg) → Prop} (sz : Nat) (h : pX9_shift vt gt (nI 0) x2 (nI 0) x4 x5 Q) : Met l yX9_shift wdX9_shift rmX9_shift (Pz D (tyL cI cJ cT) [.ref (d 0), .int (nI 0), .int x2, .int (nI 0), .int x4, .int x5] ((wX9 d (dN 0) (dI 0) (dT 0) (dNc 0) (dNcj 0) (dNcs 0) (dNcp 0) (dNw 0) (dx 0) dtt v) ++ (wTT cJ cT dtt dt vt gt)) sz) (va_Qi (fun (r : Int32) (u : (Nat → Lg)) => Q r u) (Bz D (tyL cI cJ cT) ((wX9 d (dN 0) (dI 0) (dT 0) (dNc 0) (dNcj 0) (dNcs 0) (dNcp 0) (dNw 0) (dx 0) dtt v) ++ (wTT cJ cT dtt dt vt gt)) sz (fun (u : (Nat → Lg)) => ((wX9 d (dN 0) (dI 0) (dT 0) (dNc 0) (dNcj 0) (dNcs 0) (dNcp 0) (dNw 0) (dx 0) dtt v) ++ (wTT cJ cT dtt dt vt u)))) (va_A ((wX9 d (dN 0) (dI 0) (dT 0) (dNc 0) (dNcj 0) (dNcs 0) (dNcp 0) (dNw 0) (dx 0) dtt v) ++ (wTT cJ cT dtt dt vt gt)) sz)) 0 0 (va_A ((wX9 d (dN 0) (dI 0) (dT 0) (dNc 0) (dNcj 0) (dNcs 0) (dNcp 0) (dNw 0) (dx 0) dtt v) ++ (wTT cJ cT dtt dt vt gt)) sz) := by
  refine z_meti (cc := cX9_shift) (maxL := 8) (own := RX9) (lv0 := [(0, .ref (d 0)), (1, .int (nI 0)), (2, .int x2), (3, .int (nI 0)), (4, .int x4), (5, .int x5)]) (by decide) rfl rfl (Nat.le_of_ble_eq_true rfl) rfl ?_
  intro p e s m args below meth c A QQ C hin hret
  refine z_iload_n (pc := 0) C 1 dX9_shift_0 rfl ?_
  refine z_iconst (pc := 1) (v := 0) C dX9_shift_1 (by decide) ?_
  refine z_iconst (pc := 2) (v := 5) C dX9_shift_2 (by decide) ?_
  refine z_call0i (pc := 3) C (z_runS (pc := 3) (wc := ([] : va_W)) (As := [.int (nI 0), .int (0 : Int32), .int (5 : Int32)]) C (fun sz => kX9_within (nI 0) (0 : Int32) (5 : Int32) sz h) [] rfl (by decide) (gdS wq366 wq553 wq373 wq112) rfl rfl rfl hdSX9_within ⟨Nat.le_of_ble_eq_true rfl, Nat.le_of_ble_eq_true rfl⟩ rfl (Nat.le_of_ble_eq_true rfl) ⟨Nat.zero_le _, Nat.zero_le _⟩ dX9_shift_3) (fun r1 u1 h => ?_)
  refine z_if_eq (pc := 6) (tgt := 18) C dX9_shift_6 (by decide) (fun c2 => ?_) (fun c2 => ?_)
  · have h := h.1 c2
    refine z_iconst (pc := 18) (v := -1) C dX9_shift_18 (by decide) ?_
    exact hret 19 _ _ (-1 : Int32) gt rfl h dX9_shift_19
  · have h := h.2 c2
    refine z_iload_n (pc := 9) C 3 dX9_shift_9 rfl ?_
    refine z_iconst (pc := 10) (v := 0) C dX9_shift_10 (by decide) ?_
    refine z_iconst (pc := 11) (v := 5) C dX9_shift_11 (by decide) ?_
    refine z_call0i (pc := 12) C (z_runS (pc := 12) (wc := ([] : va_W)) (As := [.int (nI 0), .int (0 : Int32), .int (5 : Int32)]) C (fun sz => kX9_within (nI 0) (0 : Int32) (5 : Int32) sz h) [] rfl (by decide) (gdS wq366 wq553 wq373 wq112) rfl rfl rfl hdSX9_within ⟨Nat.le_of_ble_eq_true rfl, Nat.le_of_ble_eq_true rfl⟩ rfl (Nat.le_of_ble_eq_true rfl) ⟨Nat.zero_le _, Nat.zero_le _⟩ dX9_shift_12) (fun r3 u3 h => ?_)
    refine z_if_ne (pc := 15) (tgt := 20) C dX9_shift_15 (by decide) (fun c4 => ?_) (fun c4 => ?_)
    · have h := h.1 c4
      refine z_aload_n (pc := 20) C 0 dX9_shift_20 rfl ?_
      refine z_get (pc := 21) C uw9 0 rfl rfl 9 (by decide) wq544 rfl dX9_shift_21 ?_
      refine z_iload_n (pc := 24) C 1 dX9_shift_24 rfl ?_
      obtain ⟨g5, h⟩ := h
      refine z_aldq (pc := 25) C 1 2 rfl rfl g5 (.ref (dt 0 0)) rfl dX9_shift_25 ?_
      refine z_astore (pc := 26) (lv' := [(6, .ref (dt 0 0)), (0, .ref (d 0)), (1, .int (nI 0)), (2, .int x2), (3, .int (nI 0)), (4, .int x4), (5, .int x5)]) C dX9_shift_26 (by decide) rfl ?_
      refine z_aload_n (pc := 28) C 1 dX9_shift_28 rfl ?_
      refine z_get (pc := 29) C uw9 0 rfl rfl 9 (by decide) wq544 rfl dX9_shift_29 ?_
      refine z_iload_n (pc := 32) C 4 dX9_shift_32 rfl ?_
      obtain ⟨g6, h⟩ := h
      refine z_aldq (pc := 33) C 1 2 rfl rfl g6 (.ref (dt 0 0)) rfl dX9_shift_33 ?_
      refine z_astore (pc := 34) (lv' := [(7, .ref (dt 0 0)), (6, .ref (dt 0 0)), (0, .ref (d 0)), (1, .int (nI 0)), (2, .int x2), (3, .int (nI 0)), (4, .int x4), (5, .int x5)]) C dX9_shift_34 (by decide) rfl ?_
      refine z_aload (pc := 36) C 1 dX9_shift_36 rfl ?_
      refine z_get (pc := 38) C uw6 2 rfl rfl 0 (by decide) wq777 rfl dX9_shift_38 ?_
      refine z_bipush (pc := 41) (v := -5) C dX9_shift_41 (by decide) ?_
      refine z_icmp_eq (pc := 43) (tgt := 56) C dX9_shift_43 (by decide) (fun c7 => ?_) (fun c7 => ?_)
      · have h := h.1 c7
        refine z_bipush (pc := 56) (v := -11) C dX9_shift_56 (by decide) ?_
        exact hret 58 _ _ (-11 : Int32) gt rfl h dX9_shift_58
      · have h := h.2 c7
        refine z_aload (pc := 46) C 0 dX9_shift_46 rfl ?_
        refine z_get (pc := 48) C uw6 2 rfl rfl 0 (by decide) wq777 rfl dX9_shift_48 ?_
        refine z_bipush (pc := 51) (v := -5) C dX9_shift_51 (by decide) ?_
        refine z_icmp_ne (pc := 53) (tgt := 59) C dX9_shift_53 (by decide) (fun c8 => ?_) (fun c8 => ?_)
        · have h := h.1 c8
          refine z_aload (pc := 59) C 1 dX9_shift_59 rfl ?_
          refine z_get (pc := 61) C uw6 2 rfl rfl 0 (by decide) wq777 rfl dX9_shift_61 ?_
          refine z_aload (pc := 64) C 0 dX9_shift_64 rfl ?_
          refine z_get (pc := 66) C uw6 2 rfl rfl 0 (by decide) wq777 rfl dX9_shift_66 ?_
          refine z_icmp_eq (pc := 69) (tgt := 75) C dX9_shift_69 (by decide) (fun c9 => ?_) (fun c9 => ?_)
          · have h := h.1 c9
            refine z_aload (pc := 75) C 1 dX9_shift_75 rfl ?_
            refine z_iload_n (pc := 77) C 4 dX9_shift_77 rfl ?_
            refine z_iload (pc := 78) C 7 dX9_shift_78 rfl ?_
            refine z_callRi (pc := 80) C (z_runV (pc := 80) (wc := (wX6 cJ (dt 0) (vt 0) (gt 0))) (As := [.int x2, .int x5]) C (fun sz => kX6_hasPlaces (dt 0) (vt 0) (gt 0) x2 x5 sz h) [2, 3] rfl (by decide) (gdV wq414 wq805 wq806 wq807 wq546) rfl rfl rfl hdX6_hasPlaces 2 rfl rfl rfl ⟨Nat.le_of_ble_eq_true rfl, Nat.le_of_ble_eq_true rfl⟩ rfl (Nat.le_of_ble_eq_true rfl) ⟨Nat.zero_le _, Nat.zero_le _⟩ dX9_shift_80) [2, 3] rfl (by decide) (fun r10 u10 h => ?_)
            refine z_if_eq (pc := 83) (tgt := 98) C dX9_shift_83 (by decide) (fun c11 => ?_) (fun c11 => ?_)
            · have h := h.1 c11
              refine z_bipush (pc := 98) (v := -13) C dX9_shift_98 (by decide) ?_
              exact hret 100 _ _ (-13 : Int32) gt rfl h dX9_shift_100
            · have h := h.2 c11
              refine z_aload (pc := 86) C 0 dX9_shift_86 rfl ?_
              refine z_iload (pc := 88) C 6 dX9_shift_88 rfl ?_
              refine z_iload (pc := 90) C 7 dX9_shift_90 rfl ?_
              refine z_callRi (pc := 92) C (z_runV (pc := 92) (wc := (wX6 cJ (dt 0) (vt 0) (gt 0))) (As := [.int x4, .int x5]) C (fun sz => kX6_hasPlaces (dt 0) (vt 0) (gt 0) x4 x5 sz h) [2, 3] rfl (by decide) (gdV wq414 wq805 wq806 wq807 wq546) rfl rfl rfl hdX6_hasPlaces 2 rfl rfl rfl ⟨Nat.le_of_ble_eq_true rfl, Nat.le_of_ble_eq_true rfl⟩ rfl (Nat.le_of_ble_eq_true rfl) ⟨Nat.zero_le _, Nat.zero_le _⟩ dX9_shift_92) [2, 3] rfl (by decide) (fun r12 u12 h => ?_)
              refine z_if_ne (pc := 95) (tgt := 101) C dX9_shift_95 (by decide) (fun c13 => ?_) (fun c13 => ?_)
              · have h := h.1 c13
                refine z_aload (pc := 101) C 1 dX9_shift_101 rfl ?_
                refine z_get (pc := 103) C uw6 2 rfl rfl 2 (by decide) wq778 rfl dX9_shift_103 ?_
                refine z_iload_n (pc := 106) C 4 dX9_shift_106 rfl ?_
                refine z_aload (pc := 107) C 0 dX9_shift_107 rfl ?_
                refine z_get (pc := 109) C uw6 2 rfl rfl 2 (by decide) wq778 rfl dX9_shift_109 ?_
                refine z_iload (pc := 112) C 6 dX9_shift_112 rfl ?_
                refine z_iload (pc := 114) C 7 dX9_shift_114 rfl ?_
                obtain ⟨g14, h⟩ := h
                refine z_copyl (pc := 116) (ws' := ((wX9 d (dN 0) (dI 0) (dT 0) (dNc 0) (dNcj 0) (dNcs 0) (dNcp 0) (dNw 0) (dx 0) dtt v) ++ (wTT cJ cT dtt dt vt (va_up gt 0 (sb (gt 0) 1 (va_cpy ((gt 0) 1) ((gt 0) 1) x2.toNatClampNeg x4.toNatClampNeg x5.toNatClampNeg)))))) C wq804 wq65 wq66 wq67 3 3 1 rfl rfl rfl g14 (Nat.le_of_ble_eq_true rfl) (Nat.le_of_ble_eq_true rfl) dX9_shift_116 (set_r (k := 1) (i := 2) rfl sTT_c0) ?_
                refine z_iload (pc := 119) C 7 dX9_shift_119 rfl ?_
                exact hret 121 _ _ x5 (va_up gt 0 (sb (gt 0) 1 (va_cpy ((gt 0) 1) ((gt 0) 1) x2.toNatClampNeg x4.toNatClampNeg x5.toNatClampNeg))) rfl h dX9_shift_121
              · have h := h.2 c13
                refine z_bipush (pc := 98) (v := -13) C dX9_shift_98 (by decide) ?_
                exact hret 100 _ _ (-13 : Int32) gt rfl h dX9_shift_100
          · have h := h.2 c9
            refine z_bipush (pc := 72) (v := -12) C dX9_shift_72 (by decide) ?_
            exact hret 74 _ _ (-12 : Int32) gt rfl h dX9_shift_74
        · have h := h.2 c8
          refine z_bipush (pc := 56) (v := -11) C dX9_shift_56 (by decide) ?_
          exact hret 58 _ _ (-11 : Int32) gt rfl h dX9_shift_58
    · have h := h.2 c4
      refine z_iconst (pc := 18) (v := -1) C dX9_shift_18 (by decide) ?_
      exact hret 19 _ _ (-1 : Int32) gt rfl h dX9_shift_19

set_option maxHeartbeats 4000000 in
set_option maxRecDepth 100000 in
theorem kX9_shift_0_1 {l : Launch} {D : va_G} {cI cJ cT : ClassId} (d : Nat → Nat) (dN : Nat → Nat) (dI : Nat → Nat) (dT : Nat → Nat) (dNc : Nat → Nat) (dNcj : Nat → Nat) (dNcs : Nat → Nat) (dNcp : Nat → Nat) (dNw : Nat → Nat) (dx : Nat → Nat) (dtt : Nat) (dt : Nat → Nat → Nat)  (v : Lf) (vt : Nat → Lf) (gt : Nat → Lg) (x2 : Int32) (x4 : Int32) (x5 : Int32) {Q : Int32 → (Nat → Lg) → Prop} (sz : Nat) (h : pX9_shift vt gt (nI 0) x2 (nI 1) x4 x5 Q) : Met l yX9_shift wdX9_shift rmX9_shift (Pz D (tyL cI cJ cT) [.ref (d 0), .int (nI 0), .int x2, .int (nI 1), .int x4, .int x5] ((wX9 d (dN 0) (dI 0) (dT 0) (dNc 0) (dNcj 0) (dNcs 0) (dNcp 0) (dNw 0) (dx 0) dtt v) ++ (wTT cJ cT dtt dt vt gt)) sz) (va_Qi (fun (r : Int32) (u : (Nat → Lg)) => Q r u) (Bz D (tyL cI cJ cT) ((wX9 d (dN 0) (dI 0) (dT 0) (dNc 0) (dNcj 0) (dNcs 0) (dNcp 0) (dNw 0) (dx 0) dtt v) ++ (wTT cJ cT dtt dt vt gt)) sz (fun (u : (Nat → Lg)) => ((wX9 d (dN 0) (dI 0) (dT 0) (dNc 0) (dNcj 0) (dNcs 0) (dNcp 0) (dNw 0) (dx 0) dtt v) ++ (wTT cJ cT dtt dt vt u)))) (va_A ((wX9 d (dN 0) (dI 0) (dT 0) (dNc 0) (dNcj 0) (dNcs 0) (dNcp 0) (dNw 0) (dx 0) dtt v) ++ (wTT cJ cT dtt dt vt gt)) sz)) 0 0 (va_A ((wX9 d (dN 0) (dI 0) (dT 0) (dNc 0) (dNcj 0) (dNcs 0) (dNcp 0) (dNw 0) (dx 0) dtt v) ++ (wTT cJ cT dtt dt vt gt)) sz) := by
  refine z_meti (cc := cX9_shift) (maxL := 8) (own := RX9) (lv0 := [(0, .ref (d 0)), (1, .int (nI 0)), (2, .int x2), (3, .int (nI 1)), (4, .int x4), (5, .int x5)]) (by decide) rfl rfl (Nat.le_of_ble_eq_true rfl) rfl ?_
  intro p e s m args below meth c A QQ C hin hret
  refine z_iload_n (pc := 0) C 1 dX9_shift_0 rfl ?_
  refine z_iconst (pc := 1) (v := 0) C dX9_shift_1 (by decide) ?_
  refine z_iconst (pc := 2) (v := 5) C dX9_shift_2 (by decide) ?_
  refine z_call0i (pc := 3) C (z_runS (pc := 3) (wc := ([] : va_W)) (As := [.int (nI 0), .int (0 : Int32), .int (5 : Int32)]) C (fun sz => kX9_within (nI 0) (0 : Int32) (5 : Int32) sz h) [] rfl (by decide) (gdS wq366 wq553 wq373 wq112) rfl rfl rfl hdSX9_within ⟨Nat.le_of_ble_eq_true rfl, Nat.le_of_ble_eq_true rfl⟩ rfl (Nat.le_of_ble_eq_true rfl) ⟨Nat.zero_le _, Nat.zero_le _⟩ dX9_shift_3) (fun r1 u1 h => ?_)
  refine z_if_eq (pc := 6) (tgt := 18) C dX9_shift_6 (by decide) (fun c2 => ?_) (fun c2 => ?_)
  · have h := h.1 c2
    refine z_iconst (pc := 18) (v := -1) C dX9_shift_18 (by decide) ?_
    exact hret 19 _ _ (-1 : Int32) gt rfl h dX9_shift_19
  · have h := h.2 c2
    refine z_iload_n (pc := 9) C 3 dX9_shift_9 rfl ?_
    refine z_iconst (pc := 10) (v := 0) C dX9_shift_10 (by decide) ?_
    refine z_iconst (pc := 11) (v := 5) C dX9_shift_11 (by decide) ?_
    refine z_call0i (pc := 12) C (z_runS (pc := 12) (wc := ([] : va_W)) (As := [.int (nI 1), .int (0 : Int32), .int (5 : Int32)]) C (fun sz => kX9_within (nI 1) (0 : Int32) (5 : Int32) sz h) [] rfl (by decide) (gdS wq366 wq553 wq373 wq112) rfl rfl rfl hdSX9_within ⟨Nat.le_of_ble_eq_true rfl, Nat.le_of_ble_eq_true rfl⟩ rfl (Nat.le_of_ble_eq_true rfl) ⟨Nat.zero_le _, Nat.zero_le _⟩ dX9_shift_12) (fun r3 u3 h => ?_)
    refine z_if_ne (pc := 15) (tgt := 20) C dX9_shift_15 (by decide) (fun c4 => ?_) (fun c4 => ?_)
    · have h := h.1 c4
      refine z_aload_n (pc := 20) C 0 dX9_shift_20 rfl ?_
      refine z_get (pc := 21) C uw9 0 rfl rfl 9 (by decide) wq544 rfl dX9_shift_21 ?_
      refine z_iload_n (pc := 24) C 1 dX9_shift_24 rfl ?_
      obtain ⟨g5, h⟩ := h
      refine z_aldq (pc := 25) C 1 2 rfl rfl g5 (.ref (dt 0 0)) rfl dX9_shift_25 ?_
      refine z_astore (pc := 26) (lv' := [(6, .ref (dt 0 0)), (0, .ref (d 0)), (1, .int (nI 0)), (2, .int x2), (3, .int (nI 1)), (4, .int x4), (5, .int x5)]) C dX9_shift_26 (by decide) rfl ?_
      refine z_aload_n (pc := 28) C 1 dX9_shift_28 rfl ?_
      refine z_get (pc := 29) C uw9 0 rfl rfl 9 (by decide) wq544 rfl dX9_shift_29 ?_
      refine z_iload_n (pc := 32) C 4 dX9_shift_32 rfl ?_
      obtain ⟨g6, h⟩ := h
      refine z_aldq (pc := 33) C 1 2 rfl rfl g6 (.ref (dt 1 0)) rfl dX9_shift_33 ?_
      refine z_astore (pc := 34) (lv' := [(7, .ref (dt 1 0)), (6, .ref (dt 0 0)), (0, .ref (d 0)), (1, .int (nI 0)), (2, .int x2), (3, .int (nI 1)), (4, .int x4), (5, .int x5)]) C dX9_shift_34 (by decide) rfl ?_
      refine z_aload (pc := 36) C 1 dX9_shift_36 rfl ?_
      refine z_get (pc := 38) C uw6 2 rfl rfl 0 (by decide) wq777 rfl dX9_shift_38 ?_
      refine z_bipush (pc := 41) (v := -5) C dX9_shift_41 (by decide) ?_
      refine z_icmp_eq (pc := 43) (tgt := 56) C dX9_shift_43 (by decide) (fun c7 => ?_) (fun c7 => ?_)
      · have h := h.1 c7
        refine z_bipush (pc := 56) (v := -11) C dX9_shift_56 (by decide) ?_
        exact hret 58 _ _ (-11 : Int32) gt rfl h dX9_shift_58
      · have h := h.2 c7
        refine z_aload (pc := 46) C 0 dX9_shift_46 rfl ?_
        refine z_get (pc := 48) C uw6 4 rfl rfl 0 (by decide) wq777 rfl dX9_shift_48 ?_
        refine z_bipush (pc := 51) (v := -5) C dX9_shift_51 (by decide) ?_
        refine z_icmp_ne (pc := 53) (tgt := 59) C dX9_shift_53 (by decide) (fun c8 => ?_) (fun c8 => ?_)
        · have h := h.1 c8
          refine z_aload (pc := 59) C 1 dX9_shift_59 rfl ?_
          refine z_get (pc := 61) C uw6 2 rfl rfl 0 (by decide) wq777 rfl dX9_shift_61 ?_
          refine z_aload (pc := 64) C 0 dX9_shift_64 rfl ?_
          refine z_get (pc := 66) C uw6 4 rfl rfl 0 (by decide) wq777 rfl dX9_shift_66 ?_
          refine z_icmp_eq (pc := 69) (tgt := 75) C dX9_shift_69 (by decide) (fun c9 => ?_) (fun c9 => ?_)
          · have h := h.1 c9
            refine z_aload (pc := 75) C 1 dX9_shift_75 rfl ?_
            refine z_iload_n (pc := 77) C 4 dX9_shift_77 rfl ?_
            refine z_iload (pc := 78) C 7 dX9_shift_78 rfl ?_
            refine z_callRi (pc := 80) C (z_runV (pc := 80) (wc := (wX6 cJ (dt 0) (vt 0) (gt 0))) (As := [.int x2, .int x5]) C (fun sz => kX6_hasPlaces (dt 0) (vt 0) (gt 0) x2 x5 sz h) [2, 3] rfl (by decide) (gdV wq414 wq805 wq806 wq807 wq546) rfl rfl rfl hdX6_hasPlaces 2 rfl rfl rfl ⟨Nat.le_of_ble_eq_true rfl, Nat.le_of_ble_eq_true rfl⟩ rfl (Nat.le_of_ble_eq_true rfl) ⟨Nat.zero_le _, Nat.zero_le _⟩ dX9_shift_80) [2, 3] rfl (by decide) (fun r10 u10 h => ?_)
            refine z_if_eq (pc := 83) (tgt := 98) C dX9_shift_83 (by decide) (fun c11 => ?_) (fun c11 => ?_)
            · have h := h.1 c11
              refine z_bipush (pc := 98) (v := -13) C dX9_shift_98 (by decide) ?_
              exact hret 100 _ _ (-13 : Int32) gt rfl h dX9_shift_100
            · have h := h.2 c11
              refine z_aload (pc := 86) C 0 dX9_shift_86 rfl ?_
              refine z_iload (pc := 88) C 6 dX9_shift_88 rfl ?_
              refine z_iload (pc := 90) C 7 dX9_shift_90 rfl ?_
              refine z_callRi (pc := 92) C (z_runV (pc := 92) (wc := (wX6 cJ (dt 1) (vt 1) (gt 1))) (As := [.int x4, .int x5]) C (fun sz => kX6_hasPlaces (dt 1) (vt 1) (gt 1) x4 x5 sz h) [4, 5] rfl (by decide) (gdV wq414 wq805 wq806 wq807 wq546) rfl rfl rfl hdX6_hasPlaces 4 rfl rfl rfl ⟨Nat.le_of_ble_eq_true rfl, Nat.le_of_ble_eq_true rfl⟩ rfl (Nat.le_of_ble_eq_true rfl) ⟨Nat.zero_le _, Nat.zero_le _⟩ dX9_shift_92) [4, 5] rfl (by decide) (fun r12 u12 h => ?_)
              refine z_if_ne (pc := 95) (tgt := 101) C dX9_shift_95 (by decide) (fun c13 => ?_) (fun c13 => ?_)
              · have h := h.1 c13
                refine z_aload (pc := 101) C 1 dX9_shift_101 rfl ?_
                refine z_get (pc := 103) C uw6 2 rfl rfl 2 (by decide) wq778 rfl dX9_shift_103 ?_
                refine z_iload_n (pc := 106) C 4 dX9_shift_106 rfl ?_
                refine z_aload (pc := 107) C 0 dX9_shift_107 rfl ?_
                refine z_get (pc := 109) C uw6 4 rfl rfl 2 (by decide) wq778 rfl dX9_shift_109 ?_
                refine z_iload (pc := 112) C 6 dX9_shift_112 rfl ?_
                refine z_iload (pc := 114) C 7 dX9_shift_114 rfl ?_
                obtain ⟨g14, h⟩ := h
                refine z_copyl (pc := 116) (ws' := ((wX9 d (dN 0) (dI 0) (dT 0) (dNc 0) (dNcj 0) (dNcs 0) (dNcp 0) (dNw 0) (dx 0) dtt v) ++ (wTT cJ cT dtt dt vt (va_up gt 1 (sb (gt 1) 1 (va_cpy ((gt 0) 1) ((gt 1) 1) x2.toNatClampNeg x4.toNatClampNeg x5.toNatClampNeg)))))) C wq804 wq65 wq66 wq67 3 5 1 rfl rfl rfl g14 (Nat.le_of_ble_eq_true rfl) (Nat.le_of_ble_eq_true rfl) dX9_shift_116 (set_r (k := 1) (i := 4) rfl sTT_c1) ?_
                refine z_iload (pc := 119) C 7 dX9_shift_119 rfl ?_
                exact hret 121 _ _ x5 (va_up gt 1 (sb (gt 1) 1 (va_cpy ((gt 0) 1) ((gt 1) 1) x2.toNatClampNeg x4.toNatClampNeg x5.toNatClampNeg))) rfl h dX9_shift_121
              · have h := h.2 c13
                refine z_bipush (pc := 98) (v := -13) C dX9_shift_98 (by decide) ?_
                exact hret 100 _ _ (-13 : Int32) gt rfl h dX9_shift_100
          · have h := h.2 c9
            refine z_bipush (pc := 72) (v := -12) C dX9_shift_72 (by decide) ?_
            exact hret 74 _ _ (-12 : Int32) gt rfl h dX9_shift_74
        · have h := h.2 c8
          refine z_bipush (pc := 56) (v := -11) C dX9_shift_56 (by decide) ?_
          exact hret 58 _ _ (-11 : Int32) gt rfl h dX9_shift_58
    · have h := h.2 c4
      refine z_iconst (pc := 18) (v := -1) C dX9_shift_18 (by decide) ?_
      exact hret 19 _ _ (-1 : Int32) gt rfl h dX9_shift_19

set_option maxHeartbeats 4000000 in
set_option maxRecDepth 100000 in
theorem kX9_shift_0_2 {l : Launch} {D : va_G} {cI cJ cT : ClassId} (d : Nat → Nat) (dN : Nat → Nat) (dI : Nat → Nat) (dT : Nat → Nat) (dNc : Nat → Nat) (dNcj : Nat → Nat) (dNcs : Nat → Nat) (dNcp : Nat → Nat) (dNw : Nat → Nat) (dx : Nat → Nat) (dtt : Nat) (dt : Nat → Nat → Nat)  (v : Lf) (vt : Nat → Lf) (gt : Nat → Lg) (x2 : Int32) (x4 : Int32) (x5 : Int32) {Q : Int32 → (Nat → Lg) → Prop} (sz : Nat) (h : pX9_shift vt gt (nI 0) x2 (nI 2) x4 x5 Q) : Met l yX9_shift wdX9_shift rmX9_shift (Pz D (tyL cI cJ cT) [.ref (d 0), .int (nI 0), .int x2, .int (nI 2), .int x4, .int x5] ((wX9 d (dN 0) (dI 0) (dT 0) (dNc 0) (dNcj 0) (dNcs 0) (dNcp 0) (dNw 0) (dx 0) dtt v) ++ (wTT cJ cT dtt dt vt gt)) sz) (va_Qi (fun (r : Int32) (u : (Nat → Lg)) => Q r u) (Bz D (tyL cI cJ cT) ((wX9 d (dN 0) (dI 0) (dT 0) (dNc 0) (dNcj 0) (dNcs 0) (dNcp 0) (dNw 0) (dx 0) dtt v) ++ (wTT cJ cT dtt dt vt gt)) sz (fun (u : (Nat → Lg)) => ((wX9 d (dN 0) (dI 0) (dT 0) (dNc 0) (dNcj 0) (dNcs 0) (dNcp 0) (dNw 0) (dx 0) dtt v) ++ (wTT cJ cT dtt dt vt u)))) (va_A ((wX9 d (dN 0) (dI 0) (dT 0) (dNc 0) (dNcj 0) (dNcs 0) (dNcp 0) (dNw 0) (dx 0) dtt v) ++ (wTT cJ cT dtt dt vt gt)) sz)) 0 0 (va_A ((wX9 d (dN 0) (dI 0) (dT 0) (dNc 0) (dNcj 0) (dNcs 0) (dNcp 0) (dNw 0) (dx 0) dtt v) ++ (wTT cJ cT dtt dt vt gt)) sz) := by
  refine z_meti (cc := cX9_shift) (maxL := 8) (own := RX9) (lv0 := [(0, .ref (d 0)), (1, .int (nI 0)), (2, .int x2), (3, .int (nI 2)), (4, .int x4), (5, .int x5)]) (by decide) rfl rfl (Nat.le_of_ble_eq_true rfl) rfl ?_
  intro p e s m args below meth c A QQ C hin hret
  refine z_iload_n (pc := 0) C 1 dX9_shift_0 rfl ?_
  refine z_iconst (pc := 1) (v := 0) C dX9_shift_1 (by decide) ?_
  refine z_iconst (pc := 2) (v := 5) C dX9_shift_2 (by decide) ?_
  refine z_call0i (pc := 3) C (z_runS (pc := 3) (wc := ([] : va_W)) (As := [.int (nI 0), .int (0 : Int32), .int (5 : Int32)]) C (fun sz => kX9_within (nI 0) (0 : Int32) (5 : Int32) sz h) [] rfl (by decide) (gdS wq366 wq553 wq373 wq112) rfl rfl rfl hdSX9_within ⟨Nat.le_of_ble_eq_true rfl, Nat.le_of_ble_eq_true rfl⟩ rfl (Nat.le_of_ble_eq_true rfl) ⟨Nat.zero_le _, Nat.zero_le _⟩ dX9_shift_3) (fun r1 u1 h => ?_)
  refine z_if_eq (pc := 6) (tgt := 18) C dX9_shift_6 (by decide) (fun c2 => ?_) (fun c2 => ?_)
  · have h := h.1 c2
    refine z_iconst (pc := 18) (v := -1) C dX9_shift_18 (by decide) ?_
    exact hret 19 _ _ (-1 : Int32) gt rfl h dX9_shift_19
  · have h := h.2 c2
    refine z_iload_n (pc := 9) C 3 dX9_shift_9 rfl ?_
    refine z_iconst (pc := 10) (v := 0) C dX9_shift_10 (by decide) ?_
    refine z_iconst (pc := 11) (v := 5) C dX9_shift_11 (by decide) ?_
    refine z_call0i (pc := 12) C (z_runS (pc := 12) (wc := ([] : va_W)) (As := [.int (nI 2), .int (0 : Int32), .int (5 : Int32)]) C (fun sz => kX9_within (nI 2) (0 : Int32) (5 : Int32) sz h) [] rfl (by decide) (gdS wq366 wq553 wq373 wq112) rfl rfl rfl hdSX9_within ⟨Nat.le_of_ble_eq_true rfl, Nat.le_of_ble_eq_true rfl⟩ rfl (Nat.le_of_ble_eq_true rfl) ⟨Nat.zero_le _, Nat.zero_le _⟩ dX9_shift_12) (fun r3 u3 h => ?_)
    refine z_if_ne (pc := 15) (tgt := 20) C dX9_shift_15 (by decide) (fun c4 => ?_) (fun c4 => ?_)
    · have h := h.1 c4
      refine z_aload_n (pc := 20) C 0 dX9_shift_20 rfl ?_
      refine z_get (pc := 21) C uw9 0 rfl rfl 9 (by decide) wq544 rfl dX9_shift_21 ?_
      refine z_iload_n (pc := 24) C 1 dX9_shift_24 rfl ?_
      obtain ⟨g5, h⟩ := h
      refine z_aldq (pc := 25) C 1 2 rfl rfl g5 (.ref (dt 0 0)) rfl dX9_shift_25 ?_
      refine z_astore (pc := 26) (lv' := [(6, .ref (dt 0 0)), (0, .ref (d 0)), (1, .int (nI 0)), (2, .int x2), (3, .int (nI 2)), (4, .int x4), (5, .int x5)]) C dX9_shift_26 (by decide) rfl ?_
      refine z_aload_n (pc := 28) C 1 dX9_shift_28 rfl ?_
      refine z_get (pc := 29) C uw9 0 rfl rfl 9 (by decide) wq544 rfl dX9_shift_29 ?_
      refine z_iload_n (pc := 32) C 4 dX9_shift_32 rfl ?_
      obtain ⟨g6, h⟩ := h
      refine z_aldq (pc := 33) C 1 2 rfl rfl g6 (.ref (dt 2 0)) rfl dX9_shift_33 ?_
      refine z_astore (pc := 34) (lv' := [(7, .ref (dt 2 0)), (6, .ref (dt 0 0)), (0, .ref (d 0)), (1, .int (nI 0)), (2, .int x2), (3, .int (nI 2)), (4, .int x4), (5, .int x5)]) C dX9_shift_34 (by decide) rfl ?_
      refine z_aload (pc := 36) C 1 dX9_shift_36 rfl ?_
      refine z_get (pc := 38) C uw6 2 rfl rfl 0 (by decide) wq777 rfl dX9_shift_38 ?_
      refine z_bipush (pc := 41) (v := -5) C dX9_shift_41 (by decide) ?_
      refine z_icmp_eq (pc := 43) (tgt := 56) C dX9_shift_43 (by decide) (fun c7 => ?_) (fun c7 => ?_)
      · have h := h.1 c7
        refine z_bipush (pc := 56) (v := -11) C dX9_shift_56 (by decide) ?_
        exact hret 58 _ _ (-11 : Int32) gt rfl h dX9_shift_58
      · have h := h.2 c7
        refine z_aload (pc := 46) C 0 dX9_shift_46 rfl ?_
        refine z_get (pc := 48) C uw6 6 rfl rfl 0 (by decide) wq777 rfl dX9_shift_48 ?_
        refine z_bipush (pc := 51) (v := -5) C dX9_shift_51 (by decide) ?_
        refine z_icmp_ne (pc := 53) (tgt := 59) C dX9_shift_53 (by decide) (fun c8 => ?_) (fun c8 => ?_)
        · have h := h.1 c8
          refine z_aload (pc := 59) C 1 dX9_shift_59 rfl ?_
          refine z_get (pc := 61) C uw6 2 rfl rfl 0 (by decide) wq777 rfl dX9_shift_61 ?_
          refine z_aload (pc := 64) C 0 dX9_shift_64 rfl ?_
          refine z_get (pc := 66) C uw6 6 rfl rfl 0 (by decide) wq777 rfl dX9_shift_66 ?_
          refine z_icmp_eq (pc := 69) (tgt := 75) C dX9_shift_69 (by decide) (fun c9 => ?_) (fun c9 => ?_)
          · have h := h.1 c9
            refine z_aload (pc := 75) C 1 dX9_shift_75 rfl ?_
            refine z_iload_n (pc := 77) C 4 dX9_shift_77 rfl ?_
            refine z_iload (pc := 78) C 7 dX9_shift_78 rfl ?_
            refine z_callRi (pc := 80) C (z_runV (pc := 80) (wc := (wX6 cJ (dt 0) (vt 0) (gt 0))) (As := [.int x2, .int x5]) C (fun sz => kX6_hasPlaces (dt 0) (vt 0) (gt 0) x2 x5 sz h) [2, 3] rfl (by decide) (gdV wq414 wq805 wq806 wq807 wq546) rfl rfl rfl hdX6_hasPlaces 2 rfl rfl rfl ⟨Nat.le_of_ble_eq_true rfl, Nat.le_of_ble_eq_true rfl⟩ rfl (Nat.le_of_ble_eq_true rfl) ⟨Nat.zero_le _, Nat.zero_le _⟩ dX9_shift_80) [2, 3] rfl (by decide) (fun r10 u10 h => ?_)
            refine z_if_eq (pc := 83) (tgt := 98) C dX9_shift_83 (by decide) (fun c11 => ?_) (fun c11 => ?_)
            · have h := h.1 c11
              refine z_bipush (pc := 98) (v := -13) C dX9_shift_98 (by decide) ?_
              exact hret 100 _ _ (-13 : Int32) gt rfl h dX9_shift_100
            · have h := h.2 c11
              refine z_aload (pc := 86) C 0 dX9_shift_86 rfl ?_
              refine z_iload (pc := 88) C 6 dX9_shift_88 rfl ?_
              refine z_iload (pc := 90) C 7 dX9_shift_90 rfl ?_
              refine z_callRi (pc := 92) C (z_runV (pc := 92) (wc := (wX6 cJ (dt 2) (vt 2) (gt 2))) (As := [.int x4, .int x5]) C (fun sz => kX6_hasPlaces (dt 2) (vt 2) (gt 2) x4 x5 sz h) [6, 7] rfl (by decide) (gdV wq414 wq805 wq806 wq807 wq546) rfl rfl rfl hdX6_hasPlaces 6 rfl rfl rfl ⟨Nat.le_of_ble_eq_true rfl, Nat.le_of_ble_eq_true rfl⟩ rfl (Nat.le_of_ble_eq_true rfl) ⟨Nat.zero_le _, Nat.zero_le _⟩ dX9_shift_92) [6, 7] rfl (by decide) (fun r12 u12 h => ?_)
              refine z_if_ne (pc := 95) (tgt := 101) C dX9_shift_95 (by decide) (fun c13 => ?_) (fun c13 => ?_)
              · have h := h.1 c13
                refine z_aload (pc := 101) C 1 dX9_shift_101 rfl ?_
                refine z_get (pc := 103) C uw6 2 rfl rfl 2 (by decide) wq778 rfl dX9_shift_103 ?_
                refine z_iload_n (pc := 106) C 4 dX9_shift_106 rfl ?_
                refine z_aload (pc := 107) C 0 dX9_shift_107 rfl ?_
                refine z_get (pc := 109) C uw6 6 rfl rfl 2 (by decide) wq778 rfl dX9_shift_109 ?_
                refine z_iload (pc := 112) C 6 dX9_shift_112 rfl ?_
                refine z_iload (pc := 114) C 7 dX9_shift_114 rfl ?_
                obtain ⟨g14, h⟩ := h
                refine z_copyl (pc := 116) (ws' := ((wX9 d (dN 0) (dI 0) (dT 0) (dNc 0) (dNcj 0) (dNcs 0) (dNcp 0) (dNw 0) (dx 0) dtt v) ++ (wTT cJ cT dtt dt vt (va_up gt 2 (sb (gt 2) 1 (va_cpy ((gt 0) 1) ((gt 2) 1) x2.toNatClampNeg x4.toNatClampNeg x5.toNatClampNeg)))))) C wq804 wq65 wq66 wq67 3 7 1 rfl rfl rfl g14 (Nat.le_of_ble_eq_true rfl) (Nat.le_of_ble_eq_true rfl) dX9_shift_116 (set_r (k := 1) (i := 6) rfl sTT_c2) ?_
                refine z_iload (pc := 119) C 7 dX9_shift_119 rfl ?_
                exact hret 121 _ _ x5 (va_up gt 2 (sb (gt 2) 1 (va_cpy ((gt 0) 1) ((gt 2) 1) x2.toNatClampNeg x4.toNatClampNeg x5.toNatClampNeg))) rfl h dX9_shift_121
              · have h := h.2 c13
                refine z_bipush (pc := 98) (v := -13) C dX9_shift_98 (by decide) ?_
                exact hret 100 _ _ (-13 : Int32) gt rfl h dX9_shift_100
          · have h := h.2 c9
            refine z_bipush (pc := 72) (v := -12) C dX9_shift_72 (by decide) ?_
            exact hret 74 _ _ (-12 : Int32) gt rfl h dX9_shift_74
        · have h := h.2 c8
          refine z_bipush (pc := 56) (v := -11) C dX9_shift_56 (by decide) ?_
          exact hret 58 _ _ (-11 : Int32) gt rfl h dX9_shift_58
    · have h := h.2 c4
      refine z_iconst (pc := 18) (v := -1) C dX9_shift_18 (by decide) ?_
      exact hret 19 _ _ (-1 : Int32) gt rfl h dX9_shift_19

set_option maxHeartbeats 4000000 in
set_option maxRecDepth 100000 in
theorem kX9_shift_0_3 {l : Launch} {D : va_G} {cI cJ cT : ClassId} (d : Nat → Nat) (dN : Nat → Nat) (dI : Nat → Nat) (dT : Nat → Nat) (dNc : Nat → Nat) (dNcj : Nat → Nat) (dNcs : Nat → Nat) (dNcp : Nat → Nat) (dNw : Nat → Nat) (dx : Nat → Nat) (dtt : Nat) (dt : Nat → Nat → Nat)  (v : Lf) (vt : Nat → Lf) (gt : Nat → Lg) (x2 : Int32) (x4 : Int32) (x5 : Int32) {Q : Int32 → (Nat → Lg) → Prop} (sz : Nat) (h : pX9_shift vt gt (nI 0) x2 (nI 3) x4 x5 Q) : Met l yX9_shift wdX9_shift rmX9_shift (Pz D (tyL cI cJ cT) [.ref (d 0), .int (nI 0), .int x2, .int (nI 3), .int x4, .int x5] ((wX9 d (dN 0) (dI 0) (dT 0) (dNc 0) (dNcj 0) (dNcs 0) (dNcp 0) (dNw 0) (dx 0) dtt v) ++ (wTT cJ cT dtt dt vt gt)) sz) (va_Qi (fun (r : Int32) (u : (Nat → Lg)) => Q r u) (Bz D (tyL cI cJ cT) ((wX9 d (dN 0) (dI 0) (dT 0) (dNc 0) (dNcj 0) (dNcs 0) (dNcp 0) (dNw 0) (dx 0) dtt v) ++ (wTT cJ cT dtt dt vt gt)) sz (fun (u : (Nat → Lg)) => ((wX9 d (dN 0) (dI 0) (dT 0) (dNc 0) (dNcj 0) (dNcs 0) (dNcp 0) (dNw 0) (dx 0) dtt v) ++ (wTT cJ cT dtt dt vt u)))) (va_A ((wX9 d (dN 0) (dI 0) (dT 0) (dNc 0) (dNcj 0) (dNcs 0) (dNcp 0) (dNw 0) (dx 0) dtt v) ++ (wTT cJ cT dtt dt vt gt)) sz)) 0 0 (va_A ((wX9 d (dN 0) (dI 0) (dT 0) (dNc 0) (dNcj 0) (dNcs 0) (dNcp 0) (dNw 0) (dx 0) dtt v) ++ (wTT cJ cT dtt dt vt gt)) sz) := by
  refine z_meti (cc := cX9_shift) (maxL := 8) (own := RX9) (lv0 := [(0, .ref (d 0)), (1, .int (nI 0)), (2, .int x2), (3, .int (nI 3)), (4, .int x4), (5, .int x5)]) (by decide) rfl rfl (Nat.le_of_ble_eq_true rfl) rfl ?_
  intro p e s m args below meth c A QQ C hin hret
  refine z_iload_n (pc := 0) C 1 dX9_shift_0 rfl ?_
  refine z_iconst (pc := 1) (v := 0) C dX9_shift_1 (by decide) ?_
  refine z_iconst (pc := 2) (v := 5) C dX9_shift_2 (by decide) ?_
  refine z_call0i (pc := 3) C (z_runS (pc := 3) (wc := ([] : va_W)) (As := [.int (nI 0), .int (0 : Int32), .int (5 : Int32)]) C (fun sz => kX9_within (nI 0) (0 : Int32) (5 : Int32) sz h) [] rfl (by decide) (gdS wq366 wq553 wq373 wq112) rfl rfl rfl hdSX9_within ⟨Nat.le_of_ble_eq_true rfl, Nat.le_of_ble_eq_true rfl⟩ rfl (Nat.le_of_ble_eq_true rfl) ⟨Nat.zero_le _, Nat.zero_le _⟩ dX9_shift_3) (fun r1 u1 h => ?_)
  refine z_if_eq (pc := 6) (tgt := 18) C dX9_shift_6 (by decide) (fun c2 => ?_) (fun c2 => ?_)
  · have h := h.1 c2
    refine z_iconst (pc := 18) (v := -1) C dX9_shift_18 (by decide) ?_
    exact hret 19 _ _ (-1 : Int32) gt rfl h dX9_shift_19
  · have h := h.2 c2
    refine z_iload_n (pc := 9) C 3 dX9_shift_9 rfl ?_
    refine z_iconst (pc := 10) (v := 0) C dX9_shift_10 (by decide) ?_
    refine z_iconst (pc := 11) (v := 5) C dX9_shift_11 (by decide) ?_
    refine z_call0i (pc := 12) C (z_runS (pc := 12) (wc := ([] : va_W)) (As := [.int (nI 3), .int (0 : Int32), .int (5 : Int32)]) C (fun sz => kX9_within (nI 3) (0 : Int32) (5 : Int32) sz h) [] rfl (by decide) (gdS wq366 wq553 wq373 wq112) rfl rfl rfl hdSX9_within ⟨Nat.le_of_ble_eq_true rfl, Nat.le_of_ble_eq_true rfl⟩ rfl (Nat.le_of_ble_eq_true rfl) ⟨Nat.zero_le _, Nat.zero_le _⟩ dX9_shift_12) (fun r3 u3 h => ?_)
    refine z_if_ne (pc := 15) (tgt := 20) C dX9_shift_15 (by decide) (fun c4 => ?_) (fun c4 => ?_)
    · have h := h.1 c4
      refine z_aload_n (pc := 20) C 0 dX9_shift_20 rfl ?_
      refine z_get (pc := 21) C uw9 0 rfl rfl 9 (by decide) wq544 rfl dX9_shift_21 ?_
      refine z_iload_n (pc := 24) C 1 dX9_shift_24 rfl ?_
      obtain ⟨g5, h⟩ := h
      refine z_aldq (pc := 25) C 1 2 rfl rfl g5 (.ref (dt 0 0)) rfl dX9_shift_25 ?_
      refine z_astore (pc := 26) (lv' := [(6, .ref (dt 0 0)), (0, .ref (d 0)), (1, .int (nI 0)), (2, .int x2), (3, .int (nI 3)), (4, .int x4), (5, .int x5)]) C dX9_shift_26 (by decide) rfl ?_
      refine z_aload_n (pc := 28) C 1 dX9_shift_28 rfl ?_
      refine z_get (pc := 29) C uw9 0 rfl rfl 9 (by decide) wq544 rfl dX9_shift_29 ?_
      refine z_iload_n (pc := 32) C 4 dX9_shift_32 rfl ?_
      obtain ⟨g6, h⟩ := h
      refine z_aldq (pc := 33) C 1 2 rfl rfl g6 (.ref (dt 3 0)) rfl dX9_shift_33 ?_
      refine z_astore (pc := 34) (lv' := [(7, .ref (dt 3 0)), (6, .ref (dt 0 0)), (0, .ref (d 0)), (1, .int (nI 0)), (2, .int x2), (3, .int (nI 3)), (4, .int x4), (5, .int x5)]) C dX9_shift_34 (by decide) rfl ?_
      refine z_aload (pc := 36) C 1 dX9_shift_36 rfl ?_
      refine z_get (pc := 38) C uw6 2 rfl rfl 0 (by decide) wq777 rfl dX9_shift_38 ?_
      refine z_bipush (pc := 41) (v := -5) C dX9_shift_41 (by decide) ?_
      refine z_icmp_eq (pc := 43) (tgt := 56) C dX9_shift_43 (by decide) (fun c7 => ?_) (fun c7 => ?_)
      · have h := h.1 c7
        refine z_bipush (pc := 56) (v := -11) C dX9_shift_56 (by decide) ?_
        exact hret 58 _ _ (-11 : Int32) gt rfl h dX9_shift_58
      · have h := h.2 c7
        refine z_aload (pc := 46) C 0 dX9_shift_46 rfl ?_
        refine z_get (pc := 48) C uw6 8 rfl rfl 0 (by decide) wq777 rfl dX9_shift_48 ?_
        refine z_bipush (pc := 51) (v := -5) C dX9_shift_51 (by decide) ?_
        refine z_icmp_ne (pc := 53) (tgt := 59) C dX9_shift_53 (by decide) (fun c8 => ?_) (fun c8 => ?_)
        · have h := h.1 c8
          refine z_aload (pc := 59) C 1 dX9_shift_59 rfl ?_
          refine z_get (pc := 61) C uw6 2 rfl rfl 0 (by decide) wq777 rfl dX9_shift_61 ?_
          refine z_aload (pc := 64) C 0 dX9_shift_64 rfl ?_
          refine z_get (pc := 66) C uw6 8 rfl rfl 0 (by decide) wq777 rfl dX9_shift_66 ?_
          refine z_icmp_eq (pc := 69) (tgt := 75) C dX9_shift_69 (by decide) (fun c9 => ?_) (fun c9 => ?_)
          · have h := h.1 c9
            refine z_aload (pc := 75) C 1 dX9_shift_75 rfl ?_
            refine z_iload_n (pc := 77) C 4 dX9_shift_77 rfl ?_
            refine z_iload (pc := 78) C 7 dX9_shift_78 rfl ?_
            refine z_callRi (pc := 80) C (z_runV (pc := 80) (wc := (wX6 cJ (dt 0) (vt 0) (gt 0))) (As := [.int x2, .int x5]) C (fun sz => kX6_hasPlaces (dt 0) (vt 0) (gt 0) x2 x5 sz h) [2, 3] rfl (by decide) (gdV wq414 wq805 wq806 wq807 wq546) rfl rfl rfl hdX6_hasPlaces 2 rfl rfl rfl ⟨Nat.le_of_ble_eq_true rfl, Nat.le_of_ble_eq_true rfl⟩ rfl (Nat.le_of_ble_eq_true rfl) ⟨Nat.zero_le _, Nat.zero_le _⟩ dX9_shift_80) [2, 3] rfl (by decide) (fun r10 u10 h => ?_)
            refine z_if_eq (pc := 83) (tgt := 98) C dX9_shift_83 (by decide) (fun c11 => ?_) (fun c11 => ?_)
            · have h := h.1 c11
              refine z_bipush (pc := 98) (v := -13) C dX9_shift_98 (by decide) ?_
              exact hret 100 _ _ (-13 : Int32) gt rfl h dX9_shift_100
            · have h := h.2 c11
              refine z_aload (pc := 86) C 0 dX9_shift_86 rfl ?_
              refine z_iload (pc := 88) C 6 dX9_shift_88 rfl ?_
              refine z_iload (pc := 90) C 7 dX9_shift_90 rfl ?_
              refine z_callRi (pc := 92) C (z_runV (pc := 92) (wc := (wX6 cJ (dt 3) (vt 3) (gt 3))) (As := [.int x4, .int x5]) C (fun sz => kX6_hasPlaces (dt 3) (vt 3) (gt 3) x4 x5 sz h) [8, 9] rfl (by decide) (gdV wq414 wq805 wq806 wq807 wq546) rfl rfl rfl hdX6_hasPlaces 8 rfl rfl rfl ⟨Nat.le_of_ble_eq_true rfl, Nat.le_of_ble_eq_true rfl⟩ rfl (Nat.le_of_ble_eq_true rfl) ⟨Nat.zero_le _, Nat.zero_le _⟩ dX9_shift_92) [8, 9] rfl (by decide) (fun r12 u12 h => ?_)
              refine z_if_ne (pc := 95) (tgt := 101) C dX9_shift_95 (by decide) (fun c13 => ?_) (fun c13 => ?_)
              · have h := h.1 c13
                refine z_aload (pc := 101) C 1 dX9_shift_101 rfl ?_
                refine z_get (pc := 103) C uw6 2 rfl rfl 2 (by decide) wq778 rfl dX9_shift_103 ?_
                refine z_iload_n (pc := 106) C 4 dX9_shift_106 rfl ?_
                refine z_aload (pc := 107) C 0 dX9_shift_107 rfl ?_
                refine z_get (pc := 109) C uw6 8 rfl rfl 2 (by decide) wq778 rfl dX9_shift_109 ?_
                refine z_iload (pc := 112) C 6 dX9_shift_112 rfl ?_
                refine z_iload (pc := 114) C 7 dX9_shift_114 rfl ?_
                obtain ⟨g14, h⟩ := h
                refine z_copyl (pc := 116) (ws' := ((wX9 d (dN 0) (dI 0) (dT 0) (dNc 0) (dNcj 0) (dNcs 0) (dNcp 0) (dNw 0) (dx 0) dtt v) ++ (wTT cJ cT dtt dt vt (va_up gt 3 (sb (gt 3) 1 (va_cpy ((gt 0) 1) ((gt 3) 1) x2.toNatClampNeg x4.toNatClampNeg x5.toNatClampNeg)))))) C wq804 wq65 wq66 wq67 3 9 1 rfl rfl rfl g14 (Nat.le_of_ble_eq_true rfl) (Nat.le_of_ble_eq_true rfl) dX9_shift_116 (set_r (k := 1) (i := 8) rfl sTT_c3) ?_
                refine z_iload (pc := 119) C 7 dX9_shift_119 rfl ?_
                exact hret 121 _ _ x5 (va_up gt 3 (sb (gt 3) 1 (va_cpy ((gt 0) 1) ((gt 3) 1) x2.toNatClampNeg x4.toNatClampNeg x5.toNatClampNeg))) rfl h dX9_shift_121
              · have h := h.2 c13
                refine z_bipush (pc := 98) (v := -13) C dX9_shift_98 (by decide) ?_
                exact hret 100 _ _ (-13 : Int32) gt rfl h dX9_shift_100
          · have h := h.2 c9
            refine z_bipush (pc := 72) (v := -12) C dX9_shift_72 (by decide) ?_
            exact hret 74 _ _ (-12 : Int32) gt rfl h dX9_shift_74
        · have h := h.2 c8
          refine z_bipush (pc := 56) (v := -11) C dX9_shift_56 (by decide) ?_
          exact hret 58 _ _ (-11 : Int32) gt rfl h dX9_shift_58
    · have h := h.2 c4
      refine z_iconst (pc := 18) (v := -1) C dX9_shift_18 (by decide) ?_
      exact hret 19 _ _ (-1 : Int32) gt rfl h dX9_shift_19

set_option maxHeartbeats 4000000 in
set_option maxRecDepth 100000 in
theorem kX9_shift_0_4 {l : Launch} {D : va_G} {cI cJ cT : ClassId} (d : Nat → Nat) (dN : Nat → Nat) (dI : Nat → Nat) (dT : Nat → Nat) (dNc : Nat → Nat) (dNcj : Nat → Nat) (dNcs : Nat → Nat) (dNcp : Nat → Nat) (dNw : Nat → Nat) (dx : Nat → Nat) (dtt : Nat) (dt : Nat → Nat → Nat)  (v : Lf) (vt : Nat → Lf) (gt : Nat → Lg) (x2 : Int32) (x4 : Int32) (x5 : Int32) {Q : Int32 → (Nat → Lg) → Prop} (sz : Nat) (h : pX9_shift vt gt (nI 0) x2 (nI 4) x4 x5 Q) : Met l yX9_shift wdX9_shift rmX9_shift (Pz D (tyL cI cJ cT) [.ref (d 0), .int (nI 0), .int x2, .int (nI 4), .int x4, .int x5] ((wX9 d (dN 0) (dI 0) (dT 0) (dNc 0) (dNcj 0) (dNcs 0) (dNcp 0) (dNw 0) (dx 0) dtt v) ++ (wTT cJ cT dtt dt vt gt)) sz) (va_Qi (fun (r : Int32) (u : (Nat → Lg)) => Q r u) (Bz D (tyL cI cJ cT) ((wX9 d (dN 0) (dI 0) (dT 0) (dNc 0) (dNcj 0) (dNcs 0) (dNcp 0) (dNw 0) (dx 0) dtt v) ++ (wTT cJ cT dtt dt vt gt)) sz (fun (u : (Nat → Lg)) => ((wX9 d (dN 0) (dI 0) (dT 0) (dNc 0) (dNcj 0) (dNcs 0) (dNcp 0) (dNw 0) (dx 0) dtt v) ++ (wTT cJ cT dtt dt vt u)))) (va_A ((wX9 d (dN 0) (dI 0) (dT 0) (dNc 0) (dNcj 0) (dNcs 0) (dNcp 0) (dNw 0) (dx 0) dtt v) ++ (wTT cJ cT dtt dt vt gt)) sz)) 0 0 (va_A ((wX9 d (dN 0) (dI 0) (dT 0) (dNc 0) (dNcj 0) (dNcs 0) (dNcp 0) (dNw 0) (dx 0) dtt v) ++ (wTT cJ cT dtt dt vt gt)) sz) := by
  refine z_meti (cc := cX9_shift) (maxL := 8) (own := RX9) (lv0 := [(0, .ref (d 0)), (1, .int (nI 0)), (2, .int x2), (3, .int (nI 4)), (4, .int x4), (5, .int x5)]) (by decide) rfl rfl (Nat.le_of_ble_eq_true rfl) rfl ?_
  intro p e s m args below meth c A QQ C hin hret
  refine z_iload_n (pc := 0) C 1 dX9_shift_0 rfl ?_
  refine z_iconst (pc := 1) (v := 0) C dX9_shift_1 (by decide) ?_
  refine z_iconst (pc := 2) (v := 5) C dX9_shift_2 (by decide) ?_
  refine z_call0i (pc := 3) C (z_runS (pc := 3) (wc := ([] : va_W)) (As := [.int (nI 0), .int (0 : Int32), .int (5 : Int32)]) C (fun sz => kX9_within (nI 0) (0 : Int32) (5 : Int32) sz h) [] rfl (by decide) (gdS wq366 wq553 wq373 wq112) rfl rfl rfl hdSX9_within ⟨Nat.le_of_ble_eq_true rfl, Nat.le_of_ble_eq_true rfl⟩ rfl (Nat.le_of_ble_eq_true rfl) ⟨Nat.zero_le _, Nat.zero_le _⟩ dX9_shift_3) (fun r1 u1 h => ?_)
  refine z_if_eq (pc := 6) (tgt := 18) C dX9_shift_6 (by decide) (fun c2 => ?_) (fun c2 => ?_)
  · have h := h.1 c2
    refine z_iconst (pc := 18) (v := -1) C dX9_shift_18 (by decide) ?_
    exact hret 19 _ _ (-1 : Int32) gt rfl h dX9_shift_19
  · have h := h.2 c2
    refine z_iload_n (pc := 9) C 3 dX9_shift_9 rfl ?_
    refine z_iconst (pc := 10) (v := 0) C dX9_shift_10 (by decide) ?_
    refine z_iconst (pc := 11) (v := 5) C dX9_shift_11 (by decide) ?_
    refine z_call0i (pc := 12) C (z_runS (pc := 12) (wc := ([] : va_W)) (As := [.int (nI 4), .int (0 : Int32), .int (5 : Int32)]) C (fun sz => kX9_within (nI 4) (0 : Int32) (5 : Int32) sz h) [] rfl (by decide) (gdS wq366 wq553 wq373 wq112) rfl rfl rfl hdSX9_within ⟨Nat.le_of_ble_eq_true rfl, Nat.le_of_ble_eq_true rfl⟩ rfl (Nat.le_of_ble_eq_true rfl) ⟨Nat.zero_le _, Nat.zero_le _⟩ dX9_shift_12) (fun r3 u3 h => ?_)
    refine z_if_ne (pc := 15) (tgt := 20) C dX9_shift_15 (by decide) (fun c4 => ?_) (fun c4 => ?_)
    · have h := h.1 c4
      refine z_aload_n (pc := 20) C 0 dX9_shift_20 rfl ?_
      refine z_get (pc := 21) C uw9 0 rfl rfl 9 (by decide) wq544 rfl dX9_shift_21 ?_
      refine z_iload_n (pc := 24) C 1 dX9_shift_24 rfl ?_
      obtain ⟨g5, h⟩ := h
      refine z_aldq (pc := 25) C 1 2 rfl rfl g5 (.ref (dt 0 0)) rfl dX9_shift_25 ?_
      refine z_astore (pc := 26) (lv' := [(6, .ref (dt 0 0)), (0, .ref (d 0)), (1, .int (nI 0)), (2, .int x2), (3, .int (nI 4)), (4, .int x4), (5, .int x5)]) C dX9_shift_26 (by decide) rfl ?_
      refine z_aload_n (pc := 28) C 1 dX9_shift_28 rfl ?_
      refine z_get (pc := 29) C uw9 0 rfl rfl 9 (by decide) wq544 rfl dX9_shift_29 ?_
      refine z_iload_n (pc := 32) C 4 dX9_shift_32 rfl ?_
      obtain ⟨g6, h⟩ := h
      refine z_aldq (pc := 33) C 1 2 rfl rfl g6 (.ref (dt 4 0)) rfl dX9_shift_33 ?_
      refine z_astore (pc := 34) (lv' := [(7, .ref (dt 4 0)), (6, .ref (dt 0 0)), (0, .ref (d 0)), (1, .int (nI 0)), (2, .int x2), (3, .int (nI 4)), (4, .int x4), (5, .int x5)]) C dX9_shift_34 (by decide) rfl ?_
      refine z_aload (pc := 36) C 1 dX9_shift_36 rfl ?_
      refine z_get (pc := 38) C uw6 2 rfl rfl 0 (by decide) wq777 rfl dX9_shift_38 ?_
      refine z_bipush (pc := 41) (v := -5) C dX9_shift_41 (by decide) ?_
      refine z_icmp_eq (pc := 43) (tgt := 56) C dX9_shift_43 (by decide) (fun c7 => ?_) (fun c7 => ?_)
      · have h := h.1 c7
        refine z_bipush (pc := 56) (v := -11) C dX9_shift_56 (by decide) ?_
        exact hret 58 _ _ (-11 : Int32) gt rfl h dX9_shift_58
      · have h := h.2 c7
        refine z_aload (pc := 46) C 0 dX9_shift_46 rfl ?_
        refine z_get (pc := 48) C uw6 10 rfl rfl 0 (by decide) wq777 rfl dX9_shift_48 ?_
        refine z_bipush (pc := 51) (v := -5) C dX9_shift_51 (by decide) ?_
        refine z_icmp_ne (pc := 53) (tgt := 59) C dX9_shift_53 (by decide) (fun c8 => ?_) (fun c8 => ?_)
        · have h := h.1 c8
          refine z_aload (pc := 59) C 1 dX9_shift_59 rfl ?_
          refine z_get (pc := 61) C uw6 2 rfl rfl 0 (by decide) wq777 rfl dX9_shift_61 ?_
          refine z_aload (pc := 64) C 0 dX9_shift_64 rfl ?_
          refine z_get (pc := 66) C uw6 10 rfl rfl 0 (by decide) wq777 rfl dX9_shift_66 ?_
          refine z_icmp_eq (pc := 69) (tgt := 75) C dX9_shift_69 (by decide) (fun c9 => ?_) (fun c9 => ?_)
          · have h := h.1 c9
            refine z_aload (pc := 75) C 1 dX9_shift_75 rfl ?_
            refine z_iload_n (pc := 77) C 4 dX9_shift_77 rfl ?_
            refine z_iload (pc := 78) C 7 dX9_shift_78 rfl ?_
            refine z_callRi (pc := 80) C (z_runV (pc := 80) (wc := (wX6 cJ (dt 0) (vt 0) (gt 0))) (As := [.int x2, .int x5]) C (fun sz => kX6_hasPlaces (dt 0) (vt 0) (gt 0) x2 x5 sz h) [2, 3] rfl (by decide) (gdV wq414 wq805 wq806 wq807 wq546) rfl rfl rfl hdX6_hasPlaces 2 rfl rfl rfl ⟨Nat.le_of_ble_eq_true rfl, Nat.le_of_ble_eq_true rfl⟩ rfl (Nat.le_of_ble_eq_true rfl) ⟨Nat.zero_le _, Nat.zero_le _⟩ dX9_shift_80) [2, 3] rfl (by decide) (fun r10 u10 h => ?_)
            refine z_if_eq (pc := 83) (tgt := 98) C dX9_shift_83 (by decide) (fun c11 => ?_) (fun c11 => ?_)
            · have h := h.1 c11
              refine z_bipush (pc := 98) (v := -13) C dX9_shift_98 (by decide) ?_
              exact hret 100 _ _ (-13 : Int32) gt rfl h dX9_shift_100
            · have h := h.2 c11
              refine z_aload (pc := 86) C 0 dX9_shift_86 rfl ?_
              refine z_iload (pc := 88) C 6 dX9_shift_88 rfl ?_
              refine z_iload (pc := 90) C 7 dX9_shift_90 rfl ?_
              refine z_callRi (pc := 92) C (z_runV (pc := 92) (wc := (wX6 cJ (dt 4) (vt 4) (gt 4))) (As := [.int x4, .int x5]) C (fun sz => kX6_hasPlaces (dt 4) (vt 4) (gt 4) x4 x5 sz h) [10, 11] rfl (by decide) (gdV wq414 wq805 wq806 wq807 wq546) rfl rfl rfl hdX6_hasPlaces 10 rfl rfl rfl ⟨Nat.le_of_ble_eq_true rfl, Nat.le_of_ble_eq_true rfl⟩ rfl (Nat.le_of_ble_eq_true rfl) ⟨Nat.zero_le _, Nat.zero_le _⟩ dX9_shift_92) [10, 11] rfl (by decide) (fun r12 u12 h => ?_)
              refine z_if_ne (pc := 95) (tgt := 101) C dX9_shift_95 (by decide) (fun c13 => ?_) (fun c13 => ?_)
              · have h := h.1 c13
                refine z_aload (pc := 101) C 1 dX9_shift_101 rfl ?_
                refine z_get (pc := 103) C uw6 2 rfl rfl 2 (by decide) wq778 rfl dX9_shift_103 ?_
                refine z_iload_n (pc := 106) C 4 dX9_shift_106 rfl ?_
                refine z_aload (pc := 107) C 0 dX9_shift_107 rfl ?_
                refine z_get (pc := 109) C uw6 10 rfl rfl 2 (by decide) wq778 rfl dX9_shift_109 ?_
                refine z_iload (pc := 112) C 6 dX9_shift_112 rfl ?_
                refine z_iload (pc := 114) C 7 dX9_shift_114 rfl ?_
                obtain ⟨g14, h⟩ := h
                refine z_copyl (pc := 116) (ws' := ((wX9 d (dN 0) (dI 0) (dT 0) (dNc 0) (dNcj 0) (dNcs 0) (dNcp 0) (dNw 0) (dx 0) dtt v) ++ (wTT cJ cT dtt dt vt (va_up gt 4 (sb (gt 4) 1 (va_cpy ((gt 0) 1) ((gt 4) 1) x2.toNatClampNeg x4.toNatClampNeg x5.toNatClampNeg)))))) C wq804 wq65 wq66 wq67 3 11 1 rfl rfl rfl g14 (Nat.le_of_ble_eq_true rfl) (Nat.le_of_ble_eq_true rfl) dX9_shift_116 (set_r (k := 1) (i := 10) rfl sTT_c4) ?_
                refine z_iload (pc := 119) C 7 dX9_shift_119 rfl ?_
                exact hret 121 _ _ x5 (va_up gt 4 (sb (gt 4) 1 (va_cpy ((gt 0) 1) ((gt 4) 1) x2.toNatClampNeg x4.toNatClampNeg x5.toNatClampNeg))) rfl h dX9_shift_121
              · have h := h.2 c13
                refine z_bipush (pc := 98) (v := -13) C dX9_shift_98 (by decide) ?_
                exact hret 100 _ _ (-13 : Int32) gt rfl h dX9_shift_100
          · have h := h.2 c9
            refine z_bipush (pc := 72) (v := -12) C dX9_shift_72 (by decide) ?_
            exact hret 74 _ _ (-12 : Int32) gt rfl h dX9_shift_74
        · have h := h.2 c8
          refine z_bipush (pc := 56) (v := -11) C dX9_shift_56 (by decide) ?_
          exact hret 58 _ _ (-11 : Int32) gt rfl h dX9_shift_58
    · have h := h.2 c4
      refine z_iconst (pc := 18) (v := -1) C dX9_shift_18 (by decide) ?_
      exact hret 19 _ _ (-1 : Int32) gt rfl h dX9_shift_19

set_option maxHeartbeats 4000000 in
set_option maxRecDepth 100000 in
theorem kX9_shift_0_5 {l : Launch} {D : va_G} {cI cJ cT : ClassId} (d : Nat → Nat) (dN : Nat → Nat) (dI : Nat → Nat) (dT : Nat → Nat) (dNc : Nat → Nat) (dNcj : Nat → Nat) (dNcs : Nat → Nat) (dNcp : Nat → Nat) (dNw : Nat → Nat) (dx : Nat → Nat) (dtt : Nat) (dt : Nat → Nat → Nat)  (v : Lf) (vt : Nat → Lf) (gt : Nat → Lg) (x2 : Int32) (x4 : Int32) (x5 : Int32) {Q : Int32 → (Nat → Lg) → Prop} (sz : Nat) (h : pX9_shift vt gt (nI 0) x2 (nI 5) x4 x5 Q) : Met l yX9_shift wdX9_shift rmX9_shift (Pz D (tyL cI cJ cT) [.ref (d 0), .int (nI 0), .int x2, .int (nI 5), .int x4, .int x5] ((wX9 d (dN 0) (dI 0) (dT 0) (dNc 0) (dNcj 0) (dNcs 0) (dNcp 0) (dNw 0) (dx 0) dtt v) ++ (wTT cJ cT dtt dt vt gt)) sz) (va_Qi (fun (r : Int32) (u : (Nat → Lg)) => Q r u) (Bz D (tyL cI cJ cT) ((wX9 d (dN 0) (dI 0) (dT 0) (dNc 0) (dNcj 0) (dNcs 0) (dNcp 0) (dNw 0) (dx 0) dtt v) ++ (wTT cJ cT dtt dt vt gt)) sz (fun (u : (Nat → Lg)) => ((wX9 d (dN 0) (dI 0) (dT 0) (dNc 0) (dNcj 0) (dNcs 0) (dNcp 0) (dNw 0) (dx 0) dtt v) ++ (wTT cJ cT dtt dt vt u)))) (va_A ((wX9 d (dN 0) (dI 0) (dT 0) (dNc 0) (dNcj 0) (dNcs 0) (dNcp 0) (dNw 0) (dx 0) dtt v) ++ (wTT cJ cT dtt dt vt gt)) sz)) 0 0 (va_A ((wX9 d (dN 0) (dI 0) (dT 0) (dNc 0) (dNcj 0) (dNcs 0) (dNcp 0) (dNw 0) (dx 0) dtt v) ++ (wTT cJ cT dtt dt vt gt)) sz) := by
  refine z_meti (cc := cX9_shift) (maxL := 8) (own := RX9) (lv0 := [(0, .ref (d 0)), (1, .int (nI 0)), (2, .int x2), (3, .int (nI 5)), (4, .int x4), (5, .int x5)]) (by decide) rfl rfl (Nat.le_of_ble_eq_true rfl) rfl ?_
  intro p e s m args below meth c A QQ C hin hret
  refine z_iload_n (pc := 0) C 1 dX9_shift_0 rfl ?_
  refine z_iconst (pc := 1) (v := 0) C dX9_shift_1 (by decide) ?_
  refine z_iconst (pc := 2) (v := 5) C dX9_shift_2 (by decide) ?_
  refine z_call0i (pc := 3) C (z_runS (pc := 3) (wc := ([] : va_W)) (As := [.int (nI 0), .int (0 : Int32), .int (5 : Int32)]) C (fun sz => kX9_within (nI 0) (0 : Int32) (5 : Int32) sz h) [] rfl (by decide) (gdS wq366 wq553 wq373 wq112) rfl rfl rfl hdSX9_within ⟨Nat.le_of_ble_eq_true rfl, Nat.le_of_ble_eq_true rfl⟩ rfl (Nat.le_of_ble_eq_true rfl) ⟨Nat.zero_le _, Nat.zero_le _⟩ dX9_shift_3) (fun r1 u1 h => ?_)
  refine z_if_eq (pc := 6) (tgt := 18) C dX9_shift_6 (by decide) (fun c2 => ?_) (fun c2 => ?_)
  · have h := h.1 c2
    refine z_iconst (pc := 18) (v := -1) C dX9_shift_18 (by decide) ?_
    exact hret 19 _ _ (-1 : Int32) gt rfl h dX9_shift_19
  · have h := h.2 c2
    refine z_iload_n (pc := 9) C 3 dX9_shift_9 rfl ?_
    refine z_iconst (pc := 10) (v := 0) C dX9_shift_10 (by decide) ?_
    refine z_iconst (pc := 11) (v := 5) C dX9_shift_11 (by decide) ?_
    refine z_call0i (pc := 12) C (z_runS (pc := 12) (wc := ([] : va_W)) (As := [.int (nI 5), .int (0 : Int32), .int (5 : Int32)]) C (fun sz => kX9_within (nI 5) (0 : Int32) (5 : Int32) sz h) [] rfl (by decide) (gdS wq366 wq553 wq373 wq112) rfl rfl rfl hdSX9_within ⟨Nat.le_of_ble_eq_true rfl, Nat.le_of_ble_eq_true rfl⟩ rfl (Nat.le_of_ble_eq_true rfl) ⟨Nat.zero_le _, Nat.zero_le _⟩ dX9_shift_12) (fun r3 u3 h => ?_)
    refine z_if_ne (pc := 15) (tgt := 20) C dX9_shift_15 (by decide) (fun c4 => ?_) (fun c4 => ?_)
    · have h := h.1 c4
      refine z_aload_n (pc := 20) C 0 dX9_shift_20 rfl ?_
      refine z_get (pc := 21) C uw9 0 rfl rfl 9 (by decide) wq544 rfl dX9_shift_21 ?_
      refine z_iload_n (pc := 24) C 1 dX9_shift_24 rfl ?_
      obtain ⟨g5, h⟩ := h
      refine z_aldq (pc := 25) C 1 2 rfl rfl g5 (.ref (dt 0 0)) rfl dX9_shift_25 ?_
      refine z_astore (pc := 26) (lv' := [(6, .ref (dt 0 0)), (0, .ref (d 0)), (1, .int (nI 0)), (2, .int x2), (3, .int (nI 5)), (4, .int x4), (5, .int x5)]) C dX9_shift_26 (by decide) rfl ?_
      refine z_aload_n (pc := 28) C 1 dX9_shift_28 rfl ?_
      refine z_get (pc := 29) C uw9 0 rfl rfl 9 (by decide) wq544 rfl dX9_shift_29 ?_
      refine z_iload_n (pc := 32) C 4 dX9_shift_32 rfl ?_
      obtain ⟨g6, h⟩ := h
      refine z_aldq (pc := 33) C 1 2 rfl rfl g6 (.ref (dt 5 0)) rfl dX9_shift_33 ?_
      refine z_astore (pc := 34) (lv' := [(7, .ref (dt 5 0)), (6, .ref (dt 0 0)), (0, .ref (d 0)), (1, .int (nI 0)), (2, .int x2), (3, .int (nI 5)), (4, .int x4), (5, .int x5)]) C dX9_shift_34 (by decide) rfl ?_
      refine z_aload (pc := 36) C 1 dX9_shift_36 rfl ?_
      refine z_get (pc := 38) C uw6 2 rfl rfl 0 (by decide) wq777 rfl dX9_shift_38 ?_
      refine z_bipush (pc := 41) (v := -5) C dX9_shift_41 (by decide) ?_
      refine z_icmp_eq (pc := 43) (tgt := 56) C dX9_shift_43 (by decide) (fun c7 => ?_) (fun c7 => ?_)
      · have h := h.1 c7
        refine z_bipush (pc := 56) (v := -11) C dX9_shift_56 (by decide) ?_
        exact hret 58 _ _ (-11 : Int32) gt rfl h dX9_shift_58
      · have h := h.2 c7
        refine z_aload (pc := 46) C 0 dX9_shift_46 rfl ?_
        refine z_get (pc := 48) C uw6 12 rfl rfl 0 (by decide) wq777 rfl dX9_shift_48 ?_
        refine z_bipush (pc := 51) (v := -5) C dX9_shift_51 (by decide) ?_
        refine z_icmp_ne (pc := 53) (tgt := 59) C dX9_shift_53 (by decide) (fun c8 => ?_) (fun c8 => ?_)
        · have h := h.1 c8
          refine z_aload (pc := 59) C 1 dX9_shift_59 rfl ?_
          refine z_get (pc := 61) C uw6 2 rfl rfl 0 (by decide) wq777 rfl dX9_shift_61 ?_
          refine z_aload (pc := 64) C 0 dX9_shift_64 rfl ?_
          refine z_get (pc := 66) C uw6 12 rfl rfl 0 (by decide) wq777 rfl dX9_shift_66 ?_
          refine z_icmp_eq (pc := 69) (tgt := 75) C dX9_shift_69 (by decide) (fun c9 => ?_) (fun c9 => ?_)
          · have h := h.1 c9
            refine z_aload (pc := 75) C 1 dX9_shift_75 rfl ?_
            refine z_iload_n (pc := 77) C 4 dX9_shift_77 rfl ?_
            refine z_iload (pc := 78) C 7 dX9_shift_78 rfl ?_
            refine z_callRi (pc := 80) C (z_runV (pc := 80) (wc := (wX6 cJ (dt 0) (vt 0) (gt 0))) (As := [.int x2, .int x5]) C (fun sz => kX6_hasPlaces (dt 0) (vt 0) (gt 0) x2 x5 sz h) [2, 3] rfl (by decide) (gdV wq414 wq805 wq806 wq807 wq546) rfl rfl rfl hdX6_hasPlaces 2 rfl rfl rfl ⟨Nat.le_of_ble_eq_true rfl, Nat.le_of_ble_eq_true rfl⟩ rfl (Nat.le_of_ble_eq_true rfl) ⟨Nat.zero_le _, Nat.zero_le _⟩ dX9_shift_80) [2, 3] rfl (by decide) (fun r10 u10 h => ?_)
            refine z_if_eq (pc := 83) (tgt := 98) C dX9_shift_83 (by decide) (fun c11 => ?_) (fun c11 => ?_)
            · have h := h.1 c11
              refine z_bipush (pc := 98) (v := -13) C dX9_shift_98 (by decide) ?_
              exact hret 100 _ _ (-13 : Int32) gt rfl h dX9_shift_100
            · have h := h.2 c11
              refine z_aload (pc := 86) C 0 dX9_shift_86 rfl ?_
              refine z_iload (pc := 88) C 6 dX9_shift_88 rfl ?_
              refine z_iload (pc := 90) C 7 dX9_shift_90 rfl ?_
              refine z_callRi (pc := 92) C (z_runV (pc := 92) (wc := (wX6 cJ (dt 5) (vt 5) (gt 5))) (As := [.int x4, .int x5]) C (fun sz => kX6_hasPlaces (dt 5) (vt 5) (gt 5) x4 x5 sz h) [12, 13] rfl (by decide) (gdV wq414 wq805 wq806 wq807 wq546) rfl rfl rfl hdX6_hasPlaces 12 rfl rfl rfl ⟨Nat.le_of_ble_eq_true rfl, Nat.le_of_ble_eq_true rfl⟩ rfl (Nat.le_of_ble_eq_true rfl) ⟨Nat.zero_le _, Nat.zero_le _⟩ dX9_shift_92) [12, 13] rfl (by decide) (fun r12 u12 h => ?_)
              refine z_if_ne (pc := 95) (tgt := 101) C dX9_shift_95 (by decide) (fun c13 => ?_) (fun c13 => ?_)
              · have h := h.1 c13
                refine z_aload (pc := 101) C 1 dX9_shift_101 rfl ?_
                refine z_get (pc := 103) C uw6 2 rfl rfl 2 (by decide) wq778 rfl dX9_shift_103 ?_
                refine z_iload_n (pc := 106) C 4 dX9_shift_106 rfl ?_
                refine z_aload (pc := 107) C 0 dX9_shift_107 rfl ?_
                refine z_get (pc := 109) C uw6 12 rfl rfl 2 (by decide) wq778 rfl dX9_shift_109 ?_
                refine z_iload (pc := 112) C 6 dX9_shift_112 rfl ?_
                refine z_iload (pc := 114) C 7 dX9_shift_114 rfl ?_
                obtain ⟨g14, h⟩ := h
                refine z_copyl (pc := 116) (ws' := ((wX9 d (dN 0) (dI 0) (dT 0) (dNc 0) (dNcj 0) (dNcs 0) (dNcp 0) (dNw 0) (dx 0) dtt v) ++ (wTT cJ cT dtt dt vt (va_up gt 5 (sb (gt 5) 1 (va_cpy ((gt 0) 1) ((gt 5) 1) x2.toNatClampNeg x4.toNatClampNeg x5.toNatClampNeg)))))) C wq804 wq65 wq66 wq67 3 13 1 rfl rfl rfl g14 (Nat.le_of_ble_eq_true rfl) (Nat.le_of_ble_eq_true rfl) dX9_shift_116 (set_r (k := 1) (i := 12) rfl sTT_c5) ?_
                refine z_iload (pc := 119) C 7 dX9_shift_119 rfl ?_
                exact hret 121 _ _ x5 (va_up gt 5 (sb (gt 5) 1 (va_cpy ((gt 0) 1) ((gt 5) 1) x2.toNatClampNeg x4.toNatClampNeg x5.toNatClampNeg))) rfl h dX9_shift_121
              · have h := h.2 c13
                refine z_bipush (pc := 98) (v := -13) C dX9_shift_98 (by decide) ?_
                exact hret 100 _ _ (-13 : Int32) gt rfl h dX9_shift_100
          · have h := h.2 c9
            refine z_bipush (pc := 72) (v := -12) C dX9_shift_72 (by decide) ?_
            exact hret 74 _ _ (-12 : Int32) gt rfl h dX9_shift_74
        · have h := h.2 c8
          refine z_bipush (pc := 56) (v := -11) C dX9_shift_56 (by decide) ?_
          exact hret 58 _ _ (-11 : Int32) gt rfl h dX9_shift_58
    · have h := h.2 c4
      refine z_iconst (pc := 18) (v := -1) C dX9_shift_18 (by decide) ?_
      exact hret 19 _ _ (-1 : Int32) gt rfl h dX9_shift_19

set_option maxHeartbeats 4000000 in
set_option maxRecDepth 100000 in
theorem kX9_shift_0_n {l : Launch} {D : va_G} {cI cJ cT : ClassId} (d : Nat → Nat) (dN : Nat → Nat) (dI : Nat → Nat) (dT : Nat → Nat) (dNc : Nat → Nat) (dNcj : Nat → Nat) (dNcs : Nat → Nat) (dNcp : Nat → Nat) (dNw : Nat → Nat) (dx : Nat → Nat) (dtt : Nat) (dt : Nat → Nat → Nat)  (v : Lf) (vt : Nat → Lf) (gt : Nat → Lg) (x2 : Int32) (x3 : Int32) (x4 : Int32) (x5 : Int32) (g2 : ¬ vp_in x3 6) {Q : Int32 → (Nat → Lg) → Prop} (sz : Nat) (h : pX9_shift vt gt (nI 0) x2 x3 x4 x5 Q) : Met l yX9_shift wdX9_shift rmX9_shift (Pz D (tyL cI cJ cT) [.ref (d 0), .int (nI 0), .int x2, .int x3, .int x4, .int x5] ((wX9 d (dN 0) (dI 0) (dT 0) (dNc 0) (dNcj 0) (dNcs 0) (dNcp 0) (dNw 0) (dx 0) dtt v) ++ (wTT cJ cT dtt dt vt gt)) sz) (va_Qi (fun (r : Int32) (u : (Nat → Lg)) => Q r u) (Bz D (tyL cI cJ cT) ((wX9 d (dN 0) (dI 0) (dT 0) (dNc 0) (dNcj 0) (dNcs 0) (dNcp 0) (dNw 0) (dx 0) dtt v) ++ (wTT cJ cT dtt dt vt gt)) sz (fun (u : (Nat → Lg)) => ((wX9 d (dN 0) (dI 0) (dT 0) (dNc 0) (dNcj 0) (dNcs 0) (dNcp 0) (dNw 0) (dx 0) dtt v) ++ (wTT cJ cT dtt dt vt u)))) (va_A ((wX9 d (dN 0) (dI 0) (dT 0) (dNc 0) (dNcj 0) (dNcs 0) (dNcp 0) (dNw 0) (dx 0) dtt v) ++ (wTT cJ cT dtt dt vt gt)) sz)) 0 0 (va_A ((wX9 d (dN 0) (dI 0) (dT 0) (dNc 0) (dNcj 0) (dNcs 0) (dNcp 0) (dNw 0) (dx 0) dtt v) ++ (wTT cJ cT dtt dt vt gt)) sz) := by
  refine z_meti (cc := cX9_shift) (maxL := 8) (own := RX9) (lv0 := [(0, .ref (d 0)), (1, .int (nI 0)), (2, .int x2), (3, .int x3), (4, .int x4), (5, .int x5)]) (by decide) rfl rfl (Nat.le_of_ble_eq_true rfl) rfl ?_
  intro p e s m args below meth c A QQ C hin hret
  refine z_iload_n (pc := 0) C 1 dX9_shift_0 rfl ?_
  refine z_iconst (pc := 1) (v := 0) C dX9_shift_1 (by decide) ?_
  refine z_iconst (pc := 2) (v := 5) C dX9_shift_2 (by decide) ?_
  refine z_call0i (pc := 3) C (z_runS (pc := 3) (wc := ([] : va_W)) (As := [.int (nI 0), .int (0 : Int32), .int (5 : Int32)]) C (fun sz => kX9_within (nI 0) (0 : Int32) (5 : Int32) sz h) [] rfl (by decide) (gdS wq366 wq553 wq373 wq112) rfl rfl rfl hdSX9_within ⟨Nat.le_of_ble_eq_true rfl, Nat.le_of_ble_eq_true rfl⟩ rfl (Nat.le_of_ble_eq_true rfl) ⟨Nat.zero_le _, Nat.zero_le _⟩ dX9_shift_3) (fun r1 u1 h => ?_)
  refine z_if_eq (pc := 6) (tgt := 18) C dX9_shift_6 (by decide) (fun c2 => ?_) (fun c2 => ?_)
  · have h := h.1 c2
    refine z_iconst (pc := 18) (v := -1) C dX9_shift_18 (by decide) ?_
    exact hret 19 _ _ (-1 : Int32) gt rfl h dX9_shift_19
  · have h := h.2 c2
    refine z_iload_n (pc := 9) C 3 dX9_shift_9 rfl ?_
    refine z_iconst (pc := 10) (v := 0) C dX9_shift_10 (by decide) ?_
    refine z_iconst (pc := 11) (v := 5) C dX9_shift_11 (by decide) ?_
    refine z_call0i (pc := 12) C (z_runS (pc := 12) (wc := ([] : va_W)) (As := [.int x3, .int (0 : Int32), .int (5 : Int32)]) C (fun sz => kX9_within x3 (0 : Int32) (5 : Int32) sz h) [] rfl (by decide) (gdS wq366 wq553 wq373 wq112) rfl rfl rfl hdSX9_within ⟨Nat.le_of_ble_eq_true rfl, Nat.le_of_ble_eq_true rfl⟩ rfl (Nat.le_of_ble_eq_true rfl) ⟨Nat.zero_le _, Nat.zero_le _⟩ dX9_shift_12) (fun r3 u3 h => ?_)
    refine z_if_ne (pc := 15) (tgt := 20) C dX9_shift_15 (by decide) (fun c4 => ?_) (fun c4 => ?_)
    · have h := h.1 c4
      refine z_aload_n (pc := 20) C 0 dX9_shift_20 rfl ?_
      refine z_get (pc := 21) C uw9 0 rfl rfl 9 (by decide) wq544 rfl dX9_shift_21 ?_
      refine z_iload_n (pc := 24) C 1 dX9_shift_24 rfl ?_
      obtain ⟨g5, h⟩ := h
      refine z_aldq (pc := 25) C 1 2 rfl rfl g5 (.ref (dt 0 0)) rfl dX9_shift_25 ?_
      refine z_astore (pc := 26) (lv' := [(6, .ref (dt 0 0)), (0, .ref (d 0)), (1, .int (nI 0)), (2, .int x2), (3, .int x3), (4, .int x4), (5, .int x5)]) C dX9_shift_26 (by decide) rfl ?_
      refine z_aload_n (pc := 28) C 1 dX9_shift_28 rfl ?_
      refine z_get (pc := 29) C uw9 0 rfl rfl 9 (by decide) wq544 rfl dX9_shift_29 ?_
      refine z_iload_n (pc := 32) C 4 dX9_shift_32 rfl ?_
      obtain ⟨g6, h⟩ := h
      exact absurd g6 g2
    · have h := h.2 c4
      refine z_iconst (pc := 18) (v := -1) C dX9_shift_18 (by decide) ?_
      exact hret 19 _ _ (-1 : Int32) gt rfl h dX9_shift_19

set_option maxHeartbeats 4000000 in
set_option maxRecDepth 100000 in
theorem kX9_shift_1_0 {l : Launch} {D : va_G} {cI cJ cT : ClassId} (d : Nat → Nat) (dN : Nat → Nat) (dI : Nat → Nat) (dT : Nat → Nat) (dNc : Nat → Nat) (dNcj : Nat → Nat) (dNcs : Nat → Nat) (dNcp : Nat → Nat) (dNw : Nat → Nat) (dx : Nat → Nat) (dtt : Nat) (dt : Nat → Nat → Nat)  (v : Lf) (vt : Nat → Lf) (gt : Nat → Lg) (x2 : Int32) (x4 : Int32) (x5 : Int32) {Q : Int32 → (Nat → Lg) → Prop} (sz : Nat) (h : pX9_shift vt gt (nI 1) x2 (nI 0) x4 x5 Q) : Met l yX9_shift wdX9_shift rmX9_shift (Pz D (tyL cI cJ cT) [.ref (d 0), .int (nI 1), .int x2, .int (nI 0), .int x4, .int x5] ((wX9 d (dN 0) (dI 0) (dT 0) (dNc 0) (dNcj 0) (dNcs 0) (dNcp 0) (dNw 0) (dx 0) dtt v) ++ (wTT cJ cT dtt dt vt gt)) sz) (va_Qi (fun (r : Int32) (u : (Nat → Lg)) => Q r u) (Bz D (tyL cI cJ cT) ((wX9 d (dN 0) (dI 0) (dT 0) (dNc 0) (dNcj 0) (dNcs 0) (dNcp 0) (dNw 0) (dx 0) dtt v) ++ (wTT cJ cT dtt dt vt gt)) sz (fun (u : (Nat → Lg)) => ((wX9 d (dN 0) (dI 0) (dT 0) (dNc 0) (dNcj 0) (dNcs 0) (dNcp 0) (dNw 0) (dx 0) dtt v) ++ (wTT cJ cT dtt dt vt u)))) (va_A ((wX9 d (dN 0) (dI 0) (dT 0) (dNc 0) (dNcj 0) (dNcs 0) (dNcp 0) (dNw 0) (dx 0) dtt v) ++ (wTT cJ cT dtt dt vt gt)) sz)) 0 0 (va_A ((wX9 d (dN 0) (dI 0) (dT 0) (dNc 0) (dNcj 0) (dNcs 0) (dNcp 0) (dNw 0) (dx 0) dtt v) ++ (wTT cJ cT dtt dt vt gt)) sz) := by
  refine z_meti (cc := cX9_shift) (maxL := 8) (own := RX9) (lv0 := [(0, .ref (d 0)), (1, .int (nI 1)), (2, .int x2), (3, .int (nI 0)), (4, .int x4), (5, .int x5)]) (by decide) rfl rfl (Nat.le_of_ble_eq_true rfl) rfl ?_
  intro p e s m args below meth c A QQ C hin hret
  refine z_iload_n (pc := 0) C 1 dX9_shift_0 rfl ?_
  refine z_iconst (pc := 1) (v := 0) C dX9_shift_1 (by decide) ?_
  refine z_iconst (pc := 2) (v := 5) C dX9_shift_2 (by decide) ?_
  refine z_call0i (pc := 3) C (z_runS (pc := 3) (wc := ([] : va_W)) (As := [.int (nI 1), .int (0 : Int32), .int (5 : Int32)]) C (fun sz => kX9_within (nI 1) (0 : Int32) (5 : Int32) sz h) [] rfl (by decide) (gdS wq366 wq553 wq373 wq112) rfl rfl rfl hdSX9_within ⟨Nat.le_of_ble_eq_true rfl, Nat.le_of_ble_eq_true rfl⟩ rfl (Nat.le_of_ble_eq_true rfl) ⟨Nat.zero_le _, Nat.zero_le _⟩ dX9_shift_3) (fun r1 u1 h => ?_)
  refine z_if_eq (pc := 6) (tgt := 18) C dX9_shift_6 (by decide) (fun c2 => ?_) (fun c2 => ?_)
  · have h := h.1 c2
    refine z_iconst (pc := 18) (v := -1) C dX9_shift_18 (by decide) ?_
    exact hret 19 _ _ (-1 : Int32) gt rfl h dX9_shift_19
  · have h := h.2 c2
    refine z_iload_n (pc := 9) C 3 dX9_shift_9 rfl ?_
    refine z_iconst (pc := 10) (v := 0) C dX9_shift_10 (by decide) ?_
    refine z_iconst (pc := 11) (v := 5) C dX9_shift_11 (by decide) ?_
    refine z_call0i (pc := 12) C (z_runS (pc := 12) (wc := ([] : va_W)) (As := [.int (nI 0), .int (0 : Int32), .int (5 : Int32)]) C (fun sz => kX9_within (nI 0) (0 : Int32) (5 : Int32) sz h) [] rfl (by decide) (gdS wq366 wq553 wq373 wq112) rfl rfl rfl hdSX9_within ⟨Nat.le_of_ble_eq_true rfl, Nat.le_of_ble_eq_true rfl⟩ rfl (Nat.le_of_ble_eq_true rfl) ⟨Nat.zero_le _, Nat.zero_le _⟩ dX9_shift_12) (fun r3 u3 h => ?_)
    refine z_if_ne (pc := 15) (tgt := 20) C dX9_shift_15 (by decide) (fun c4 => ?_) (fun c4 => ?_)
    · have h := h.1 c4
      refine z_aload_n (pc := 20) C 0 dX9_shift_20 rfl ?_
      refine z_get (pc := 21) C uw9 0 rfl rfl 9 (by decide) wq544 rfl dX9_shift_21 ?_
      refine z_iload_n (pc := 24) C 1 dX9_shift_24 rfl ?_
      obtain ⟨g5, h⟩ := h
      refine z_aldq (pc := 25) C 1 2 rfl rfl g5 (.ref (dt 1 0)) rfl dX9_shift_25 ?_
      refine z_astore (pc := 26) (lv' := [(6, .ref (dt 1 0)), (0, .ref (d 0)), (1, .int (nI 1)), (2, .int x2), (3, .int (nI 0)), (4, .int x4), (5, .int x5)]) C dX9_shift_26 (by decide) rfl ?_
      refine z_aload_n (pc := 28) C 1 dX9_shift_28 rfl ?_
      refine z_get (pc := 29) C uw9 0 rfl rfl 9 (by decide) wq544 rfl dX9_shift_29 ?_
      refine z_iload_n (pc := 32) C 4 dX9_shift_32 rfl ?_
      obtain ⟨g6, h⟩ := h
      refine z_aldq (pc := 33) C 1 2 rfl rfl g6 (.ref (dt 0 0)) rfl dX9_shift_33 ?_
      refine z_astore (pc := 34) (lv' := [(7, .ref (dt 0 0)), (6, .ref (dt 1 0)), (0, .ref (d 0)), (1, .int (nI 1)), (2, .int x2), (3, .int (nI 0)), (4, .int x4), (5, .int x5)]) C dX9_shift_34 (by decide) rfl ?_
      refine z_aload (pc := 36) C 1 dX9_shift_36 rfl ?_
      refine z_get (pc := 38) C uw6 4 rfl rfl 0 (by decide) wq777 rfl dX9_shift_38 ?_
      refine z_bipush (pc := 41) (v := -5) C dX9_shift_41 (by decide) ?_
      refine z_icmp_eq (pc := 43) (tgt := 56) C dX9_shift_43 (by decide) (fun c7 => ?_) (fun c7 => ?_)
      · have h := h.1 c7
        refine z_bipush (pc := 56) (v := -11) C dX9_shift_56 (by decide) ?_
        exact hret 58 _ _ (-11 : Int32) gt rfl h dX9_shift_58
      · have h := h.2 c7
        refine z_aload (pc := 46) C 0 dX9_shift_46 rfl ?_
        refine z_get (pc := 48) C uw6 2 rfl rfl 0 (by decide) wq777 rfl dX9_shift_48 ?_
        refine z_bipush (pc := 51) (v := -5) C dX9_shift_51 (by decide) ?_
        refine z_icmp_ne (pc := 53) (tgt := 59) C dX9_shift_53 (by decide) (fun c8 => ?_) (fun c8 => ?_)
        · have h := h.1 c8
          refine z_aload (pc := 59) C 1 dX9_shift_59 rfl ?_
          refine z_get (pc := 61) C uw6 4 rfl rfl 0 (by decide) wq777 rfl dX9_shift_61 ?_
          refine z_aload (pc := 64) C 0 dX9_shift_64 rfl ?_
          refine z_get (pc := 66) C uw6 2 rfl rfl 0 (by decide) wq777 rfl dX9_shift_66 ?_
          refine z_icmp_eq (pc := 69) (tgt := 75) C dX9_shift_69 (by decide) (fun c9 => ?_) (fun c9 => ?_)
          · have h := h.1 c9
            refine z_aload (pc := 75) C 1 dX9_shift_75 rfl ?_
            refine z_iload_n (pc := 77) C 4 dX9_shift_77 rfl ?_
            refine z_iload (pc := 78) C 7 dX9_shift_78 rfl ?_
            refine z_callRi (pc := 80) C (z_runV (pc := 80) (wc := (wX6 cJ (dt 1) (vt 1) (gt 1))) (As := [.int x2, .int x5]) C (fun sz => kX6_hasPlaces (dt 1) (vt 1) (gt 1) x2 x5 sz h) [4, 5] rfl (by decide) (gdV wq414 wq805 wq806 wq807 wq546) rfl rfl rfl hdX6_hasPlaces 4 rfl rfl rfl ⟨Nat.le_of_ble_eq_true rfl, Nat.le_of_ble_eq_true rfl⟩ rfl (Nat.le_of_ble_eq_true rfl) ⟨Nat.zero_le _, Nat.zero_le _⟩ dX9_shift_80) [4, 5] rfl (by decide) (fun r10 u10 h => ?_)
            refine z_if_eq (pc := 83) (tgt := 98) C dX9_shift_83 (by decide) (fun c11 => ?_) (fun c11 => ?_)
            · have h := h.1 c11
              refine z_bipush (pc := 98) (v := -13) C dX9_shift_98 (by decide) ?_
              exact hret 100 _ _ (-13 : Int32) gt rfl h dX9_shift_100
            · have h := h.2 c11
              refine z_aload (pc := 86) C 0 dX9_shift_86 rfl ?_
              refine z_iload (pc := 88) C 6 dX9_shift_88 rfl ?_
              refine z_iload (pc := 90) C 7 dX9_shift_90 rfl ?_
              refine z_callRi (pc := 92) C (z_runV (pc := 92) (wc := (wX6 cJ (dt 0) (vt 0) (gt 0))) (As := [.int x4, .int x5]) C (fun sz => kX6_hasPlaces (dt 0) (vt 0) (gt 0) x4 x5 sz h) [2, 3] rfl (by decide) (gdV wq414 wq805 wq806 wq807 wq546) rfl rfl rfl hdX6_hasPlaces 2 rfl rfl rfl ⟨Nat.le_of_ble_eq_true rfl, Nat.le_of_ble_eq_true rfl⟩ rfl (Nat.le_of_ble_eq_true rfl) ⟨Nat.zero_le _, Nat.zero_le _⟩ dX9_shift_92) [2, 3] rfl (by decide) (fun r12 u12 h => ?_)
              refine z_if_ne (pc := 95) (tgt := 101) C dX9_shift_95 (by decide) (fun c13 => ?_) (fun c13 => ?_)
              · have h := h.1 c13
                refine z_aload (pc := 101) C 1 dX9_shift_101 rfl ?_
                refine z_get (pc := 103) C uw6 4 rfl rfl 2 (by decide) wq778 rfl dX9_shift_103 ?_
                refine z_iload_n (pc := 106) C 4 dX9_shift_106 rfl ?_
                refine z_aload (pc := 107) C 0 dX9_shift_107 rfl ?_
                refine z_get (pc := 109) C uw6 2 rfl rfl 2 (by decide) wq778 rfl dX9_shift_109 ?_
                refine z_iload (pc := 112) C 6 dX9_shift_112 rfl ?_
                refine z_iload (pc := 114) C 7 dX9_shift_114 rfl ?_
                obtain ⟨g14, h⟩ := h
                refine z_copyl (pc := 116) (ws' := ((wX9 d (dN 0) (dI 0) (dT 0) (dNc 0) (dNcj 0) (dNcs 0) (dNcp 0) (dNw 0) (dx 0) dtt v) ++ (wTT cJ cT dtt dt vt (va_up gt 0 (sb (gt 0) 1 (va_cpy ((gt 1) 1) ((gt 0) 1) x2.toNatClampNeg x4.toNatClampNeg x5.toNatClampNeg)))))) C wq804 wq65 wq66 wq67 5 3 1 rfl rfl rfl g14 (Nat.le_of_ble_eq_true rfl) (Nat.le_of_ble_eq_true rfl) dX9_shift_116 (set_r (k := 1) (i := 2) rfl sTT_c0) ?_
                refine z_iload (pc := 119) C 7 dX9_shift_119 rfl ?_
                exact hret 121 _ _ x5 (va_up gt 0 (sb (gt 0) 1 (va_cpy ((gt 1) 1) ((gt 0) 1) x2.toNatClampNeg x4.toNatClampNeg x5.toNatClampNeg))) rfl h dX9_shift_121
              · have h := h.2 c13
                refine z_bipush (pc := 98) (v := -13) C dX9_shift_98 (by decide) ?_
                exact hret 100 _ _ (-13 : Int32) gt rfl h dX9_shift_100
          · have h := h.2 c9
            refine z_bipush (pc := 72) (v := -12) C dX9_shift_72 (by decide) ?_
            exact hret 74 _ _ (-12 : Int32) gt rfl h dX9_shift_74
        · have h := h.2 c8
          refine z_bipush (pc := 56) (v := -11) C dX9_shift_56 (by decide) ?_
          exact hret 58 _ _ (-11 : Int32) gt rfl h dX9_shift_58
    · have h := h.2 c4
      refine z_iconst (pc := 18) (v := -1) C dX9_shift_18 (by decide) ?_
      exact hret 19 _ _ (-1 : Int32) gt rfl h dX9_shift_19

set_option maxHeartbeats 4000000 in
set_option maxRecDepth 100000 in
theorem kX9_shift_1_1 {l : Launch} {D : va_G} {cI cJ cT : ClassId} (d : Nat → Nat) (dN : Nat → Nat) (dI : Nat → Nat) (dT : Nat → Nat) (dNc : Nat → Nat) (dNcj : Nat → Nat) (dNcs : Nat → Nat) (dNcp : Nat → Nat) (dNw : Nat → Nat) (dx : Nat → Nat) (dtt : Nat) (dt : Nat → Nat → Nat)  (v : Lf) (vt : Nat → Lf) (gt : Nat → Lg) (x2 : Int32) (x4 : Int32) (x5 : Int32) {Q : Int32 → (Nat → Lg) → Prop} (sz : Nat) (h : pX9_shift vt gt (nI 1) x2 (nI 1) x4 x5 Q) : Met l yX9_shift wdX9_shift rmX9_shift (Pz D (tyL cI cJ cT) [.ref (d 0), .int (nI 1), .int x2, .int (nI 1), .int x4, .int x5] ((wX9 d (dN 0) (dI 0) (dT 0) (dNc 0) (dNcj 0) (dNcs 0) (dNcp 0) (dNw 0) (dx 0) dtt v) ++ (wTT cJ cT dtt dt vt gt)) sz) (va_Qi (fun (r : Int32) (u : (Nat → Lg)) => Q r u) (Bz D (tyL cI cJ cT) ((wX9 d (dN 0) (dI 0) (dT 0) (dNc 0) (dNcj 0) (dNcs 0) (dNcp 0) (dNw 0) (dx 0) dtt v) ++ (wTT cJ cT dtt dt vt gt)) sz (fun (u : (Nat → Lg)) => ((wX9 d (dN 0) (dI 0) (dT 0) (dNc 0) (dNcj 0) (dNcs 0) (dNcp 0) (dNw 0) (dx 0) dtt v) ++ (wTT cJ cT dtt dt vt u)))) (va_A ((wX9 d (dN 0) (dI 0) (dT 0) (dNc 0) (dNcj 0) (dNcs 0) (dNcp 0) (dNw 0) (dx 0) dtt v) ++ (wTT cJ cT dtt dt vt gt)) sz)) 0 0 (va_A ((wX9 d (dN 0) (dI 0) (dT 0) (dNc 0) (dNcj 0) (dNcs 0) (dNcp 0) (dNw 0) (dx 0) dtt v) ++ (wTT cJ cT dtt dt vt gt)) sz) := by
  refine z_meti (cc := cX9_shift) (maxL := 8) (own := RX9) (lv0 := [(0, .ref (d 0)), (1, .int (nI 1)), (2, .int x2), (3, .int (nI 1)), (4, .int x4), (5, .int x5)]) (by decide) rfl rfl (Nat.le_of_ble_eq_true rfl) rfl ?_
  intro p e s m args below meth c A QQ C hin hret
  refine z_iload_n (pc := 0) C 1 dX9_shift_0 rfl ?_
  refine z_iconst (pc := 1) (v := 0) C dX9_shift_1 (by decide) ?_
  refine z_iconst (pc := 2) (v := 5) C dX9_shift_2 (by decide) ?_
  refine z_call0i (pc := 3) C (z_runS (pc := 3) (wc := ([] : va_W)) (As := [.int (nI 1), .int (0 : Int32), .int (5 : Int32)]) C (fun sz => kX9_within (nI 1) (0 : Int32) (5 : Int32) sz h) [] rfl (by decide) (gdS wq366 wq553 wq373 wq112) rfl rfl rfl hdSX9_within ⟨Nat.le_of_ble_eq_true rfl, Nat.le_of_ble_eq_true rfl⟩ rfl (Nat.le_of_ble_eq_true rfl) ⟨Nat.zero_le _, Nat.zero_le _⟩ dX9_shift_3) (fun r1 u1 h => ?_)
  refine z_if_eq (pc := 6) (tgt := 18) C dX9_shift_6 (by decide) (fun c2 => ?_) (fun c2 => ?_)
  · have h := h.1 c2
    refine z_iconst (pc := 18) (v := -1) C dX9_shift_18 (by decide) ?_
    exact hret 19 _ _ (-1 : Int32) gt rfl h dX9_shift_19
  · have h := h.2 c2
    refine z_iload_n (pc := 9) C 3 dX9_shift_9 rfl ?_
    refine z_iconst (pc := 10) (v := 0) C dX9_shift_10 (by decide) ?_
    refine z_iconst (pc := 11) (v := 5) C dX9_shift_11 (by decide) ?_
    refine z_call0i (pc := 12) C (z_runS (pc := 12) (wc := ([] : va_W)) (As := [.int (nI 1), .int (0 : Int32), .int (5 : Int32)]) C (fun sz => kX9_within (nI 1) (0 : Int32) (5 : Int32) sz h) [] rfl (by decide) (gdS wq366 wq553 wq373 wq112) rfl rfl rfl hdSX9_within ⟨Nat.le_of_ble_eq_true rfl, Nat.le_of_ble_eq_true rfl⟩ rfl (Nat.le_of_ble_eq_true rfl) ⟨Nat.zero_le _, Nat.zero_le _⟩ dX9_shift_12) (fun r3 u3 h => ?_)
    refine z_if_ne (pc := 15) (tgt := 20) C dX9_shift_15 (by decide) (fun c4 => ?_) (fun c4 => ?_)
    · have h := h.1 c4
      refine z_aload_n (pc := 20) C 0 dX9_shift_20 rfl ?_
      refine z_get (pc := 21) C uw9 0 rfl rfl 9 (by decide) wq544 rfl dX9_shift_21 ?_
      refine z_iload_n (pc := 24) C 1 dX9_shift_24 rfl ?_
      obtain ⟨g5, h⟩ := h
      refine z_aldq (pc := 25) C 1 2 rfl rfl g5 (.ref (dt 1 0)) rfl dX9_shift_25 ?_
      refine z_astore (pc := 26) (lv' := [(6, .ref (dt 1 0)), (0, .ref (d 0)), (1, .int (nI 1)), (2, .int x2), (3, .int (nI 1)), (4, .int x4), (5, .int x5)]) C dX9_shift_26 (by decide) rfl ?_
      refine z_aload_n (pc := 28) C 1 dX9_shift_28 rfl ?_
      refine z_get (pc := 29) C uw9 0 rfl rfl 9 (by decide) wq544 rfl dX9_shift_29 ?_
      refine z_iload_n (pc := 32) C 4 dX9_shift_32 rfl ?_
      obtain ⟨g6, h⟩ := h
      refine z_aldq (pc := 33) C 1 2 rfl rfl g6 (.ref (dt 1 0)) rfl dX9_shift_33 ?_
      refine z_astore (pc := 34) (lv' := [(7, .ref (dt 1 0)), (6, .ref (dt 1 0)), (0, .ref (d 0)), (1, .int (nI 1)), (2, .int x2), (3, .int (nI 1)), (4, .int x4), (5, .int x5)]) C dX9_shift_34 (by decide) rfl ?_
      refine z_aload (pc := 36) C 1 dX9_shift_36 rfl ?_
      refine z_get (pc := 38) C uw6 4 rfl rfl 0 (by decide) wq777 rfl dX9_shift_38 ?_
      refine z_bipush (pc := 41) (v := -5) C dX9_shift_41 (by decide) ?_
      refine z_icmp_eq (pc := 43) (tgt := 56) C dX9_shift_43 (by decide) (fun c7 => ?_) (fun c7 => ?_)
      · have h := h.1 c7
        refine z_bipush (pc := 56) (v := -11) C dX9_shift_56 (by decide) ?_
        exact hret 58 _ _ (-11 : Int32) gt rfl h dX9_shift_58
      · have h := h.2 c7
        refine z_aload (pc := 46) C 0 dX9_shift_46 rfl ?_
        refine z_get (pc := 48) C uw6 4 rfl rfl 0 (by decide) wq777 rfl dX9_shift_48 ?_
        refine z_bipush (pc := 51) (v := -5) C dX9_shift_51 (by decide) ?_
        refine z_icmp_ne (pc := 53) (tgt := 59) C dX9_shift_53 (by decide) (fun c8 => ?_) (fun c8 => ?_)
        · have h := h.1 c8
          refine z_aload (pc := 59) C 1 dX9_shift_59 rfl ?_
          refine z_get (pc := 61) C uw6 4 rfl rfl 0 (by decide) wq777 rfl dX9_shift_61 ?_
          refine z_aload (pc := 64) C 0 dX9_shift_64 rfl ?_
          refine z_get (pc := 66) C uw6 4 rfl rfl 0 (by decide) wq777 rfl dX9_shift_66 ?_
          refine z_icmp_eq (pc := 69) (tgt := 75) C dX9_shift_69 (by decide) (fun c9 => ?_) (fun c9 => ?_)
          · have h := h.1 c9
            refine z_aload (pc := 75) C 1 dX9_shift_75 rfl ?_
            refine z_iload_n (pc := 77) C 4 dX9_shift_77 rfl ?_
            refine z_iload (pc := 78) C 7 dX9_shift_78 rfl ?_
            refine z_callRi (pc := 80) C (z_runV (pc := 80) (wc := (wX6 cJ (dt 1) (vt 1) (gt 1))) (As := [.int x2, .int x5]) C (fun sz => kX6_hasPlaces (dt 1) (vt 1) (gt 1) x2 x5 sz h) [4, 5] rfl (by decide) (gdV wq414 wq805 wq806 wq807 wq546) rfl rfl rfl hdX6_hasPlaces 4 rfl rfl rfl ⟨Nat.le_of_ble_eq_true rfl, Nat.le_of_ble_eq_true rfl⟩ rfl (Nat.le_of_ble_eq_true rfl) ⟨Nat.zero_le _, Nat.zero_le _⟩ dX9_shift_80) [4, 5] rfl (by decide) (fun r10 u10 h => ?_)
            refine z_if_eq (pc := 83) (tgt := 98) C dX9_shift_83 (by decide) (fun c11 => ?_) (fun c11 => ?_)
            · have h := h.1 c11
              refine z_bipush (pc := 98) (v := -13) C dX9_shift_98 (by decide) ?_
              exact hret 100 _ _ (-13 : Int32) gt rfl h dX9_shift_100
            · have h := h.2 c11
              refine z_aload (pc := 86) C 0 dX9_shift_86 rfl ?_
              refine z_iload (pc := 88) C 6 dX9_shift_88 rfl ?_
              refine z_iload (pc := 90) C 7 dX9_shift_90 rfl ?_
              refine z_callRi (pc := 92) C (z_runV (pc := 92) (wc := (wX6 cJ (dt 1) (vt 1) (gt 1))) (As := [.int x4, .int x5]) C (fun sz => kX6_hasPlaces (dt 1) (vt 1) (gt 1) x4 x5 sz h) [4, 5] rfl (by decide) (gdV wq414 wq805 wq806 wq807 wq546) rfl rfl rfl hdX6_hasPlaces 4 rfl rfl rfl ⟨Nat.le_of_ble_eq_true rfl, Nat.le_of_ble_eq_true rfl⟩ rfl (Nat.le_of_ble_eq_true rfl) ⟨Nat.zero_le _, Nat.zero_le _⟩ dX9_shift_92) [4, 5] rfl (by decide) (fun r12 u12 h => ?_)
              refine z_if_ne (pc := 95) (tgt := 101) C dX9_shift_95 (by decide) (fun c13 => ?_) (fun c13 => ?_)
              · have h := h.1 c13
                refine z_aload (pc := 101) C 1 dX9_shift_101 rfl ?_
                refine z_get (pc := 103) C uw6 4 rfl rfl 2 (by decide) wq778 rfl dX9_shift_103 ?_
                refine z_iload_n (pc := 106) C 4 dX9_shift_106 rfl ?_
                refine z_aload (pc := 107) C 0 dX9_shift_107 rfl ?_
                refine z_get (pc := 109) C uw6 4 rfl rfl 2 (by decide) wq778 rfl dX9_shift_109 ?_
                refine z_iload (pc := 112) C 6 dX9_shift_112 rfl ?_
                refine z_iload (pc := 114) C 7 dX9_shift_114 rfl ?_
                obtain ⟨g14, h⟩ := h
                refine z_copyl (pc := 116) (ws' := ((wX9 d (dN 0) (dI 0) (dT 0) (dNc 0) (dNcj 0) (dNcs 0) (dNcp 0) (dNw 0) (dx 0) dtt v) ++ (wTT cJ cT dtt dt vt (va_up gt 1 (sb (gt 1) 1 (va_cpy ((gt 1) 1) ((gt 1) 1) x2.toNatClampNeg x4.toNatClampNeg x5.toNatClampNeg)))))) C wq804 wq65 wq66 wq67 5 5 1 rfl rfl rfl g14 (Nat.le_of_ble_eq_true rfl) (Nat.le_of_ble_eq_true rfl) dX9_shift_116 (set_r (k := 1) (i := 4) rfl sTT_c1) ?_
                refine z_iload (pc := 119) C 7 dX9_shift_119 rfl ?_
                exact hret 121 _ _ x5 (va_up gt 1 (sb (gt 1) 1 (va_cpy ((gt 1) 1) ((gt 1) 1) x2.toNatClampNeg x4.toNatClampNeg x5.toNatClampNeg))) rfl h dX9_shift_121
              · have h := h.2 c13
                refine z_bipush (pc := 98) (v := -13) C dX9_shift_98 (by decide) ?_
                exact hret 100 _ _ (-13 : Int32) gt rfl h dX9_shift_100
          · have h := h.2 c9
            refine z_bipush (pc := 72) (v := -12) C dX9_shift_72 (by decide) ?_
            exact hret 74 _ _ (-12 : Int32) gt rfl h dX9_shift_74
        · have h := h.2 c8
          refine z_bipush (pc := 56) (v := -11) C dX9_shift_56 (by decide) ?_
          exact hret 58 _ _ (-11 : Int32) gt rfl h dX9_shift_58
    · have h := h.2 c4
      refine z_iconst (pc := 18) (v := -1) C dX9_shift_18 (by decide) ?_
      exact hret 19 _ _ (-1 : Int32) gt rfl h dX9_shift_19

set_option maxHeartbeats 4000000 in
set_option maxRecDepth 100000 in
theorem kX9_shift_1_2 {l : Launch} {D : va_G} {cI cJ cT : ClassId} (d : Nat → Nat) (dN : Nat → Nat) (dI : Nat → Nat) (dT : Nat → Nat) (dNc : Nat → Nat) (dNcj : Nat → Nat) (dNcs : Nat → Nat) (dNcp : Nat → Nat) (dNw : Nat → Nat) (dx : Nat → Nat) (dtt : Nat) (dt : Nat → Nat → Nat)  (v : Lf) (vt : Nat → Lf) (gt : Nat → Lg) (x2 : Int32) (x4 : Int32) (x5 : Int32) {Q : Int32 → (Nat → Lg) → Prop} (sz : Nat) (h : pX9_shift vt gt (nI 1) x2 (nI 2) x4 x5 Q) : Met l yX9_shift wdX9_shift rmX9_shift (Pz D (tyL cI cJ cT) [.ref (d 0), .int (nI 1), .int x2, .int (nI 2), .int x4, .int x5] ((wX9 d (dN 0) (dI 0) (dT 0) (dNc 0) (dNcj 0) (dNcs 0) (dNcp 0) (dNw 0) (dx 0) dtt v) ++ (wTT cJ cT dtt dt vt gt)) sz) (va_Qi (fun (r : Int32) (u : (Nat → Lg)) => Q r u) (Bz D (tyL cI cJ cT) ((wX9 d (dN 0) (dI 0) (dT 0) (dNc 0) (dNcj 0) (dNcs 0) (dNcp 0) (dNw 0) (dx 0) dtt v) ++ (wTT cJ cT dtt dt vt gt)) sz (fun (u : (Nat → Lg)) => ((wX9 d (dN 0) (dI 0) (dT 0) (dNc 0) (dNcj 0) (dNcs 0) (dNcp 0) (dNw 0) (dx 0) dtt v) ++ (wTT cJ cT dtt dt vt u)))) (va_A ((wX9 d (dN 0) (dI 0) (dT 0) (dNc 0) (dNcj 0) (dNcs 0) (dNcp 0) (dNw 0) (dx 0) dtt v) ++ (wTT cJ cT dtt dt vt gt)) sz)) 0 0 (va_A ((wX9 d (dN 0) (dI 0) (dT 0) (dNc 0) (dNcj 0) (dNcs 0) (dNcp 0) (dNw 0) (dx 0) dtt v) ++ (wTT cJ cT dtt dt vt gt)) sz) := by
  refine z_meti (cc := cX9_shift) (maxL := 8) (own := RX9) (lv0 := [(0, .ref (d 0)), (1, .int (nI 1)), (2, .int x2), (3, .int (nI 2)), (4, .int x4), (5, .int x5)]) (by decide) rfl rfl (Nat.le_of_ble_eq_true rfl) rfl ?_
  intro p e s m args below meth c A QQ C hin hret
  refine z_iload_n (pc := 0) C 1 dX9_shift_0 rfl ?_
  refine z_iconst (pc := 1) (v := 0) C dX9_shift_1 (by decide) ?_
  refine z_iconst (pc := 2) (v := 5) C dX9_shift_2 (by decide) ?_
  refine z_call0i (pc := 3) C (z_runS (pc := 3) (wc := ([] : va_W)) (As := [.int (nI 1), .int (0 : Int32), .int (5 : Int32)]) C (fun sz => kX9_within (nI 1) (0 : Int32) (5 : Int32) sz h) [] rfl (by decide) (gdS wq366 wq553 wq373 wq112) rfl rfl rfl hdSX9_within ⟨Nat.le_of_ble_eq_true rfl, Nat.le_of_ble_eq_true rfl⟩ rfl (Nat.le_of_ble_eq_true rfl) ⟨Nat.zero_le _, Nat.zero_le _⟩ dX9_shift_3) (fun r1 u1 h => ?_)
  refine z_if_eq (pc := 6) (tgt := 18) C dX9_shift_6 (by decide) (fun c2 => ?_) (fun c2 => ?_)
  · have h := h.1 c2
    refine z_iconst (pc := 18) (v := -1) C dX9_shift_18 (by decide) ?_
    exact hret 19 _ _ (-1 : Int32) gt rfl h dX9_shift_19
  · have h := h.2 c2
    refine z_iload_n (pc := 9) C 3 dX9_shift_9 rfl ?_
    refine z_iconst (pc := 10) (v := 0) C dX9_shift_10 (by decide) ?_
    refine z_iconst (pc := 11) (v := 5) C dX9_shift_11 (by decide) ?_
    refine z_call0i (pc := 12) C (z_runS (pc := 12) (wc := ([] : va_W)) (As := [.int (nI 2), .int (0 : Int32), .int (5 : Int32)]) C (fun sz => kX9_within (nI 2) (0 : Int32) (5 : Int32) sz h) [] rfl (by decide) (gdS wq366 wq553 wq373 wq112) rfl rfl rfl hdSX9_within ⟨Nat.le_of_ble_eq_true rfl, Nat.le_of_ble_eq_true rfl⟩ rfl (Nat.le_of_ble_eq_true rfl) ⟨Nat.zero_le _, Nat.zero_le _⟩ dX9_shift_12) (fun r3 u3 h => ?_)
    refine z_if_ne (pc := 15) (tgt := 20) C dX9_shift_15 (by decide) (fun c4 => ?_) (fun c4 => ?_)
    · have h := h.1 c4
      refine z_aload_n (pc := 20) C 0 dX9_shift_20 rfl ?_
      refine z_get (pc := 21) C uw9 0 rfl rfl 9 (by decide) wq544 rfl dX9_shift_21 ?_
      refine z_iload_n (pc := 24) C 1 dX9_shift_24 rfl ?_
      obtain ⟨g5, h⟩ := h
      refine z_aldq (pc := 25) C 1 2 rfl rfl g5 (.ref (dt 1 0)) rfl dX9_shift_25 ?_
      refine z_astore (pc := 26) (lv' := [(6, .ref (dt 1 0)), (0, .ref (d 0)), (1, .int (nI 1)), (2, .int x2), (3, .int (nI 2)), (4, .int x4), (5, .int x5)]) C dX9_shift_26 (by decide) rfl ?_
      refine z_aload_n (pc := 28) C 1 dX9_shift_28 rfl ?_
      refine z_get (pc := 29) C uw9 0 rfl rfl 9 (by decide) wq544 rfl dX9_shift_29 ?_
      refine z_iload_n (pc := 32) C 4 dX9_shift_32 rfl ?_
      obtain ⟨g6, h⟩ := h
      refine z_aldq (pc := 33) C 1 2 rfl rfl g6 (.ref (dt 2 0)) rfl dX9_shift_33 ?_
      refine z_astore (pc := 34) (lv' := [(7, .ref (dt 2 0)), (6, .ref (dt 1 0)), (0, .ref (d 0)), (1, .int (nI 1)), (2, .int x2), (3, .int (nI 2)), (4, .int x4), (5, .int x5)]) C dX9_shift_34 (by decide) rfl ?_
      refine z_aload (pc := 36) C 1 dX9_shift_36 rfl ?_
      refine z_get (pc := 38) C uw6 4 rfl rfl 0 (by decide) wq777 rfl dX9_shift_38 ?_
      refine z_bipush (pc := 41) (v := -5) C dX9_shift_41 (by decide) ?_
      refine z_icmp_eq (pc := 43) (tgt := 56) C dX9_shift_43 (by decide) (fun c7 => ?_) (fun c7 => ?_)
      · have h := h.1 c7
        refine z_bipush (pc := 56) (v := -11) C dX9_shift_56 (by decide) ?_
        exact hret 58 _ _ (-11 : Int32) gt rfl h dX9_shift_58
      · have h := h.2 c7
        refine z_aload (pc := 46) C 0 dX9_shift_46 rfl ?_
        refine z_get (pc := 48) C uw6 6 rfl rfl 0 (by decide) wq777 rfl dX9_shift_48 ?_
        refine z_bipush (pc := 51) (v := -5) C dX9_shift_51 (by decide) ?_
        refine z_icmp_ne (pc := 53) (tgt := 59) C dX9_shift_53 (by decide) (fun c8 => ?_) (fun c8 => ?_)
        · have h := h.1 c8
          refine z_aload (pc := 59) C 1 dX9_shift_59 rfl ?_
          refine z_get (pc := 61) C uw6 4 rfl rfl 0 (by decide) wq777 rfl dX9_shift_61 ?_
          refine z_aload (pc := 64) C 0 dX9_shift_64 rfl ?_
          refine z_get (pc := 66) C uw6 6 rfl rfl 0 (by decide) wq777 rfl dX9_shift_66 ?_
          refine z_icmp_eq (pc := 69) (tgt := 75) C dX9_shift_69 (by decide) (fun c9 => ?_) (fun c9 => ?_)
          · have h := h.1 c9
            refine z_aload (pc := 75) C 1 dX9_shift_75 rfl ?_
            refine z_iload_n (pc := 77) C 4 dX9_shift_77 rfl ?_
            refine z_iload (pc := 78) C 7 dX9_shift_78 rfl ?_
            refine z_callRi (pc := 80) C (z_runV (pc := 80) (wc := (wX6 cJ (dt 1) (vt 1) (gt 1))) (As := [.int x2, .int x5]) C (fun sz => kX6_hasPlaces (dt 1) (vt 1) (gt 1) x2 x5 sz h) [4, 5] rfl (by decide) (gdV wq414 wq805 wq806 wq807 wq546) rfl rfl rfl hdX6_hasPlaces 4 rfl rfl rfl ⟨Nat.le_of_ble_eq_true rfl, Nat.le_of_ble_eq_true rfl⟩ rfl (Nat.le_of_ble_eq_true rfl) ⟨Nat.zero_le _, Nat.zero_le _⟩ dX9_shift_80) [4, 5] rfl (by decide) (fun r10 u10 h => ?_)
            refine z_if_eq (pc := 83) (tgt := 98) C dX9_shift_83 (by decide) (fun c11 => ?_) (fun c11 => ?_)
            · have h := h.1 c11
              refine z_bipush (pc := 98) (v := -13) C dX9_shift_98 (by decide) ?_
              exact hret 100 _ _ (-13 : Int32) gt rfl h dX9_shift_100
            · have h := h.2 c11
              refine z_aload (pc := 86) C 0 dX9_shift_86 rfl ?_
              refine z_iload (pc := 88) C 6 dX9_shift_88 rfl ?_
              refine z_iload (pc := 90) C 7 dX9_shift_90 rfl ?_
              refine z_callRi (pc := 92) C (z_runV (pc := 92) (wc := (wX6 cJ (dt 2) (vt 2) (gt 2))) (As := [.int x4, .int x5]) C (fun sz => kX6_hasPlaces (dt 2) (vt 2) (gt 2) x4 x5 sz h) [6, 7] rfl (by decide) (gdV wq414 wq805 wq806 wq807 wq546) rfl rfl rfl hdX6_hasPlaces 6 rfl rfl rfl ⟨Nat.le_of_ble_eq_true rfl, Nat.le_of_ble_eq_true rfl⟩ rfl (Nat.le_of_ble_eq_true rfl) ⟨Nat.zero_le _, Nat.zero_le _⟩ dX9_shift_92) [6, 7] rfl (by decide) (fun r12 u12 h => ?_)
              refine z_if_ne (pc := 95) (tgt := 101) C dX9_shift_95 (by decide) (fun c13 => ?_) (fun c13 => ?_)
              · have h := h.1 c13
                refine z_aload (pc := 101) C 1 dX9_shift_101 rfl ?_
                refine z_get (pc := 103) C uw6 4 rfl rfl 2 (by decide) wq778 rfl dX9_shift_103 ?_
                refine z_iload_n (pc := 106) C 4 dX9_shift_106 rfl ?_
                refine z_aload (pc := 107) C 0 dX9_shift_107 rfl ?_
                refine z_get (pc := 109) C uw6 6 rfl rfl 2 (by decide) wq778 rfl dX9_shift_109 ?_
                refine z_iload (pc := 112) C 6 dX9_shift_112 rfl ?_
                refine z_iload (pc := 114) C 7 dX9_shift_114 rfl ?_
                obtain ⟨g14, h⟩ := h
                refine z_copyl (pc := 116) (ws' := ((wX9 d (dN 0) (dI 0) (dT 0) (dNc 0) (dNcj 0) (dNcs 0) (dNcp 0) (dNw 0) (dx 0) dtt v) ++ (wTT cJ cT dtt dt vt (va_up gt 2 (sb (gt 2) 1 (va_cpy ((gt 1) 1) ((gt 2) 1) x2.toNatClampNeg x4.toNatClampNeg x5.toNatClampNeg)))))) C wq804 wq65 wq66 wq67 5 7 1 rfl rfl rfl g14 (Nat.le_of_ble_eq_true rfl) (Nat.le_of_ble_eq_true rfl) dX9_shift_116 (set_r (k := 1) (i := 6) rfl sTT_c2) ?_
                refine z_iload (pc := 119) C 7 dX9_shift_119 rfl ?_
                exact hret 121 _ _ x5 (va_up gt 2 (sb (gt 2) 1 (va_cpy ((gt 1) 1) ((gt 2) 1) x2.toNatClampNeg x4.toNatClampNeg x5.toNatClampNeg))) rfl h dX9_shift_121
              · have h := h.2 c13
                refine z_bipush (pc := 98) (v := -13) C dX9_shift_98 (by decide) ?_
                exact hret 100 _ _ (-13 : Int32) gt rfl h dX9_shift_100
          · have h := h.2 c9
            refine z_bipush (pc := 72) (v := -12) C dX9_shift_72 (by decide) ?_
            exact hret 74 _ _ (-12 : Int32) gt rfl h dX9_shift_74
        · have h := h.2 c8
          refine z_bipush (pc := 56) (v := -11) C dX9_shift_56 (by decide) ?_
          exact hret 58 _ _ (-11 : Int32) gt rfl h dX9_shift_58
    · have h := h.2 c4
      refine z_iconst (pc := 18) (v := -1) C dX9_shift_18 (by decide) ?_
      exact hret 19 _ _ (-1 : Int32) gt rfl h dX9_shift_19

set_option maxHeartbeats 4000000 in
set_option maxRecDepth 100000 in
theorem kX9_shift_1_3 {l : Launch} {D : va_G} {cI cJ cT : ClassId} (d : Nat → Nat) (dN : Nat → Nat) (dI : Nat → Nat) (dT : Nat → Nat) (dNc : Nat → Nat) (dNcj : Nat → Nat) (dNcs : Nat → Nat) (dNcp : Nat → Nat) (dNw : Nat → Nat) (dx : Nat → Nat) (dtt : Nat) (dt : Nat → Nat → Nat)  (v : Lf) (vt : Nat → Lf) (gt : Nat → Lg) (x2 : Int32) (x4 : Int32) (x5 : Int32) {Q : Int32 → (Nat → Lg) → Prop} (sz : Nat) (h : pX9_shift vt gt (nI 1) x2 (nI 3) x4 x5 Q) : Met l yX9_shift wdX9_shift rmX9_shift (Pz D (tyL cI cJ cT) [.ref (d 0), .int (nI 1), .int x2, .int (nI 3), .int x4, .int x5] ((wX9 d (dN 0) (dI 0) (dT 0) (dNc 0) (dNcj 0) (dNcs 0) (dNcp 0) (dNw 0) (dx 0) dtt v) ++ (wTT cJ cT dtt dt vt gt)) sz) (va_Qi (fun (r : Int32) (u : (Nat → Lg)) => Q r u) (Bz D (tyL cI cJ cT) ((wX9 d (dN 0) (dI 0) (dT 0) (dNc 0) (dNcj 0) (dNcs 0) (dNcp 0) (dNw 0) (dx 0) dtt v) ++ (wTT cJ cT dtt dt vt gt)) sz (fun (u : (Nat → Lg)) => ((wX9 d (dN 0) (dI 0) (dT 0) (dNc 0) (dNcj 0) (dNcs 0) (dNcp 0) (dNw 0) (dx 0) dtt v) ++ (wTT cJ cT dtt dt vt u)))) (va_A ((wX9 d (dN 0) (dI 0) (dT 0) (dNc 0) (dNcj 0) (dNcs 0) (dNcp 0) (dNw 0) (dx 0) dtt v) ++ (wTT cJ cT dtt dt vt gt)) sz)) 0 0 (va_A ((wX9 d (dN 0) (dI 0) (dT 0) (dNc 0) (dNcj 0) (dNcs 0) (dNcp 0) (dNw 0) (dx 0) dtt v) ++ (wTT cJ cT dtt dt vt gt)) sz) := by
  refine z_meti (cc := cX9_shift) (maxL := 8) (own := RX9) (lv0 := [(0, .ref (d 0)), (1, .int (nI 1)), (2, .int x2), (3, .int (nI 3)), (4, .int x4), (5, .int x5)]) (by decide) rfl rfl (Nat.le_of_ble_eq_true rfl) rfl ?_
  intro p e s m args below meth c A QQ C hin hret
  refine z_iload_n (pc := 0) C 1 dX9_shift_0 rfl ?_
  refine z_iconst (pc := 1) (v := 0) C dX9_shift_1 (by decide) ?_
  refine z_iconst (pc := 2) (v := 5) C dX9_shift_2 (by decide) ?_
  refine z_call0i (pc := 3) C (z_runS (pc := 3) (wc := ([] : va_W)) (As := [.int (nI 1), .int (0 : Int32), .int (5 : Int32)]) C (fun sz => kX9_within (nI 1) (0 : Int32) (5 : Int32) sz h) [] rfl (by decide) (gdS wq366 wq553 wq373 wq112) rfl rfl rfl hdSX9_within ⟨Nat.le_of_ble_eq_true rfl, Nat.le_of_ble_eq_true rfl⟩ rfl (Nat.le_of_ble_eq_true rfl) ⟨Nat.zero_le _, Nat.zero_le _⟩ dX9_shift_3) (fun r1 u1 h => ?_)
  refine z_if_eq (pc := 6) (tgt := 18) C dX9_shift_6 (by decide) (fun c2 => ?_) (fun c2 => ?_)
  · have h := h.1 c2
    refine z_iconst (pc := 18) (v := -1) C dX9_shift_18 (by decide) ?_
    exact hret 19 _ _ (-1 : Int32) gt rfl h dX9_shift_19
  · have h := h.2 c2
    refine z_iload_n (pc := 9) C 3 dX9_shift_9 rfl ?_
    refine z_iconst (pc := 10) (v := 0) C dX9_shift_10 (by decide) ?_
    refine z_iconst (pc := 11) (v := 5) C dX9_shift_11 (by decide) ?_
    refine z_call0i (pc := 12) C (z_runS (pc := 12) (wc := ([] : va_W)) (As := [.int (nI 3), .int (0 : Int32), .int (5 : Int32)]) C (fun sz => kX9_within (nI 3) (0 : Int32) (5 : Int32) sz h) [] rfl (by decide) (gdS wq366 wq553 wq373 wq112) rfl rfl rfl hdSX9_within ⟨Nat.le_of_ble_eq_true rfl, Nat.le_of_ble_eq_true rfl⟩ rfl (Nat.le_of_ble_eq_true rfl) ⟨Nat.zero_le _, Nat.zero_le _⟩ dX9_shift_12) (fun r3 u3 h => ?_)
    refine z_if_ne (pc := 15) (tgt := 20) C dX9_shift_15 (by decide) (fun c4 => ?_) (fun c4 => ?_)
    · have h := h.1 c4
      refine z_aload_n (pc := 20) C 0 dX9_shift_20 rfl ?_
      refine z_get (pc := 21) C uw9 0 rfl rfl 9 (by decide) wq544 rfl dX9_shift_21 ?_
      refine z_iload_n (pc := 24) C 1 dX9_shift_24 rfl ?_
      obtain ⟨g5, h⟩ := h
      refine z_aldq (pc := 25) C 1 2 rfl rfl g5 (.ref (dt 1 0)) rfl dX9_shift_25 ?_
      refine z_astore (pc := 26) (lv' := [(6, .ref (dt 1 0)), (0, .ref (d 0)), (1, .int (nI 1)), (2, .int x2), (3, .int (nI 3)), (4, .int x4), (5, .int x5)]) C dX9_shift_26 (by decide) rfl ?_
      refine z_aload_n (pc := 28) C 1 dX9_shift_28 rfl ?_
      refine z_get (pc := 29) C uw9 0 rfl rfl 9 (by decide) wq544 rfl dX9_shift_29 ?_
      refine z_iload_n (pc := 32) C 4 dX9_shift_32 rfl ?_
      obtain ⟨g6, h⟩ := h
      refine z_aldq (pc := 33) C 1 2 rfl rfl g6 (.ref (dt 3 0)) rfl dX9_shift_33 ?_
      refine z_astore (pc := 34) (lv' := [(7, .ref (dt 3 0)), (6, .ref (dt 1 0)), (0, .ref (d 0)), (1, .int (nI 1)), (2, .int x2), (3, .int (nI 3)), (4, .int x4), (5, .int x5)]) C dX9_shift_34 (by decide) rfl ?_
      refine z_aload (pc := 36) C 1 dX9_shift_36 rfl ?_
      refine z_get (pc := 38) C uw6 4 rfl rfl 0 (by decide) wq777 rfl dX9_shift_38 ?_
      refine z_bipush (pc := 41) (v := -5) C dX9_shift_41 (by decide) ?_
      refine z_icmp_eq (pc := 43) (tgt := 56) C dX9_shift_43 (by decide) (fun c7 => ?_) (fun c7 => ?_)
      · have h := h.1 c7
        refine z_bipush (pc := 56) (v := -11) C dX9_shift_56 (by decide) ?_
        exact hret 58 _ _ (-11 : Int32) gt rfl h dX9_shift_58
      · have h := h.2 c7
        refine z_aload (pc := 46) C 0 dX9_shift_46 rfl ?_
        refine z_get (pc := 48) C uw6 8 rfl rfl 0 (by decide) wq777 rfl dX9_shift_48 ?_
        refine z_bipush (pc := 51) (v := -5) C dX9_shift_51 (by decide) ?_
        refine z_icmp_ne (pc := 53) (tgt := 59) C dX9_shift_53 (by decide) (fun c8 => ?_) (fun c8 => ?_)
        · have h := h.1 c8
          refine z_aload (pc := 59) C 1 dX9_shift_59 rfl ?_
          refine z_get (pc := 61) C uw6 4 rfl rfl 0 (by decide) wq777 rfl dX9_shift_61 ?_
          refine z_aload (pc := 64) C 0 dX9_shift_64 rfl ?_
          refine z_get (pc := 66) C uw6 8 rfl rfl 0 (by decide) wq777 rfl dX9_shift_66 ?_
          refine z_icmp_eq (pc := 69) (tgt := 75) C dX9_shift_69 (by decide) (fun c9 => ?_) (fun c9 => ?_)
          · have h := h.1 c9
            refine z_aload (pc := 75) C 1 dX9_shift_75 rfl ?_
            refine z_iload_n (pc := 77) C 4 dX9_shift_77 rfl ?_
            refine z_iload (pc := 78) C 7 dX9_shift_78 rfl ?_
            refine z_callRi (pc := 80) C (z_runV (pc := 80) (wc := (wX6 cJ (dt 1) (vt 1) (gt 1))) (As := [.int x2, .int x5]) C (fun sz => kX6_hasPlaces (dt 1) (vt 1) (gt 1) x2 x5 sz h) [4, 5] rfl (by decide) (gdV wq414 wq805 wq806 wq807 wq546) rfl rfl rfl hdX6_hasPlaces 4 rfl rfl rfl ⟨Nat.le_of_ble_eq_true rfl, Nat.le_of_ble_eq_true rfl⟩ rfl (Nat.le_of_ble_eq_true rfl) ⟨Nat.zero_le _, Nat.zero_le _⟩ dX9_shift_80) [4, 5] rfl (by decide) (fun r10 u10 h => ?_)
            refine z_if_eq (pc := 83) (tgt := 98) C dX9_shift_83 (by decide) (fun c11 => ?_) (fun c11 => ?_)
            · have h := h.1 c11
              refine z_bipush (pc := 98) (v := -13) C dX9_shift_98 (by decide) ?_
              exact hret 100 _ _ (-13 : Int32) gt rfl h dX9_shift_100
            · have h := h.2 c11
              refine z_aload (pc := 86) C 0 dX9_shift_86 rfl ?_
              refine z_iload (pc := 88) C 6 dX9_shift_88 rfl ?_
              refine z_iload (pc := 90) C 7 dX9_shift_90 rfl ?_
              refine z_callRi (pc := 92) C (z_runV (pc := 92) (wc := (wX6 cJ (dt 3) (vt 3) (gt 3))) (As := [.int x4, .int x5]) C (fun sz => kX6_hasPlaces (dt 3) (vt 3) (gt 3) x4 x5 sz h) [8, 9] rfl (by decide) (gdV wq414 wq805 wq806 wq807 wq546) rfl rfl rfl hdX6_hasPlaces 8 rfl rfl rfl ⟨Nat.le_of_ble_eq_true rfl, Nat.le_of_ble_eq_true rfl⟩ rfl (Nat.le_of_ble_eq_true rfl) ⟨Nat.zero_le _, Nat.zero_le _⟩ dX9_shift_92) [8, 9] rfl (by decide) (fun r12 u12 h => ?_)
              refine z_if_ne (pc := 95) (tgt := 101) C dX9_shift_95 (by decide) (fun c13 => ?_) (fun c13 => ?_)
              · have h := h.1 c13
                refine z_aload (pc := 101) C 1 dX9_shift_101 rfl ?_
                refine z_get (pc := 103) C uw6 4 rfl rfl 2 (by decide) wq778 rfl dX9_shift_103 ?_
                refine z_iload_n (pc := 106) C 4 dX9_shift_106 rfl ?_
                refine z_aload (pc := 107) C 0 dX9_shift_107 rfl ?_
                refine z_get (pc := 109) C uw6 8 rfl rfl 2 (by decide) wq778 rfl dX9_shift_109 ?_
                refine z_iload (pc := 112) C 6 dX9_shift_112 rfl ?_
                refine z_iload (pc := 114) C 7 dX9_shift_114 rfl ?_
                obtain ⟨g14, h⟩ := h
                refine z_copyl (pc := 116) (ws' := ((wX9 d (dN 0) (dI 0) (dT 0) (dNc 0) (dNcj 0) (dNcs 0) (dNcp 0) (dNw 0) (dx 0) dtt v) ++ (wTT cJ cT dtt dt vt (va_up gt 3 (sb (gt 3) 1 (va_cpy ((gt 1) 1) ((gt 3) 1) x2.toNatClampNeg x4.toNatClampNeg x5.toNatClampNeg)))))) C wq804 wq65 wq66 wq67 5 9 1 rfl rfl rfl g14 (Nat.le_of_ble_eq_true rfl) (Nat.le_of_ble_eq_true rfl) dX9_shift_116 (set_r (k := 1) (i := 8) rfl sTT_c3) ?_
                refine z_iload (pc := 119) C 7 dX9_shift_119 rfl ?_
                exact hret 121 _ _ x5 (va_up gt 3 (sb (gt 3) 1 (va_cpy ((gt 1) 1) ((gt 3) 1) x2.toNatClampNeg x4.toNatClampNeg x5.toNatClampNeg))) rfl h dX9_shift_121
              · have h := h.2 c13
                refine z_bipush (pc := 98) (v := -13) C dX9_shift_98 (by decide) ?_
                exact hret 100 _ _ (-13 : Int32) gt rfl h dX9_shift_100
          · have h := h.2 c9
            refine z_bipush (pc := 72) (v := -12) C dX9_shift_72 (by decide) ?_
            exact hret 74 _ _ (-12 : Int32) gt rfl h dX9_shift_74
        · have h := h.2 c8
          refine z_bipush (pc := 56) (v := -11) C dX9_shift_56 (by decide) ?_
          exact hret 58 _ _ (-11 : Int32) gt rfl h dX9_shift_58
    · have h := h.2 c4
      refine z_iconst (pc := 18) (v := -1) C dX9_shift_18 (by decide) ?_
      exact hret 19 _ _ (-1 : Int32) gt rfl h dX9_shift_19

set_option maxHeartbeats 4000000 in
set_option maxRecDepth 100000 in
theorem kX9_shift_1_4 {l : Launch} {D : va_G} {cI cJ cT : ClassId} (d : Nat → Nat) (dN : Nat → Nat) (dI : Nat → Nat) (dT : Nat → Nat) (dNc : Nat → Nat) (dNcj : Nat → Nat) (dNcs : Nat → Nat) (dNcp : Nat → Nat) (dNw : Nat → Nat) (dx : Nat → Nat) (dtt : Nat) (dt : Nat → Nat → Nat)  (v : Lf) (vt : Nat → Lf) (gt : Nat → Lg) (x2 : Int32) (x4 : Int32) (x5 : Int32) {Q : Int32 → (Nat → Lg) → Prop} (sz : Nat) (h : pX9_shift vt gt (nI 1) x2 (nI 4) x4 x5 Q) : Met l yX9_shift wdX9_shift rmX9_shift (Pz D (tyL cI cJ cT) [.ref (d 0), .int (nI 1), .int x2, .int (nI 4), .int x4, .int x5] ((wX9 d (dN 0) (dI 0) (dT 0) (dNc 0) (dNcj 0) (dNcs 0) (dNcp 0) (dNw 0) (dx 0) dtt v) ++ (wTT cJ cT dtt dt vt gt)) sz) (va_Qi (fun (r : Int32) (u : (Nat → Lg)) => Q r u) (Bz D (tyL cI cJ cT) ((wX9 d (dN 0) (dI 0) (dT 0) (dNc 0) (dNcj 0) (dNcs 0) (dNcp 0) (dNw 0) (dx 0) dtt v) ++ (wTT cJ cT dtt dt vt gt)) sz (fun (u : (Nat → Lg)) => ((wX9 d (dN 0) (dI 0) (dT 0) (dNc 0) (dNcj 0) (dNcs 0) (dNcp 0) (dNw 0) (dx 0) dtt v) ++ (wTT cJ cT dtt dt vt u)))) (va_A ((wX9 d (dN 0) (dI 0) (dT 0) (dNc 0) (dNcj 0) (dNcs 0) (dNcp 0) (dNw 0) (dx 0) dtt v) ++ (wTT cJ cT dtt dt vt gt)) sz)) 0 0 (va_A ((wX9 d (dN 0) (dI 0) (dT 0) (dNc 0) (dNcj 0) (dNcs 0) (dNcp 0) (dNw 0) (dx 0) dtt v) ++ (wTT cJ cT dtt dt vt gt)) sz) := by
  refine z_meti (cc := cX9_shift) (maxL := 8) (own := RX9) (lv0 := [(0, .ref (d 0)), (1, .int (nI 1)), (2, .int x2), (3, .int (nI 4)), (4, .int x4), (5, .int x5)]) (by decide) rfl rfl (Nat.le_of_ble_eq_true rfl) rfl ?_
  intro p e s m args below meth c A QQ C hin hret
  refine z_iload_n (pc := 0) C 1 dX9_shift_0 rfl ?_
  refine z_iconst (pc := 1) (v := 0) C dX9_shift_1 (by decide) ?_
  refine z_iconst (pc := 2) (v := 5) C dX9_shift_2 (by decide) ?_
  refine z_call0i (pc := 3) C (z_runS (pc := 3) (wc := ([] : va_W)) (As := [.int (nI 1), .int (0 : Int32), .int (5 : Int32)]) C (fun sz => kX9_within (nI 1) (0 : Int32) (5 : Int32) sz h) [] rfl (by decide) (gdS wq366 wq553 wq373 wq112) rfl rfl rfl hdSX9_within ⟨Nat.le_of_ble_eq_true rfl, Nat.le_of_ble_eq_true rfl⟩ rfl (Nat.le_of_ble_eq_true rfl) ⟨Nat.zero_le _, Nat.zero_le _⟩ dX9_shift_3) (fun r1 u1 h => ?_)
  refine z_if_eq (pc := 6) (tgt := 18) C dX9_shift_6 (by decide) (fun c2 => ?_) (fun c2 => ?_)
  · have h := h.1 c2
    refine z_iconst (pc := 18) (v := -1) C dX9_shift_18 (by decide) ?_
    exact hret 19 _ _ (-1 : Int32) gt rfl h dX9_shift_19
  · have h := h.2 c2
    refine z_iload_n (pc := 9) C 3 dX9_shift_9 rfl ?_
    refine z_iconst (pc := 10) (v := 0) C dX9_shift_10 (by decide) ?_
    refine z_iconst (pc := 11) (v := 5) C dX9_shift_11 (by decide) ?_
    refine z_call0i (pc := 12) C (z_runS (pc := 12) (wc := ([] : va_W)) (As := [.int (nI 4), .int (0 : Int32), .int (5 : Int32)]) C (fun sz => kX9_within (nI 4) (0 : Int32) (5 : Int32) sz h) [] rfl (by decide) (gdS wq366 wq553 wq373 wq112) rfl rfl rfl hdSX9_within ⟨Nat.le_of_ble_eq_true rfl, Nat.le_of_ble_eq_true rfl⟩ rfl (Nat.le_of_ble_eq_true rfl) ⟨Nat.zero_le _, Nat.zero_le _⟩ dX9_shift_12) (fun r3 u3 h => ?_)
    refine z_if_ne (pc := 15) (tgt := 20) C dX9_shift_15 (by decide) (fun c4 => ?_) (fun c4 => ?_)
    · have h := h.1 c4
      refine z_aload_n (pc := 20) C 0 dX9_shift_20 rfl ?_
      refine z_get (pc := 21) C uw9 0 rfl rfl 9 (by decide) wq544 rfl dX9_shift_21 ?_
      refine z_iload_n (pc := 24) C 1 dX9_shift_24 rfl ?_
      obtain ⟨g5, h⟩ := h
      refine z_aldq (pc := 25) C 1 2 rfl rfl g5 (.ref (dt 1 0)) rfl dX9_shift_25 ?_
      refine z_astore (pc := 26) (lv' := [(6, .ref (dt 1 0)), (0, .ref (d 0)), (1, .int (nI 1)), (2, .int x2), (3, .int (nI 4)), (4, .int x4), (5, .int x5)]) C dX9_shift_26 (by decide) rfl ?_
      refine z_aload_n (pc := 28) C 1 dX9_shift_28 rfl ?_
      refine z_get (pc := 29) C uw9 0 rfl rfl 9 (by decide) wq544 rfl dX9_shift_29 ?_
      refine z_iload_n (pc := 32) C 4 dX9_shift_32 rfl ?_
      obtain ⟨g6, h⟩ := h
      refine z_aldq (pc := 33) C 1 2 rfl rfl g6 (.ref (dt 4 0)) rfl dX9_shift_33 ?_
      refine z_astore (pc := 34) (lv' := [(7, .ref (dt 4 0)), (6, .ref (dt 1 0)), (0, .ref (d 0)), (1, .int (nI 1)), (2, .int x2), (3, .int (nI 4)), (4, .int x4), (5, .int x5)]) C dX9_shift_34 (by decide) rfl ?_
      refine z_aload (pc := 36) C 1 dX9_shift_36 rfl ?_
      refine z_get (pc := 38) C uw6 4 rfl rfl 0 (by decide) wq777 rfl dX9_shift_38 ?_
      refine z_bipush (pc := 41) (v := -5) C dX9_shift_41 (by decide) ?_
      refine z_icmp_eq (pc := 43) (tgt := 56) C dX9_shift_43 (by decide) (fun c7 => ?_) (fun c7 => ?_)
      · have h := h.1 c7
        refine z_bipush (pc := 56) (v := -11) C dX9_shift_56 (by decide) ?_
        exact hret 58 _ _ (-11 : Int32) gt rfl h dX9_shift_58
      · have h := h.2 c7
        refine z_aload (pc := 46) C 0 dX9_shift_46 rfl ?_
        refine z_get (pc := 48) C uw6 10 rfl rfl 0 (by decide) wq777 rfl dX9_shift_48 ?_
        refine z_bipush (pc := 51) (v := -5) C dX9_shift_51 (by decide) ?_
        refine z_icmp_ne (pc := 53) (tgt := 59) C dX9_shift_53 (by decide) (fun c8 => ?_) (fun c8 => ?_)
        · have h := h.1 c8
          refine z_aload (pc := 59) C 1 dX9_shift_59 rfl ?_
          refine z_get (pc := 61) C uw6 4 rfl rfl 0 (by decide) wq777 rfl dX9_shift_61 ?_
          refine z_aload (pc := 64) C 0 dX9_shift_64 rfl ?_
          refine z_get (pc := 66) C uw6 10 rfl rfl 0 (by decide) wq777 rfl dX9_shift_66 ?_
          refine z_icmp_eq (pc := 69) (tgt := 75) C dX9_shift_69 (by decide) (fun c9 => ?_) (fun c9 => ?_)
          · have h := h.1 c9
            refine z_aload (pc := 75) C 1 dX9_shift_75 rfl ?_
            refine z_iload_n (pc := 77) C 4 dX9_shift_77 rfl ?_
            refine z_iload (pc := 78) C 7 dX9_shift_78 rfl ?_
            refine z_callRi (pc := 80) C (z_runV (pc := 80) (wc := (wX6 cJ (dt 1) (vt 1) (gt 1))) (As := [.int x2, .int x5]) C (fun sz => kX6_hasPlaces (dt 1) (vt 1) (gt 1) x2 x5 sz h) [4, 5] rfl (by decide) (gdV wq414 wq805 wq806 wq807 wq546) rfl rfl rfl hdX6_hasPlaces 4 rfl rfl rfl ⟨Nat.le_of_ble_eq_true rfl, Nat.le_of_ble_eq_true rfl⟩ rfl (Nat.le_of_ble_eq_true rfl) ⟨Nat.zero_le _, Nat.zero_le _⟩ dX9_shift_80) [4, 5] rfl (by decide) (fun r10 u10 h => ?_)
            refine z_if_eq (pc := 83) (tgt := 98) C dX9_shift_83 (by decide) (fun c11 => ?_) (fun c11 => ?_)
            · have h := h.1 c11
              refine z_bipush (pc := 98) (v := -13) C dX9_shift_98 (by decide) ?_
              exact hret 100 _ _ (-13 : Int32) gt rfl h dX9_shift_100
            · have h := h.2 c11
              refine z_aload (pc := 86) C 0 dX9_shift_86 rfl ?_
              refine z_iload (pc := 88) C 6 dX9_shift_88 rfl ?_
              refine z_iload (pc := 90) C 7 dX9_shift_90 rfl ?_
              refine z_callRi (pc := 92) C (z_runV (pc := 92) (wc := (wX6 cJ (dt 4) (vt 4) (gt 4))) (As := [.int x4, .int x5]) C (fun sz => kX6_hasPlaces (dt 4) (vt 4) (gt 4) x4 x5 sz h) [10, 11] rfl (by decide) (gdV wq414 wq805 wq806 wq807 wq546) rfl rfl rfl hdX6_hasPlaces 10 rfl rfl rfl ⟨Nat.le_of_ble_eq_true rfl, Nat.le_of_ble_eq_true rfl⟩ rfl (Nat.le_of_ble_eq_true rfl) ⟨Nat.zero_le _, Nat.zero_le _⟩ dX9_shift_92) [10, 11] rfl (by decide) (fun r12 u12 h => ?_)
              refine z_if_ne (pc := 95) (tgt := 101) C dX9_shift_95 (by decide) (fun c13 => ?_) (fun c13 => ?_)
              · have h := h.1 c13
                refine z_aload (pc := 101) C 1 dX9_shift_101 rfl ?_
                refine z_get (pc := 103) C uw6 4 rfl rfl 2 (by decide) wq778 rfl dX9_shift_103 ?_
                refine z_iload_n (pc := 106) C 4 dX9_shift_106 rfl ?_
                refine z_aload (pc := 107) C 0 dX9_shift_107 rfl ?_
                refine z_get (pc := 109) C uw6 10 rfl rfl 2 (by decide) wq778 rfl dX9_shift_109 ?_
                refine z_iload (pc := 112) C 6 dX9_shift_112 rfl ?_
                refine z_iload (pc := 114) C 7 dX9_shift_114 rfl ?_
                obtain ⟨g14, h⟩ := h
                refine z_copyl (pc := 116) (ws' := ((wX9 d (dN 0) (dI 0) (dT 0) (dNc 0) (dNcj 0) (dNcs 0) (dNcp 0) (dNw 0) (dx 0) dtt v) ++ (wTT cJ cT dtt dt vt (va_up gt 4 (sb (gt 4) 1 (va_cpy ((gt 1) 1) ((gt 4) 1) x2.toNatClampNeg x4.toNatClampNeg x5.toNatClampNeg)))))) C wq804 wq65 wq66 wq67 5 11 1 rfl rfl rfl g14 (Nat.le_of_ble_eq_true rfl) (Nat.le_of_ble_eq_true rfl) dX9_shift_116 (set_r (k := 1) (i := 10) rfl sTT_c4) ?_
                refine z_iload (pc := 119) C 7 dX9_shift_119 rfl ?_
                exact hret 121 _ _ x5 (va_up gt 4 (sb (gt 4) 1 (va_cpy ((gt 1) 1) ((gt 4) 1) x2.toNatClampNeg x4.toNatClampNeg x5.toNatClampNeg))) rfl h dX9_shift_121
              · have h := h.2 c13
                refine z_bipush (pc := 98) (v := -13) C dX9_shift_98 (by decide) ?_
                exact hret 100 _ _ (-13 : Int32) gt rfl h dX9_shift_100
          · have h := h.2 c9
            refine z_bipush (pc := 72) (v := -12) C dX9_shift_72 (by decide) ?_
            exact hret 74 _ _ (-12 : Int32) gt rfl h dX9_shift_74
        · have h := h.2 c8
          refine z_bipush (pc := 56) (v := -11) C dX9_shift_56 (by decide) ?_
          exact hret 58 _ _ (-11 : Int32) gt rfl h dX9_shift_58
    · have h := h.2 c4
      refine z_iconst (pc := 18) (v := -1) C dX9_shift_18 (by decide) ?_
      exact hret 19 _ _ (-1 : Int32) gt rfl h dX9_shift_19

set_option maxHeartbeats 4000000 in
set_option maxRecDepth 100000 in
theorem kX9_shift_1_5 {l : Launch} {D : va_G} {cI cJ cT : ClassId} (d : Nat → Nat) (dN : Nat → Nat) (dI : Nat → Nat) (dT : Nat → Nat) (dNc : Nat → Nat) (dNcj : Nat → Nat) (dNcs : Nat → Nat) (dNcp : Nat → Nat) (dNw : Nat → Nat) (dx : Nat → Nat) (dtt : Nat) (dt : Nat → Nat → Nat)  (v : Lf) (vt : Nat → Lf) (gt : Nat → Lg) (x2 : Int32) (x4 : Int32) (x5 : Int32) {Q : Int32 → (Nat → Lg) → Prop} (sz : Nat) (h : pX9_shift vt gt (nI 1) x2 (nI 5) x4 x5 Q) : Met l yX9_shift wdX9_shift rmX9_shift (Pz D (tyL cI cJ cT) [.ref (d 0), .int (nI 1), .int x2, .int (nI 5), .int x4, .int x5] ((wX9 d (dN 0) (dI 0) (dT 0) (dNc 0) (dNcj 0) (dNcs 0) (dNcp 0) (dNw 0) (dx 0) dtt v) ++ (wTT cJ cT dtt dt vt gt)) sz) (va_Qi (fun (r : Int32) (u : (Nat → Lg)) => Q r u) (Bz D (tyL cI cJ cT) ((wX9 d (dN 0) (dI 0) (dT 0) (dNc 0) (dNcj 0) (dNcs 0) (dNcp 0) (dNw 0) (dx 0) dtt v) ++ (wTT cJ cT dtt dt vt gt)) sz (fun (u : (Nat → Lg)) => ((wX9 d (dN 0) (dI 0) (dT 0) (dNc 0) (dNcj 0) (dNcs 0) (dNcp 0) (dNw 0) (dx 0) dtt v) ++ (wTT cJ cT dtt dt vt u)))) (va_A ((wX9 d (dN 0) (dI 0) (dT 0) (dNc 0) (dNcj 0) (dNcs 0) (dNcp 0) (dNw 0) (dx 0) dtt v) ++ (wTT cJ cT dtt dt vt gt)) sz)) 0 0 (va_A ((wX9 d (dN 0) (dI 0) (dT 0) (dNc 0) (dNcj 0) (dNcs 0) (dNcp 0) (dNw 0) (dx 0) dtt v) ++ (wTT cJ cT dtt dt vt gt)) sz) := by
  refine z_meti (cc := cX9_shift) (maxL := 8) (own := RX9) (lv0 := [(0, .ref (d 0)), (1, .int (nI 1)), (2, .int x2), (3, .int (nI 5)), (4, .int x4), (5, .int x5)]) (by decide) rfl rfl (Nat.le_of_ble_eq_true rfl) rfl ?_
  intro p e s m args below meth c A QQ C hin hret
  refine z_iload_n (pc := 0) C 1 dX9_shift_0 rfl ?_
  refine z_iconst (pc := 1) (v := 0) C dX9_shift_1 (by decide) ?_
  refine z_iconst (pc := 2) (v := 5) C dX9_shift_2 (by decide) ?_
  refine z_call0i (pc := 3) C (z_runS (pc := 3) (wc := ([] : va_W)) (As := [.int (nI 1), .int (0 : Int32), .int (5 : Int32)]) C (fun sz => kX9_within (nI 1) (0 : Int32) (5 : Int32) sz h) [] rfl (by decide) (gdS wq366 wq553 wq373 wq112) rfl rfl rfl hdSX9_within ⟨Nat.le_of_ble_eq_true rfl, Nat.le_of_ble_eq_true rfl⟩ rfl (Nat.le_of_ble_eq_true rfl) ⟨Nat.zero_le _, Nat.zero_le _⟩ dX9_shift_3) (fun r1 u1 h => ?_)
  refine z_if_eq (pc := 6) (tgt := 18) C dX9_shift_6 (by decide) (fun c2 => ?_) (fun c2 => ?_)
  · have h := h.1 c2
    refine z_iconst (pc := 18) (v := -1) C dX9_shift_18 (by decide) ?_
    exact hret 19 _ _ (-1 : Int32) gt rfl h dX9_shift_19
  · have h := h.2 c2
    refine z_iload_n (pc := 9) C 3 dX9_shift_9 rfl ?_
    refine z_iconst (pc := 10) (v := 0) C dX9_shift_10 (by decide) ?_
    refine z_iconst (pc := 11) (v := 5) C dX9_shift_11 (by decide) ?_
    refine z_call0i (pc := 12) C (z_runS (pc := 12) (wc := ([] : va_W)) (As := [.int (nI 5), .int (0 : Int32), .int (5 : Int32)]) C (fun sz => kX9_within (nI 5) (0 : Int32) (5 : Int32) sz h) [] rfl (by decide) (gdS wq366 wq553 wq373 wq112) rfl rfl rfl hdSX9_within ⟨Nat.le_of_ble_eq_true rfl, Nat.le_of_ble_eq_true rfl⟩ rfl (Nat.le_of_ble_eq_true rfl) ⟨Nat.zero_le _, Nat.zero_le _⟩ dX9_shift_12) (fun r3 u3 h => ?_)
    refine z_if_ne (pc := 15) (tgt := 20) C dX9_shift_15 (by decide) (fun c4 => ?_) (fun c4 => ?_)
    · have h := h.1 c4
      refine z_aload_n (pc := 20) C 0 dX9_shift_20 rfl ?_
      refine z_get (pc := 21) C uw9 0 rfl rfl 9 (by decide) wq544 rfl dX9_shift_21 ?_
      refine z_iload_n (pc := 24) C 1 dX9_shift_24 rfl ?_
      obtain ⟨g5, h⟩ := h
      refine z_aldq (pc := 25) C 1 2 rfl rfl g5 (.ref (dt 1 0)) rfl dX9_shift_25 ?_
      refine z_astore (pc := 26) (lv' := [(6, .ref (dt 1 0)), (0, .ref (d 0)), (1, .int (nI 1)), (2, .int x2), (3, .int (nI 5)), (4, .int x4), (5, .int x5)]) C dX9_shift_26 (by decide) rfl ?_
      refine z_aload_n (pc := 28) C 1 dX9_shift_28 rfl ?_
      refine z_get (pc := 29) C uw9 0 rfl rfl 9 (by decide) wq544 rfl dX9_shift_29 ?_
      refine z_iload_n (pc := 32) C 4 dX9_shift_32 rfl ?_
      obtain ⟨g6, h⟩ := h
      refine z_aldq (pc := 33) C 1 2 rfl rfl g6 (.ref (dt 5 0)) rfl dX9_shift_33 ?_
      refine z_astore (pc := 34) (lv' := [(7, .ref (dt 5 0)), (6, .ref (dt 1 0)), (0, .ref (d 0)), (1, .int (nI 1)), (2, .int x2), (3, .int (nI 5)), (4, .int x4), (5, .int x5)]) C dX9_shift_34 (by decide) rfl ?_
      refine z_aload (pc := 36) C 1 dX9_shift_36 rfl ?_
      refine z_get (pc := 38) C uw6 4 rfl rfl 0 (by decide) wq777 rfl dX9_shift_38 ?_
      refine z_bipush (pc := 41) (v := -5) C dX9_shift_41 (by decide) ?_
      refine z_icmp_eq (pc := 43) (tgt := 56) C dX9_shift_43 (by decide) (fun c7 => ?_) (fun c7 => ?_)
      · have h := h.1 c7
        refine z_bipush (pc := 56) (v := -11) C dX9_shift_56 (by decide) ?_
        exact hret 58 _ _ (-11 : Int32) gt rfl h dX9_shift_58
      · have h := h.2 c7
        refine z_aload (pc := 46) C 0 dX9_shift_46 rfl ?_
        refine z_get (pc := 48) C uw6 12 rfl rfl 0 (by decide) wq777 rfl dX9_shift_48 ?_
        refine z_bipush (pc := 51) (v := -5) C dX9_shift_51 (by decide) ?_
        refine z_icmp_ne (pc := 53) (tgt := 59) C dX9_shift_53 (by decide) (fun c8 => ?_) (fun c8 => ?_)
        · have h := h.1 c8
          refine z_aload (pc := 59) C 1 dX9_shift_59 rfl ?_
          refine z_get (pc := 61) C uw6 4 rfl rfl 0 (by decide) wq777 rfl dX9_shift_61 ?_
          refine z_aload (pc := 64) C 0 dX9_shift_64 rfl ?_
          refine z_get (pc := 66) C uw6 12 rfl rfl 0 (by decide) wq777 rfl dX9_shift_66 ?_
          refine z_icmp_eq (pc := 69) (tgt := 75) C dX9_shift_69 (by decide) (fun c9 => ?_) (fun c9 => ?_)
          · have h := h.1 c9
            refine z_aload (pc := 75) C 1 dX9_shift_75 rfl ?_
            refine z_iload_n (pc := 77) C 4 dX9_shift_77 rfl ?_
            refine z_iload (pc := 78) C 7 dX9_shift_78 rfl ?_
            refine z_callRi (pc := 80) C (z_runV (pc := 80) (wc := (wX6 cJ (dt 1) (vt 1) (gt 1))) (As := [.int x2, .int x5]) C (fun sz => kX6_hasPlaces (dt 1) (vt 1) (gt 1) x2 x5 sz h) [4, 5] rfl (by decide) (gdV wq414 wq805 wq806 wq807 wq546) rfl rfl rfl hdX6_hasPlaces 4 rfl rfl rfl ⟨Nat.le_of_ble_eq_true rfl, Nat.le_of_ble_eq_true rfl⟩ rfl (Nat.le_of_ble_eq_true rfl) ⟨Nat.zero_le _, Nat.zero_le _⟩ dX9_shift_80) [4, 5] rfl (by decide) (fun r10 u10 h => ?_)
            refine z_if_eq (pc := 83) (tgt := 98) C dX9_shift_83 (by decide) (fun c11 => ?_) (fun c11 => ?_)
            · have h := h.1 c11
              refine z_bipush (pc := 98) (v := -13) C dX9_shift_98 (by decide) ?_
              exact hret 100 _ _ (-13 : Int32) gt rfl h dX9_shift_100
            · have h := h.2 c11
              refine z_aload (pc := 86) C 0 dX9_shift_86 rfl ?_
              refine z_iload (pc := 88) C 6 dX9_shift_88 rfl ?_
              refine z_iload (pc := 90) C 7 dX9_shift_90 rfl ?_
              refine z_callRi (pc := 92) C (z_runV (pc := 92) (wc := (wX6 cJ (dt 5) (vt 5) (gt 5))) (As := [.int x4, .int x5]) C (fun sz => kX6_hasPlaces (dt 5) (vt 5) (gt 5) x4 x5 sz h) [12, 13] rfl (by decide) (gdV wq414 wq805 wq806 wq807 wq546) rfl rfl rfl hdX6_hasPlaces 12 rfl rfl rfl ⟨Nat.le_of_ble_eq_true rfl, Nat.le_of_ble_eq_true rfl⟩ rfl (Nat.le_of_ble_eq_true rfl) ⟨Nat.zero_le _, Nat.zero_le _⟩ dX9_shift_92) [12, 13] rfl (by decide) (fun r12 u12 h => ?_)
              refine z_if_ne (pc := 95) (tgt := 101) C dX9_shift_95 (by decide) (fun c13 => ?_) (fun c13 => ?_)
              · have h := h.1 c13
                refine z_aload (pc := 101) C 1 dX9_shift_101 rfl ?_
                refine z_get (pc := 103) C uw6 4 rfl rfl 2 (by decide) wq778 rfl dX9_shift_103 ?_
                refine z_iload_n (pc := 106) C 4 dX9_shift_106 rfl ?_
                refine z_aload (pc := 107) C 0 dX9_shift_107 rfl ?_
                refine z_get (pc := 109) C uw6 12 rfl rfl 2 (by decide) wq778 rfl dX9_shift_109 ?_
                refine z_iload (pc := 112) C 6 dX9_shift_112 rfl ?_
                refine z_iload (pc := 114) C 7 dX9_shift_114 rfl ?_
                obtain ⟨g14, h⟩ := h
                refine z_copyl (pc := 116) (ws' := ((wX9 d (dN 0) (dI 0) (dT 0) (dNc 0) (dNcj 0) (dNcs 0) (dNcp 0) (dNw 0) (dx 0) dtt v) ++ (wTT cJ cT dtt dt vt (va_up gt 5 (sb (gt 5) 1 (va_cpy ((gt 1) 1) ((gt 5) 1) x2.toNatClampNeg x4.toNatClampNeg x5.toNatClampNeg)))))) C wq804 wq65 wq66 wq67 5 13 1 rfl rfl rfl g14 (Nat.le_of_ble_eq_true rfl) (Nat.le_of_ble_eq_true rfl) dX9_shift_116 (set_r (k := 1) (i := 12) rfl sTT_c5) ?_
                refine z_iload (pc := 119) C 7 dX9_shift_119 rfl ?_
                exact hret 121 _ _ x5 (va_up gt 5 (sb (gt 5) 1 (va_cpy ((gt 1) 1) ((gt 5) 1) x2.toNatClampNeg x4.toNatClampNeg x5.toNatClampNeg))) rfl h dX9_shift_121
              · have h := h.2 c13
                refine z_bipush (pc := 98) (v := -13) C dX9_shift_98 (by decide) ?_
                exact hret 100 _ _ (-13 : Int32) gt rfl h dX9_shift_100
          · have h := h.2 c9
            refine z_bipush (pc := 72) (v := -12) C dX9_shift_72 (by decide) ?_
            exact hret 74 _ _ (-12 : Int32) gt rfl h dX9_shift_74
        · have h := h.2 c8
          refine z_bipush (pc := 56) (v := -11) C dX9_shift_56 (by decide) ?_
          exact hret 58 _ _ (-11 : Int32) gt rfl h dX9_shift_58
    · have h := h.2 c4
      refine z_iconst (pc := 18) (v := -1) C dX9_shift_18 (by decide) ?_
      exact hret 19 _ _ (-1 : Int32) gt rfl h dX9_shift_19

set_option maxHeartbeats 4000000 in
set_option maxRecDepth 100000 in
theorem kX9_shift_1_n {l : Launch} {D : va_G} {cI cJ cT : ClassId} (d : Nat → Nat) (dN : Nat → Nat) (dI : Nat → Nat) (dT : Nat → Nat) (dNc : Nat → Nat) (dNcj : Nat → Nat) (dNcs : Nat → Nat) (dNcp : Nat → Nat) (dNw : Nat → Nat) (dx : Nat → Nat) (dtt : Nat) (dt : Nat → Nat → Nat)  (v : Lf) (vt : Nat → Lf) (gt : Nat → Lg) (x2 : Int32) (x3 : Int32) (x4 : Int32) (x5 : Int32) (g2 : ¬ vp_in x3 6) {Q : Int32 → (Nat → Lg) → Prop} (sz : Nat) (h : pX9_shift vt gt (nI 1) x2 x3 x4 x5 Q) : Met l yX9_shift wdX9_shift rmX9_shift (Pz D (tyL cI cJ cT) [.ref (d 0), .int (nI 1), .int x2, .int x3, .int x4, .int x5] ((wX9 d (dN 0) (dI 0) (dT 0) (dNc 0) (dNcj 0) (dNcs 0) (dNcp 0) (dNw 0) (dx 0) dtt v) ++ (wTT cJ cT dtt dt vt gt)) sz) (va_Qi (fun (r : Int32) (u : (Nat → Lg)) => Q r u) (Bz D (tyL cI cJ cT) ((wX9 d (dN 0) (dI 0) (dT 0) (dNc 0) (dNcj 0) (dNcs 0) (dNcp 0) (dNw 0) (dx 0) dtt v) ++ (wTT cJ cT dtt dt vt gt)) sz (fun (u : (Nat → Lg)) => ((wX9 d (dN 0) (dI 0) (dT 0) (dNc 0) (dNcj 0) (dNcs 0) (dNcp 0) (dNw 0) (dx 0) dtt v) ++ (wTT cJ cT dtt dt vt u)))) (va_A ((wX9 d (dN 0) (dI 0) (dT 0) (dNc 0) (dNcj 0) (dNcs 0) (dNcp 0) (dNw 0) (dx 0) dtt v) ++ (wTT cJ cT dtt dt vt gt)) sz)) 0 0 (va_A ((wX9 d (dN 0) (dI 0) (dT 0) (dNc 0) (dNcj 0) (dNcs 0) (dNcp 0) (dNw 0) (dx 0) dtt v) ++ (wTT cJ cT dtt dt vt gt)) sz) := by
  refine z_meti (cc := cX9_shift) (maxL := 8) (own := RX9) (lv0 := [(0, .ref (d 0)), (1, .int (nI 1)), (2, .int x2), (3, .int x3), (4, .int x4), (5, .int x5)]) (by decide) rfl rfl (Nat.le_of_ble_eq_true rfl) rfl ?_
  intro p e s m args below meth c A QQ C hin hret
  refine z_iload_n (pc := 0) C 1 dX9_shift_0 rfl ?_
  refine z_iconst (pc := 1) (v := 0) C dX9_shift_1 (by decide) ?_
  refine z_iconst (pc := 2) (v := 5) C dX9_shift_2 (by decide) ?_
  refine z_call0i (pc := 3) C (z_runS (pc := 3) (wc := ([] : va_W)) (As := [.int (nI 1), .int (0 : Int32), .int (5 : Int32)]) C (fun sz => kX9_within (nI 1) (0 : Int32) (5 : Int32) sz h) [] rfl (by decide) (gdS wq366 wq553 wq373 wq112) rfl rfl rfl hdSX9_within ⟨Nat.le_of_ble_eq_true rfl, Nat.le_of_ble_eq_true rfl⟩ rfl (Nat.le_of_ble_eq_true rfl) ⟨Nat.zero_le _, Nat.zero_le _⟩ dX9_shift_3) (fun r1 u1 h => ?_)
  refine z_if_eq (pc := 6) (tgt := 18) C dX9_shift_6 (by decide) (fun c2 => ?_) (fun c2 => ?_)
  · have h := h.1 c2
    refine z_iconst (pc := 18) (v := -1) C dX9_shift_18 (by decide) ?_
    exact hret 19 _ _ (-1 : Int32) gt rfl h dX9_shift_19
  · have h := h.2 c2
    refine z_iload_n (pc := 9) C 3 dX9_shift_9 rfl ?_
    refine z_iconst (pc := 10) (v := 0) C dX9_shift_10 (by decide) ?_
    refine z_iconst (pc := 11) (v := 5) C dX9_shift_11 (by decide) ?_
    refine z_call0i (pc := 12) C (z_runS (pc := 12) (wc := ([] : va_W)) (As := [.int x3, .int (0 : Int32), .int (5 : Int32)]) C (fun sz => kX9_within x3 (0 : Int32) (5 : Int32) sz h) [] rfl (by decide) (gdS wq366 wq553 wq373 wq112) rfl rfl rfl hdSX9_within ⟨Nat.le_of_ble_eq_true rfl, Nat.le_of_ble_eq_true rfl⟩ rfl (Nat.le_of_ble_eq_true rfl) ⟨Nat.zero_le _, Nat.zero_le _⟩ dX9_shift_12) (fun r3 u3 h => ?_)
    refine z_if_ne (pc := 15) (tgt := 20) C dX9_shift_15 (by decide) (fun c4 => ?_) (fun c4 => ?_)
    · have h := h.1 c4
      refine z_aload_n (pc := 20) C 0 dX9_shift_20 rfl ?_
      refine z_get (pc := 21) C uw9 0 rfl rfl 9 (by decide) wq544 rfl dX9_shift_21 ?_
      refine z_iload_n (pc := 24) C 1 dX9_shift_24 rfl ?_
      obtain ⟨g5, h⟩ := h
      refine z_aldq (pc := 25) C 1 2 rfl rfl g5 (.ref (dt 1 0)) rfl dX9_shift_25 ?_
      refine z_astore (pc := 26) (lv' := [(6, .ref (dt 1 0)), (0, .ref (d 0)), (1, .int (nI 1)), (2, .int x2), (3, .int x3), (4, .int x4), (5, .int x5)]) C dX9_shift_26 (by decide) rfl ?_
      refine z_aload_n (pc := 28) C 1 dX9_shift_28 rfl ?_
      refine z_get (pc := 29) C uw9 0 rfl rfl 9 (by decide) wq544 rfl dX9_shift_29 ?_
      refine z_iload_n (pc := 32) C 4 dX9_shift_32 rfl ?_
      obtain ⟨g6, h⟩ := h
      exact absurd g6 g2
    · have h := h.2 c4
      refine z_iconst (pc := 18) (v := -1) C dX9_shift_18 (by decide) ?_
      exact hret 19 _ _ (-1 : Int32) gt rfl h dX9_shift_19

set_option maxHeartbeats 4000000 in
set_option maxRecDepth 100000 in
theorem kX9_shift_2_0 {l : Launch} {D : va_G} {cI cJ cT : ClassId} (d : Nat → Nat) (dN : Nat → Nat) (dI : Nat → Nat) (dT : Nat → Nat) (dNc : Nat → Nat) (dNcj : Nat → Nat) (dNcs : Nat → Nat) (dNcp : Nat → Nat) (dNw : Nat → Nat) (dx : Nat → Nat) (dtt : Nat) (dt : Nat → Nat → Nat)  (v : Lf) (vt : Nat → Lf) (gt : Nat → Lg) (x2 : Int32) (x4 : Int32) (x5 : Int32) {Q : Int32 → (Nat → Lg) → Prop} (sz : Nat) (h : pX9_shift vt gt (nI 2) x2 (nI 0) x4 x5 Q) : Met l yX9_shift wdX9_shift rmX9_shift (Pz D (tyL cI cJ cT) [.ref (d 0), .int (nI 2), .int x2, .int (nI 0), .int x4, .int x5] ((wX9 d (dN 0) (dI 0) (dT 0) (dNc 0) (dNcj 0) (dNcs 0) (dNcp 0) (dNw 0) (dx 0) dtt v) ++ (wTT cJ cT dtt dt vt gt)) sz) (va_Qi (fun (r : Int32) (u : (Nat → Lg)) => Q r u) (Bz D (tyL cI cJ cT) ((wX9 d (dN 0) (dI 0) (dT 0) (dNc 0) (dNcj 0) (dNcs 0) (dNcp 0) (dNw 0) (dx 0) dtt v) ++ (wTT cJ cT dtt dt vt gt)) sz (fun (u : (Nat → Lg)) => ((wX9 d (dN 0) (dI 0) (dT 0) (dNc 0) (dNcj 0) (dNcs 0) (dNcp 0) (dNw 0) (dx 0) dtt v) ++ (wTT cJ cT dtt dt vt u)))) (va_A ((wX9 d (dN 0) (dI 0) (dT 0) (dNc 0) (dNcj 0) (dNcs 0) (dNcp 0) (dNw 0) (dx 0) dtt v) ++ (wTT cJ cT dtt dt vt gt)) sz)) 0 0 (va_A ((wX9 d (dN 0) (dI 0) (dT 0) (dNc 0) (dNcj 0) (dNcs 0) (dNcp 0) (dNw 0) (dx 0) dtt v) ++ (wTT cJ cT dtt dt vt gt)) sz) := by
  refine z_meti (cc := cX9_shift) (maxL := 8) (own := RX9) (lv0 := [(0, .ref (d 0)), (1, .int (nI 2)), (2, .int x2), (3, .int (nI 0)), (4, .int x4), (5, .int x5)]) (by decide) rfl rfl (Nat.le_of_ble_eq_true rfl) rfl ?_
  intro p e s m args below meth c A QQ C hin hret
  refine z_iload_n (pc := 0) C 1 dX9_shift_0 rfl ?_
  refine z_iconst (pc := 1) (v := 0) C dX9_shift_1 (by decide) ?_
  refine z_iconst (pc := 2) (v := 5) C dX9_shift_2 (by decide) ?_
  refine z_call0i (pc := 3) C (z_runS (pc := 3) (wc := ([] : va_W)) (As := [.int (nI 2), .int (0 : Int32), .int (5 : Int32)]) C (fun sz => kX9_within (nI 2) (0 : Int32) (5 : Int32) sz h) [] rfl (by decide) (gdS wq366 wq553 wq373 wq112) rfl rfl rfl hdSX9_within ⟨Nat.le_of_ble_eq_true rfl, Nat.le_of_ble_eq_true rfl⟩ rfl (Nat.le_of_ble_eq_true rfl) ⟨Nat.zero_le _, Nat.zero_le _⟩ dX9_shift_3) (fun r1 u1 h => ?_)
  refine z_if_eq (pc := 6) (tgt := 18) C dX9_shift_6 (by decide) (fun c2 => ?_) (fun c2 => ?_)
  · have h := h.1 c2
    refine z_iconst (pc := 18) (v := -1) C dX9_shift_18 (by decide) ?_
    exact hret 19 _ _ (-1 : Int32) gt rfl h dX9_shift_19
  · have h := h.2 c2
    refine z_iload_n (pc := 9) C 3 dX9_shift_9 rfl ?_
    refine z_iconst (pc := 10) (v := 0) C dX9_shift_10 (by decide) ?_
    refine z_iconst (pc := 11) (v := 5) C dX9_shift_11 (by decide) ?_
    refine z_call0i (pc := 12) C (z_runS (pc := 12) (wc := ([] : va_W)) (As := [.int (nI 0), .int (0 : Int32), .int (5 : Int32)]) C (fun sz => kX9_within (nI 0) (0 : Int32) (5 : Int32) sz h) [] rfl (by decide) (gdS wq366 wq553 wq373 wq112) rfl rfl rfl hdSX9_within ⟨Nat.le_of_ble_eq_true rfl, Nat.le_of_ble_eq_true rfl⟩ rfl (Nat.le_of_ble_eq_true rfl) ⟨Nat.zero_le _, Nat.zero_le _⟩ dX9_shift_12) (fun r3 u3 h => ?_)
    refine z_if_ne (pc := 15) (tgt := 20) C dX9_shift_15 (by decide) (fun c4 => ?_) (fun c4 => ?_)
    · have h := h.1 c4
      refine z_aload_n (pc := 20) C 0 dX9_shift_20 rfl ?_
      refine z_get (pc := 21) C uw9 0 rfl rfl 9 (by decide) wq544 rfl dX9_shift_21 ?_
      refine z_iload_n (pc := 24) C 1 dX9_shift_24 rfl ?_
      obtain ⟨g5, h⟩ := h
      refine z_aldq (pc := 25) C 1 2 rfl rfl g5 (.ref (dt 2 0)) rfl dX9_shift_25 ?_
      refine z_astore (pc := 26) (lv' := [(6, .ref (dt 2 0)), (0, .ref (d 0)), (1, .int (nI 2)), (2, .int x2), (3, .int (nI 0)), (4, .int x4), (5, .int x5)]) C dX9_shift_26 (by decide) rfl ?_
      refine z_aload_n (pc := 28) C 1 dX9_shift_28 rfl ?_
      refine z_get (pc := 29) C uw9 0 rfl rfl 9 (by decide) wq544 rfl dX9_shift_29 ?_
      refine z_iload_n (pc := 32) C 4 dX9_shift_32 rfl ?_
      obtain ⟨g6, h⟩ := h
      refine z_aldq (pc := 33) C 1 2 rfl rfl g6 (.ref (dt 0 0)) rfl dX9_shift_33 ?_
      refine z_astore (pc := 34) (lv' := [(7, .ref (dt 0 0)), (6, .ref (dt 2 0)), (0, .ref (d 0)), (1, .int (nI 2)), (2, .int x2), (3, .int (nI 0)), (4, .int x4), (5, .int x5)]) C dX9_shift_34 (by decide) rfl ?_
      refine z_aload (pc := 36) C 1 dX9_shift_36 rfl ?_
      refine z_get (pc := 38) C uw6 6 rfl rfl 0 (by decide) wq777 rfl dX9_shift_38 ?_
      refine z_bipush (pc := 41) (v := -5) C dX9_shift_41 (by decide) ?_
      refine z_icmp_eq (pc := 43) (tgt := 56) C dX9_shift_43 (by decide) (fun c7 => ?_) (fun c7 => ?_)
      · have h := h.1 c7
        refine z_bipush (pc := 56) (v := -11) C dX9_shift_56 (by decide) ?_
        exact hret 58 _ _ (-11 : Int32) gt rfl h dX9_shift_58
      · have h := h.2 c7
        refine z_aload (pc := 46) C 0 dX9_shift_46 rfl ?_
        refine z_get (pc := 48) C uw6 2 rfl rfl 0 (by decide) wq777 rfl dX9_shift_48 ?_
        refine z_bipush (pc := 51) (v := -5) C dX9_shift_51 (by decide) ?_
        refine z_icmp_ne (pc := 53) (tgt := 59) C dX9_shift_53 (by decide) (fun c8 => ?_) (fun c8 => ?_)
        · have h := h.1 c8
          refine z_aload (pc := 59) C 1 dX9_shift_59 rfl ?_
          refine z_get (pc := 61) C uw6 6 rfl rfl 0 (by decide) wq777 rfl dX9_shift_61 ?_
          refine z_aload (pc := 64) C 0 dX9_shift_64 rfl ?_
          refine z_get (pc := 66) C uw6 2 rfl rfl 0 (by decide) wq777 rfl dX9_shift_66 ?_
          refine z_icmp_eq (pc := 69) (tgt := 75) C dX9_shift_69 (by decide) (fun c9 => ?_) (fun c9 => ?_)
          · have h := h.1 c9
            refine z_aload (pc := 75) C 1 dX9_shift_75 rfl ?_
            refine z_iload_n (pc := 77) C 4 dX9_shift_77 rfl ?_
            refine z_iload (pc := 78) C 7 dX9_shift_78 rfl ?_
            refine z_callRi (pc := 80) C (z_runV (pc := 80) (wc := (wX6 cJ (dt 2) (vt 2) (gt 2))) (As := [.int x2, .int x5]) C (fun sz => kX6_hasPlaces (dt 2) (vt 2) (gt 2) x2 x5 sz h) [6, 7] rfl (by decide) (gdV wq414 wq805 wq806 wq807 wq546) rfl rfl rfl hdX6_hasPlaces 6 rfl rfl rfl ⟨Nat.le_of_ble_eq_true rfl, Nat.le_of_ble_eq_true rfl⟩ rfl (Nat.le_of_ble_eq_true rfl) ⟨Nat.zero_le _, Nat.zero_le _⟩ dX9_shift_80) [6, 7] rfl (by decide) (fun r10 u10 h => ?_)
            refine z_if_eq (pc := 83) (tgt := 98) C dX9_shift_83 (by decide) (fun c11 => ?_) (fun c11 => ?_)
            · have h := h.1 c11
              refine z_bipush (pc := 98) (v := -13) C dX9_shift_98 (by decide) ?_
              exact hret 100 _ _ (-13 : Int32) gt rfl h dX9_shift_100
            · have h := h.2 c11
              refine z_aload (pc := 86) C 0 dX9_shift_86 rfl ?_
              refine z_iload (pc := 88) C 6 dX9_shift_88 rfl ?_
              refine z_iload (pc := 90) C 7 dX9_shift_90 rfl ?_
              refine z_callRi (pc := 92) C (z_runV (pc := 92) (wc := (wX6 cJ (dt 0) (vt 0) (gt 0))) (As := [.int x4, .int x5]) C (fun sz => kX6_hasPlaces (dt 0) (vt 0) (gt 0) x4 x5 sz h) [2, 3] rfl (by decide) (gdV wq414 wq805 wq806 wq807 wq546) rfl rfl rfl hdX6_hasPlaces 2 rfl rfl rfl ⟨Nat.le_of_ble_eq_true rfl, Nat.le_of_ble_eq_true rfl⟩ rfl (Nat.le_of_ble_eq_true rfl) ⟨Nat.zero_le _, Nat.zero_le _⟩ dX9_shift_92) [2, 3] rfl (by decide) (fun r12 u12 h => ?_)
              refine z_if_ne (pc := 95) (tgt := 101) C dX9_shift_95 (by decide) (fun c13 => ?_) (fun c13 => ?_)
              · have h := h.1 c13
                refine z_aload (pc := 101) C 1 dX9_shift_101 rfl ?_
                refine z_get (pc := 103) C uw6 6 rfl rfl 2 (by decide) wq778 rfl dX9_shift_103 ?_
                refine z_iload_n (pc := 106) C 4 dX9_shift_106 rfl ?_
                refine z_aload (pc := 107) C 0 dX9_shift_107 rfl ?_
                refine z_get (pc := 109) C uw6 2 rfl rfl 2 (by decide) wq778 rfl dX9_shift_109 ?_
                refine z_iload (pc := 112) C 6 dX9_shift_112 rfl ?_
                refine z_iload (pc := 114) C 7 dX9_shift_114 rfl ?_
                obtain ⟨g14, h⟩ := h
                refine z_copyl (pc := 116) (ws' := ((wX9 d (dN 0) (dI 0) (dT 0) (dNc 0) (dNcj 0) (dNcs 0) (dNcp 0) (dNw 0) (dx 0) dtt v) ++ (wTT cJ cT dtt dt vt (va_up gt 0 (sb (gt 0) 1 (va_cpy ((gt 2) 1) ((gt 0) 1) x2.toNatClampNeg x4.toNatClampNeg x5.toNatClampNeg)))))) C wq804 wq65 wq66 wq67 7 3 1 rfl rfl rfl g14 (Nat.le_of_ble_eq_true rfl) (Nat.le_of_ble_eq_true rfl) dX9_shift_116 (set_r (k := 1) (i := 2) rfl sTT_c0) ?_
                refine z_iload (pc := 119) C 7 dX9_shift_119 rfl ?_
                exact hret 121 _ _ x5 (va_up gt 0 (sb (gt 0) 1 (va_cpy ((gt 2) 1) ((gt 0) 1) x2.toNatClampNeg x4.toNatClampNeg x5.toNatClampNeg))) rfl h dX9_shift_121
              · have h := h.2 c13
                refine z_bipush (pc := 98) (v := -13) C dX9_shift_98 (by decide) ?_
                exact hret 100 _ _ (-13 : Int32) gt rfl h dX9_shift_100
          · have h := h.2 c9
            refine z_bipush (pc := 72) (v := -12) C dX9_shift_72 (by decide) ?_
            exact hret 74 _ _ (-12 : Int32) gt rfl h dX9_shift_74
        · have h := h.2 c8
          refine z_bipush (pc := 56) (v := -11) C dX9_shift_56 (by decide) ?_
          exact hret 58 _ _ (-11 : Int32) gt rfl h dX9_shift_58
    · have h := h.2 c4
      refine z_iconst (pc := 18) (v := -1) C dX9_shift_18 (by decide) ?_
      exact hret 19 _ _ (-1 : Int32) gt rfl h dX9_shift_19

set_option maxHeartbeats 4000000 in
set_option maxRecDepth 100000 in
theorem kX9_shift_2_1 {l : Launch} {D : va_G} {cI cJ cT : ClassId} (d : Nat → Nat) (dN : Nat → Nat) (dI : Nat → Nat) (dT : Nat → Nat) (dNc : Nat → Nat) (dNcj : Nat → Nat) (dNcs : Nat → Nat) (dNcp : Nat → Nat) (dNw : Nat → Nat) (dx : Nat → Nat) (dtt : Nat) (dt : Nat → Nat → Nat)  (v : Lf) (vt : Nat → Lf) (gt : Nat → Lg) (x2 : Int32) (x4 : Int32) (x5 : Int32) {Q : Int32 → (Nat → Lg) → Prop} (sz : Nat) (h : pX9_shift vt gt (nI 2) x2 (nI 1) x4 x5 Q) : Met l yX9_shift wdX9_shift rmX9_shift (Pz D (tyL cI cJ cT) [.ref (d 0), .int (nI 2), .int x2, .int (nI 1), .int x4, .int x5] ((wX9 d (dN 0) (dI 0) (dT 0) (dNc 0) (dNcj 0) (dNcs 0) (dNcp 0) (dNw 0) (dx 0) dtt v) ++ (wTT cJ cT dtt dt vt gt)) sz) (va_Qi (fun (r : Int32) (u : (Nat → Lg)) => Q r u) (Bz D (tyL cI cJ cT) ((wX9 d (dN 0) (dI 0) (dT 0) (dNc 0) (dNcj 0) (dNcs 0) (dNcp 0) (dNw 0) (dx 0) dtt v) ++ (wTT cJ cT dtt dt vt gt)) sz (fun (u : (Nat → Lg)) => ((wX9 d (dN 0) (dI 0) (dT 0) (dNc 0) (dNcj 0) (dNcs 0) (dNcp 0) (dNw 0) (dx 0) dtt v) ++ (wTT cJ cT dtt dt vt u)))) (va_A ((wX9 d (dN 0) (dI 0) (dT 0) (dNc 0) (dNcj 0) (dNcs 0) (dNcp 0) (dNw 0) (dx 0) dtt v) ++ (wTT cJ cT dtt dt vt gt)) sz)) 0 0 (va_A ((wX9 d (dN 0) (dI 0) (dT 0) (dNc 0) (dNcj 0) (dNcs 0) (dNcp 0) (dNw 0) (dx 0) dtt v) ++ (wTT cJ cT dtt dt vt gt)) sz) := by
  refine z_meti (cc := cX9_shift) (maxL := 8) (own := RX9) (lv0 := [(0, .ref (d 0)), (1, .int (nI 2)), (2, .int x2), (3, .int (nI 1)), (4, .int x4), (5, .int x5)]) (by decide) rfl rfl (Nat.le_of_ble_eq_true rfl) rfl ?_
  intro p e s m args below meth c A QQ C hin hret
  refine z_iload_n (pc := 0) C 1 dX9_shift_0 rfl ?_
  refine z_iconst (pc := 1) (v := 0) C dX9_shift_1 (by decide) ?_
  refine z_iconst (pc := 2) (v := 5) C dX9_shift_2 (by decide) ?_
  refine z_call0i (pc := 3) C (z_runS (pc := 3) (wc := ([] : va_W)) (As := [.int (nI 2), .int (0 : Int32), .int (5 : Int32)]) C (fun sz => kX9_within (nI 2) (0 : Int32) (5 : Int32) sz h) [] rfl (by decide) (gdS wq366 wq553 wq373 wq112) rfl rfl rfl hdSX9_within ⟨Nat.le_of_ble_eq_true rfl, Nat.le_of_ble_eq_true rfl⟩ rfl (Nat.le_of_ble_eq_true rfl) ⟨Nat.zero_le _, Nat.zero_le _⟩ dX9_shift_3) (fun r1 u1 h => ?_)
  refine z_if_eq (pc := 6) (tgt := 18) C dX9_shift_6 (by decide) (fun c2 => ?_) (fun c2 => ?_)
  · have h := h.1 c2
    refine z_iconst (pc := 18) (v := -1) C dX9_shift_18 (by decide) ?_
    exact hret 19 _ _ (-1 : Int32) gt rfl h dX9_shift_19
  · have h := h.2 c2
    refine z_iload_n (pc := 9) C 3 dX9_shift_9 rfl ?_
    refine z_iconst (pc := 10) (v := 0) C dX9_shift_10 (by decide) ?_
    refine z_iconst (pc := 11) (v := 5) C dX9_shift_11 (by decide) ?_
    refine z_call0i (pc := 12) C (z_runS (pc := 12) (wc := ([] : va_W)) (As := [.int (nI 1), .int (0 : Int32), .int (5 : Int32)]) C (fun sz => kX9_within (nI 1) (0 : Int32) (5 : Int32) sz h) [] rfl (by decide) (gdS wq366 wq553 wq373 wq112) rfl rfl rfl hdSX9_within ⟨Nat.le_of_ble_eq_true rfl, Nat.le_of_ble_eq_true rfl⟩ rfl (Nat.le_of_ble_eq_true rfl) ⟨Nat.zero_le _, Nat.zero_le _⟩ dX9_shift_12) (fun r3 u3 h => ?_)
    refine z_if_ne (pc := 15) (tgt := 20) C dX9_shift_15 (by decide) (fun c4 => ?_) (fun c4 => ?_)
    · have h := h.1 c4
      refine z_aload_n (pc := 20) C 0 dX9_shift_20 rfl ?_
      refine z_get (pc := 21) C uw9 0 rfl rfl 9 (by decide) wq544 rfl dX9_shift_21 ?_
      refine z_iload_n (pc := 24) C 1 dX9_shift_24 rfl ?_
      obtain ⟨g5, h⟩ := h
      refine z_aldq (pc := 25) C 1 2 rfl rfl g5 (.ref (dt 2 0)) rfl dX9_shift_25 ?_
      refine z_astore (pc := 26) (lv' := [(6, .ref (dt 2 0)), (0, .ref (d 0)), (1, .int (nI 2)), (2, .int x2), (3, .int (nI 1)), (4, .int x4), (5, .int x5)]) C dX9_shift_26 (by decide) rfl ?_
      refine z_aload_n (pc := 28) C 1 dX9_shift_28 rfl ?_
      refine z_get (pc := 29) C uw9 0 rfl rfl 9 (by decide) wq544 rfl dX9_shift_29 ?_
      refine z_iload_n (pc := 32) C 4 dX9_shift_32 rfl ?_
      obtain ⟨g6, h⟩ := h
      refine z_aldq (pc := 33) C 1 2 rfl rfl g6 (.ref (dt 1 0)) rfl dX9_shift_33 ?_
      refine z_astore (pc := 34) (lv' := [(7, .ref (dt 1 0)), (6, .ref (dt 2 0)), (0, .ref (d 0)), (1, .int (nI 2)), (2, .int x2), (3, .int (nI 1)), (4, .int x4), (5, .int x5)]) C dX9_shift_34 (by decide) rfl ?_
      refine z_aload (pc := 36) C 1 dX9_shift_36 rfl ?_
      refine z_get (pc := 38) C uw6 6 rfl rfl 0 (by decide) wq777 rfl dX9_shift_38 ?_
      refine z_bipush (pc := 41) (v := -5) C dX9_shift_41 (by decide) ?_
      refine z_icmp_eq (pc := 43) (tgt := 56) C dX9_shift_43 (by decide) (fun c7 => ?_) (fun c7 => ?_)
      · have h := h.1 c7
        refine z_bipush (pc := 56) (v := -11) C dX9_shift_56 (by decide) ?_
        exact hret 58 _ _ (-11 : Int32) gt rfl h dX9_shift_58
      · have h := h.2 c7
        refine z_aload (pc := 46) C 0 dX9_shift_46 rfl ?_
        refine z_get (pc := 48) C uw6 4 rfl rfl 0 (by decide) wq777 rfl dX9_shift_48 ?_
        refine z_bipush (pc := 51) (v := -5) C dX9_shift_51 (by decide) ?_
        refine z_icmp_ne (pc := 53) (tgt := 59) C dX9_shift_53 (by decide) (fun c8 => ?_) (fun c8 => ?_)
        · have h := h.1 c8
          refine z_aload (pc := 59) C 1 dX9_shift_59 rfl ?_
          refine z_get (pc := 61) C uw6 6 rfl rfl 0 (by decide) wq777 rfl dX9_shift_61 ?_
          refine z_aload (pc := 64) C 0 dX9_shift_64 rfl ?_
          refine z_get (pc := 66) C uw6 4 rfl rfl 0 (by decide) wq777 rfl dX9_shift_66 ?_
          refine z_icmp_eq (pc := 69) (tgt := 75) C dX9_shift_69 (by decide) (fun c9 => ?_) (fun c9 => ?_)
          · have h := h.1 c9
            refine z_aload (pc := 75) C 1 dX9_shift_75 rfl ?_
            refine z_iload_n (pc := 77) C 4 dX9_shift_77 rfl ?_
            refine z_iload (pc := 78) C 7 dX9_shift_78 rfl ?_
            refine z_callRi (pc := 80) C (z_runV (pc := 80) (wc := (wX6 cJ (dt 2) (vt 2) (gt 2))) (As := [.int x2, .int x5]) C (fun sz => kX6_hasPlaces (dt 2) (vt 2) (gt 2) x2 x5 sz h) [6, 7] rfl (by decide) (gdV wq414 wq805 wq806 wq807 wq546) rfl rfl rfl hdX6_hasPlaces 6 rfl rfl rfl ⟨Nat.le_of_ble_eq_true rfl, Nat.le_of_ble_eq_true rfl⟩ rfl (Nat.le_of_ble_eq_true rfl) ⟨Nat.zero_le _, Nat.zero_le _⟩ dX9_shift_80) [6, 7] rfl (by decide) (fun r10 u10 h => ?_)
            refine z_if_eq (pc := 83) (tgt := 98) C dX9_shift_83 (by decide) (fun c11 => ?_) (fun c11 => ?_)
            · have h := h.1 c11
              refine z_bipush (pc := 98) (v := -13) C dX9_shift_98 (by decide) ?_
              exact hret 100 _ _ (-13 : Int32) gt rfl h dX9_shift_100
            · have h := h.2 c11
              refine z_aload (pc := 86) C 0 dX9_shift_86 rfl ?_
              refine z_iload (pc := 88) C 6 dX9_shift_88 rfl ?_
              refine z_iload (pc := 90) C 7 dX9_shift_90 rfl ?_
              refine z_callRi (pc := 92) C (z_runV (pc := 92) (wc := (wX6 cJ (dt 1) (vt 1) (gt 1))) (As := [.int x4, .int x5]) C (fun sz => kX6_hasPlaces (dt 1) (vt 1) (gt 1) x4 x5 sz h) [4, 5] rfl (by decide) (gdV wq414 wq805 wq806 wq807 wq546) rfl rfl rfl hdX6_hasPlaces 4 rfl rfl rfl ⟨Nat.le_of_ble_eq_true rfl, Nat.le_of_ble_eq_true rfl⟩ rfl (Nat.le_of_ble_eq_true rfl) ⟨Nat.zero_le _, Nat.zero_le _⟩ dX9_shift_92) [4, 5] rfl (by decide) (fun r12 u12 h => ?_)
              refine z_if_ne (pc := 95) (tgt := 101) C dX9_shift_95 (by decide) (fun c13 => ?_) (fun c13 => ?_)
              · have h := h.1 c13
                refine z_aload (pc := 101) C 1 dX9_shift_101 rfl ?_
                refine z_get (pc := 103) C uw6 6 rfl rfl 2 (by decide) wq778 rfl dX9_shift_103 ?_
                refine z_iload_n (pc := 106) C 4 dX9_shift_106 rfl ?_
                refine z_aload (pc := 107) C 0 dX9_shift_107 rfl ?_
                refine z_get (pc := 109) C uw6 4 rfl rfl 2 (by decide) wq778 rfl dX9_shift_109 ?_
                refine z_iload (pc := 112) C 6 dX9_shift_112 rfl ?_
                refine z_iload (pc := 114) C 7 dX9_shift_114 rfl ?_
                obtain ⟨g14, h⟩ := h
                refine z_copyl (pc := 116) (ws' := ((wX9 d (dN 0) (dI 0) (dT 0) (dNc 0) (dNcj 0) (dNcs 0) (dNcp 0) (dNw 0) (dx 0) dtt v) ++ (wTT cJ cT dtt dt vt (va_up gt 1 (sb (gt 1) 1 (va_cpy ((gt 2) 1) ((gt 1) 1) x2.toNatClampNeg x4.toNatClampNeg x5.toNatClampNeg)))))) C wq804 wq65 wq66 wq67 7 5 1 rfl rfl rfl g14 (Nat.le_of_ble_eq_true rfl) (Nat.le_of_ble_eq_true rfl) dX9_shift_116 (set_r (k := 1) (i := 4) rfl sTT_c1) ?_
                refine z_iload (pc := 119) C 7 dX9_shift_119 rfl ?_
                exact hret 121 _ _ x5 (va_up gt 1 (sb (gt 1) 1 (va_cpy ((gt 2) 1) ((gt 1) 1) x2.toNatClampNeg x4.toNatClampNeg x5.toNatClampNeg))) rfl h dX9_shift_121
              · have h := h.2 c13
                refine z_bipush (pc := 98) (v := -13) C dX9_shift_98 (by decide) ?_
                exact hret 100 _ _ (-13 : Int32) gt rfl h dX9_shift_100
          · have h := h.2 c9
            refine z_bipush (pc := 72) (v := -12) C dX9_shift_72 (by decide) ?_
            exact hret 74 _ _ (-12 : Int32) gt rfl h dX9_shift_74
        · have h := h.2 c8
          refine z_bipush (pc := 56) (v := -11) C dX9_shift_56 (by decide) ?_
          exact hret 58 _ _ (-11 : Int32) gt rfl h dX9_shift_58
    · have h := h.2 c4
      refine z_iconst (pc := 18) (v := -1) C dX9_shift_18 (by decide) ?_
      exact hret 19 _ _ (-1 : Int32) gt rfl h dX9_shift_19

set_option maxHeartbeats 4000000 in
set_option maxRecDepth 100000 in
theorem kX9_shift_2_2 {l : Launch} {D : va_G} {cI cJ cT : ClassId} (d : Nat → Nat) (dN : Nat → Nat) (dI : Nat → Nat) (dT : Nat → Nat) (dNc : Nat → Nat) (dNcj : Nat → Nat) (dNcs : Nat → Nat) (dNcp : Nat → Nat) (dNw : Nat → Nat) (dx : Nat → Nat) (dtt : Nat) (dt : Nat → Nat → Nat)  (v : Lf) (vt : Nat → Lf) (gt : Nat → Lg) (x2 : Int32) (x4 : Int32) (x5 : Int32) {Q : Int32 → (Nat → Lg) → Prop} (sz : Nat) (h : pX9_shift vt gt (nI 2) x2 (nI 2) x4 x5 Q) : Met l yX9_shift wdX9_shift rmX9_shift (Pz D (tyL cI cJ cT) [.ref (d 0), .int (nI 2), .int x2, .int (nI 2), .int x4, .int x5] ((wX9 d (dN 0) (dI 0) (dT 0) (dNc 0) (dNcj 0) (dNcs 0) (dNcp 0) (dNw 0) (dx 0) dtt v) ++ (wTT cJ cT dtt dt vt gt)) sz) (va_Qi (fun (r : Int32) (u : (Nat → Lg)) => Q r u) (Bz D (tyL cI cJ cT) ((wX9 d (dN 0) (dI 0) (dT 0) (dNc 0) (dNcj 0) (dNcs 0) (dNcp 0) (dNw 0) (dx 0) dtt v) ++ (wTT cJ cT dtt dt vt gt)) sz (fun (u : (Nat → Lg)) => ((wX9 d (dN 0) (dI 0) (dT 0) (dNc 0) (dNcj 0) (dNcs 0) (dNcp 0) (dNw 0) (dx 0) dtt v) ++ (wTT cJ cT dtt dt vt u)))) (va_A ((wX9 d (dN 0) (dI 0) (dT 0) (dNc 0) (dNcj 0) (dNcs 0) (dNcp 0) (dNw 0) (dx 0) dtt v) ++ (wTT cJ cT dtt dt vt gt)) sz)) 0 0 (va_A ((wX9 d (dN 0) (dI 0) (dT 0) (dNc 0) (dNcj 0) (dNcs 0) (dNcp 0) (dNw 0) (dx 0) dtt v) ++ (wTT cJ cT dtt dt vt gt)) sz) := by
  refine z_meti (cc := cX9_shift) (maxL := 8) (own := RX9) (lv0 := [(0, .ref (d 0)), (1, .int (nI 2)), (2, .int x2), (3, .int (nI 2)), (4, .int x4), (5, .int x5)]) (by decide) rfl rfl (Nat.le_of_ble_eq_true rfl) rfl ?_
  intro p e s m args below meth c A QQ C hin hret
  refine z_iload_n (pc := 0) C 1 dX9_shift_0 rfl ?_
  refine z_iconst (pc := 1) (v := 0) C dX9_shift_1 (by decide) ?_
  refine z_iconst (pc := 2) (v := 5) C dX9_shift_2 (by decide) ?_
  refine z_call0i (pc := 3) C (z_runS (pc := 3) (wc := ([] : va_W)) (As := [.int (nI 2), .int (0 : Int32), .int (5 : Int32)]) C (fun sz => kX9_within (nI 2) (0 : Int32) (5 : Int32) sz h) [] rfl (by decide) (gdS wq366 wq553 wq373 wq112) rfl rfl rfl hdSX9_within ⟨Nat.le_of_ble_eq_true rfl, Nat.le_of_ble_eq_true rfl⟩ rfl (Nat.le_of_ble_eq_true rfl) ⟨Nat.zero_le _, Nat.zero_le _⟩ dX9_shift_3) (fun r1 u1 h => ?_)
  refine z_if_eq (pc := 6) (tgt := 18) C dX9_shift_6 (by decide) (fun c2 => ?_) (fun c2 => ?_)
  · have h := h.1 c2
    refine z_iconst (pc := 18) (v := -1) C dX9_shift_18 (by decide) ?_
    exact hret 19 _ _ (-1 : Int32) gt rfl h dX9_shift_19
  · have h := h.2 c2
    refine z_iload_n (pc := 9) C 3 dX9_shift_9 rfl ?_
    refine z_iconst (pc := 10) (v := 0) C dX9_shift_10 (by decide) ?_
    refine z_iconst (pc := 11) (v := 5) C dX9_shift_11 (by decide) ?_
    refine z_call0i (pc := 12) C (z_runS (pc := 12) (wc := ([] : va_W)) (As := [.int (nI 2), .int (0 : Int32), .int (5 : Int32)]) C (fun sz => kX9_within (nI 2) (0 : Int32) (5 : Int32) sz h) [] rfl (by decide) (gdS wq366 wq553 wq373 wq112) rfl rfl rfl hdSX9_within ⟨Nat.le_of_ble_eq_true rfl, Nat.le_of_ble_eq_true rfl⟩ rfl (Nat.le_of_ble_eq_true rfl) ⟨Nat.zero_le _, Nat.zero_le _⟩ dX9_shift_12) (fun r3 u3 h => ?_)
    refine z_if_ne (pc := 15) (tgt := 20) C dX9_shift_15 (by decide) (fun c4 => ?_) (fun c4 => ?_)
    · have h := h.1 c4
      refine z_aload_n (pc := 20) C 0 dX9_shift_20 rfl ?_
      refine z_get (pc := 21) C uw9 0 rfl rfl 9 (by decide) wq544 rfl dX9_shift_21 ?_
      refine z_iload_n (pc := 24) C 1 dX9_shift_24 rfl ?_
      obtain ⟨g5, h⟩ := h
      refine z_aldq (pc := 25) C 1 2 rfl rfl g5 (.ref (dt 2 0)) rfl dX9_shift_25 ?_
      refine z_astore (pc := 26) (lv' := [(6, .ref (dt 2 0)), (0, .ref (d 0)), (1, .int (nI 2)), (2, .int x2), (3, .int (nI 2)), (4, .int x4), (5, .int x5)]) C dX9_shift_26 (by decide) rfl ?_
      refine z_aload_n (pc := 28) C 1 dX9_shift_28 rfl ?_
      refine z_get (pc := 29) C uw9 0 rfl rfl 9 (by decide) wq544 rfl dX9_shift_29 ?_
      refine z_iload_n (pc := 32) C 4 dX9_shift_32 rfl ?_
      obtain ⟨g6, h⟩ := h
      refine z_aldq (pc := 33) C 1 2 rfl rfl g6 (.ref (dt 2 0)) rfl dX9_shift_33 ?_
      refine z_astore (pc := 34) (lv' := [(7, .ref (dt 2 0)), (6, .ref (dt 2 0)), (0, .ref (d 0)), (1, .int (nI 2)), (2, .int x2), (3, .int (nI 2)), (4, .int x4), (5, .int x5)]) C dX9_shift_34 (by decide) rfl ?_
      refine z_aload (pc := 36) C 1 dX9_shift_36 rfl ?_
      refine z_get (pc := 38) C uw6 6 rfl rfl 0 (by decide) wq777 rfl dX9_shift_38 ?_
      refine z_bipush (pc := 41) (v := -5) C dX9_shift_41 (by decide) ?_
      refine z_icmp_eq (pc := 43) (tgt := 56) C dX9_shift_43 (by decide) (fun c7 => ?_) (fun c7 => ?_)
      · have h := h.1 c7
        refine z_bipush (pc := 56) (v := -11) C dX9_shift_56 (by decide) ?_
        exact hret 58 _ _ (-11 : Int32) gt rfl h dX9_shift_58
      · have h := h.2 c7
        refine z_aload (pc := 46) C 0 dX9_shift_46 rfl ?_
        refine z_get (pc := 48) C uw6 6 rfl rfl 0 (by decide) wq777 rfl dX9_shift_48 ?_
        refine z_bipush (pc := 51) (v := -5) C dX9_shift_51 (by decide) ?_
        refine z_icmp_ne (pc := 53) (tgt := 59) C dX9_shift_53 (by decide) (fun c8 => ?_) (fun c8 => ?_)
        · have h := h.1 c8
          refine z_aload (pc := 59) C 1 dX9_shift_59 rfl ?_
          refine z_get (pc := 61) C uw6 6 rfl rfl 0 (by decide) wq777 rfl dX9_shift_61 ?_
          refine z_aload (pc := 64) C 0 dX9_shift_64 rfl ?_
          refine z_get (pc := 66) C uw6 6 rfl rfl 0 (by decide) wq777 rfl dX9_shift_66 ?_
          refine z_icmp_eq (pc := 69) (tgt := 75) C dX9_shift_69 (by decide) (fun c9 => ?_) (fun c9 => ?_)
          · have h := h.1 c9
            refine z_aload (pc := 75) C 1 dX9_shift_75 rfl ?_
            refine z_iload_n (pc := 77) C 4 dX9_shift_77 rfl ?_
            refine z_iload (pc := 78) C 7 dX9_shift_78 rfl ?_
            refine z_callRi (pc := 80) C (z_runV (pc := 80) (wc := (wX6 cJ (dt 2) (vt 2) (gt 2))) (As := [.int x2, .int x5]) C (fun sz => kX6_hasPlaces (dt 2) (vt 2) (gt 2) x2 x5 sz h) [6, 7] rfl (by decide) (gdV wq414 wq805 wq806 wq807 wq546) rfl rfl rfl hdX6_hasPlaces 6 rfl rfl rfl ⟨Nat.le_of_ble_eq_true rfl, Nat.le_of_ble_eq_true rfl⟩ rfl (Nat.le_of_ble_eq_true rfl) ⟨Nat.zero_le _, Nat.zero_le _⟩ dX9_shift_80) [6, 7] rfl (by decide) (fun r10 u10 h => ?_)
            refine z_if_eq (pc := 83) (tgt := 98) C dX9_shift_83 (by decide) (fun c11 => ?_) (fun c11 => ?_)
            · have h := h.1 c11
              refine z_bipush (pc := 98) (v := -13) C dX9_shift_98 (by decide) ?_
              exact hret 100 _ _ (-13 : Int32) gt rfl h dX9_shift_100
            · have h := h.2 c11
              refine z_aload (pc := 86) C 0 dX9_shift_86 rfl ?_
              refine z_iload (pc := 88) C 6 dX9_shift_88 rfl ?_
              refine z_iload (pc := 90) C 7 dX9_shift_90 rfl ?_
              refine z_callRi (pc := 92) C (z_runV (pc := 92) (wc := (wX6 cJ (dt 2) (vt 2) (gt 2))) (As := [.int x4, .int x5]) C (fun sz => kX6_hasPlaces (dt 2) (vt 2) (gt 2) x4 x5 sz h) [6, 7] rfl (by decide) (gdV wq414 wq805 wq806 wq807 wq546) rfl rfl rfl hdX6_hasPlaces 6 rfl rfl rfl ⟨Nat.le_of_ble_eq_true rfl, Nat.le_of_ble_eq_true rfl⟩ rfl (Nat.le_of_ble_eq_true rfl) ⟨Nat.zero_le _, Nat.zero_le _⟩ dX9_shift_92) [6, 7] rfl (by decide) (fun r12 u12 h => ?_)
              refine z_if_ne (pc := 95) (tgt := 101) C dX9_shift_95 (by decide) (fun c13 => ?_) (fun c13 => ?_)
              · have h := h.1 c13
                refine z_aload (pc := 101) C 1 dX9_shift_101 rfl ?_
                refine z_get (pc := 103) C uw6 6 rfl rfl 2 (by decide) wq778 rfl dX9_shift_103 ?_
                refine z_iload_n (pc := 106) C 4 dX9_shift_106 rfl ?_
                refine z_aload (pc := 107) C 0 dX9_shift_107 rfl ?_
                refine z_get (pc := 109) C uw6 6 rfl rfl 2 (by decide) wq778 rfl dX9_shift_109 ?_
                refine z_iload (pc := 112) C 6 dX9_shift_112 rfl ?_
                refine z_iload (pc := 114) C 7 dX9_shift_114 rfl ?_
                obtain ⟨g14, h⟩ := h
                refine z_copyl (pc := 116) (ws' := ((wX9 d (dN 0) (dI 0) (dT 0) (dNc 0) (dNcj 0) (dNcs 0) (dNcp 0) (dNw 0) (dx 0) dtt v) ++ (wTT cJ cT dtt dt vt (va_up gt 2 (sb (gt 2) 1 (va_cpy ((gt 2) 1) ((gt 2) 1) x2.toNatClampNeg x4.toNatClampNeg x5.toNatClampNeg)))))) C wq804 wq65 wq66 wq67 7 7 1 rfl rfl rfl g14 (Nat.le_of_ble_eq_true rfl) (Nat.le_of_ble_eq_true rfl) dX9_shift_116 (set_r (k := 1) (i := 6) rfl sTT_c2) ?_
                refine z_iload (pc := 119) C 7 dX9_shift_119 rfl ?_
                exact hret 121 _ _ x5 (va_up gt 2 (sb (gt 2) 1 (va_cpy ((gt 2) 1) ((gt 2) 1) x2.toNatClampNeg x4.toNatClampNeg x5.toNatClampNeg))) rfl h dX9_shift_121
              · have h := h.2 c13
                refine z_bipush (pc := 98) (v := -13) C dX9_shift_98 (by decide) ?_
                exact hret 100 _ _ (-13 : Int32) gt rfl h dX9_shift_100
          · have h := h.2 c9
            refine z_bipush (pc := 72) (v := -12) C dX9_shift_72 (by decide) ?_
            exact hret 74 _ _ (-12 : Int32) gt rfl h dX9_shift_74
        · have h := h.2 c8
          refine z_bipush (pc := 56) (v := -11) C dX9_shift_56 (by decide) ?_
          exact hret 58 _ _ (-11 : Int32) gt rfl h dX9_shift_58
    · have h := h.2 c4
      refine z_iconst (pc := 18) (v := -1) C dX9_shift_18 (by decide) ?_
      exact hret 19 _ _ (-1 : Int32) gt rfl h dX9_shift_19

set_option maxHeartbeats 4000000 in
set_option maxRecDepth 100000 in
theorem kX9_shift_2_3 {l : Launch} {D : va_G} {cI cJ cT : ClassId} (d : Nat → Nat) (dN : Nat → Nat) (dI : Nat → Nat) (dT : Nat → Nat) (dNc : Nat → Nat) (dNcj : Nat → Nat) (dNcs : Nat → Nat) (dNcp : Nat → Nat) (dNw : Nat → Nat) (dx : Nat → Nat) (dtt : Nat) (dt : Nat → Nat → Nat)  (v : Lf) (vt : Nat → Lf) (gt : Nat → Lg) (x2 : Int32) (x4 : Int32) (x5 : Int32) {Q : Int32 → (Nat → Lg) → Prop} (sz : Nat) (h : pX9_shift vt gt (nI 2) x2 (nI 3) x4 x5 Q) : Met l yX9_shift wdX9_shift rmX9_shift (Pz D (tyL cI cJ cT) [.ref (d 0), .int (nI 2), .int x2, .int (nI 3), .int x4, .int x5] ((wX9 d (dN 0) (dI 0) (dT 0) (dNc 0) (dNcj 0) (dNcs 0) (dNcp 0) (dNw 0) (dx 0) dtt v) ++ (wTT cJ cT dtt dt vt gt)) sz) (va_Qi (fun (r : Int32) (u : (Nat → Lg)) => Q r u) (Bz D (tyL cI cJ cT) ((wX9 d (dN 0) (dI 0) (dT 0) (dNc 0) (dNcj 0) (dNcs 0) (dNcp 0) (dNw 0) (dx 0) dtt v) ++ (wTT cJ cT dtt dt vt gt)) sz (fun (u : (Nat → Lg)) => ((wX9 d (dN 0) (dI 0) (dT 0) (dNc 0) (dNcj 0) (dNcs 0) (dNcp 0) (dNw 0) (dx 0) dtt v) ++ (wTT cJ cT dtt dt vt u)))) (va_A ((wX9 d (dN 0) (dI 0) (dT 0) (dNc 0) (dNcj 0) (dNcs 0) (dNcp 0) (dNw 0) (dx 0) dtt v) ++ (wTT cJ cT dtt dt vt gt)) sz)) 0 0 (va_A ((wX9 d (dN 0) (dI 0) (dT 0) (dNc 0) (dNcj 0) (dNcs 0) (dNcp 0) (dNw 0) (dx 0) dtt v) ++ (wTT cJ cT dtt dt vt gt)) sz) := by
  refine z_meti (cc := cX9_shift) (maxL := 8) (own := RX9) (lv0 := [(0, .ref (d 0)), (1, .int (nI 2)), (2, .int x2), (3, .int (nI 3)), (4, .int x4), (5, .int x5)]) (by decide) rfl rfl (Nat.le_of_ble_eq_true rfl) rfl ?_
  intro p e s m args below meth c A QQ C hin hret
  refine z_iload_n (pc := 0) C 1 dX9_shift_0 rfl ?_
  refine z_iconst (pc := 1) (v := 0) C dX9_shift_1 (by decide) ?_
  refine z_iconst (pc := 2) (v := 5) C dX9_shift_2 (by decide) ?_
  refine z_call0i (pc := 3) C (z_runS (pc := 3) (wc := ([] : va_W)) (As := [.int (nI 2), .int (0 : Int32), .int (5 : Int32)]) C (fun sz => kX9_within (nI 2) (0 : Int32) (5 : Int32) sz h) [] rfl (by decide) (gdS wq366 wq553 wq373 wq112) rfl rfl rfl hdSX9_within ⟨Nat.le_of_ble_eq_true rfl, Nat.le_of_ble_eq_true rfl⟩ rfl (Nat.le_of_ble_eq_true rfl) ⟨Nat.zero_le _, Nat.zero_le _⟩ dX9_shift_3) (fun r1 u1 h => ?_)
  refine z_if_eq (pc := 6) (tgt := 18) C dX9_shift_6 (by decide) (fun c2 => ?_) (fun c2 => ?_)
  · have h := h.1 c2
    refine z_iconst (pc := 18) (v := -1) C dX9_shift_18 (by decide) ?_
    exact hret 19 _ _ (-1 : Int32) gt rfl h dX9_shift_19
  · have h := h.2 c2
    refine z_iload_n (pc := 9) C 3 dX9_shift_9 rfl ?_
    refine z_iconst (pc := 10) (v := 0) C dX9_shift_10 (by decide) ?_
    refine z_iconst (pc := 11) (v := 5) C dX9_shift_11 (by decide) ?_
    refine z_call0i (pc := 12) C (z_runS (pc := 12) (wc := ([] : va_W)) (As := [.int (nI 3), .int (0 : Int32), .int (5 : Int32)]) C (fun sz => kX9_within (nI 3) (0 : Int32) (5 : Int32) sz h) [] rfl (by decide) (gdS wq366 wq553 wq373 wq112) rfl rfl rfl hdSX9_within ⟨Nat.le_of_ble_eq_true rfl, Nat.le_of_ble_eq_true rfl⟩ rfl (Nat.le_of_ble_eq_true rfl) ⟨Nat.zero_le _, Nat.zero_le _⟩ dX9_shift_12) (fun r3 u3 h => ?_)
    refine z_if_ne (pc := 15) (tgt := 20) C dX9_shift_15 (by decide) (fun c4 => ?_) (fun c4 => ?_)
    · have h := h.1 c4
      refine z_aload_n (pc := 20) C 0 dX9_shift_20 rfl ?_
      refine z_get (pc := 21) C uw9 0 rfl rfl 9 (by decide) wq544 rfl dX9_shift_21 ?_
      refine z_iload_n (pc := 24) C 1 dX9_shift_24 rfl ?_
      obtain ⟨g5, h⟩ := h
      refine z_aldq (pc := 25) C 1 2 rfl rfl g5 (.ref (dt 2 0)) rfl dX9_shift_25 ?_
      refine z_astore (pc := 26) (lv' := [(6, .ref (dt 2 0)), (0, .ref (d 0)), (1, .int (nI 2)), (2, .int x2), (3, .int (nI 3)), (4, .int x4), (5, .int x5)]) C dX9_shift_26 (by decide) rfl ?_
      refine z_aload_n (pc := 28) C 1 dX9_shift_28 rfl ?_
      refine z_get (pc := 29) C uw9 0 rfl rfl 9 (by decide) wq544 rfl dX9_shift_29 ?_
      refine z_iload_n (pc := 32) C 4 dX9_shift_32 rfl ?_
      obtain ⟨g6, h⟩ := h
      refine z_aldq (pc := 33) C 1 2 rfl rfl g6 (.ref (dt 3 0)) rfl dX9_shift_33 ?_
      refine z_astore (pc := 34) (lv' := [(7, .ref (dt 3 0)), (6, .ref (dt 2 0)), (0, .ref (d 0)), (1, .int (nI 2)), (2, .int x2), (3, .int (nI 3)), (4, .int x4), (5, .int x5)]) C dX9_shift_34 (by decide) rfl ?_
      refine z_aload (pc := 36) C 1 dX9_shift_36 rfl ?_
      refine z_get (pc := 38) C uw6 6 rfl rfl 0 (by decide) wq777 rfl dX9_shift_38 ?_
      refine z_bipush (pc := 41) (v := -5) C dX9_shift_41 (by decide) ?_
      refine z_icmp_eq (pc := 43) (tgt := 56) C dX9_shift_43 (by decide) (fun c7 => ?_) (fun c7 => ?_)
      · have h := h.1 c7
        refine z_bipush (pc := 56) (v := -11) C dX9_shift_56 (by decide) ?_
        exact hret 58 _ _ (-11 : Int32) gt rfl h dX9_shift_58
      · have h := h.2 c7
        refine z_aload (pc := 46) C 0 dX9_shift_46 rfl ?_
        refine z_get (pc := 48) C uw6 8 rfl rfl 0 (by decide) wq777 rfl dX9_shift_48 ?_
        refine z_bipush (pc := 51) (v := -5) C dX9_shift_51 (by decide) ?_
        refine z_icmp_ne (pc := 53) (tgt := 59) C dX9_shift_53 (by decide) (fun c8 => ?_) (fun c8 => ?_)
        · have h := h.1 c8
          refine z_aload (pc := 59) C 1 dX9_shift_59 rfl ?_
          refine z_get (pc := 61) C uw6 6 rfl rfl 0 (by decide) wq777 rfl dX9_shift_61 ?_
          refine z_aload (pc := 64) C 0 dX9_shift_64 rfl ?_
          refine z_get (pc := 66) C uw6 8 rfl rfl 0 (by decide) wq777 rfl dX9_shift_66 ?_
          refine z_icmp_eq (pc := 69) (tgt := 75) C dX9_shift_69 (by decide) (fun c9 => ?_) (fun c9 => ?_)
          · have h := h.1 c9
            refine z_aload (pc := 75) C 1 dX9_shift_75 rfl ?_
            refine z_iload_n (pc := 77) C 4 dX9_shift_77 rfl ?_
            refine z_iload (pc := 78) C 7 dX9_shift_78 rfl ?_
            refine z_callRi (pc := 80) C (z_runV (pc := 80) (wc := (wX6 cJ (dt 2) (vt 2) (gt 2))) (As := [.int x2, .int x5]) C (fun sz => kX6_hasPlaces (dt 2) (vt 2) (gt 2) x2 x5 sz h) [6, 7] rfl (by decide) (gdV wq414 wq805 wq806 wq807 wq546) rfl rfl rfl hdX6_hasPlaces 6 rfl rfl rfl ⟨Nat.le_of_ble_eq_true rfl, Nat.le_of_ble_eq_true rfl⟩ rfl (Nat.le_of_ble_eq_true rfl) ⟨Nat.zero_le _, Nat.zero_le _⟩ dX9_shift_80) [6, 7] rfl (by decide) (fun r10 u10 h => ?_)
            refine z_if_eq (pc := 83) (tgt := 98) C dX9_shift_83 (by decide) (fun c11 => ?_) (fun c11 => ?_)
            · have h := h.1 c11
              refine z_bipush (pc := 98) (v := -13) C dX9_shift_98 (by decide) ?_
              exact hret 100 _ _ (-13 : Int32) gt rfl h dX9_shift_100
            · have h := h.2 c11
              refine z_aload (pc := 86) C 0 dX9_shift_86 rfl ?_
              refine z_iload (pc := 88) C 6 dX9_shift_88 rfl ?_
              refine z_iload (pc := 90) C 7 dX9_shift_90 rfl ?_
              refine z_callRi (pc := 92) C (z_runV (pc := 92) (wc := (wX6 cJ (dt 3) (vt 3) (gt 3))) (As := [.int x4, .int x5]) C (fun sz => kX6_hasPlaces (dt 3) (vt 3) (gt 3) x4 x5 sz h) [8, 9] rfl (by decide) (gdV wq414 wq805 wq806 wq807 wq546) rfl rfl rfl hdX6_hasPlaces 8 rfl rfl rfl ⟨Nat.le_of_ble_eq_true rfl, Nat.le_of_ble_eq_true rfl⟩ rfl (Nat.le_of_ble_eq_true rfl) ⟨Nat.zero_le _, Nat.zero_le _⟩ dX9_shift_92) [8, 9] rfl (by decide) (fun r12 u12 h => ?_)
              refine z_if_ne (pc := 95) (tgt := 101) C dX9_shift_95 (by decide) (fun c13 => ?_) (fun c13 => ?_)
              · have h := h.1 c13
                refine z_aload (pc := 101) C 1 dX9_shift_101 rfl ?_
                refine z_get (pc := 103) C uw6 6 rfl rfl 2 (by decide) wq778 rfl dX9_shift_103 ?_
                refine z_iload_n (pc := 106) C 4 dX9_shift_106 rfl ?_
                refine z_aload (pc := 107) C 0 dX9_shift_107 rfl ?_
                refine z_get (pc := 109) C uw6 8 rfl rfl 2 (by decide) wq778 rfl dX9_shift_109 ?_
                refine z_iload (pc := 112) C 6 dX9_shift_112 rfl ?_
                refine z_iload (pc := 114) C 7 dX9_shift_114 rfl ?_
                obtain ⟨g14, h⟩ := h
                refine z_copyl (pc := 116) (ws' := ((wX9 d (dN 0) (dI 0) (dT 0) (dNc 0) (dNcj 0) (dNcs 0) (dNcp 0) (dNw 0) (dx 0) dtt v) ++ (wTT cJ cT dtt dt vt (va_up gt 3 (sb (gt 3) 1 (va_cpy ((gt 2) 1) ((gt 3) 1) x2.toNatClampNeg x4.toNatClampNeg x5.toNatClampNeg)))))) C wq804 wq65 wq66 wq67 7 9 1 rfl rfl rfl g14 (Nat.le_of_ble_eq_true rfl) (Nat.le_of_ble_eq_true rfl) dX9_shift_116 (set_r (k := 1) (i := 8) rfl sTT_c3) ?_
                refine z_iload (pc := 119) C 7 dX9_shift_119 rfl ?_
                exact hret 121 _ _ x5 (va_up gt 3 (sb (gt 3) 1 (va_cpy ((gt 2) 1) ((gt 3) 1) x2.toNatClampNeg x4.toNatClampNeg x5.toNatClampNeg))) rfl h dX9_shift_121
              · have h := h.2 c13
                refine z_bipush (pc := 98) (v := -13) C dX9_shift_98 (by decide) ?_
                exact hret 100 _ _ (-13 : Int32) gt rfl h dX9_shift_100
          · have h := h.2 c9
            refine z_bipush (pc := 72) (v := -12) C dX9_shift_72 (by decide) ?_
            exact hret 74 _ _ (-12 : Int32) gt rfl h dX9_shift_74
        · have h := h.2 c8
          refine z_bipush (pc := 56) (v := -11) C dX9_shift_56 (by decide) ?_
          exact hret 58 _ _ (-11 : Int32) gt rfl h dX9_shift_58
    · have h := h.2 c4
      refine z_iconst (pc := 18) (v := -1) C dX9_shift_18 (by decide) ?_
      exact hret 19 _ _ (-1 : Int32) gt rfl h dX9_shift_19

set_option maxHeartbeats 4000000 in
set_option maxRecDepth 100000 in
theorem kX9_shift_2_4 {l : Launch} {D : va_G} {cI cJ cT : ClassId} (d : Nat → Nat) (dN : Nat → Nat) (dI : Nat → Nat) (dT : Nat → Nat) (dNc : Nat → Nat) (dNcj : Nat → Nat) (dNcs : Nat → Nat) (dNcp : Nat → Nat) (dNw : Nat → Nat) (dx : Nat → Nat) (dtt : Nat) (dt : Nat → Nat → Nat)  (v : Lf) (vt : Nat → Lf) (gt : Nat → Lg) (x2 : Int32) (x4 : Int32) (x5 : Int32) {Q : Int32 → (Nat → Lg) → Prop} (sz : Nat) (h : pX9_shift vt gt (nI 2) x2 (nI 4) x4 x5 Q) : Met l yX9_shift wdX9_shift rmX9_shift (Pz D (tyL cI cJ cT) [.ref (d 0), .int (nI 2), .int x2, .int (nI 4), .int x4, .int x5] ((wX9 d (dN 0) (dI 0) (dT 0) (dNc 0) (dNcj 0) (dNcs 0) (dNcp 0) (dNw 0) (dx 0) dtt v) ++ (wTT cJ cT dtt dt vt gt)) sz) (va_Qi (fun (r : Int32) (u : (Nat → Lg)) => Q r u) (Bz D (tyL cI cJ cT) ((wX9 d (dN 0) (dI 0) (dT 0) (dNc 0) (dNcj 0) (dNcs 0) (dNcp 0) (dNw 0) (dx 0) dtt v) ++ (wTT cJ cT dtt dt vt gt)) sz (fun (u : (Nat → Lg)) => ((wX9 d (dN 0) (dI 0) (dT 0) (dNc 0) (dNcj 0) (dNcs 0) (dNcp 0) (dNw 0) (dx 0) dtt v) ++ (wTT cJ cT dtt dt vt u)))) (va_A ((wX9 d (dN 0) (dI 0) (dT 0) (dNc 0) (dNcj 0) (dNcs 0) (dNcp 0) (dNw 0) (dx 0) dtt v) ++ (wTT cJ cT dtt dt vt gt)) sz)) 0 0 (va_A ((wX9 d (dN 0) (dI 0) (dT 0) (dNc 0) (dNcj 0) (dNcs 0) (dNcp 0) (dNw 0) (dx 0) dtt v) ++ (wTT cJ cT dtt dt vt gt)) sz) := by
  refine z_meti (cc := cX9_shift) (maxL := 8) (own := RX9) (lv0 := [(0, .ref (d 0)), (1, .int (nI 2)), (2, .int x2), (3, .int (nI 4)), (4, .int x4), (5, .int x5)]) (by decide) rfl rfl (Nat.le_of_ble_eq_true rfl) rfl ?_
  intro p e s m args below meth c A QQ C hin hret
  refine z_iload_n (pc := 0) C 1 dX9_shift_0 rfl ?_
  refine z_iconst (pc := 1) (v := 0) C dX9_shift_1 (by decide) ?_
  refine z_iconst (pc := 2) (v := 5) C dX9_shift_2 (by decide) ?_
  refine z_call0i (pc := 3) C (z_runS (pc := 3) (wc := ([] : va_W)) (As := [.int (nI 2), .int (0 : Int32), .int (5 : Int32)]) C (fun sz => kX9_within (nI 2) (0 : Int32) (5 : Int32) sz h) [] rfl (by decide) (gdS wq366 wq553 wq373 wq112) rfl rfl rfl hdSX9_within ⟨Nat.le_of_ble_eq_true rfl, Nat.le_of_ble_eq_true rfl⟩ rfl (Nat.le_of_ble_eq_true rfl) ⟨Nat.zero_le _, Nat.zero_le _⟩ dX9_shift_3) (fun r1 u1 h => ?_)
  refine z_if_eq (pc := 6) (tgt := 18) C dX9_shift_6 (by decide) (fun c2 => ?_) (fun c2 => ?_)
  · have h := h.1 c2
    refine z_iconst (pc := 18) (v := -1) C dX9_shift_18 (by decide) ?_
    exact hret 19 _ _ (-1 : Int32) gt rfl h dX9_shift_19
  · have h := h.2 c2
    refine z_iload_n (pc := 9) C 3 dX9_shift_9 rfl ?_
    refine z_iconst (pc := 10) (v := 0) C dX9_shift_10 (by decide) ?_
    refine z_iconst (pc := 11) (v := 5) C dX9_shift_11 (by decide) ?_
    refine z_call0i (pc := 12) C (z_runS (pc := 12) (wc := ([] : va_W)) (As := [.int (nI 4), .int (0 : Int32), .int (5 : Int32)]) C (fun sz => kX9_within (nI 4) (0 : Int32) (5 : Int32) sz h) [] rfl (by decide) (gdS wq366 wq553 wq373 wq112) rfl rfl rfl hdSX9_within ⟨Nat.le_of_ble_eq_true rfl, Nat.le_of_ble_eq_true rfl⟩ rfl (Nat.le_of_ble_eq_true rfl) ⟨Nat.zero_le _, Nat.zero_le _⟩ dX9_shift_12) (fun r3 u3 h => ?_)
    refine z_if_ne (pc := 15) (tgt := 20) C dX9_shift_15 (by decide) (fun c4 => ?_) (fun c4 => ?_)
    · have h := h.1 c4
      refine z_aload_n (pc := 20) C 0 dX9_shift_20 rfl ?_
      refine z_get (pc := 21) C uw9 0 rfl rfl 9 (by decide) wq544 rfl dX9_shift_21 ?_
      refine z_iload_n (pc := 24) C 1 dX9_shift_24 rfl ?_
      obtain ⟨g5, h⟩ := h
      refine z_aldq (pc := 25) C 1 2 rfl rfl g5 (.ref (dt 2 0)) rfl dX9_shift_25 ?_
      refine z_astore (pc := 26) (lv' := [(6, .ref (dt 2 0)), (0, .ref (d 0)), (1, .int (nI 2)), (2, .int x2), (3, .int (nI 4)), (4, .int x4), (5, .int x5)]) C dX9_shift_26 (by decide) rfl ?_
      refine z_aload_n (pc := 28) C 1 dX9_shift_28 rfl ?_
      refine z_get (pc := 29) C uw9 0 rfl rfl 9 (by decide) wq544 rfl dX9_shift_29 ?_
      refine z_iload_n (pc := 32) C 4 dX9_shift_32 rfl ?_
      obtain ⟨g6, h⟩ := h
      refine z_aldq (pc := 33) C 1 2 rfl rfl g6 (.ref (dt 4 0)) rfl dX9_shift_33 ?_
      refine z_astore (pc := 34) (lv' := [(7, .ref (dt 4 0)), (6, .ref (dt 2 0)), (0, .ref (d 0)), (1, .int (nI 2)), (2, .int x2), (3, .int (nI 4)), (4, .int x4), (5, .int x5)]) C dX9_shift_34 (by decide) rfl ?_
      refine z_aload (pc := 36) C 1 dX9_shift_36 rfl ?_
      refine z_get (pc := 38) C uw6 6 rfl rfl 0 (by decide) wq777 rfl dX9_shift_38 ?_
      refine z_bipush (pc := 41) (v := -5) C dX9_shift_41 (by decide) ?_
      refine z_icmp_eq (pc := 43) (tgt := 56) C dX9_shift_43 (by decide) (fun c7 => ?_) (fun c7 => ?_)
      · have h := h.1 c7
        refine z_bipush (pc := 56) (v := -11) C dX9_shift_56 (by decide) ?_
        exact hret 58 _ _ (-11 : Int32) gt rfl h dX9_shift_58
      · have h := h.2 c7
        refine z_aload (pc := 46) C 0 dX9_shift_46 rfl ?_
        refine z_get (pc := 48) C uw6 10 rfl rfl 0 (by decide) wq777 rfl dX9_shift_48 ?_
        refine z_bipush (pc := 51) (v := -5) C dX9_shift_51 (by decide) ?_
        refine z_icmp_ne (pc := 53) (tgt := 59) C dX9_shift_53 (by decide) (fun c8 => ?_) (fun c8 => ?_)
        · have h := h.1 c8
          refine z_aload (pc := 59) C 1 dX9_shift_59 rfl ?_
          refine z_get (pc := 61) C uw6 6 rfl rfl 0 (by decide) wq777 rfl dX9_shift_61 ?_
          refine z_aload (pc := 64) C 0 dX9_shift_64 rfl ?_
          refine z_get (pc := 66) C uw6 10 rfl rfl 0 (by decide) wq777 rfl dX9_shift_66 ?_
          refine z_icmp_eq (pc := 69) (tgt := 75) C dX9_shift_69 (by decide) (fun c9 => ?_) (fun c9 => ?_)
          · have h := h.1 c9
            refine z_aload (pc := 75) C 1 dX9_shift_75 rfl ?_
            refine z_iload_n (pc := 77) C 4 dX9_shift_77 rfl ?_
            refine z_iload (pc := 78) C 7 dX9_shift_78 rfl ?_
            refine z_callRi (pc := 80) C (z_runV (pc := 80) (wc := (wX6 cJ (dt 2) (vt 2) (gt 2))) (As := [.int x2, .int x5]) C (fun sz => kX6_hasPlaces (dt 2) (vt 2) (gt 2) x2 x5 sz h) [6, 7] rfl (by decide) (gdV wq414 wq805 wq806 wq807 wq546) rfl rfl rfl hdX6_hasPlaces 6 rfl rfl rfl ⟨Nat.le_of_ble_eq_true rfl, Nat.le_of_ble_eq_true rfl⟩ rfl (Nat.le_of_ble_eq_true rfl) ⟨Nat.zero_le _, Nat.zero_le _⟩ dX9_shift_80) [6, 7] rfl (by decide) (fun r10 u10 h => ?_)
            refine z_if_eq (pc := 83) (tgt := 98) C dX9_shift_83 (by decide) (fun c11 => ?_) (fun c11 => ?_)
            · have h := h.1 c11
              refine z_bipush (pc := 98) (v := -13) C dX9_shift_98 (by decide) ?_
              exact hret 100 _ _ (-13 : Int32) gt rfl h dX9_shift_100
            · have h := h.2 c11
              refine z_aload (pc := 86) C 0 dX9_shift_86 rfl ?_
              refine z_iload (pc := 88) C 6 dX9_shift_88 rfl ?_
              refine z_iload (pc := 90) C 7 dX9_shift_90 rfl ?_
              refine z_callRi (pc := 92) C (z_runV (pc := 92) (wc := (wX6 cJ (dt 4) (vt 4) (gt 4))) (As := [.int x4, .int x5]) C (fun sz => kX6_hasPlaces (dt 4) (vt 4) (gt 4) x4 x5 sz h) [10, 11] rfl (by decide) (gdV wq414 wq805 wq806 wq807 wq546) rfl rfl rfl hdX6_hasPlaces 10 rfl rfl rfl ⟨Nat.le_of_ble_eq_true rfl, Nat.le_of_ble_eq_true rfl⟩ rfl (Nat.le_of_ble_eq_true rfl) ⟨Nat.zero_le _, Nat.zero_le _⟩ dX9_shift_92) [10, 11] rfl (by decide) (fun r12 u12 h => ?_)
              refine z_if_ne (pc := 95) (tgt := 101) C dX9_shift_95 (by decide) (fun c13 => ?_) (fun c13 => ?_)
              · have h := h.1 c13
                refine z_aload (pc := 101) C 1 dX9_shift_101 rfl ?_
                refine z_get (pc := 103) C uw6 6 rfl rfl 2 (by decide) wq778 rfl dX9_shift_103 ?_
                refine z_iload_n (pc := 106) C 4 dX9_shift_106 rfl ?_
                refine z_aload (pc := 107) C 0 dX9_shift_107 rfl ?_
                refine z_get (pc := 109) C uw6 10 rfl rfl 2 (by decide) wq778 rfl dX9_shift_109 ?_
                refine z_iload (pc := 112) C 6 dX9_shift_112 rfl ?_
                refine z_iload (pc := 114) C 7 dX9_shift_114 rfl ?_
                obtain ⟨g14, h⟩ := h
                refine z_copyl (pc := 116) (ws' := ((wX9 d (dN 0) (dI 0) (dT 0) (dNc 0) (dNcj 0) (dNcs 0) (dNcp 0) (dNw 0) (dx 0) dtt v) ++ (wTT cJ cT dtt dt vt (va_up gt 4 (sb (gt 4) 1 (va_cpy ((gt 2) 1) ((gt 4) 1) x2.toNatClampNeg x4.toNatClampNeg x5.toNatClampNeg)))))) C wq804 wq65 wq66 wq67 7 11 1 rfl rfl rfl g14 (Nat.le_of_ble_eq_true rfl) (Nat.le_of_ble_eq_true rfl) dX9_shift_116 (set_r (k := 1) (i := 10) rfl sTT_c4) ?_
                refine z_iload (pc := 119) C 7 dX9_shift_119 rfl ?_
                exact hret 121 _ _ x5 (va_up gt 4 (sb (gt 4) 1 (va_cpy ((gt 2) 1) ((gt 4) 1) x2.toNatClampNeg x4.toNatClampNeg x5.toNatClampNeg))) rfl h dX9_shift_121
              · have h := h.2 c13
                refine z_bipush (pc := 98) (v := -13) C dX9_shift_98 (by decide) ?_
                exact hret 100 _ _ (-13 : Int32) gt rfl h dX9_shift_100
          · have h := h.2 c9
            refine z_bipush (pc := 72) (v := -12) C dX9_shift_72 (by decide) ?_
            exact hret 74 _ _ (-12 : Int32) gt rfl h dX9_shift_74
        · have h := h.2 c8
          refine z_bipush (pc := 56) (v := -11) C dX9_shift_56 (by decide) ?_
          exact hret 58 _ _ (-11 : Int32) gt rfl h dX9_shift_58
    · have h := h.2 c4
      refine z_iconst (pc := 18) (v := -1) C dX9_shift_18 (by decide) ?_
      exact hret 19 _ _ (-1 : Int32) gt rfl h dX9_shift_19

set_option maxHeartbeats 4000000 in
set_option maxRecDepth 100000 in
theorem kX9_shift_2_5 {l : Launch} {D : va_G} {cI cJ cT : ClassId} (d : Nat → Nat) (dN : Nat → Nat) (dI : Nat → Nat) (dT : Nat → Nat) (dNc : Nat → Nat) (dNcj : Nat → Nat) (dNcs : Nat → Nat) (dNcp : Nat → Nat) (dNw : Nat → Nat) (dx : Nat → Nat) (dtt : Nat) (dt : Nat → Nat → Nat)  (v : Lf) (vt : Nat → Lf) (gt : Nat → Lg) (x2 : Int32) (x4 : Int32) (x5 : Int32) {Q : Int32 → (Nat → Lg) → Prop} (sz : Nat) (h : pX9_shift vt gt (nI 2) x2 (nI 5) x4 x5 Q) : Met l yX9_shift wdX9_shift rmX9_shift (Pz D (tyL cI cJ cT) [.ref (d 0), .int (nI 2), .int x2, .int (nI 5), .int x4, .int x5] ((wX9 d (dN 0) (dI 0) (dT 0) (dNc 0) (dNcj 0) (dNcs 0) (dNcp 0) (dNw 0) (dx 0) dtt v) ++ (wTT cJ cT dtt dt vt gt)) sz) (va_Qi (fun (r : Int32) (u : (Nat → Lg)) => Q r u) (Bz D (tyL cI cJ cT) ((wX9 d (dN 0) (dI 0) (dT 0) (dNc 0) (dNcj 0) (dNcs 0) (dNcp 0) (dNw 0) (dx 0) dtt v) ++ (wTT cJ cT dtt dt vt gt)) sz (fun (u : (Nat → Lg)) => ((wX9 d (dN 0) (dI 0) (dT 0) (dNc 0) (dNcj 0) (dNcs 0) (dNcp 0) (dNw 0) (dx 0) dtt v) ++ (wTT cJ cT dtt dt vt u)))) (va_A ((wX9 d (dN 0) (dI 0) (dT 0) (dNc 0) (dNcj 0) (dNcs 0) (dNcp 0) (dNw 0) (dx 0) dtt v) ++ (wTT cJ cT dtt dt vt gt)) sz)) 0 0 (va_A ((wX9 d (dN 0) (dI 0) (dT 0) (dNc 0) (dNcj 0) (dNcs 0) (dNcp 0) (dNw 0) (dx 0) dtt v) ++ (wTT cJ cT dtt dt vt gt)) sz) := by
  refine z_meti (cc := cX9_shift) (maxL := 8) (own := RX9) (lv0 := [(0, .ref (d 0)), (1, .int (nI 2)), (2, .int x2), (3, .int (nI 5)), (4, .int x4), (5, .int x5)]) (by decide) rfl rfl (Nat.le_of_ble_eq_true rfl) rfl ?_
  intro p e s m args below meth c A QQ C hin hret
  refine z_iload_n (pc := 0) C 1 dX9_shift_0 rfl ?_
  refine z_iconst (pc := 1) (v := 0) C dX9_shift_1 (by decide) ?_
  refine z_iconst (pc := 2) (v := 5) C dX9_shift_2 (by decide) ?_
  refine z_call0i (pc := 3) C (z_runS (pc := 3) (wc := ([] : va_W)) (As := [.int (nI 2), .int (0 : Int32), .int (5 : Int32)]) C (fun sz => kX9_within (nI 2) (0 : Int32) (5 : Int32) sz h) [] rfl (by decide) (gdS wq366 wq553 wq373 wq112) rfl rfl rfl hdSX9_within ⟨Nat.le_of_ble_eq_true rfl, Nat.le_of_ble_eq_true rfl⟩ rfl (Nat.le_of_ble_eq_true rfl) ⟨Nat.zero_le _, Nat.zero_le _⟩ dX9_shift_3) (fun r1 u1 h => ?_)
  refine z_if_eq (pc := 6) (tgt := 18) C dX9_shift_6 (by decide) (fun c2 => ?_) (fun c2 => ?_)
  · have h := h.1 c2
    refine z_iconst (pc := 18) (v := -1) C dX9_shift_18 (by decide) ?_
    exact hret 19 _ _ (-1 : Int32) gt rfl h dX9_shift_19
  · have h := h.2 c2
    refine z_iload_n (pc := 9) C 3 dX9_shift_9 rfl ?_
    refine z_iconst (pc := 10) (v := 0) C dX9_shift_10 (by decide) ?_
    refine z_iconst (pc := 11) (v := 5) C dX9_shift_11 (by decide) ?_
    refine z_call0i (pc := 12) C (z_runS (pc := 12) (wc := ([] : va_W)) (As := [.int (nI 5), .int (0 : Int32), .int (5 : Int32)]) C (fun sz => kX9_within (nI 5) (0 : Int32) (5 : Int32) sz h) [] rfl (by decide) (gdS wq366 wq553 wq373 wq112) rfl rfl rfl hdSX9_within ⟨Nat.le_of_ble_eq_true rfl, Nat.le_of_ble_eq_true rfl⟩ rfl (Nat.le_of_ble_eq_true rfl) ⟨Nat.zero_le _, Nat.zero_le _⟩ dX9_shift_12) (fun r3 u3 h => ?_)
    refine z_if_ne (pc := 15) (tgt := 20) C dX9_shift_15 (by decide) (fun c4 => ?_) (fun c4 => ?_)
    · have h := h.1 c4
      refine z_aload_n (pc := 20) C 0 dX9_shift_20 rfl ?_
      refine z_get (pc := 21) C uw9 0 rfl rfl 9 (by decide) wq544 rfl dX9_shift_21 ?_
      refine z_iload_n (pc := 24) C 1 dX9_shift_24 rfl ?_
      obtain ⟨g5, h⟩ := h
      refine z_aldq (pc := 25) C 1 2 rfl rfl g5 (.ref (dt 2 0)) rfl dX9_shift_25 ?_
      refine z_astore (pc := 26) (lv' := [(6, .ref (dt 2 0)), (0, .ref (d 0)), (1, .int (nI 2)), (2, .int x2), (3, .int (nI 5)), (4, .int x4), (5, .int x5)]) C dX9_shift_26 (by decide) rfl ?_
      refine z_aload_n (pc := 28) C 1 dX9_shift_28 rfl ?_
      refine z_get (pc := 29) C uw9 0 rfl rfl 9 (by decide) wq544 rfl dX9_shift_29 ?_
      refine z_iload_n (pc := 32) C 4 dX9_shift_32 rfl ?_
      obtain ⟨g6, h⟩ := h
      refine z_aldq (pc := 33) C 1 2 rfl rfl g6 (.ref (dt 5 0)) rfl dX9_shift_33 ?_
      refine z_astore (pc := 34) (lv' := [(7, .ref (dt 5 0)), (6, .ref (dt 2 0)), (0, .ref (d 0)), (1, .int (nI 2)), (2, .int x2), (3, .int (nI 5)), (4, .int x4), (5, .int x5)]) C dX9_shift_34 (by decide) rfl ?_
      refine z_aload (pc := 36) C 1 dX9_shift_36 rfl ?_
      refine z_get (pc := 38) C uw6 6 rfl rfl 0 (by decide) wq777 rfl dX9_shift_38 ?_
      refine z_bipush (pc := 41) (v := -5) C dX9_shift_41 (by decide) ?_
      refine z_icmp_eq (pc := 43) (tgt := 56) C dX9_shift_43 (by decide) (fun c7 => ?_) (fun c7 => ?_)
      · have h := h.1 c7
        refine z_bipush (pc := 56) (v := -11) C dX9_shift_56 (by decide) ?_
        exact hret 58 _ _ (-11 : Int32) gt rfl h dX9_shift_58
      · have h := h.2 c7
        refine z_aload (pc := 46) C 0 dX9_shift_46 rfl ?_
        refine z_get (pc := 48) C uw6 12 rfl rfl 0 (by decide) wq777 rfl dX9_shift_48 ?_
        refine z_bipush (pc := 51) (v := -5) C dX9_shift_51 (by decide) ?_
        refine z_icmp_ne (pc := 53) (tgt := 59) C dX9_shift_53 (by decide) (fun c8 => ?_) (fun c8 => ?_)
        · have h := h.1 c8
          refine z_aload (pc := 59) C 1 dX9_shift_59 rfl ?_
          refine z_get (pc := 61) C uw6 6 rfl rfl 0 (by decide) wq777 rfl dX9_shift_61 ?_
          refine z_aload (pc := 64) C 0 dX9_shift_64 rfl ?_
          refine z_get (pc := 66) C uw6 12 rfl rfl 0 (by decide) wq777 rfl dX9_shift_66 ?_
          refine z_icmp_eq (pc := 69) (tgt := 75) C dX9_shift_69 (by decide) (fun c9 => ?_) (fun c9 => ?_)
          · have h := h.1 c9
            refine z_aload (pc := 75) C 1 dX9_shift_75 rfl ?_
            refine z_iload_n (pc := 77) C 4 dX9_shift_77 rfl ?_
            refine z_iload (pc := 78) C 7 dX9_shift_78 rfl ?_
            refine z_callRi (pc := 80) C (z_runV (pc := 80) (wc := (wX6 cJ (dt 2) (vt 2) (gt 2))) (As := [.int x2, .int x5]) C (fun sz => kX6_hasPlaces (dt 2) (vt 2) (gt 2) x2 x5 sz h) [6, 7] rfl (by decide) (gdV wq414 wq805 wq806 wq807 wq546) rfl rfl rfl hdX6_hasPlaces 6 rfl rfl rfl ⟨Nat.le_of_ble_eq_true rfl, Nat.le_of_ble_eq_true rfl⟩ rfl (Nat.le_of_ble_eq_true rfl) ⟨Nat.zero_le _, Nat.zero_le _⟩ dX9_shift_80) [6, 7] rfl (by decide) (fun r10 u10 h => ?_)
            refine z_if_eq (pc := 83) (tgt := 98) C dX9_shift_83 (by decide) (fun c11 => ?_) (fun c11 => ?_)
            · have h := h.1 c11
              refine z_bipush (pc := 98) (v := -13) C dX9_shift_98 (by decide) ?_
              exact hret 100 _ _ (-13 : Int32) gt rfl h dX9_shift_100
            · have h := h.2 c11
              refine z_aload (pc := 86) C 0 dX9_shift_86 rfl ?_
              refine z_iload (pc := 88) C 6 dX9_shift_88 rfl ?_
              refine z_iload (pc := 90) C 7 dX9_shift_90 rfl ?_
              refine z_callRi (pc := 92) C (z_runV (pc := 92) (wc := (wX6 cJ (dt 5) (vt 5) (gt 5))) (As := [.int x4, .int x5]) C (fun sz => kX6_hasPlaces (dt 5) (vt 5) (gt 5) x4 x5 sz h) [12, 13] rfl (by decide) (gdV wq414 wq805 wq806 wq807 wq546) rfl rfl rfl hdX6_hasPlaces 12 rfl rfl rfl ⟨Nat.le_of_ble_eq_true rfl, Nat.le_of_ble_eq_true rfl⟩ rfl (Nat.le_of_ble_eq_true rfl) ⟨Nat.zero_le _, Nat.zero_le _⟩ dX9_shift_92) [12, 13] rfl (by decide) (fun r12 u12 h => ?_)
              refine z_if_ne (pc := 95) (tgt := 101) C dX9_shift_95 (by decide) (fun c13 => ?_) (fun c13 => ?_)
              · have h := h.1 c13
                refine z_aload (pc := 101) C 1 dX9_shift_101 rfl ?_
                refine z_get (pc := 103) C uw6 6 rfl rfl 2 (by decide) wq778 rfl dX9_shift_103 ?_
                refine z_iload_n (pc := 106) C 4 dX9_shift_106 rfl ?_
                refine z_aload (pc := 107) C 0 dX9_shift_107 rfl ?_
                refine z_get (pc := 109) C uw6 12 rfl rfl 2 (by decide) wq778 rfl dX9_shift_109 ?_
                refine z_iload (pc := 112) C 6 dX9_shift_112 rfl ?_
                refine z_iload (pc := 114) C 7 dX9_shift_114 rfl ?_
                obtain ⟨g14, h⟩ := h
                refine z_copyl (pc := 116) (ws' := ((wX9 d (dN 0) (dI 0) (dT 0) (dNc 0) (dNcj 0) (dNcs 0) (dNcp 0) (dNw 0) (dx 0) dtt v) ++ (wTT cJ cT dtt dt vt (va_up gt 5 (sb (gt 5) 1 (va_cpy ((gt 2) 1) ((gt 5) 1) x2.toNatClampNeg x4.toNatClampNeg x5.toNatClampNeg)))))) C wq804 wq65 wq66 wq67 7 13 1 rfl rfl rfl g14 (Nat.le_of_ble_eq_true rfl) (Nat.le_of_ble_eq_true rfl) dX9_shift_116 (set_r (k := 1) (i := 12) rfl sTT_c5) ?_
                refine z_iload (pc := 119) C 7 dX9_shift_119 rfl ?_
                exact hret 121 _ _ x5 (va_up gt 5 (sb (gt 5) 1 (va_cpy ((gt 2) 1) ((gt 5) 1) x2.toNatClampNeg x4.toNatClampNeg x5.toNatClampNeg))) rfl h dX9_shift_121
              · have h := h.2 c13
                refine z_bipush (pc := 98) (v := -13) C dX9_shift_98 (by decide) ?_
                exact hret 100 _ _ (-13 : Int32) gt rfl h dX9_shift_100
          · have h := h.2 c9
            refine z_bipush (pc := 72) (v := -12) C dX9_shift_72 (by decide) ?_
            exact hret 74 _ _ (-12 : Int32) gt rfl h dX9_shift_74
        · have h := h.2 c8
          refine z_bipush (pc := 56) (v := -11) C dX9_shift_56 (by decide) ?_
          exact hret 58 _ _ (-11 : Int32) gt rfl h dX9_shift_58
    · have h := h.2 c4
      refine z_iconst (pc := 18) (v := -1) C dX9_shift_18 (by decide) ?_
      exact hret 19 _ _ (-1 : Int32) gt rfl h dX9_shift_19

set_option maxHeartbeats 4000000 in
set_option maxRecDepth 100000 in
theorem kX9_shift_2_n {l : Launch} {D : va_G} {cI cJ cT : ClassId} (d : Nat → Nat) (dN : Nat → Nat) (dI : Nat → Nat) (dT : Nat → Nat) (dNc : Nat → Nat) (dNcj : Nat → Nat) (dNcs : Nat → Nat) (dNcp : Nat → Nat) (dNw : Nat → Nat) (dx : Nat → Nat) (dtt : Nat) (dt : Nat → Nat → Nat)  (v : Lf) (vt : Nat → Lf) (gt : Nat → Lg) (x2 : Int32) (x3 : Int32) (x4 : Int32) (x5 : Int32) (g2 : ¬ vp_in x3 6) {Q : Int32 → (Nat → Lg) → Prop} (sz : Nat) (h : pX9_shift vt gt (nI 2) x2 x3 x4 x5 Q) : Met l yX9_shift wdX9_shift rmX9_shift (Pz D (tyL cI cJ cT) [.ref (d 0), .int (nI 2), .int x2, .int x3, .int x4, .int x5] ((wX9 d (dN 0) (dI 0) (dT 0) (dNc 0) (dNcj 0) (dNcs 0) (dNcp 0) (dNw 0) (dx 0) dtt v) ++ (wTT cJ cT dtt dt vt gt)) sz) (va_Qi (fun (r : Int32) (u : (Nat → Lg)) => Q r u) (Bz D (tyL cI cJ cT) ((wX9 d (dN 0) (dI 0) (dT 0) (dNc 0) (dNcj 0) (dNcs 0) (dNcp 0) (dNw 0) (dx 0) dtt v) ++ (wTT cJ cT dtt dt vt gt)) sz (fun (u : (Nat → Lg)) => ((wX9 d (dN 0) (dI 0) (dT 0) (dNc 0) (dNcj 0) (dNcs 0) (dNcp 0) (dNw 0) (dx 0) dtt v) ++ (wTT cJ cT dtt dt vt u)))) (va_A ((wX9 d (dN 0) (dI 0) (dT 0) (dNc 0) (dNcj 0) (dNcs 0) (dNcp 0) (dNw 0) (dx 0) dtt v) ++ (wTT cJ cT dtt dt vt gt)) sz)) 0 0 (va_A ((wX9 d (dN 0) (dI 0) (dT 0) (dNc 0) (dNcj 0) (dNcs 0) (dNcp 0) (dNw 0) (dx 0) dtt v) ++ (wTT cJ cT dtt dt vt gt)) sz) := by
  refine z_meti (cc := cX9_shift) (maxL := 8) (own := RX9) (lv0 := [(0, .ref (d 0)), (1, .int (nI 2)), (2, .int x2), (3, .int x3), (4, .int x4), (5, .int x5)]) (by decide) rfl rfl (Nat.le_of_ble_eq_true rfl) rfl ?_
  intro p e s m args below meth c A QQ C hin hret
  refine z_iload_n (pc := 0) C 1 dX9_shift_0 rfl ?_
  refine z_iconst (pc := 1) (v := 0) C dX9_shift_1 (by decide) ?_
  refine z_iconst (pc := 2) (v := 5) C dX9_shift_2 (by decide) ?_
  refine z_call0i (pc := 3) C (z_runS (pc := 3) (wc := ([] : va_W)) (As := [.int (nI 2), .int (0 : Int32), .int (5 : Int32)]) C (fun sz => kX9_within (nI 2) (0 : Int32) (5 : Int32) sz h) [] rfl (by decide) (gdS wq366 wq553 wq373 wq112) rfl rfl rfl hdSX9_within ⟨Nat.le_of_ble_eq_true rfl, Nat.le_of_ble_eq_true rfl⟩ rfl (Nat.le_of_ble_eq_true rfl) ⟨Nat.zero_le _, Nat.zero_le _⟩ dX9_shift_3) (fun r1 u1 h => ?_)
  refine z_if_eq (pc := 6) (tgt := 18) C dX9_shift_6 (by decide) (fun c2 => ?_) (fun c2 => ?_)
  · have h := h.1 c2
    refine z_iconst (pc := 18) (v := -1) C dX9_shift_18 (by decide) ?_
    exact hret 19 _ _ (-1 : Int32) gt rfl h dX9_shift_19
  · have h := h.2 c2
    refine z_iload_n (pc := 9) C 3 dX9_shift_9 rfl ?_
    refine z_iconst (pc := 10) (v := 0) C dX9_shift_10 (by decide) ?_
    refine z_iconst (pc := 11) (v := 5) C dX9_shift_11 (by decide) ?_
    refine z_call0i (pc := 12) C (z_runS (pc := 12) (wc := ([] : va_W)) (As := [.int x3, .int (0 : Int32), .int (5 : Int32)]) C (fun sz => kX9_within x3 (0 : Int32) (5 : Int32) sz h) [] rfl (by decide) (gdS wq366 wq553 wq373 wq112) rfl rfl rfl hdSX9_within ⟨Nat.le_of_ble_eq_true rfl, Nat.le_of_ble_eq_true rfl⟩ rfl (Nat.le_of_ble_eq_true rfl) ⟨Nat.zero_le _, Nat.zero_le _⟩ dX9_shift_12) (fun r3 u3 h => ?_)
    refine z_if_ne (pc := 15) (tgt := 20) C dX9_shift_15 (by decide) (fun c4 => ?_) (fun c4 => ?_)
    · have h := h.1 c4
      refine z_aload_n (pc := 20) C 0 dX9_shift_20 rfl ?_
      refine z_get (pc := 21) C uw9 0 rfl rfl 9 (by decide) wq544 rfl dX9_shift_21 ?_
      refine z_iload_n (pc := 24) C 1 dX9_shift_24 rfl ?_
      obtain ⟨g5, h⟩ := h
      refine z_aldq (pc := 25) C 1 2 rfl rfl g5 (.ref (dt 2 0)) rfl dX9_shift_25 ?_
      refine z_astore (pc := 26) (lv' := [(6, .ref (dt 2 0)), (0, .ref (d 0)), (1, .int (nI 2)), (2, .int x2), (3, .int x3), (4, .int x4), (5, .int x5)]) C dX9_shift_26 (by decide) rfl ?_
      refine z_aload_n (pc := 28) C 1 dX9_shift_28 rfl ?_
      refine z_get (pc := 29) C uw9 0 rfl rfl 9 (by decide) wq544 rfl dX9_shift_29 ?_
      refine z_iload_n (pc := 32) C 4 dX9_shift_32 rfl ?_
      obtain ⟨g6, h⟩ := h
      exact absurd g6 g2
    · have h := h.2 c4
      refine z_iconst (pc := 18) (v := -1) C dX9_shift_18 (by decide) ?_
      exact hret 19 _ _ (-1 : Int32) gt rfl h dX9_shift_19

set_option maxHeartbeats 4000000 in
set_option maxRecDepth 100000 in
theorem kX9_shift_3_0 {l : Launch} {D : va_G} {cI cJ cT : ClassId} (d : Nat → Nat) (dN : Nat → Nat) (dI : Nat → Nat) (dT : Nat → Nat) (dNc : Nat → Nat) (dNcj : Nat → Nat) (dNcs : Nat → Nat) (dNcp : Nat → Nat) (dNw : Nat → Nat) (dx : Nat → Nat) (dtt : Nat) (dt : Nat → Nat → Nat)  (v : Lf) (vt : Nat → Lf) (gt : Nat → Lg) (x2 : Int32) (x4 : Int32) (x5 : Int32) {Q : Int32 → (Nat → Lg) → Prop} (sz : Nat) (h : pX9_shift vt gt (nI 3) x2 (nI 0) x4 x5 Q) : Met l yX9_shift wdX9_shift rmX9_shift (Pz D (tyL cI cJ cT) [.ref (d 0), .int (nI 3), .int x2, .int (nI 0), .int x4, .int x5] ((wX9 d (dN 0) (dI 0) (dT 0) (dNc 0) (dNcj 0) (dNcs 0) (dNcp 0) (dNw 0) (dx 0) dtt v) ++ (wTT cJ cT dtt dt vt gt)) sz) (va_Qi (fun (r : Int32) (u : (Nat → Lg)) => Q r u) (Bz D (tyL cI cJ cT) ((wX9 d (dN 0) (dI 0) (dT 0) (dNc 0) (dNcj 0) (dNcs 0) (dNcp 0) (dNw 0) (dx 0) dtt v) ++ (wTT cJ cT dtt dt vt gt)) sz (fun (u : (Nat → Lg)) => ((wX9 d (dN 0) (dI 0) (dT 0) (dNc 0) (dNcj 0) (dNcs 0) (dNcp 0) (dNw 0) (dx 0) dtt v) ++ (wTT cJ cT dtt dt vt u)))) (va_A ((wX9 d (dN 0) (dI 0) (dT 0) (dNc 0) (dNcj 0) (dNcs 0) (dNcp 0) (dNw 0) (dx 0) dtt v) ++ (wTT cJ cT dtt dt vt gt)) sz)) 0 0 (va_A ((wX9 d (dN 0) (dI 0) (dT 0) (dNc 0) (dNcj 0) (dNcs 0) (dNcp 0) (dNw 0) (dx 0) dtt v) ++ (wTT cJ cT dtt dt vt gt)) sz) := by
  refine z_meti (cc := cX9_shift) (maxL := 8) (own := RX9) (lv0 := [(0, .ref (d 0)), (1, .int (nI 3)), (2, .int x2), (3, .int (nI 0)), (4, .int x4), (5, .int x5)]) (by decide) rfl rfl (Nat.le_of_ble_eq_true rfl) rfl ?_
  intro p e s m args below meth c A QQ C hin hret
  refine z_iload_n (pc := 0) C 1 dX9_shift_0 rfl ?_
  refine z_iconst (pc := 1) (v := 0) C dX9_shift_1 (by decide) ?_
  refine z_iconst (pc := 2) (v := 5) C dX9_shift_2 (by decide) ?_
  refine z_call0i (pc := 3) C (z_runS (pc := 3) (wc := ([] : va_W)) (As := [.int (nI 3), .int (0 : Int32), .int (5 : Int32)]) C (fun sz => kX9_within (nI 3) (0 : Int32) (5 : Int32) sz h) [] rfl (by decide) (gdS wq366 wq553 wq373 wq112) rfl rfl rfl hdSX9_within ⟨Nat.le_of_ble_eq_true rfl, Nat.le_of_ble_eq_true rfl⟩ rfl (Nat.le_of_ble_eq_true rfl) ⟨Nat.zero_le _, Nat.zero_le _⟩ dX9_shift_3) (fun r1 u1 h => ?_)
  refine z_if_eq (pc := 6) (tgt := 18) C dX9_shift_6 (by decide) (fun c2 => ?_) (fun c2 => ?_)
  · have h := h.1 c2
    refine z_iconst (pc := 18) (v := -1) C dX9_shift_18 (by decide) ?_
    exact hret 19 _ _ (-1 : Int32) gt rfl h dX9_shift_19
  · have h := h.2 c2
    refine z_iload_n (pc := 9) C 3 dX9_shift_9 rfl ?_
    refine z_iconst (pc := 10) (v := 0) C dX9_shift_10 (by decide) ?_
    refine z_iconst (pc := 11) (v := 5) C dX9_shift_11 (by decide) ?_
    refine z_call0i (pc := 12) C (z_runS (pc := 12) (wc := ([] : va_W)) (As := [.int (nI 0), .int (0 : Int32), .int (5 : Int32)]) C (fun sz => kX9_within (nI 0) (0 : Int32) (5 : Int32) sz h) [] rfl (by decide) (gdS wq366 wq553 wq373 wq112) rfl rfl rfl hdSX9_within ⟨Nat.le_of_ble_eq_true rfl, Nat.le_of_ble_eq_true rfl⟩ rfl (Nat.le_of_ble_eq_true rfl) ⟨Nat.zero_le _, Nat.zero_le _⟩ dX9_shift_12) (fun r3 u3 h => ?_)
    refine z_if_ne (pc := 15) (tgt := 20) C dX9_shift_15 (by decide) (fun c4 => ?_) (fun c4 => ?_)
    · have h := h.1 c4
      refine z_aload_n (pc := 20) C 0 dX9_shift_20 rfl ?_
      refine z_get (pc := 21) C uw9 0 rfl rfl 9 (by decide) wq544 rfl dX9_shift_21 ?_
      refine z_iload_n (pc := 24) C 1 dX9_shift_24 rfl ?_
      obtain ⟨g5, h⟩ := h
      refine z_aldq (pc := 25) C 1 2 rfl rfl g5 (.ref (dt 3 0)) rfl dX9_shift_25 ?_
      refine z_astore (pc := 26) (lv' := [(6, .ref (dt 3 0)), (0, .ref (d 0)), (1, .int (nI 3)), (2, .int x2), (3, .int (nI 0)), (4, .int x4), (5, .int x5)]) C dX9_shift_26 (by decide) rfl ?_
      refine z_aload_n (pc := 28) C 1 dX9_shift_28 rfl ?_
      refine z_get (pc := 29) C uw9 0 rfl rfl 9 (by decide) wq544 rfl dX9_shift_29 ?_
      refine z_iload_n (pc := 32) C 4 dX9_shift_32 rfl ?_
      obtain ⟨g6, h⟩ := h
      refine z_aldq (pc := 33) C 1 2 rfl rfl g6 (.ref (dt 0 0)) rfl dX9_shift_33 ?_
      refine z_astore (pc := 34) (lv' := [(7, .ref (dt 0 0)), (6, .ref (dt 3 0)), (0, .ref (d 0)), (1, .int (nI 3)), (2, .int x2), (3, .int (nI 0)), (4, .int x4), (5, .int x5)]) C dX9_shift_34 (by decide) rfl ?_
      refine z_aload (pc := 36) C 1 dX9_shift_36 rfl ?_
      refine z_get (pc := 38) C uw6 8 rfl rfl 0 (by decide) wq777 rfl dX9_shift_38 ?_
      refine z_bipush (pc := 41) (v := -5) C dX9_shift_41 (by decide) ?_
      refine z_icmp_eq (pc := 43) (tgt := 56) C dX9_shift_43 (by decide) (fun c7 => ?_) (fun c7 => ?_)
      · have h := h.1 c7
        refine z_bipush (pc := 56) (v := -11) C dX9_shift_56 (by decide) ?_
        exact hret 58 _ _ (-11 : Int32) gt rfl h dX9_shift_58
      · have h := h.2 c7
        refine z_aload (pc := 46) C 0 dX9_shift_46 rfl ?_
        refine z_get (pc := 48) C uw6 2 rfl rfl 0 (by decide) wq777 rfl dX9_shift_48 ?_
        refine z_bipush (pc := 51) (v := -5) C dX9_shift_51 (by decide) ?_
        refine z_icmp_ne (pc := 53) (tgt := 59) C dX9_shift_53 (by decide) (fun c8 => ?_) (fun c8 => ?_)
        · have h := h.1 c8
          refine z_aload (pc := 59) C 1 dX9_shift_59 rfl ?_
          refine z_get (pc := 61) C uw6 8 rfl rfl 0 (by decide) wq777 rfl dX9_shift_61 ?_
          refine z_aload (pc := 64) C 0 dX9_shift_64 rfl ?_
          refine z_get (pc := 66) C uw6 2 rfl rfl 0 (by decide) wq777 rfl dX9_shift_66 ?_
          refine z_icmp_eq (pc := 69) (tgt := 75) C dX9_shift_69 (by decide) (fun c9 => ?_) (fun c9 => ?_)
          · have h := h.1 c9
            refine z_aload (pc := 75) C 1 dX9_shift_75 rfl ?_
            refine z_iload_n (pc := 77) C 4 dX9_shift_77 rfl ?_
            refine z_iload (pc := 78) C 7 dX9_shift_78 rfl ?_
            refine z_callRi (pc := 80) C (z_runV (pc := 80) (wc := (wX6 cJ (dt 3) (vt 3) (gt 3))) (As := [.int x2, .int x5]) C (fun sz => kX6_hasPlaces (dt 3) (vt 3) (gt 3) x2 x5 sz h) [8, 9] rfl (by decide) (gdV wq414 wq805 wq806 wq807 wq546) rfl rfl rfl hdX6_hasPlaces 8 rfl rfl rfl ⟨Nat.le_of_ble_eq_true rfl, Nat.le_of_ble_eq_true rfl⟩ rfl (Nat.le_of_ble_eq_true rfl) ⟨Nat.zero_le _, Nat.zero_le _⟩ dX9_shift_80) [8, 9] rfl (by decide) (fun r10 u10 h => ?_)
            refine z_if_eq (pc := 83) (tgt := 98) C dX9_shift_83 (by decide) (fun c11 => ?_) (fun c11 => ?_)
            · have h := h.1 c11
              refine z_bipush (pc := 98) (v := -13) C dX9_shift_98 (by decide) ?_
              exact hret 100 _ _ (-13 : Int32) gt rfl h dX9_shift_100
            · have h := h.2 c11
              refine z_aload (pc := 86) C 0 dX9_shift_86 rfl ?_
              refine z_iload (pc := 88) C 6 dX9_shift_88 rfl ?_
              refine z_iload (pc := 90) C 7 dX9_shift_90 rfl ?_
              refine z_callRi (pc := 92) C (z_runV (pc := 92) (wc := (wX6 cJ (dt 0) (vt 0) (gt 0))) (As := [.int x4, .int x5]) C (fun sz => kX6_hasPlaces (dt 0) (vt 0) (gt 0) x4 x5 sz h) [2, 3] rfl (by decide) (gdV wq414 wq805 wq806 wq807 wq546) rfl rfl rfl hdX6_hasPlaces 2 rfl rfl rfl ⟨Nat.le_of_ble_eq_true rfl, Nat.le_of_ble_eq_true rfl⟩ rfl (Nat.le_of_ble_eq_true rfl) ⟨Nat.zero_le _, Nat.zero_le _⟩ dX9_shift_92) [2, 3] rfl (by decide) (fun r12 u12 h => ?_)
              refine z_if_ne (pc := 95) (tgt := 101) C dX9_shift_95 (by decide) (fun c13 => ?_) (fun c13 => ?_)
              · have h := h.1 c13
                refine z_aload (pc := 101) C 1 dX9_shift_101 rfl ?_
                refine z_get (pc := 103) C uw6 8 rfl rfl 2 (by decide) wq778 rfl dX9_shift_103 ?_
                refine z_iload_n (pc := 106) C 4 dX9_shift_106 rfl ?_
                refine z_aload (pc := 107) C 0 dX9_shift_107 rfl ?_
                refine z_get (pc := 109) C uw6 2 rfl rfl 2 (by decide) wq778 rfl dX9_shift_109 ?_
                refine z_iload (pc := 112) C 6 dX9_shift_112 rfl ?_
                refine z_iload (pc := 114) C 7 dX9_shift_114 rfl ?_
                obtain ⟨g14, h⟩ := h
                refine z_copyl (pc := 116) (ws' := ((wX9 d (dN 0) (dI 0) (dT 0) (dNc 0) (dNcj 0) (dNcs 0) (dNcp 0) (dNw 0) (dx 0) dtt v) ++ (wTT cJ cT dtt dt vt (va_up gt 0 (sb (gt 0) 1 (va_cpy ((gt 3) 1) ((gt 0) 1) x2.toNatClampNeg x4.toNatClampNeg x5.toNatClampNeg)))))) C wq804 wq65 wq66 wq67 9 3 1 rfl rfl rfl g14 (Nat.le_of_ble_eq_true rfl) (Nat.le_of_ble_eq_true rfl) dX9_shift_116 (set_r (k := 1) (i := 2) rfl sTT_c0) ?_
                refine z_iload (pc := 119) C 7 dX9_shift_119 rfl ?_
                exact hret 121 _ _ x5 (va_up gt 0 (sb (gt 0) 1 (va_cpy ((gt 3) 1) ((gt 0) 1) x2.toNatClampNeg x4.toNatClampNeg x5.toNatClampNeg))) rfl h dX9_shift_121
              · have h := h.2 c13
                refine z_bipush (pc := 98) (v := -13) C dX9_shift_98 (by decide) ?_
                exact hret 100 _ _ (-13 : Int32) gt rfl h dX9_shift_100
          · have h := h.2 c9
            refine z_bipush (pc := 72) (v := -12) C dX9_shift_72 (by decide) ?_
            exact hret 74 _ _ (-12 : Int32) gt rfl h dX9_shift_74
        · have h := h.2 c8
          refine z_bipush (pc := 56) (v := -11) C dX9_shift_56 (by decide) ?_
          exact hret 58 _ _ (-11 : Int32) gt rfl h dX9_shift_58
    · have h := h.2 c4
      refine z_iconst (pc := 18) (v := -1) C dX9_shift_18 (by decide) ?_
      exact hret 19 _ _ (-1 : Int32) gt rfl h dX9_shift_19

set_option maxHeartbeats 4000000 in
set_option maxRecDepth 100000 in
theorem kX9_shift_3_1 {l : Launch} {D : va_G} {cI cJ cT : ClassId} (d : Nat → Nat) (dN : Nat → Nat) (dI : Nat → Nat) (dT : Nat → Nat) (dNc : Nat → Nat) (dNcj : Nat → Nat) (dNcs : Nat → Nat) (dNcp : Nat → Nat) (dNw : Nat → Nat) (dx : Nat → Nat) (dtt : Nat) (dt : Nat → Nat → Nat)  (v : Lf) (vt : Nat → Lf) (gt : Nat → Lg) (x2 : Int32) (x4 : Int32) (x5 : Int32) {Q : Int32 → (Nat → Lg) → Prop} (sz : Nat) (h : pX9_shift vt gt (nI 3) x2 (nI 1) x4 x5 Q) : Met l yX9_shift wdX9_shift rmX9_shift (Pz D (tyL cI cJ cT) [.ref (d 0), .int (nI 3), .int x2, .int (nI 1), .int x4, .int x5] ((wX9 d (dN 0) (dI 0) (dT 0) (dNc 0) (dNcj 0) (dNcs 0) (dNcp 0) (dNw 0) (dx 0) dtt v) ++ (wTT cJ cT dtt dt vt gt)) sz) (va_Qi (fun (r : Int32) (u : (Nat → Lg)) => Q r u) (Bz D (tyL cI cJ cT) ((wX9 d (dN 0) (dI 0) (dT 0) (dNc 0) (dNcj 0) (dNcs 0) (dNcp 0) (dNw 0) (dx 0) dtt v) ++ (wTT cJ cT dtt dt vt gt)) sz (fun (u : (Nat → Lg)) => ((wX9 d (dN 0) (dI 0) (dT 0) (dNc 0) (dNcj 0) (dNcs 0) (dNcp 0) (dNw 0) (dx 0) dtt v) ++ (wTT cJ cT dtt dt vt u)))) (va_A ((wX9 d (dN 0) (dI 0) (dT 0) (dNc 0) (dNcj 0) (dNcs 0) (dNcp 0) (dNw 0) (dx 0) dtt v) ++ (wTT cJ cT dtt dt vt gt)) sz)) 0 0 (va_A ((wX9 d (dN 0) (dI 0) (dT 0) (dNc 0) (dNcj 0) (dNcs 0) (dNcp 0) (dNw 0) (dx 0) dtt v) ++ (wTT cJ cT dtt dt vt gt)) sz) := by
  refine z_meti (cc := cX9_shift) (maxL := 8) (own := RX9) (lv0 := [(0, .ref (d 0)), (1, .int (nI 3)), (2, .int x2), (3, .int (nI 1)), (4, .int x4), (5, .int x5)]) (by decide) rfl rfl (Nat.le_of_ble_eq_true rfl) rfl ?_
  intro p e s m args below meth c A QQ C hin hret
  refine z_iload_n (pc := 0) C 1 dX9_shift_0 rfl ?_
  refine z_iconst (pc := 1) (v := 0) C dX9_shift_1 (by decide) ?_
  refine z_iconst (pc := 2) (v := 5) C dX9_shift_2 (by decide) ?_
  refine z_call0i (pc := 3) C (z_runS (pc := 3) (wc := ([] : va_W)) (As := [.int (nI 3), .int (0 : Int32), .int (5 : Int32)]) C (fun sz => kX9_within (nI 3) (0 : Int32) (5 : Int32) sz h) [] rfl (by decide) (gdS wq366 wq553 wq373 wq112) rfl rfl rfl hdSX9_within ⟨Nat.le_of_ble_eq_true rfl, Nat.le_of_ble_eq_true rfl⟩ rfl (Nat.le_of_ble_eq_true rfl) ⟨Nat.zero_le _, Nat.zero_le _⟩ dX9_shift_3) (fun r1 u1 h => ?_)
  refine z_if_eq (pc := 6) (tgt := 18) C dX9_shift_6 (by decide) (fun c2 => ?_) (fun c2 => ?_)
  · have h := h.1 c2
    refine z_iconst (pc := 18) (v := -1) C dX9_shift_18 (by decide) ?_
    exact hret 19 _ _ (-1 : Int32) gt rfl h dX9_shift_19
  · have h := h.2 c2
    refine z_iload_n (pc := 9) C 3 dX9_shift_9 rfl ?_
    refine z_iconst (pc := 10) (v := 0) C dX9_shift_10 (by decide) ?_
    refine z_iconst (pc := 11) (v := 5) C dX9_shift_11 (by decide) ?_
    refine z_call0i (pc := 12) C (z_runS (pc := 12) (wc := ([] : va_W)) (As := [.int (nI 1), .int (0 : Int32), .int (5 : Int32)]) C (fun sz => kX9_within (nI 1) (0 : Int32) (5 : Int32) sz h) [] rfl (by decide) (gdS wq366 wq553 wq373 wq112) rfl rfl rfl hdSX9_within ⟨Nat.le_of_ble_eq_true rfl, Nat.le_of_ble_eq_true rfl⟩ rfl (Nat.le_of_ble_eq_true rfl) ⟨Nat.zero_le _, Nat.zero_le _⟩ dX9_shift_12) (fun r3 u3 h => ?_)
    refine z_if_ne (pc := 15) (tgt := 20) C dX9_shift_15 (by decide) (fun c4 => ?_) (fun c4 => ?_)
    · have h := h.1 c4
      refine z_aload_n (pc := 20) C 0 dX9_shift_20 rfl ?_
      refine z_get (pc := 21) C uw9 0 rfl rfl 9 (by decide) wq544 rfl dX9_shift_21 ?_
      refine z_iload_n (pc := 24) C 1 dX9_shift_24 rfl ?_
      obtain ⟨g5, h⟩ := h
      refine z_aldq (pc := 25) C 1 2 rfl rfl g5 (.ref (dt 3 0)) rfl dX9_shift_25 ?_
      refine z_astore (pc := 26) (lv' := [(6, .ref (dt 3 0)), (0, .ref (d 0)), (1, .int (nI 3)), (2, .int x2), (3, .int (nI 1)), (4, .int x4), (5, .int x5)]) C dX9_shift_26 (by decide) rfl ?_
      refine z_aload_n (pc := 28) C 1 dX9_shift_28 rfl ?_
      refine z_get (pc := 29) C uw9 0 rfl rfl 9 (by decide) wq544 rfl dX9_shift_29 ?_
      refine z_iload_n (pc := 32) C 4 dX9_shift_32 rfl ?_
      obtain ⟨g6, h⟩ := h
      refine z_aldq (pc := 33) C 1 2 rfl rfl g6 (.ref (dt 1 0)) rfl dX9_shift_33 ?_
      refine z_astore (pc := 34) (lv' := [(7, .ref (dt 1 0)), (6, .ref (dt 3 0)), (0, .ref (d 0)), (1, .int (nI 3)), (2, .int x2), (3, .int (nI 1)), (4, .int x4), (5, .int x5)]) C dX9_shift_34 (by decide) rfl ?_
      refine z_aload (pc := 36) C 1 dX9_shift_36 rfl ?_
      refine z_get (pc := 38) C uw6 8 rfl rfl 0 (by decide) wq777 rfl dX9_shift_38 ?_
      refine z_bipush (pc := 41) (v := -5) C dX9_shift_41 (by decide) ?_
      refine z_icmp_eq (pc := 43) (tgt := 56) C dX9_shift_43 (by decide) (fun c7 => ?_) (fun c7 => ?_)
      · have h := h.1 c7
        refine z_bipush (pc := 56) (v := -11) C dX9_shift_56 (by decide) ?_
        exact hret 58 _ _ (-11 : Int32) gt rfl h dX9_shift_58
      · have h := h.2 c7
        refine z_aload (pc := 46) C 0 dX9_shift_46 rfl ?_
        refine z_get (pc := 48) C uw6 4 rfl rfl 0 (by decide) wq777 rfl dX9_shift_48 ?_
        refine z_bipush (pc := 51) (v := -5) C dX9_shift_51 (by decide) ?_
        refine z_icmp_ne (pc := 53) (tgt := 59) C dX9_shift_53 (by decide) (fun c8 => ?_) (fun c8 => ?_)
        · have h := h.1 c8
          refine z_aload (pc := 59) C 1 dX9_shift_59 rfl ?_
          refine z_get (pc := 61) C uw6 8 rfl rfl 0 (by decide) wq777 rfl dX9_shift_61 ?_
          refine z_aload (pc := 64) C 0 dX9_shift_64 rfl ?_
          refine z_get (pc := 66) C uw6 4 rfl rfl 0 (by decide) wq777 rfl dX9_shift_66 ?_
          refine z_icmp_eq (pc := 69) (tgt := 75) C dX9_shift_69 (by decide) (fun c9 => ?_) (fun c9 => ?_)
          · have h := h.1 c9
            refine z_aload (pc := 75) C 1 dX9_shift_75 rfl ?_
            refine z_iload_n (pc := 77) C 4 dX9_shift_77 rfl ?_
            refine z_iload (pc := 78) C 7 dX9_shift_78 rfl ?_
            refine z_callRi (pc := 80) C (z_runV (pc := 80) (wc := (wX6 cJ (dt 3) (vt 3) (gt 3))) (As := [.int x2, .int x5]) C (fun sz => kX6_hasPlaces (dt 3) (vt 3) (gt 3) x2 x5 sz h) [8, 9] rfl (by decide) (gdV wq414 wq805 wq806 wq807 wq546) rfl rfl rfl hdX6_hasPlaces 8 rfl rfl rfl ⟨Nat.le_of_ble_eq_true rfl, Nat.le_of_ble_eq_true rfl⟩ rfl (Nat.le_of_ble_eq_true rfl) ⟨Nat.zero_le _, Nat.zero_le _⟩ dX9_shift_80) [8, 9] rfl (by decide) (fun r10 u10 h => ?_)
            refine z_if_eq (pc := 83) (tgt := 98) C dX9_shift_83 (by decide) (fun c11 => ?_) (fun c11 => ?_)
            · have h := h.1 c11
              refine z_bipush (pc := 98) (v := -13) C dX9_shift_98 (by decide) ?_
              exact hret 100 _ _ (-13 : Int32) gt rfl h dX9_shift_100
            · have h := h.2 c11
              refine z_aload (pc := 86) C 0 dX9_shift_86 rfl ?_
              refine z_iload (pc := 88) C 6 dX9_shift_88 rfl ?_
              refine z_iload (pc := 90) C 7 dX9_shift_90 rfl ?_
              refine z_callRi (pc := 92) C (z_runV (pc := 92) (wc := (wX6 cJ (dt 1) (vt 1) (gt 1))) (As := [.int x4, .int x5]) C (fun sz => kX6_hasPlaces (dt 1) (vt 1) (gt 1) x4 x5 sz h) [4, 5] rfl (by decide) (gdV wq414 wq805 wq806 wq807 wq546) rfl rfl rfl hdX6_hasPlaces 4 rfl rfl rfl ⟨Nat.le_of_ble_eq_true rfl, Nat.le_of_ble_eq_true rfl⟩ rfl (Nat.le_of_ble_eq_true rfl) ⟨Nat.zero_le _, Nat.zero_le _⟩ dX9_shift_92) [4, 5] rfl (by decide) (fun r12 u12 h => ?_)
              refine z_if_ne (pc := 95) (tgt := 101) C dX9_shift_95 (by decide) (fun c13 => ?_) (fun c13 => ?_)
              · have h := h.1 c13
                refine z_aload (pc := 101) C 1 dX9_shift_101 rfl ?_
                refine z_get (pc := 103) C uw6 8 rfl rfl 2 (by decide) wq778 rfl dX9_shift_103 ?_
                refine z_iload_n (pc := 106) C 4 dX9_shift_106 rfl ?_
                refine z_aload (pc := 107) C 0 dX9_shift_107 rfl ?_
                refine z_get (pc := 109) C uw6 4 rfl rfl 2 (by decide) wq778 rfl dX9_shift_109 ?_
                refine z_iload (pc := 112) C 6 dX9_shift_112 rfl ?_
                refine z_iload (pc := 114) C 7 dX9_shift_114 rfl ?_
                obtain ⟨g14, h⟩ := h
                refine z_copyl (pc := 116) (ws' := ((wX9 d (dN 0) (dI 0) (dT 0) (dNc 0) (dNcj 0) (dNcs 0) (dNcp 0) (dNw 0) (dx 0) dtt v) ++ (wTT cJ cT dtt dt vt (va_up gt 1 (sb (gt 1) 1 (va_cpy ((gt 3) 1) ((gt 1) 1) x2.toNatClampNeg x4.toNatClampNeg x5.toNatClampNeg)))))) C wq804 wq65 wq66 wq67 9 5 1 rfl rfl rfl g14 (Nat.le_of_ble_eq_true rfl) (Nat.le_of_ble_eq_true rfl) dX9_shift_116 (set_r (k := 1) (i := 4) rfl sTT_c1) ?_
                refine z_iload (pc := 119) C 7 dX9_shift_119 rfl ?_
                exact hret 121 _ _ x5 (va_up gt 1 (sb (gt 1) 1 (va_cpy ((gt 3) 1) ((gt 1) 1) x2.toNatClampNeg x4.toNatClampNeg x5.toNatClampNeg))) rfl h dX9_shift_121
              · have h := h.2 c13
                refine z_bipush (pc := 98) (v := -13) C dX9_shift_98 (by decide) ?_
                exact hret 100 _ _ (-13 : Int32) gt rfl h dX9_shift_100
          · have h := h.2 c9
            refine z_bipush (pc := 72) (v := -12) C dX9_shift_72 (by decide) ?_
            exact hret 74 _ _ (-12 : Int32) gt rfl h dX9_shift_74
        · have h := h.2 c8
          refine z_bipush (pc := 56) (v := -11) C dX9_shift_56 (by decide) ?_
          exact hret 58 _ _ (-11 : Int32) gt rfl h dX9_shift_58
    · have h := h.2 c4
      refine z_iconst (pc := 18) (v := -1) C dX9_shift_18 (by decide) ?_
      exact hret 19 _ _ (-1 : Int32) gt rfl h dX9_shift_19

set_option maxHeartbeats 4000000 in
set_option maxRecDepth 100000 in
theorem kX9_shift_3_2 {l : Launch} {D : va_G} {cI cJ cT : ClassId} (d : Nat → Nat) (dN : Nat → Nat) (dI : Nat → Nat) (dT : Nat → Nat) (dNc : Nat → Nat) (dNcj : Nat → Nat) (dNcs : Nat → Nat) (dNcp : Nat → Nat) (dNw : Nat → Nat) (dx : Nat → Nat) (dtt : Nat) (dt : Nat → Nat → Nat)  (v : Lf) (vt : Nat → Lf) (gt : Nat → Lg) (x2 : Int32) (x4 : Int32) (x5 : Int32) {Q : Int32 → (Nat → Lg) → Prop} (sz : Nat) (h : pX9_shift vt gt (nI 3) x2 (nI 2) x4 x5 Q) : Met l yX9_shift wdX9_shift rmX9_shift (Pz D (tyL cI cJ cT) [.ref (d 0), .int (nI 3), .int x2, .int (nI 2), .int x4, .int x5] ((wX9 d (dN 0) (dI 0) (dT 0) (dNc 0) (dNcj 0) (dNcs 0) (dNcp 0) (dNw 0) (dx 0) dtt v) ++ (wTT cJ cT dtt dt vt gt)) sz) (va_Qi (fun (r : Int32) (u : (Nat → Lg)) => Q r u) (Bz D (tyL cI cJ cT) ((wX9 d (dN 0) (dI 0) (dT 0) (dNc 0) (dNcj 0) (dNcs 0) (dNcp 0) (dNw 0) (dx 0) dtt v) ++ (wTT cJ cT dtt dt vt gt)) sz (fun (u : (Nat → Lg)) => ((wX9 d (dN 0) (dI 0) (dT 0) (dNc 0) (dNcj 0) (dNcs 0) (dNcp 0) (dNw 0) (dx 0) dtt v) ++ (wTT cJ cT dtt dt vt u)))) (va_A ((wX9 d (dN 0) (dI 0) (dT 0) (dNc 0) (dNcj 0) (dNcs 0) (dNcp 0) (dNw 0) (dx 0) dtt v) ++ (wTT cJ cT dtt dt vt gt)) sz)) 0 0 (va_A ((wX9 d (dN 0) (dI 0) (dT 0) (dNc 0) (dNcj 0) (dNcs 0) (dNcp 0) (dNw 0) (dx 0) dtt v) ++ (wTT cJ cT dtt dt vt gt)) sz) := by
  refine z_meti (cc := cX9_shift) (maxL := 8) (own := RX9) (lv0 := [(0, .ref (d 0)), (1, .int (nI 3)), (2, .int x2), (3, .int (nI 2)), (4, .int x4), (5, .int x5)]) (by decide) rfl rfl (Nat.le_of_ble_eq_true rfl) rfl ?_
  intro p e s m args below meth c A QQ C hin hret
  refine z_iload_n (pc := 0) C 1 dX9_shift_0 rfl ?_
  refine z_iconst (pc := 1) (v := 0) C dX9_shift_1 (by decide) ?_
  refine z_iconst (pc := 2) (v := 5) C dX9_shift_2 (by decide) ?_
  refine z_call0i (pc := 3) C (z_runS (pc := 3) (wc := ([] : va_W)) (As := [.int (nI 3), .int (0 : Int32), .int (5 : Int32)]) C (fun sz => kX9_within (nI 3) (0 : Int32) (5 : Int32) sz h) [] rfl (by decide) (gdS wq366 wq553 wq373 wq112) rfl rfl rfl hdSX9_within ⟨Nat.le_of_ble_eq_true rfl, Nat.le_of_ble_eq_true rfl⟩ rfl (Nat.le_of_ble_eq_true rfl) ⟨Nat.zero_le _, Nat.zero_le _⟩ dX9_shift_3) (fun r1 u1 h => ?_)
  refine z_if_eq (pc := 6) (tgt := 18) C dX9_shift_6 (by decide) (fun c2 => ?_) (fun c2 => ?_)
  · have h := h.1 c2
    refine z_iconst (pc := 18) (v := -1) C dX9_shift_18 (by decide) ?_
    exact hret 19 _ _ (-1 : Int32) gt rfl h dX9_shift_19
  · have h := h.2 c2
    refine z_iload_n (pc := 9) C 3 dX9_shift_9 rfl ?_
    refine z_iconst (pc := 10) (v := 0) C dX9_shift_10 (by decide) ?_
    refine z_iconst (pc := 11) (v := 5) C dX9_shift_11 (by decide) ?_
    refine z_call0i (pc := 12) C (z_runS (pc := 12) (wc := ([] : va_W)) (As := [.int (nI 2), .int (0 : Int32), .int (5 : Int32)]) C (fun sz => kX9_within (nI 2) (0 : Int32) (5 : Int32) sz h) [] rfl (by decide) (gdS wq366 wq553 wq373 wq112) rfl rfl rfl hdSX9_within ⟨Nat.le_of_ble_eq_true rfl, Nat.le_of_ble_eq_true rfl⟩ rfl (Nat.le_of_ble_eq_true rfl) ⟨Nat.zero_le _, Nat.zero_le _⟩ dX9_shift_12) (fun r3 u3 h => ?_)
    refine z_if_ne (pc := 15) (tgt := 20) C dX9_shift_15 (by decide) (fun c4 => ?_) (fun c4 => ?_)
    · have h := h.1 c4
      refine z_aload_n (pc := 20) C 0 dX9_shift_20 rfl ?_
      refine z_get (pc := 21) C uw9 0 rfl rfl 9 (by decide) wq544 rfl dX9_shift_21 ?_
      refine z_iload_n (pc := 24) C 1 dX9_shift_24 rfl ?_
      obtain ⟨g5, h⟩ := h
      refine z_aldq (pc := 25) C 1 2 rfl rfl g5 (.ref (dt 3 0)) rfl dX9_shift_25 ?_
      refine z_astore (pc := 26) (lv' := [(6, .ref (dt 3 0)), (0, .ref (d 0)), (1, .int (nI 3)), (2, .int x2), (3, .int (nI 2)), (4, .int x4), (5, .int x5)]) C dX9_shift_26 (by decide) rfl ?_
      refine z_aload_n (pc := 28) C 1 dX9_shift_28 rfl ?_
      refine z_get (pc := 29) C uw9 0 rfl rfl 9 (by decide) wq544 rfl dX9_shift_29 ?_
      refine z_iload_n (pc := 32) C 4 dX9_shift_32 rfl ?_
      obtain ⟨g6, h⟩ := h
      refine z_aldq (pc := 33) C 1 2 rfl rfl g6 (.ref (dt 2 0)) rfl dX9_shift_33 ?_
      refine z_astore (pc := 34) (lv' := [(7, .ref (dt 2 0)), (6, .ref (dt 3 0)), (0, .ref (d 0)), (1, .int (nI 3)), (2, .int x2), (3, .int (nI 2)), (4, .int x4), (5, .int x5)]) C dX9_shift_34 (by decide) rfl ?_
      refine z_aload (pc := 36) C 1 dX9_shift_36 rfl ?_
      refine z_get (pc := 38) C uw6 8 rfl rfl 0 (by decide) wq777 rfl dX9_shift_38 ?_
      refine z_bipush (pc := 41) (v := -5) C dX9_shift_41 (by decide) ?_
      refine z_icmp_eq (pc := 43) (tgt := 56) C dX9_shift_43 (by decide) (fun c7 => ?_) (fun c7 => ?_)
      · have h := h.1 c7
        refine z_bipush (pc := 56) (v := -11) C dX9_shift_56 (by decide) ?_
        exact hret 58 _ _ (-11 : Int32) gt rfl h dX9_shift_58
      · have h := h.2 c7
        refine z_aload (pc := 46) C 0 dX9_shift_46 rfl ?_
        refine z_get (pc := 48) C uw6 6 rfl rfl 0 (by decide) wq777 rfl dX9_shift_48 ?_
        refine z_bipush (pc := 51) (v := -5) C dX9_shift_51 (by decide) ?_
        refine z_icmp_ne (pc := 53) (tgt := 59) C dX9_shift_53 (by decide) (fun c8 => ?_) (fun c8 => ?_)
        · have h := h.1 c8
          refine z_aload (pc := 59) C 1 dX9_shift_59 rfl ?_
          refine z_get (pc := 61) C uw6 8 rfl rfl 0 (by decide) wq777 rfl dX9_shift_61 ?_
          refine z_aload (pc := 64) C 0 dX9_shift_64 rfl ?_
          refine z_get (pc := 66) C uw6 6 rfl rfl 0 (by decide) wq777 rfl dX9_shift_66 ?_
          refine z_icmp_eq (pc := 69) (tgt := 75) C dX9_shift_69 (by decide) (fun c9 => ?_) (fun c9 => ?_)
          · have h := h.1 c9
            refine z_aload (pc := 75) C 1 dX9_shift_75 rfl ?_
            refine z_iload_n (pc := 77) C 4 dX9_shift_77 rfl ?_
            refine z_iload (pc := 78) C 7 dX9_shift_78 rfl ?_
            refine z_callRi (pc := 80) C (z_runV (pc := 80) (wc := (wX6 cJ (dt 3) (vt 3) (gt 3))) (As := [.int x2, .int x5]) C (fun sz => kX6_hasPlaces (dt 3) (vt 3) (gt 3) x2 x5 sz h) [8, 9] rfl (by decide) (gdV wq414 wq805 wq806 wq807 wq546) rfl rfl rfl hdX6_hasPlaces 8 rfl rfl rfl ⟨Nat.le_of_ble_eq_true rfl, Nat.le_of_ble_eq_true rfl⟩ rfl (Nat.le_of_ble_eq_true rfl) ⟨Nat.zero_le _, Nat.zero_le _⟩ dX9_shift_80) [8, 9] rfl (by decide) (fun r10 u10 h => ?_)
            refine z_if_eq (pc := 83) (tgt := 98) C dX9_shift_83 (by decide) (fun c11 => ?_) (fun c11 => ?_)
            · have h := h.1 c11
              refine z_bipush (pc := 98) (v := -13) C dX9_shift_98 (by decide) ?_
              exact hret 100 _ _ (-13 : Int32) gt rfl h dX9_shift_100
            · have h := h.2 c11
              refine z_aload (pc := 86) C 0 dX9_shift_86 rfl ?_
              refine z_iload (pc := 88) C 6 dX9_shift_88 rfl ?_
              refine z_iload (pc := 90) C 7 dX9_shift_90 rfl ?_
              refine z_callRi (pc := 92) C (z_runV (pc := 92) (wc := (wX6 cJ (dt 2) (vt 2) (gt 2))) (As := [.int x4, .int x5]) C (fun sz => kX6_hasPlaces (dt 2) (vt 2) (gt 2) x4 x5 sz h) [6, 7] rfl (by decide) (gdV wq414 wq805 wq806 wq807 wq546) rfl rfl rfl hdX6_hasPlaces 6 rfl rfl rfl ⟨Nat.le_of_ble_eq_true rfl, Nat.le_of_ble_eq_true rfl⟩ rfl (Nat.le_of_ble_eq_true rfl) ⟨Nat.zero_le _, Nat.zero_le _⟩ dX9_shift_92) [6, 7] rfl (by decide) (fun r12 u12 h => ?_)
              refine z_if_ne (pc := 95) (tgt := 101) C dX9_shift_95 (by decide) (fun c13 => ?_) (fun c13 => ?_)
              · have h := h.1 c13
                refine z_aload (pc := 101) C 1 dX9_shift_101 rfl ?_
                refine z_get (pc := 103) C uw6 8 rfl rfl 2 (by decide) wq778 rfl dX9_shift_103 ?_
                refine z_iload_n (pc := 106) C 4 dX9_shift_106 rfl ?_
                refine z_aload (pc := 107) C 0 dX9_shift_107 rfl ?_
                refine z_get (pc := 109) C uw6 6 rfl rfl 2 (by decide) wq778 rfl dX9_shift_109 ?_
                refine z_iload (pc := 112) C 6 dX9_shift_112 rfl ?_
                refine z_iload (pc := 114) C 7 dX9_shift_114 rfl ?_
                obtain ⟨g14, h⟩ := h
                refine z_copyl (pc := 116) (ws' := ((wX9 d (dN 0) (dI 0) (dT 0) (dNc 0) (dNcj 0) (dNcs 0) (dNcp 0) (dNw 0) (dx 0) dtt v) ++ (wTT cJ cT dtt dt vt (va_up gt 2 (sb (gt 2) 1 (va_cpy ((gt 3) 1) ((gt 2) 1) x2.toNatClampNeg x4.toNatClampNeg x5.toNatClampNeg)))))) C wq804 wq65 wq66 wq67 9 7 1 rfl rfl rfl g14 (Nat.le_of_ble_eq_true rfl) (Nat.le_of_ble_eq_true rfl) dX9_shift_116 (set_r (k := 1) (i := 6) rfl sTT_c2) ?_
                refine z_iload (pc := 119) C 7 dX9_shift_119 rfl ?_
                exact hret 121 _ _ x5 (va_up gt 2 (sb (gt 2) 1 (va_cpy ((gt 3) 1) ((gt 2) 1) x2.toNatClampNeg x4.toNatClampNeg x5.toNatClampNeg))) rfl h dX9_shift_121
              · have h := h.2 c13
                refine z_bipush (pc := 98) (v := -13) C dX9_shift_98 (by decide) ?_
                exact hret 100 _ _ (-13 : Int32) gt rfl h dX9_shift_100
          · have h := h.2 c9
            refine z_bipush (pc := 72) (v := -12) C dX9_shift_72 (by decide) ?_
            exact hret 74 _ _ (-12 : Int32) gt rfl h dX9_shift_74
        · have h := h.2 c8
          refine z_bipush (pc := 56) (v := -11) C dX9_shift_56 (by decide) ?_
          exact hret 58 _ _ (-11 : Int32) gt rfl h dX9_shift_58
    · have h := h.2 c4
      refine z_iconst (pc := 18) (v := -1) C dX9_shift_18 (by decide) ?_
      exact hret 19 _ _ (-1 : Int32) gt rfl h dX9_shift_19

set_option maxHeartbeats 4000000 in
set_option maxRecDepth 100000 in
theorem kX9_shift_3_3 {l : Launch} {D : va_G} {cI cJ cT : ClassId} (d : Nat → Nat) (dN : Nat → Nat) (dI : Nat → Nat) (dT : Nat → Nat) (dNc : Nat → Nat) (dNcj : Nat → Nat) (dNcs : Nat → Nat) (dNcp : Nat → Nat) (dNw : Nat → Nat) (dx : Nat → Nat) (dtt : Nat) (dt : Nat → Nat → Nat)  (v : Lf) (vt : Nat → Lf) (gt : Nat → Lg) (x2 : Int32) (x4 : Int32) (x5 : Int32) {Q : Int32 → (Nat → Lg) → Prop} (sz : Nat) (h : pX9_shift vt gt (nI 3) x2 (nI 3) x4 x5 Q) : Met l yX9_shift wdX9_shift rmX9_shift (Pz D (tyL cI cJ cT) [.ref (d 0), .int (nI 3), .int x2, .int (nI 3), .int x4, .int x5] ((wX9 d (dN 0) (dI 0) (dT 0) (dNc 0) (dNcj 0) (dNcs 0) (dNcp 0) (dNw 0) (dx 0) dtt v) ++ (wTT cJ cT dtt dt vt gt)) sz) (va_Qi (fun (r : Int32) (u : (Nat → Lg)) => Q r u) (Bz D (tyL cI cJ cT) ((wX9 d (dN 0) (dI 0) (dT 0) (dNc 0) (dNcj 0) (dNcs 0) (dNcp 0) (dNw 0) (dx 0) dtt v) ++ (wTT cJ cT dtt dt vt gt)) sz (fun (u : (Nat → Lg)) => ((wX9 d (dN 0) (dI 0) (dT 0) (dNc 0) (dNcj 0) (dNcs 0) (dNcp 0) (dNw 0) (dx 0) dtt v) ++ (wTT cJ cT dtt dt vt u)))) (va_A ((wX9 d (dN 0) (dI 0) (dT 0) (dNc 0) (dNcj 0) (dNcs 0) (dNcp 0) (dNw 0) (dx 0) dtt v) ++ (wTT cJ cT dtt dt vt gt)) sz)) 0 0 (va_A ((wX9 d (dN 0) (dI 0) (dT 0) (dNc 0) (dNcj 0) (dNcs 0) (dNcp 0) (dNw 0) (dx 0) dtt v) ++ (wTT cJ cT dtt dt vt gt)) sz) := by
  refine z_meti (cc := cX9_shift) (maxL := 8) (own := RX9) (lv0 := [(0, .ref (d 0)), (1, .int (nI 3)), (2, .int x2), (3, .int (nI 3)), (4, .int x4), (5, .int x5)]) (by decide) rfl rfl (Nat.le_of_ble_eq_true rfl) rfl ?_
  intro p e s m args below meth c A QQ C hin hret
  refine z_iload_n (pc := 0) C 1 dX9_shift_0 rfl ?_
  refine z_iconst (pc := 1) (v := 0) C dX9_shift_1 (by decide) ?_
  refine z_iconst (pc := 2) (v := 5) C dX9_shift_2 (by decide) ?_
  refine z_call0i (pc := 3) C (z_runS (pc := 3) (wc := ([] : va_W)) (As := [.int (nI 3), .int (0 : Int32), .int (5 : Int32)]) C (fun sz => kX9_within (nI 3) (0 : Int32) (5 : Int32) sz h) [] rfl (by decide) (gdS wq366 wq553 wq373 wq112) rfl rfl rfl hdSX9_within ⟨Nat.le_of_ble_eq_true rfl, Nat.le_of_ble_eq_true rfl⟩ rfl (Nat.le_of_ble_eq_true rfl) ⟨Nat.zero_le _, Nat.zero_le _⟩ dX9_shift_3) (fun r1 u1 h => ?_)
  refine z_if_eq (pc := 6) (tgt := 18) C dX9_shift_6 (by decide) (fun c2 => ?_) (fun c2 => ?_)
  · have h := h.1 c2
    refine z_iconst (pc := 18) (v := -1) C dX9_shift_18 (by decide) ?_
    exact hret 19 _ _ (-1 : Int32) gt rfl h dX9_shift_19
  · have h := h.2 c2
    refine z_iload_n (pc := 9) C 3 dX9_shift_9 rfl ?_
    refine z_iconst (pc := 10) (v := 0) C dX9_shift_10 (by decide) ?_
    refine z_iconst (pc := 11) (v := 5) C dX9_shift_11 (by decide) ?_
    refine z_call0i (pc := 12) C (z_runS (pc := 12) (wc := ([] : va_W)) (As := [.int (nI 3), .int (0 : Int32), .int (5 : Int32)]) C (fun sz => kX9_within (nI 3) (0 : Int32) (5 : Int32) sz h) [] rfl (by decide) (gdS wq366 wq553 wq373 wq112) rfl rfl rfl hdSX9_within ⟨Nat.le_of_ble_eq_true rfl, Nat.le_of_ble_eq_true rfl⟩ rfl (Nat.le_of_ble_eq_true rfl) ⟨Nat.zero_le _, Nat.zero_le _⟩ dX9_shift_12) (fun r3 u3 h => ?_)
    refine z_if_ne (pc := 15) (tgt := 20) C dX9_shift_15 (by decide) (fun c4 => ?_) (fun c4 => ?_)
    · have h := h.1 c4
      refine z_aload_n (pc := 20) C 0 dX9_shift_20 rfl ?_
      refine z_get (pc := 21) C uw9 0 rfl rfl 9 (by decide) wq544 rfl dX9_shift_21 ?_
      refine z_iload_n (pc := 24) C 1 dX9_shift_24 rfl ?_
      obtain ⟨g5, h⟩ := h
      refine z_aldq (pc := 25) C 1 2 rfl rfl g5 (.ref (dt 3 0)) rfl dX9_shift_25 ?_
      refine z_astore (pc := 26) (lv' := [(6, .ref (dt 3 0)), (0, .ref (d 0)), (1, .int (nI 3)), (2, .int x2), (3, .int (nI 3)), (4, .int x4), (5, .int x5)]) C dX9_shift_26 (by decide) rfl ?_
      refine z_aload_n (pc := 28) C 1 dX9_shift_28 rfl ?_
      refine z_get (pc := 29) C uw9 0 rfl rfl 9 (by decide) wq544 rfl dX9_shift_29 ?_
      refine z_iload_n (pc := 32) C 4 dX9_shift_32 rfl ?_
      obtain ⟨g6, h⟩ := h
      refine z_aldq (pc := 33) C 1 2 rfl rfl g6 (.ref (dt 3 0)) rfl dX9_shift_33 ?_
      refine z_astore (pc := 34) (lv' := [(7, .ref (dt 3 0)), (6, .ref (dt 3 0)), (0, .ref (d 0)), (1, .int (nI 3)), (2, .int x2), (3, .int (nI 3)), (4, .int x4), (5, .int x5)]) C dX9_shift_34 (by decide) rfl ?_
      refine z_aload (pc := 36) C 1 dX9_shift_36 rfl ?_
      refine z_get (pc := 38) C uw6 8 rfl rfl 0 (by decide) wq777 rfl dX9_shift_38 ?_
      refine z_bipush (pc := 41) (v := -5) C dX9_shift_41 (by decide) ?_
      refine z_icmp_eq (pc := 43) (tgt := 56) C dX9_shift_43 (by decide) (fun c7 => ?_) (fun c7 => ?_)
      · have h := h.1 c7
        refine z_bipush (pc := 56) (v := -11) C dX9_shift_56 (by decide) ?_
        exact hret 58 _ _ (-11 : Int32) gt rfl h dX9_shift_58
      · have h := h.2 c7
        refine z_aload (pc := 46) C 0 dX9_shift_46 rfl ?_
        refine z_get (pc := 48) C uw6 8 rfl rfl 0 (by decide) wq777 rfl dX9_shift_48 ?_
        refine z_bipush (pc := 51) (v := -5) C dX9_shift_51 (by decide) ?_
        refine z_icmp_ne (pc := 53) (tgt := 59) C dX9_shift_53 (by decide) (fun c8 => ?_) (fun c8 => ?_)
        · have h := h.1 c8
          refine z_aload (pc := 59) C 1 dX9_shift_59 rfl ?_
          refine z_get (pc := 61) C uw6 8 rfl rfl 0 (by decide) wq777 rfl dX9_shift_61 ?_
          refine z_aload (pc := 64) C 0 dX9_shift_64 rfl ?_
          refine z_get (pc := 66) C uw6 8 rfl rfl 0 (by decide) wq777 rfl dX9_shift_66 ?_
          refine z_icmp_eq (pc := 69) (tgt := 75) C dX9_shift_69 (by decide) (fun c9 => ?_) (fun c9 => ?_)
          · have h := h.1 c9
            refine z_aload (pc := 75) C 1 dX9_shift_75 rfl ?_
            refine z_iload_n (pc := 77) C 4 dX9_shift_77 rfl ?_
            refine z_iload (pc := 78) C 7 dX9_shift_78 rfl ?_
            refine z_callRi (pc := 80) C (z_runV (pc := 80) (wc := (wX6 cJ (dt 3) (vt 3) (gt 3))) (As := [.int x2, .int x5]) C (fun sz => kX6_hasPlaces (dt 3) (vt 3) (gt 3) x2 x5 sz h) [8, 9] rfl (by decide) (gdV wq414 wq805 wq806 wq807 wq546) rfl rfl rfl hdX6_hasPlaces 8 rfl rfl rfl ⟨Nat.le_of_ble_eq_true rfl, Nat.le_of_ble_eq_true rfl⟩ rfl (Nat.le_of_ble_eq_true rfl) ⟨Nat.zero_le _, Nat.zero_le _⟩ dX9_shift_80) [8, 9] rfl (by decide) (fun r10 u10 h => ?_)
            refine z_if_eq (pc := 83) (tgt := 98) C dX9_shift_83 (by decide) (fun c11 => ?_) (fun c11 => ?_)
            · have h := h.1 c11
              refine z_bipush (pc := 98) (v := -13) C dX9_shift_98 (by decide) ?_
              exact hret 100 _ _ (-13 : Int32) gt rfl h dX9_shift_100
            · have h := h.2 c11
              refine z_aload (pc := 86) C 0 dX9_shift_86 rfl ?_
              refine z_iload (pc := 88) C 6 dX9_shift_88 rfl ?_
              refine z_iload (pc := 90) C 7 dX9_shift_90 rfl ?_
              refine z_callRi (pc := 92) C (z_runV (pc := 92) (wc := (wX6 cJ (dt 3) (vt 3) (gt 3))) (As := [.int x4, .int x5]) C (fun sz => kX6_hasPlaces (dt 3) (vt 3) (gt 3) x4 x5 sz h) [8, 9] rfl (by decide) (gdV wq414 wq805 wq806 wq807 wq546) rfl rfl rfl hdX6_hasPlaces 8 rfl rfl rfl ⟨Nat.le_of_ble_eq_true rfl, Nat.le_of_ble_eq_true rfl⟩ rfl (Nat.le_of_ble_eq_true rfl) ⟨Nat.zero_le _, Nat.zero_le _⟩ dX9_shift_92) [8, 9] rfl (by decide) (fun r12 u12 h => ?_)
              refine z_if_ne (pc := 95) (tgt := 101) C dX9_shift_95 (by decide) (fun c13 => ?_) (fun c13 => ?_)
              · have h := h.1 c13
                refine z_aload (pc := 101) C 1 dX9_shift_101 rfl ?_
                refine z_get (pc := 103) C uw6 8 rfl rfl 2 (by decide) wq778 rfl dX9_shift_103 ?_
                refine z_iload_n (pc := 106) C 4 dX9_shift_106 rfl ?_
                refine z_aload (pc := 107) C 0 dX9_shift_107 rfl ?_
                refine z_get (pc := 109) C uw6 8 rfl rfl 2 (by decide) wq778 rfl dX9_shift_109 ?_
                refine z_iload (pc := 112) C 6 dX9_shift_112 rfl ?_
                refine z_iload (pc := 114) C 7 dX9_shift_114 rfl ?_
                obtain ⟨g14, h⟩ := h
                refine z_copyl (pc := 116) (ws' := ((wX9 d (dN 0) (dI 0) (dT 0) (dNc 0) (dNcj 0) (dNcs 0) (dNcp 0) (dNw 0) (dx 0) dtt v) ++ (wTT cJ cT dtt dt vt (va_up gt 3 (sb (gt 3) 1 (va_cpy ((gt 3) 1) ((gt 3) 1) x2.toNatClampNeg x4.toNatClampNeg x5.toNatClampNeg)))))) C wq804 wq65 wq66 wq67 9 9 1 rfl rfl rfl g14 (Nat.le_of_ble_eq_true rfl) (Nat.le_of_ble_eq_true rfl) dX9_shift_116 (set_r (k := 1) (i := 8) rfl sTT_c3) ?_
                refine z_iload (pc := 119) C 7 dX9_shift_119 rfl ?_
                exact hret 121 _ _ x5 (va_up gt 3 (sb (gt 3) 1 (va_cpy ((gt 3) 1) ((gt 3) 1) x2.toNatClampNeg x4.toNatClampNeg x5.toNatClampNeg))) rfl h dX9_shift_121
              · have h := h.2 c13
                refine z_bipush (pc := 98) (v := -13) C dX9_shift_98 (by decide) ?_
                exact hret 100 _ _ (-13 : Int32) gt rfl h dX9_shift_100
          · have h := h.2 c9
            refine z_bipush (pc := 72) (v := -12) C dX9_shift_72 (by decide) ?_
            exact hret 74 _ _ (-12 : Int32) gt rfl h dX9_shift_74
        · have h := h.2 c8
          refine z_bipush (pc := 56) (v := -11) C dX9_shift_56 (by decide) ?_
          exact hret 58 _ _ (-11 : Int32) gt rfl h dX9_shift_58
    · have h := h.2 c4
      refine z_iconst (pc := 18) (v := -1) C dX9_shift_18 (by decide) ?_
      exact hret 19 _ _ (-1 : Int32) gt rfl h dX9_shift_19

set_option maxHeartbeats 4000000 in
set_option maxRecDepth 100000 in
theorem kX9_shift_3_4 {l : Launch} {D : va_G} {cI cJ cT : ClassId} (d : Nat → Nat) (dN : Nat → Nat) (dI : Nat → Nat) (dT : Nat → Nat) (dNc : Nat → Nat) (dNcj : Nat → Nat) (dNcs : Nat → Nat) (dNcp : Nat → Nat) (dNw : Nat → Nat) (dx : Nat → Nat) (dtt : Nat) (dt : Nat → Nat → Nat)  (v : Lf) (vt : Nat → Lf) (gt : Nat → Lg) (x2 : Int32) (x4 : Int32) (x5 : Int32) {Q : Int32 → (Nat → Lg) → Prop} (sz : Nat) (h : pX9_shift vt gt (nI 3) x2 (nI 4) x4 x5 Q) : Met l yX9_shift wdX9_shift rmX9_shift (Pz D (tyL cI cJ cT) [.ref (d 0), .int (nI 3), .int x2, .int (nI 4), .int x4, .int x5] ((wX9 d (dN 0) (dI 0) (dT 0) (dNc 0) (dNcj 0) (dNcs 0) (dNcp 0) (dNw 0) (dx 0) dtt v) ++ (wTT cJ cT dtt dt vt gt)) sz) (va_Qi (fun (r : Int32) (u : (Nat → Lg)) => Q r u) (Bz D (tyL cI cJ cT) ((wX9 d (dN 0) (dI 0) (dT 0) (dNc 0) (dNcj 0) (dNcs 0) (dNcp 0) (dNw 0) (dx 0) dtt v) ++ (wTT cJ cT dtt dt vt gt)) sz (fun (u : (Nat → Lg)) => ((wX9 d (dN 0) (dI 0) (dT 0) (dNc 0) (dNcj 0) (dNcs 0) (dNcp 0) (dNw 0) (dx 0) dtt v) ++ (wTT cJ cT dtt dt vt u)))) (va_A ((wX9 d (dN 0) (dI 0) (dT 0) (dNc 0) (dNcj 0) (dNcs 0) (dNcp 0) (dNw 0) (dx 0) dtt v) ++ (wTT cJ cT dtt dt vt gt)) sz)) 0 0 (va_A ((wX9 d (dN 0) (dI 0) (dT 0) (dNc 0) (dNcj 0) (dNcs 0) (dNcp 0) (dNw 0) (dx 0) dtt v) ++ (wTT cJ cT dtt dt vt gt)) sz) := by
  refine z_meti (cc := cX9_shift) (maxL := 8) (own := RX9) (lv0 := [(0, .ref (d 0)), (1, .int (nI 3)), (2, .int x2), (3, .int (nI 4)), (4, .int x4), (5, .int x5)]) (by decide) rfl rfl (Nat.le_of_ble_eq_true rfl) rfl ?_
  intro p e s m args below meth c A QQ C hin hret
  refine z_iload_n (pc := 0) C 1 dX9_shift_0 rfl ?_
  refine z_iconst (pc := 1) (v := 0) C dX9_shift_1 (by decide) ?_
  refine z_iconst (pc := 2) (v := 5) C dX9_shift_2 (by decide) ?_
  refine z_call0i (pc := 3) C (z_runS (pc := 3) (wc := ([] : va_W)) (As := [.int (nI 3), .int (0 : Int32), .int (5 : Int32)]) C (fun sz => kX9_within (nI 3) (0 : Int32) (5 : Int32) sz h) [] rfl (by decide) (gdS wq366 wq553 wq373 wq112) rfl rfl rfl hdSX9_within ⟨Nat.le_of_ble_eq_true rfl, Nat.le_of_ble_eq_true rfl⟩ rfl (Nat.le_of_ble_eq_true rfl) ⟨Nat.zero_le _, Nat.zero_le _⟩ dX9_shift_3) (fun r1 u1 h => ?_)
  refine z_if_eq (pc := 6) (tgt := 18) C dX9_shift_6 (by decide) (fun c2 => ?_) (fun c2 => ?_)
  · have h := h.1 c2
    refine z_iconst (pc := 18) (v := -1) C dX9_shift_18 (by decide) ?_
    exact hret 19 _ _ (-1 : Int32) gt rfl h dX9_shift_19
  · have h := h.2 c2
    refine z_iload_n (pc := 9) C 3 dX9_shift_9 rfl ?_
    refine z_iconst (pc := 10) (v := 0) C dX9_shift_10 (by decide) ?_
    refine z_iconst (pc := 11) (v := 5) C dX9_shift_11 (by decide) ?_
    refine z_call0i (pc := 12) C (z_runS (pc := 12) (wc := ([] : va_W)) (As := [.int (nI 4), .int (0 : Int32), .int (5 : Int32)]) C (fun sz => kX9_within (nI 4) (0 : Int32) (5 : Int32) sz h) [] rfl (by decide) (gdS wq366 wq553 wq373 wq112) rfl rfl rfl hdSX9_within ⟨Nat.le_of_ble_eq_true rfl, Nat.le_of_ble_eq_true rfl⟩ rfl (Nat.le_of_ble_eq_true rfl) ⟨Nat.zero_le _, Nat.zero_le _⟩ dX9_shift_12) (fun r3 u3 h => ?_)
    refine z_if_ne (pc := 15) (tgt := 20) C dX9_shift_15 (by decide) (fun c4 => ?_) (fun c4 => ?_)
    · have h := h.1 c4
      refine z_aload_n (pc := 20) C 0 dX9_shift_20 rfl ?_
      refine z_get (pc := 21) C uw9 0 rfl rfl 9 (by decide) wq544 rfl dX9_shift_21 ?_
      refine z_iload_n (pc := 24) C 1 dX9_shift_24 rfl ?_
      obtain ⟨g5, h⟩ := h
      refine z_aldq (pc := 25) C 1 2 rfl rfl g5 (.ref (dt 3 0)) rfl dX9_shift_25 ?_
      refine z_astore (pc := 26) (lv' := [(6, .ref (dt 3 0)), (0, .ref (d 0)), (1, .int (nI 3)), (2, .int x2), (3, .int (nI 4)), (4, .int x4), (5, .int x5)]) C dX9_shift_26 (by decide) rfl ?_
      refine z_aload_n (pc := 28) C 1 dX9_shift_28 rfl ?_
      refine z_get (pc := 29) C uw9 0 rfl rfl 9 (by decide) wq544 rfl dX9_shift_29 ?_
      refine z_iload_n (pc := 32) C 4 dX9_shift_32 rfl ?_
      obtain ⟨g6, h⟩ := h
      refine z_aldq (pc := 33) C 1 2 rfl rfl g6 (.ref (dt 4 0)) rfl dX9_shift_33 ?_
      refine z_astore (pc := 34) (lv' := [(7, .ref (dt 4 0)), (6, .ref (dt 3 0)), (0, .ref (d 0)), (1, .int (nI 3)), (2, .int x2), (3, .int (nI 4)), (4, .int x4), (5, .int x5)]) C dX9_shift_34 (by decide) rfl ?_
      refine z_aload (pc := 36) C 1 dX9_shift_36 rfl ?_
      refine z_get (pc := 38) C uw6 8 rfl rfl 0 (by decide) wq777 rfl dX9_shift_38 ?_
      refine z_bipush (pc := 41) (v := -5) C dX9_shift_41 (by decide) ?_
      refine z_icmp_eq (pc := 43) (tgt := 56) C dX9_shift_43 (by decide) (fun c7 => ?_) (fun c7 => ?_)
      · have h := h.1 c7
        refine z_bipush (pc := 56) (v := -11) C dX9_shift_56 (by decide) ?_
        exact hret 58 _ _ (-11 : Int32) gt rfl h dX9_shift_58
      · have h := h.2 c7
        refine z_aload (pc := 46) C 0 dX9_shift_46 rfl ?_
        refine z_get (pc := 48) C uw6 10 rfl rfl 0 (by decide) wq777 rfl dX9_shift_48 ?_
        refine z_bipush (pc := 51) (v := -5) C dX9_shift_51 (by decide) ?_
        refine z_icmp_ne (pc := 53) (tgt := 59) C dX9_shift_53 (by decide) (fun c8 => ?_) (fun c8 => ?_)
        · have h := h.1 c8
          refine z_aload (pc := 59) C 1 dX9_shift_59 rfl ?_
          refine z_get (pc := 61) C uw6 8 rfl rfl 0 (by decide) wq777 rfl dX9_shift_61 ?_
          refine z_aload (pc := 64) C 0 dX9_shift_64 rfl ?_
          refine z_get (pc := 66) C uw6 10 rfl rfl 0 (by decide) wq777 rfl dX9_shift_66 ?_
          refine z_icmp_eq (pc := 69) (tgt := 75) C dX9_shift_69 (by decide) (fun c9 => ?_) (fun c9 => ?_)
          · have h := h.1 c9
            refine z_aload (pc := 75) C 1 dX9_shift_75 rfl ?_
            refine z_iload_n (pc := 77) C 4 dX9_shift_77 rfl ?_
            refine z_iload (pc := 78) C 7 dX9_shift_78 rfl ?_
            refine z_callRi (pc := 80) C (z_runV (pc := 80) (wc := (wX6 cJ (dt 3) (vt 3) (gt 3))) (As := [.int x2, .int x5]) C (fun sz => kX6_hasPlaces (dt 3) (vt 3) (gt 3) x2 x5 sz h) [8, 9] rfl (by decide) (gdV wq414 wq805 wq806 wq807 wq546) rfl rfl rfl hdX6_hasPlaces 8 rfl rfl rfl ⟨Nat.le_of_ble_eq_true rfl, Nat.le_of_ble_eq_true rfl⟩ rfl (Nat.le_of_ble_eq_true rfl) ⟨Nat.zero_le _, Nat.zero_le _⟩ dX9_shift_80) [8, 9] rfl (by decide) (fun r10 u10 h => ?_)
            refine z_if_eq (pc := 83) (tgt := 98) C dX9_shift_83 (by decide) (fun c11 => ?_) (fun c11 => ?_)
            · have h := h.1 c11
              refine z_bipush (pc := 98) (v := -13) C dX9_shift_98 (by decide) ?_
              exact hret 100 _ _ (-13 : Int32) gt rfl h dX9_shift_100
            · have h := h.2 c11
              refine z_aload (pc := 86) C 0 dX9_shift_86 rfl ?_
              refine z_iload (pc := 88) C 6 dX9_shift_88 rfl ?_
              refine z_iload (pc := 90) C 7 dX9_shift_90 rfl ?_
              refine z_callRi (pc := 92) C (z_runV (pc := 92) (wc := (wX6 cJ (dt 4) (vt 4) (gt 4))) (As := [.int x4, .int x5]) C (fun sz => kX6_hasPlaces (dt 4) (vt 4) (gt 4) x4 x5 sz h) [10, 11] rfl (by decide) (gdV wq414 wq805 wq806 wq807 wq546) rfl rfl rfl hdX6_hasPlaces 10 rfl rfl rfl ⟨Nat.le_of_ble_eq_true rfl, Nat.le_of_ble_eq_true rfl⟩ rfl (Nat.le_of_ble_eq_true rfl) ⟨Nat.zero_le _, Nat.zero_le _⟩ dX9_shift_92) [10, 11] rfl (by decide) (fun r12 u12 h => ?_)
              refine z_if_ne (pc := 95) (tgt := 101) C dX9_shift_95 (by decide) (fun c13 => ?_) (fun c13 => ?_)
              · have h := h.1 c13
                refine z_aload (pc := 101) C 1 dX9_shift_101 rfl ?_
                refine z_get (pc := 103) C uw6 8 rfl rfl 2 (by decide) wq778 rfl dX9_shift_103 ?_
                refine z_iload_n (pc := 106) C 4 dX9_shift_106 rfl ?_
                refine z_aload (pc := 107) C 0 dX9_shift_107 rfl ?_
                refine z_get (pc := 109) C uw6 10 rfl rfl 2 (by decide) wq778 rfl dX9_shift_109 ?_
                refine z_iload (pc := 112) C 6 dX9_shift_112 rfl ?_
                refine z_iload (pc := 114) C 7 dX9_shift_114 rfl ?_
                obtain ⟨g14, h⟩ := h
                refine z_copyl (pc := 116) (ws' := ((wX9 d (dN 0) (dI 0) (dT 0) (dNc 0) (dNcj 0) (dNcs 0) (dNcp 0) (dNw 0) (dx 0) dtt v) ++ (wTT cJ cT dtt dt vt (va_up gt 4 (sb (gt 4) 1 (va_cpy ((gt 3) 1) ((gt 4) 1) x2.toNatClampNeg x4.toNatClampNeg x5.toNatClampNeg)))))) C wq804 wq65 wq66 wq67 9 11 1 rfl rfl rfl g14 (Nat.le_of_ble_eq_true rfl) (Nat.le_of_ble_eq_true rfl) dX9_shift_116 (set_r (k := 1) (i := 10) rfl sTT_c4) ?_
                refine z_iload (pc := 119) C 7 dX9_shift_119 rfl ?_
                exact hret 121 _ _ x5 (va_up gt 4 (sb (gt 4) 1 (va_cpy ((gt 3) 1) ((gt 4) 1) x2.toNatClampNeg x4.toNatClampNeg x5.toNatClampNeg))) rfl h dX9_shift_121
              · have h := h.2 c13
                refine z_bipush (pc := 98) (v := -13) C dX9_shift_98 (by decide) ?_
                exact hret 100 _ _ (-13 : Int32) gt rfl h dX9_shift_100
          · have h := h.2 c9
            refine z_bipush (pc := 72) (v := -12) C dX9_shift_72 (by decide) ?_
            exact hret 74 _ _ (-12 : Int32) gt rfl h dX9_shift_74
        · have h := h.2 c8
          refine z_bipush (pc := 56) (v := -11) C dX9_shift_56 (by decide) ?_
          exact hret 58 _ _ (-11 : Int32) gt rfl h dX9_shift_58
    · have h := h.2 c4
      refine z_iconst (pc := 18) (v := -1) C dX9_shift_18 (by decide) ?_
      exact hret 19 _ _ (-1 : Int32) gt rfl h dX9_shift_19

set_option maxHeartbeats 4000000 in
set_option maxRecDepth 100000 in
theorem kX9_shift_3_5 {l : Launch} {D : va_G} {cI cJ cT : ClassId} (d : Nat → Nat) (dN : Nat → Nat) (dI : Nat → Nat) (dT : Nat → Nat) (dNc : Nat → Nat) (dNcj : Nat → Nat) (dNcs : Nat → Nat) (dNcp : Nat → Nat) (dNw : Nat → Nat) (dx : Nat → Nat) (dtt : Nat) (dt : Nat → Nat → Nat)  (v : Lf) (vt : Nat → Lf) (gt : Nat → Lg) (x2 : Int32) (x4 : Int32) (x5 : Int32) {Q : Int32 → (Nat → Lg) → Prop} (sz : Nat) (h : pX9_shift vt gt (nI 3) x2 (nI 5) x4 x5 Q) : Met l yX9_shift wdX9_shift rmX9_shift (Pz D (tyL cI cJ cT) [.ref (d 0), .int (nI 3), .int x2, .int (nI 5), .int x4, .int x5] ((wX9 d (dN 0) (dI 0) (dT 0) (dNc 0) (dNcj 0) (dNcs 0) (dNcp 0) (dNw 0) (dx 0) dtt v) ++ (wTT cJ cT dtt dt vt gt)) sz) (va_Qi (fun (r : Int32) (u : (Nat → Lg)) => Q r u) (Bz D (tyL cI cJ cT) ((wX9 d (dN 0) (dI 0) (dT 0) (dNc 0) (dNcj 0) (dNcs 0) (dNcp 0) (dNw 0) (dx 0) dtt v) ++ (wTT cJ cT dtt dt vt gt)) sz (fun (u : (Nat → Lg)) => ((wX9 d (dN 0) (dI 0) (dT 0) (dNc 0) (dNcj 0) (dNcs 0) (dNcp 0) (dNw 0) (dx 0) dtt v) ++ (wTT cJ cT dtt dt vt u)))) (va_A ((wX9 d (dN 0) (dI 0) (dT 0) (dNc 0) (dNcj 0) (dNcs 0) (dNcp 0) (dNw 0) (dx 0) dtt v) ++ (wTT cJ cT dtt dt vt gt)) sz)) 0 0 (va_A ((wX9 d (dN 0) (dI 0) (dT 0) (dNc 0) (dNcj 0) (dNcs 0) (dNcp 0) (dNw 0) (dx 0) dtt v) ++ (wTT cJ cT dtt dt vt gt)) sz) := by
  refine z_meti (cc := cX9_shift) (maxL := 8) (own := RX9) (lv0 := [(0, .ref (d 0)), (1, .int (nI 3)), (2, .int x2), (3, .int (nI 5)), (4, .int x4), (5, .int x5)]) (by decide) rfl rfl (Nat.le_of_ble_eq_true rfl) rfl ?_
  intro p e s m args below meth c A QQ C hin hret
  refine z_iload_n (pc := 0) C 1 dX9_shift_0 rfl ?_
  refine z_iconst (pc := 1) (v := 0) C dX9_shift_1 (by decide) ?_
  refine z_iconst (pc := 2) (v := 5) C dX9_shift_2 (by decide) ?_
  refine z_call0i (pc := 3) C (z_runS (pc := 3) (wc := ([] : va_W)) (As := [.int (nI 3), .int (0 : Int32), .int (5 : Int32)]) C (fun sz => kX9_within (nI 3) (0 : Int32) (5 : Int32) sz h) [] rfl (by decide) (gdS wq366 wq553 wq373 wq112) rfl rfl rfl hdSX9_within ⟨Nat.le_of_ble_eq_true rfl, Nat.le_of_ble_eq_true rfl⟩ rfl (Nat.le_of_ble_eq_true rfl) ⟨Nat.zero_le _, Nat.zero_le _⟩ dX9_shift_3) (fun r1 u1 h => ?_)
  refine z_if_eq (pc := 6) (tgt := 18) C dX9_shift_6 (by decide) (fun c2 => ?_) (fun c2 => ?_)
  · have h := h.1 c2
    refine z_iconst (pc := 18) (v := -1) C dX9_shift_18 (by decide) ?_
    exact hret 19 _ _ (-1 : Int32) gt rfl h dX9_shift_19
  · have h := h.2 c2
    refine z_iload_n (pc := 9) C 3 dX9_shift_9 rfl ?_
    refine z_iconst (pc := 10) (v := 0) C dX9_shift_10 (by decide) ?_
    refine z_iconst (pc := 11) (v := 5) C dX9_shift_11 (by decide) ?_
    refine z_call0i (pc := 12) C (z_runS (pc := 12) (wc := ([] : va_W)) (As := [.int (nI 5), .int (0 : Int32), .int (5 : Int32)]) C (fun sz => kX9_within (nI 5) (0 : Int32) (5 : Int32) sz h) [] rfl (by decide) (gdS wq366 wq553 wq373 wq112) rfl rfl rfl hdSX9_within ⟨Nat.le_of_ble_eq_true rfl, Nat.le_of_ble_eq_true rfl⟩ rfl (Nat.le_of_ble_eq_true rfl) ⟨Nat.zero_le _, Nat.zero_le _⟩ dX9_shift_12) (fun r3 u3 h => ?_)
    refine z_if_ne (pc := 15) (tgt := 20) C dX9_shift_15 (by decide) (fun c4 => ?_) (fun c4 => ?_)
    · have h := h.1 c4
      refine z_aload_n (pc := 20) C 0 dX9_shift_20 rfl ?_
      refine z_get (pc := 21) C uw9 0 rfl rfl 9 (by decide) wq544 rfl dX9_shift_21 ?_
      refine z_iload_n (pc := 24) C 1 dX9_shift_24 rfl ?_
      obtain ⟨g5, h⟩ := h
      refine z_aldq (pc := 25) C 1 2 rfl rfl g5 (.ref (dt 3 0)) rfl dX9_shift_25 ?_
      refine z_astore (pc := 26) (lv' := [(6, .ref (dt 3 0)), (0, .ref (d 0)), (1, .int (nI 3)), (2, .int x2), (3, .int (nI 5)), (4, .int x4), (5, .int x5)]) C dX9_shift_26 (by decide) rfl ?_
      refine z_aload_n (pc := 28) C 1 dX9_shift_28 rfl ?_
      refine z_get (pc := 29) C uw9 0 rfl rfl 9 (by decide) wq544 rfl dX9_shift_29 ?_
      refine z_iload_n (pc := 32) C 4 dX9_shift_32 rfl ?_
      obtain ⟨g6, h⟩ := h
      refine z_aldq (pc := 33) C 1 2 rfl rfl g6 (.ref (dt 5 0)) rfl dX9_shift_33 ?_
      refine z_astore (pc := 34) (lv' := [(7, .ref (dt 5 0)), (6, .ref (dt 3 0)), (0, .ref (d 0)), (1, .int (nI 3)), (2, .int x2), (3, .int (nI 5)), (4, .int x4), (5, .int x5)]) C dX9_shift_34 (by decide) rfl ?_
      refine z_aload (pc := 36) C 1 dX9_shift_36 rfl ?_
      refine z_get (pc := 38) C uw6 8 rfl rfl 0 (by decide) wq777 rfl dX9_shift_38 ?_
      refine z_bipush (pc := 41) (v := -5) C dX9_shift_41 (by decide) ?_
      refine z_icmp_eq (pc := 43) (tgt := 56) C dX9_shift_43 (by decide) (fun c7 => ?_) (fun c7 => ?_)
      · have h := h.1 c7
        refine z_bipush (pc := 56) (v := -11) C dX9_shift_56 (by decide) ?_
        exact hret 58 _ _ (-11 : Int32) gt rfl h dX9_shift_58
      · have h := h.2 c7
        refine z_aload (pc := 46) C 0 dX9_shift_46 rfl ?_
        refine z_get (pc := 48) C uw6 12 rfl rfl 0 (by decide) wq777 rfl dX9_shift_48 ?_
        refine z_bipush (pc := 51) (v := -5) C dX9_shift_51 (by decide) ?_
        refine z_icmp_ne (pc := 53) (tgt := 59) C dX9_shift_53 (by decide) (fun c8 => ?_) (fun c8 => ?_)
        · have h := h.1 c8
          refine z_aload (pc := 59) C 1 dX9_shift_59 rfl ?_
          refine z_get (pc := 61) C uw6 8 rfl rfl 0 (by decide) wq777 rfl dX9_shift_61 ?_
          refine z_aload (pc := 64) C 0 dX9_shift_64 rfl ?_
          refine z_get (pc := 66) C uw6 12 rfl rfl 0 (by decide) wq777 rfl dX9_shift_66 ?_
          refine z_icmp_eq (pc := 69) (tgt := 75) C dX9_shift_69 (by decide) (fun c9 => ?_) (fun c9 => ?_)
          · have h := h.1 c9
            refine z_aload (pc := 75) C 1 dX9_shift_75 rfl ?_
            refine z_iload_n (pc := 77) C 4 dX9_shift_77 rfl ?_
            refine z_iload (pc := 78) C 7 dX9_shift_78 rfl ?_
            refine z_callRi (pc := 80) C (z_runV (pc := 80) (wc := (wX6 cJ (dt 3) (vt 3) (gt 3))) (As := [.int x2, .int x5]) C (fun sz => kX6_hasPlaces (dt 3) (vt 3) (gt 3) x2 x5 sz h) [8, 9] rfl (by decide) (gdV wq414 wq805 wq806 wq807 wq546) rfl rfl rfl hdX6_hasPlaces 8 rfl rfl rfl ⟨Nat.le_of_ble_eq_true rfl, Nat.le_of_ble_eq_true rfl⟩ rfl (Nat.le_of_ble_eq_true rfl) ⟨Nat.zero_le _, Nat.zero_le _⟩ dX9_shift_80) [8, 9] rfl (by decide) (fun r10 u10 h => ?_)
            refine z_if_eq (pc := 83) (tgt := 98) C dX9_shift_83 (by decide) (fun c11 => ?_) (fun c11 => ?_)
            · have h := h.1 c11
              refine z_bipush (pc := 98) (v := -13) C dX9_shift_98 (by decide) ?_
              exact hret 100 _ _ (-13 : Int32) gt rfl h dX9_shift_100
            · have h := h.2 c11
              refine z_aload (pc := 86) C 0 dX9_shift_86 rfl ?_
              refine z_iload (pc := 88) C 6 dX9_shift_88 rfl ?_
              refine z_iload (pc := 90) C 7 dX9_shift_90 rfl ?_
              refine z_callRi (pc := 92) C (z_runV (pc := 92) (wc := (wX6 cJ (dt 5) (vt 5) (gt 5))) (As := [.int x4, .int x5]) C (fun sz => kX6_hasPlaces (dt 5) (vt 5) (gt 5) x4 x5 sz h) [12, 13] rfl (by decide) (gdV wq414 wq805 wq806 wq807 wq546) rfl rfl rfl hdX6_hasPlaces 12 rfl rfl rfl ⟨Nat.le_of_ble_eq_true rfl, Nat.le_of_ble_eq_true rfl⟩ rfl (Nat.le_of_ble_eq_true rfl) ⟨Nat.zero_le _, Nat.zero_le _⟩ dX9_shift_92) [12, 13] rfl (by decide) (fun r12 u12 h => ?_)
              refine z_if_ne (pc := 95) (tgt := 101) C dX9_shift_95 (by decide) (fun c13 => ?_) (fun c13 => ?_)
              · have h := h.1 c13
                refine z_aload (pc := 101) C 1 dX9_shift_101 rfl ?_
                refine z_get (pc := 103) C uw6 8 rfl rfl 2 (by decide) wq778 rfl dX9_shift_103 ?_
                refine z_iload_n (pc := 106) C 4 dX9_shift_106 rfl ?_
                refine z_aload (pc := 107) C 0 dX9_shift_107 rfl ?_
                refine z_get (pc := 109) C uw6 12 rfl rfl 2 (by decide) wq778 rfl dX9_shift_109 ?_
                refine z_iload (pc := 112) C 6 dX9_shift_112 rfl ?_
                refine z_iload (pc := 114) C 7 dX9_shift_114 rfl ?_
                obtain ⟨g14, h⟩ := h
                refine z_copyl (pc := 116) (ws' := ((wX9 d (dN 0) (dI 0) (dT 0) (dNc 0) (dNcj 0) (dNcs 0) (dNcp 0) (dNw 0) (dx 0) dtt v) ++ (wTT cJ cT dtt dt vt (va_up gt 5 (sb (gt 5) 1 (va_cpy ((gt 3) 1) ((gt 5) 1) x2.toNatClampNeg x4.toNatClampNeg x5.toNatClampNeg)))))) C wq804 wq65 wq66 wq67 9 13 1 rfl rfl rfl g14 (Nat.le_of_ble_eq_true rfl) (Nat.le_of_ble_eq_true rfl) dX9_shift_116 (set_r (k := 1) (i := 12) rfl sTT_c5) ?_
                refine z_iload (pc := 119) C 7 dX9_shift_119 rfl ?_
                exact hret 121 _ _ x5 (va_up gt 5 (sb (gt 5) 1 (va_cpy ((gt 3) 1) ((gt 5) 1) x2.toNatClampNeg x4.toNatClampNeg x5.toNatClampNeg))) rfl h dX9_shift_121
              · have h := h.2 c13
                refine z_bipush (pc := 98) (v := -13) C dX9_shift_98 (by decide) ?_
                exact hret 100 _ _ (-13 : Int32) gt rfl h dX9_shift_100
          · have h := h.2 c9
            refine z_bipush (pc := 72) (v := -12) C dX9_shift_72 (by decide) ?_
            exact hret 74 _ _ (-12 : Int32) gt rfl h dX9_shift_74
        · have h := h.2 c8
          refine z_bipush (pc := 56) (v := -11) C dX9_shift_56 (by decide) ?_
          exact hret 58 _ _ (-11 : Int32) gt rfl h dX9_shift_58
    · have h := h.2 c4
      refine z_iconst (pc := 18) (v := -1) C dX9_shift_18 (by decide) ?_
      exact hret 19 _ _ (-1 : Int32) gt rfl h dX9_shift_19

set_option maxHeartbeats 4000000 in
set_option maxRecDepth 100000 in
theorem kX9_shift_3_n {l : Launch} {D : va_G} {cI cJ cT : ClassId} (d : Nat → Nat) (dN : Nat → Nat) (dI : Nat → Nat) (dT : Nat → Nat) (dNc : Nat → Nat) (dNcj : Nat → Nat) (dNcs : Nat → Nat) (dNcp : Nat → Nat) (dNw : Nat → Nat) (dx : Nat → Nat) (dtt : Nat) (dt : Nat → Nat → Nat)  (v : Lf) (vt : Nat → Lf) (gt : Nat → Lg) (x2 : Int32) (x3 : Int32) (x4 : Int32) (x5 : Int32) (g2 : ¬ vp_in x3 6) {Q : Int32 → (Nat → Lg) → Prop} (sz : Nat) (h : pX9_shift vt gt (nI 3) x2 x3 x4 x5 Q) : Met l yX9_shift wdX9_shift rmX9_shift (Pz D (tyL cI cJ cT) [.ref (d 0), .int (nI 3), .int x2, .int x3, .int x4, .int x5] ((wX9 d (dN 0) (dI 0) (dT 0) (dNc 0) (dNcj 0) (dNcs 0) (dNcp 0) (dNw 0) (dx 0) dtt v) ++ (wTT cJ cT dtt dt vt gt)) sz) (va_Qi (fun (r : Int32) (u : (Nat → Lg)) => Q r u) (Bz D (tyL cI cJ cT) ((wX9 d (dN 0) (dI 0) (dT 0) (dNc 0) (dNcj 0) (dNcs 0) (dNcp 0) (dNw 0) (dx 0) dtt v) ++ (wTT cJ cT dtt dt vt gt)) sz (fun (u : (Nat → Lg)) => ((wX9 d (dN 0) (dI 0) (dT 0) (dNc 0) (dNcj 0) (dNcs 0) (dNcp 0) (dNw 0) (dx 0) dtt v) ++ (wTT cJ cT dtt dt vt u)))) (va_A ((wX9 d (dN 0) (dI 0) (dT 0) (dNc 0) (dNcj 0) (dNcs 0) (dNcp 0) (dNw 0) (dx 0) dtt v) ++ (wTT cJ cT dtt dt vt gt)) sz)) 0 0 (va_A ((wX9 d (dN 0) (dI 0) (dT 0) (dNc 0) (dNcj 0) (dNcs 0) (dNcp 0) (dNw 0) (dx 0) dtt v) ++ (wTT cJ cT dtt dt vt gt)) sz) := by
  refine z_meti (cc := cX9_shift) (maxL := 8) (own := RX9) (lv0 := [(0, .ref (d 0)), (1, .int (nI 3)), (2, .int x2), (3, .int x3), (4, .int x4), (5, .int x5)]) (by decide) rfl rfl (Nat.le_of_ble_eq_true rfl) rfl ?_
  intro p e s m args below meth c A QQ C hin hret
  refine z_iload_n (pc := 0) C 1 dX9_shift_0 rfl ?_
  refine z_iconst (pc := 1) (v := 0) C dX9_shift_1 (by decide) ?_
  refine z_iconst (pc := 2) (v := 5) C dX9_shift_2 (by decide) ?_
  refine z_call0i (pc := 3) C (z_runS (pc := 3) (wc := ([] : va_W)) (As := [.int (nI 3), .int (0 : Int32), .int (5 : Int32)]) C (fun sz => kX9_within (nI 3) (0 : Int32) (5 : Int32) sz h) [] rfl (by decide) (gdS wq366 wq553 wq373 wq112) rfl rfl rfl hdSX9_within ⟨Nat.le_of_ble_eq_true rfl, Nat.le_of_ble_eq_true rfl⟩ rfl (Nat.le_of_ble_eq_true rfl) ⟨Nat.zero_le _, Nat.zero_le _⟩ dX9_shift_3) (fun r1 u1 h => ?_)
  refine z_if_eq (pc := 6) (tgt := 18) C dX9_shift_6 (by decide) (fun c2 => ?_) (fun c2 => ?_)
  · have h := h.1 c2
    refine z_iconst (pc := 18) (v := -1) C dX9_shift_18 (by decide) ?_
    exact hret 19 _ _ (-1 : Int32) gt rfl h dX9_shift_19
  · have h := h.2 c2
    refine z_iload_n (pc := 9) C 3 dX9_shift_9 rfl ?_
    refine z_iconst (pc := 10) (v := 0) C dX9_shift_10 (by decide) ?_
    refine z_iconst (pc := 11) (v := 5) C dX9_shift_11 (by decide) ?_
    refine z_call0i (pc := 12) C (z_runS (pc := 12) (wc := ([] : va_W)) (As := [.int x3, .int (0 : Int32), .int (5 : Int32)]) C (fun sz => kX9_within x3 (0 : Int32) (5 : Int32) sz h) [] rfl (by decide) (gdS wq366 wq553 wq373 wq112) rfl rfl rfl hdSX9_within ⟨Nat.le_of_ble_eq_true rfl, Nat.le_of_ble_eq_true rfl⟩ rfl (Nat.le_of_ble_eq_true rfl) ⟨Nat.zero_le _, Nat.zero_le _⟩ dX9_shift_12) (fun r3 u3 h => ?_)
    refine z_if_ne (pc := 15) (tgt := 20) C dX9_shift_15 (by decide) (fun c4 => ?_) (fun c4 => ?_)
    · have h := h.1 c4
      refine z_aload_n (pc := 20) C 0 dX9_shift_20 rfl ?_
      refine z_get (pc := 21) C uw9 0 rfl rfl 9 (by decide) wq544 rfl dX9_shift_21 ?_
      refine z_iload_n (pc := 24) C 1 dX9_shift_24 rfl ?_
      obtain ⟨g5, h⟩ := h
      refine z_aldq (pc := 25) C 1 2 rfl rfl g5 (.ref (dt 3 0)) rfl dX9_shift_25 ?_
      refine z_astore (pc := 26) (lv' := [(6, .ref (dt 3 0)), (0, .ref (d 0)), (1, .int (nI 3)), (2, .int x2), (3, .int x3), (4, .int x4), (5, .int x5)]) C dX9_shift_26 (by decide) rfl ?_
      refine z_aload_n (pc := 28) C 1 dX9_shift_28 rfl ?_
      refine z_get (pc := 29) C uw9 0 rfl rfl 9 (by decide) wq544 rfl dX9_shift_29 ?_
      refine z_iload_n (pc := 32) C 4 dX9_shift_32 rfl ?_
      obtain ⟨g6, h⟩ := h
      exact absurd g6 g2
    · have h := h.2 c4
      refine z_iconst (pc := 18) (v := -1) C dX9_shift_18 (by decide) ?_
      exact hret 19 _ _ (-1 : Int32) gt rfl h dX9_shift_19

set_option maxHeartbeats 4000000 in
set_option maxRecDepth 100000 in
theorem kX9_shift_4_0 {l : Launch} {D : va_G} {cI cJ cT : ClassId} (d : Nat → Nat) (dN : Nat → Nat) (dI : Nat → Nat) (dT : Nat → Nat) (dNc : Nat → Nat) (dNcj : Nat → Nat) (dNcs : Nat → Nat) (dNcp : Nat → Nat) (dNw : Nat → Nat) (dx : Nat → Nat) (dtt : Nat) (dt : Nat → Nat → Nat)  (v : Lf) (vt : Nat → Lf) (gt : Nat → Lg) (x2 : Int32) (x4 : Int32) (x5 : Int32) {Q : Int32 → (Nat → Lg) → Prop} (sz : Nat) (h : pX9_shift vt gt (nI 4) x2 (nI 0) x4 x5 Q) : Met l yX9_shift wdX9_shift rmX9_shift (Pz D (tyL cI cJ cT) [.ref (d 0), .int (nI 4), .int x2, .int (nI 0), .int x4, .int x5] ((wX9 d (dN 0) (dI 0) (dT 0) (dNc 0) (dNcj 0) (dNcs 0) (dNcp 0) (dNw 0) (dx 0) dtt v) ++ (wTT cJ cT dtt dt vt gt)) sz) (va_Qi (fun (r : Int32) (u : (Nat → Lg)) => Q r u) (Bz D (tyL cI cJ cT) ((wX9 d (dN 0) (dI 0) (dT 0) (dNc 0) (dNcj 0) (dNcs 0) (dNcp 0) (dNw 0) (dx 0) dtt v) ++ (wTT cJ cT dtt dt vt gt)) sz (fun (u : (Nat → Lg)) => ((wX9 d (dN 0) (dI 0) (dT 0) (dNc 0) (dNcj 0) (dNcs 0) (dNcp 0) (dNw 0) (dx 0) dtt v) ++ (wTT cJ cT dtt dt vt u)))) (va_A ((wX9 d (dN 0) (dI 0) (dT 0) (dNc 0) (dNcj 0) (dNcs 0) (dNcp 0) (dNw 0) (dx 0) dtt v) ++ (wTT cJ cT dtt dt vt gt)) sz)) 0 0 (va_A ((wX9 d (dN 0) (dI 0) (dT 0) (dNc 0) (dNcj 0) (dNcs 0) (dNcp 0) (dNw 0) (dx 0) dtt v) ++ (wTT cJ cT dtt dt vt gt)) sz) := by
  refine z_meti (cc := cX9_shift) (maxL := 8) (own := RX9) (lv0 := [(0, .ref (d 0)), (1, .int (nI 4)), (2, .int x2), (3, .int (nI 0)), (4, .int x4), (5, .int x5)]) (by decide) rfl rfl (Nat.le_of_ble_eq_true rfl) rfl ?_
  intro p e s m args below meth c A QQ C hin hret
  refine z_iload_n (pc := 0) C 1 dX9_shift_0 rfl ?_
  refine z_iconst (pc := 1) (v := 0) C dX9_shift_1 (by decide) ?_
  refine z_iconst (pc := 2) (v := 5) C dX9_shift_2 (by decide) ?_
  refine z_call0i (pc := 3) C (z_runS (pc := 3) (wc := ([] : va_W)) (As := [.int (nI 4), .int (0 : Int32), .int (5 : Int32)]) C (fun sz => kX9_within (nI 4) (0 : Int32) (5 : Int32) sz h) [] rfl (by decide) (gdS wq366 wq553 wq373 wq112) rfl rfl rfl hdSX9_within ⟨Nat.le_of_ble_eq_true rfl, Nat.le_of_ble_eq_true rfl⟩ rfl (Nat.le_of_ble_eq_true rfl) ⟨Nat.zero_le _, Nat.zero_le _⟩ dX9_shift_3) (fun r1 u1 h => ?_)
  refine z_if_eq (pc := 6) (tgt := 18) C dX9_shift_6 (by decide) (fun c2 => ?_) (fun c2 => ?_)
  · have h := h.1 c2
    refine z_iconst (pc := 18) (v := -1) C dX9_shift_18 (by decide) ?_
    exact hret 19 _ _ (-1 : Int32) gt rfl h dX9_shift_19
  · have h := h.2 c2
    refine z_iload_n (pc := 9) C 3 dX9_shift_9 rfl ?_
    refine z_iconst (pc := 10) (v := 0) C dX9_shift_10 (by decide) ?_
    refine z_iconst (pc := 11) (v := 5) C dX9_shift_11 (by decide) ?_
    refine z_call0i (pc := 12) C (z_runS (pc := 12) (wc := ([] : va_W)) (As := [.int (nI 0), .int (0 : Int32), .int (5 : Int32)]) C (fun sz => kX9_within (nI 0) (0 : Int32) (5 : Int32) sz h) [] rfl (by decide) (gdS wq366 wq553 wq373 wq112) rfl rfl rfl hdSX9_within ⟨Nat.le_of_ble_eq_true rfl, Nat.le_of_ble_eq_true rfl⟩ rfl (Nat.le_of_ble_eq_true rfl) ⟨Nat.zero_le _, Nat.zero_le _⟩ dX9_shift_12) (fun r3 u3 h => ?_)
    refine z_if_ne (pc := 15) (tgt := 20) C dX9_shift_15 (by decide) (fun c4 => ?_) (fun c4 => ?_)
    · have h := h.1 c4
      refine z_aload_n (pc := 20) C 0 dX9_shift_20 rfl ?_
      refine z_get (pc := 21) C uw9 0 rfl rfl 9 (by decide) wq544 rfl dX9_shift_21 ?_
      refine z_iload_n (pc := 24) C 1 dX9_shift_24 rfl ?_
      obtain ⟨g5, h⟩ := h
      refine z_aldq (pc := 25) C 1 2 rfl rfl g5 (.ref (dt 4 0)) rfl dX9_shift_25 ?_
      refine z_astore (pc := 26) (lv' := [(6, .ref (dt 4 0)), (0, .ref (d 0)), (1, .int (nI 4)), (2, .int x2), (3, .int (nI 0)), (4, .int x4), (5, .int x5)]) C dX9_shift_26 (by decide) rfl ?_
      refine z_aload_n (pc := 28) C 1 dX9_shift_28 rfl ?_
      refine z_get (pc := 29) C uw9 0 rfl rfl 9 (by decide) wq544 rfl dX9_shift_29 ?_
      refine z_iload_n (pc := 32) C 4 dX9_shift_32 rfl ?_
      obtain ⟨g6, h⟩ := h
      refine z_aldq (pc := 33) C 1 2 rfl rfl g6 (.ref (dt 0 0)) rfl dX9_shift_33 ?_
      refine z_astore (pc := 34) (lv' := [(7, .ref (dt 0 0)), (6, .ref (dt 4 0)), (0, .ref (d 0)), (1, .int (nI 4)), (2, .int x2), (3, .int (nI 0)), (4, .int x4), (5, .int x5)]) C dX9_shift_34 (by decide) rfl ?_
      refine z_aload (pc := 36) C 1 dX9_shift_36 rfl ?_
      refine z_get (pc := 38) C uw6 10 rfl rfl 0 (by decide) wq777 rfl dX9_shift_38 ?_
      refine z_bipush (pc := 41) (v := -5) C dX9_shift_41 (by decide) ?_
      refine z_icmp_eq (pc := 43) (tgt := 56) C dX9_shift_43 (by decide) (fun c7 => ?_) (fun c7 => ?_)
      · have h := h.1 c7
        refine z_bipush (pc := 56) (v := -11) C dX9_shift_56 (by decide) ?_
        exact hret 58 _ _ (-11 : Int32) gt rfl h dX9_shift_58
      · have h := h.2 c7
        refine z_aload (pc := 46) C 0 dX9_shift_46 rfl ?_
        refine z_get (pc := 48) C uw6 2 rfl rfl 0 (by decide) wq777 rfl dX9_shift_48 ?_
        refine z_bipush (pc := 51) (v := -5) C dX9_shift_51 (by decide) ?_
        refine z_icmp_ne (pc := 53) (tgt := 59) C dX9_shift_53 (by decide) (fun c8 => ?_) (fun c8 => ?_)
        · have h := h.1 c8
          refine z_aload (pc := 59) C 1 dX9_shift_59 rfl ?_
          refine z_get (pc := 61) C uw6 10 rfl rfl 0 (by decide) wq777 rfl dX9_shift_61 ?_
          refine z_aload (pc := 64) C 0 dX9_shift_64 rfl ?_
          refine z_get (pc := 66) C uw6 2 rfl rfl 0 (by decide) wq777 rfl dX9_shift_66 ?_
          refine z_icmp_eq (pc := 69) (tgt := 75) C dX9_shift_69 (by decide) (fun c9 => ?_) (fun c9 => ?_)
          · have h := h.1 c9
            refine z_aload (pc := 75) C 1 dX9_shift_75 rfl ?_
            refine z_iload_n (pc := 77) C 4 dX9_shift_77 rfl ?_
            refine z_iload (pc := 78) C 7 dX9_shift_78 rfl ?_
            refine z_callRi (pc := 80) C (z_runV (pc := 80) (wc := (wX6 cJ (dt 4) (vt 4) (gt 4))) (As := [.int x2, .int x5]) C (fun sz => kX6_hasPlaces (dt 4) (vt 4) (gt 4) x2 x5 sz h) [10, 11] rfl (by decide) (gdV wq414 wq805 wq806 wq807 wq546) rfl rfl rfl hdX6_hasPlaces 10 rfl rfl rfl ⟨Nat.le_of_ble_eq_true rfl, Nat.le_of_ble_eq_true rfl⟩ rfl (Nat.le_of_ble_eq_true rfl) ⟨Nat.zero_le _, Nat.zero_le _⟩ dX9_shift_80) [10, 11] rfl (by decide) (fun r10 u10 h => ?_)
            refine z_if_eq (pc := 83) (tgt := 98) C dX9_shift_83 (by decide) (fun c11 => ?_) (fun c11 => ?_)
            · have h := h.1 c11
              refine z_bipush (pc := 98) (v := -13) C dX9_shift_98 (by decide) ?_
              exact hret 100 _ _ (-13 : Int32) gt rfl h dX9_shift_100
            · have h := h.2 c11
              refine z_aload (pc := 86) C 0 dX9_shift_86 rfl ?_
              refine z_iload (pc := 88) C 6 dX9_shift_88 rfl ?_
              refine z_iload (pc := 90) C 7 dX9_shift_90 rfl ?_
              refine z_callRi (pc := 92) C (z_runV (pc := 92) (wc := (wX6 cJ (dt 0) (vt 0) (gt 0))) (As := [.int x4, .int x5]) C (fun sz => kX6_hasPlaces (dt 0) (vt 0) (gt 0) x4 x5 sz h) [2, 3] rfl (by decide) (gdV wq414 wq805 wq806 wq807 wq546) rfl rfl rfl hdX6_hasPlaces 2 rfl rfl rfl ⟨Nat.le_of_ble_eq_true rfl, Nat.le_of_ble_eq_true rfl⟩ rfl (Nat.le_of_ble_eq_true rfl) ⟨Nat.zero_le _, Nat.zero_le _⟩ dX9_shift_92) [2, 3] rfl (by decide) (fun r12 u12 h => ?_)
              refine z_if_ne (pc := 95) (tgt := 101) C dX9_shift_95 (by decide) (fun c13 => ?_) (fun c13 => ?_)
              · have h := h.1 c13
                refine z_aload (pc := 101) C 1 dX9_shift_101 rfl ?_
                refine z_get (pc := 103) C uw6 10 rfl rfl 2 (by decide) wq778 rfl dX9_shift_103 ?_
                refine z_iload_n (pc := 106) C 4 dX9_shift_106 rfl ?_
                refine z_aload (pc := 107) C 0 dX9_shift_107 rfl ?_
                refine z_get (pc := 109) C uw6 2 rfl rfl 2 (by decide) wq778 rfl dX9_shift_109 ?_
                refine z_iload (pc := 112) C 6 dX9_shift_112 rfl ?_
                refine z_iload (pc := 114) C 7 dX9_shift_114 rfl ?_
                obtain ⟨g14, h⟩ := h
                refine z_copyl (pc := 116) (ws' := ((wX9 d (dN 0) (dI 0) (dT 0) (dNc 0) (dNcj 0) (dNcs 0) (dNcp 0) (dNw 0) (dx 0) dtt v) ++ (wTT cJ cT dtt dt vt (va_up gt 0 (sb (gt 0) 1 (va_cpy ((gt 4) 1) ((gt 0) 1) x2.toNatClampNeg x4.toNatClampNeg x5.toNatClampNeg)))))) C wq804 wq65 wq66 wq67 11 3 1 rfl rfl rfl g14 (Nat.le_of_ble_eq_true rfl) (Nat.le_of_ble_eq_true rfl) dX9_shift_116 (set_r (k := 1) (i := 2) rfl sTT_c0) ?_
                refine z_iload (pc := 119) C 7 dX9_shift_119 rfl ?_
                exact hret 121 _ _ x5 (va_up gt 0 (sb (gt 0) 1 (va_cpy ((gt 4) 1) ((gt 0) 1) x2.toNatClampNeg x4.toNatClampNeg x5.toNatClampNeg))) rfl h dX9_shift_121
              · have h := h.2 c13
                refine z_bipush (pc := 98) (v := -13) C dX9_shift_98 (by decide) ?_
                exact hret 100 _ _ (-13 : Int32) gt rfl h dX9_shift_100
          · have h := h.2 c9
            refine z_bipush (pc := 72) (v := -12) C dX9_shift_72 (by decide) ?_
            exact hret 74 _ _ (-12 : Int32) gt rfl h dX9_shift_74
        · have h := h.2 c8
          refine z_bipush (pc := 56) (v := -11) C dX9_shift_56 (by decide) ?_
          exact hret 58 _ _ (-11 : Int32) gt rfl h dX9_shift_58
    · have h := h.2 c4
      refine z_iconst (pc := 18) (v := -1) C dX9_shift_18 (by decide) ?_
      exact hret 19 _ _ (-1 : Int32) gt rfl h dX9_shift_19

set_option maxHeartbeats 4000000 in
set_option maxRecDepth 100000 in
theorem kX9_shift_4_1 {l : Launch} {D : va_G} {cI cJ cT : ClassId} (d : Nat → Nat) (dN : Nat → Nat) (dI : Nat → Nat) (dT : Nat → Nat) (dNc : Nat → Nat) (dNcj : Nat → Nat) (dNcs : Nat → Nat) (dNcp : Nat → Nat) (dNw : Nat → Nat) (dx : Nat → Nat) (dtt : Nat) (dt : Nat → Nat → Nat)  (v : Lf) (vt : Nat → Lf) (gt : Nat → Lg) (x2 : Int32) (x4 : Int32) (x5 : Int32) {Q : Int32 → (Nat → Lg) → Prop} (sz : Nat) (h : pX9_shift vt gt (nI 4) x2 (nI 1) x4 x5 Q) : Met l yX9_shift wdX9_shift rmX9_shift (Pz D (tyL cI cJ cT) [.ref (d 0), .int (nI 4), .int x2, .int (nI 1), .int x4, .int x5] ((wX9 d (dN 0) (dI 0) (dT 0) (dNc 0) (dNcj 0) (dNcs 0) (dNcp 0) (dNw 0) (dx 0) dtt v) ++ (wTT cJ cT dtt dt vt gt)) sz) (va_Qi (fun (r : Int32) (u : (Nat → Lg)) => Q r u) (Bz D (tyL cI cJ cT) ((wX9 d (dN 0) (dI 0) (dT 0) (dNc 0) (dNcj 0) (dNcs 0) (dNcp 0) (dNw 0) (dx 0) dtt v) ++ (wTT cJ cT dtt dt vt gt)) sz (fun (u : (Nat → Lg)) => ((wX9 d (dN 0) (dI 0) (dT 0) (dNc 0) (dNcj 0) (dNcs 0) (dNcp 0) (dNw 0) (dx 0) dtt v) ++ (wTT cJ cT dtt dt vt u)))) (va_A ((wX9 d (dN 0) (dI 0) (dT 0) (dNc 0) (dNcj 0) (dNcs 0) (dNcp 0) (dNw 0) (dx 0) dtt v) ++ (wTT cJ cT dtt dt vt gt)) sz)) 0 0 (va_A ((wX9 d (dN 0) (dI 0) (dT 0) (dNc 0) (dNcj 0) (dNcs 0) (dNcp 0) (dNw 0) (dx 0) dtt v) ++ (wTT cJ cT dtt dt vt gt)) sz) := by
  refine z_meti (cc := cX9_shift) (maxL := 8) (own := RX9) (lv0 := [(0, .ref (d 0)), (1, .int (nI 4)), (2, .int x2), (3, .int (nI 1)), (4, .int x4), (5, .int x5)]) (by decide) rfl rfl (Nat.le_of_ble_eq_true rfl) rfl ?_
  intro p e s m args below meth c A QQ C hin hret
  refine z_iload_n (pc := 0) C 1 dX9_shift_0 rfl ?_
  refine z_iconst (pc := 1) (v := 0) C dX9_shift_1 (by decide) ?_
  refine z_iconst (pc := 2) (v := 5) C dX9_shift_2 (by decide) ?_
  refine z_call0i (pc := 3) C (z_runS (pc := 3) (wc := ([] : va_W)) (As := [.int (nI 4), .int (0 : Int32), .int (5 : Int32)]) C (fun sz => kX9_within (nI 4) (0 : Int32) (5 : Int32) sz h) [] rfl (by decide) (gdS wq366 wq553 wq373 wq112) rfl rfl rfl hdSX9_within ⟨Nat.le_of_ble_eq_true rfl, Nat.le_of_ble_eq_true rfl⟩ rfl (Nat.le_of_ble_eq_true rfl) ⟨Nat.zero_le _, Nat.zero_le _⟩ dX9_shift_3) (fun r1 u1 h => ?_)
  refine z_if_eq (pc := 6) (tgt := 18) C dX9_shift_6 (by decide) (fun c2 => ?_) (fun c2 => ?_)
  · have h := h.1 c2
    refine z_iconst (pc := 18) (v := -1) C dX9_shift_18 (by decide) ?_
    exact hret 19 _ _ (-1 : Int32) gt rfl h dX9_shift_19
  · have h := h.2 c2
    refine z_iload_n (pc := 9) C 3 dX9_shift_9 rfl ?_
    refine z_iconst (pc := 10) (v := 0) C dX9_shift_10 (by decide) ?_
    refine z_iconst (pc := 11) (v := 5) C dX9_shift_11 (by decide) ?_
    refine z_call0i (pc := 12) C (z_runS (pc := 12) (wc := ([] : va_W)) (As := [.int (nI 1), .int (0 : Int32), .int (5 : Int32)]) C (fun sz => kX9_within (nI 1) (0 : Int32) (5 : Int32) sz h) [] rfl (by decide) (gdS wq366 wq553 wq373 wq112) rfl rfl rfl hdSX9_within ⟨Nat.le_of_ble_eq_true rfl, Nat.le_of_ble_eq_true rfl⟩ rfl (Nat.le_of_ble_eq_true rfl) ⟨Nat.zero_le _, Nat.zero_le _⟩ dX9_shift_12) (fun r3 u3 h => ?_)
    refine z_if_ne (pc := 15) (tgt := 20) C dX9_shift_15 (by decide) (fun c4 => ?_) (fun c4 => ?_)
    · have h := h.1 c4
      refine z_aload_n (pc := 20) C 0 dX9_shift_20 rfl ?_
      refine z_get (pc := 21) C uw9 0 rfl rfl 9 (by decide) wq544 rfl dX9_shift_21 ?_
      refine z_iload_n (pc := 24) C 1 dX9_shift_24 rfl ?_
      obtain ⟨g5, h⟩ := h
      refine z_aldq (pc := 25) C 1 2 rfl rfl g5 (.ref (dt 4 0)) rfl dX9_shift_25 ?_
      refine z_astore (pc := 26) (lv' := [(6, .ref (dt 4 0)), (0, .ref (d 0)), (1, .int (nI 4)), (2, .int x2), (3, .int (nI 1)), (4, .int x4), (5, .int x5)]) C dX9_shift_26 (by decide) rfl ?_
      refine z_aload_n (pc := 28) C 1 dX9_shift_28 rfl ?_
      refine z_get (pc := 29) C uw9 0 rfl rfl 9 (by decide) wq544 rfl dX9_shift_29 ?_
      refine z_iload_n (pc := 32) C 4 dX9_shift_32 rfl ?_
      obtain ⟨g6, h⟩ := h
      refine z_aldq (pc := 33) C 1 2 rfl rfl g6 (.ref (dt 1 0)) rfl dX9_shift_33 ?_
      refine z_astore (pc := 34) (lv' := [(7, .ref (dt 1 0)), (6, .ref (dt 4 0)), (0, .ref (d 0)), (1, .int (nI 4)), (2, .int x2), (3, .int (nI 1)), (4, .int x4), (5, .int x5)]) C dX9_shift_34 (by decide) rfl ?_
      refine z_aload (pc := 36) C 1 dX9_shift_36 rfl ?_
      refine z_get (pc := 38) C uw6 10 rfl rfl 0 (by decide) wq777 rfl dX9_shift_38 ?_
      refine z_bipush (pc := 41) (v := -5) C dX9_shift_41 (by decide) ?_
      refine z_icmp_eq (pc := 43) (tgt := 56) C dX9_shift_43 (by decide) (fun c7 => ?_) (fun c7 => ?_)
      · have h := h.1 c7
        refine z_bipush (pc := 56) (v := -11) C dX9_shift_56 (by decide) ?_
        exact hret 58 _ _ (-11 : Int32) gt rfl h dX9_shift_58
      · have h := h.2 c7
        refine z_aload (pc := 46) C 0 dX9_shift_46 rfl ?_
        refine z_get (pc := 48) C uw6 4 rfl rfl 0 (by decide) wq777 rfl dX9_shift_48 ?_
        refine z_bipush (pc := 51) (v := -5) C dX9_shift_51 (by decide) ?_
        refine z_icmp_ne (pc := 53) (tgt := 59) C dX9_shift_53 (by decide) (fun c8 => ?_) (fun c8 => ?_)
        · have h := h.1 c8
          refine z_aload (pc := 59) C 1 dX9_shift_59 rfl ?_
          refine z_get (pc := 61) C uw6 10 rfl rfl 0 (by decide) wq777 rfl dX9_shift_61 ?_
          refine z_aload (pc := 64) C 0 dX9_shift_64 rfl ?_
          refine z_get (pc := 66) C uw6 4 rfl rfl 0 (by decide) wq777 rfl dX9_shift_66 ?_
          refine z_icmp_eq (pc := 69) (tgt := 75) C dX9_shift_69 (by decide) (fun c9 => ?_) (fun c9 => ?_)
          · have h := h.1 c9
            refine z_aload (pc := 75) C 1 dX9_shift_75 rfl ?_
            refine z_iload_n (pc := 77) C 4 dX9_shift_77 rfl ?_
            refine z_iload (pc := 78) C 7 dX9_shift_78 rfl ?_
            refine z_callRi (pc := 80) C (z_runV (pc := 80) (wc := (wX6 cJ (dt 4) (vt 4) (gt 4))) (As := [.int x2, .int x5]) C (fun sz => kX6_hasPlaces (dt 4) (vt 4) (gt 4) x2 x5 sz h) [10, 11] rfl (by decide) (gdV wq414 wq805 wq806 wq807 wq546) rfl rfl rfl hdX6_hasPlaces 10 rfl rfl rfl ⟨Nat.le_of_ble_eq_true rfl, Nat.le_of_ble_eq_true rfl⟩ rfl (Nat.le_of_ble_eq_true rfl) ⟨Nat.zero_le _, Nat.zero_le _⟩ dX9_shift_80) [10, 11] rfl (by decide) (fun r10 u10 h => ?_)
            refine z_if_eq (pc := 83) (tgt := 98) C dX9_shift_83 (by decide) (fun c11 => ?_) (fun c11 => ?_)
            · have h := h.1 c11
              refine z_bipush (pc := 98) (v := -13) C dX9_shift_98 (by decide) ?_
              exact hret 100 _ _ (-13 : Int32) gt rfl h dX9_shift_100
            · have h := h.2 c11
              refine z_aload (pc := 86) C 0 dX9_shift_86 rfl ?_
              refine z_iload (pc := 88) C 6 dX9_shift_88 rfl ?_
              refine z_iload (pc := 90) C 7 dX9_shift_90 rfl ?_
              refine z_callRi (pc := 92) C (z_runV (pc := 92) (wc := (wX6 cJ (dt 1) (vt 1) (gt 1))) (As := [.int x4, .int x5]) C (fun sz => kX6_hasPlaces (dt 1) (vt 1) (gt 1) x4 x5 sz h) [4, 5] rfl (by decide) (gdV wq414 wq805 wq806 wq807 wq546) rfl rfl rfl hdX6_hasPlaces 4 rfl rfl rfl ⟨Nat.le_of_ble_eq_true rfl, Nat.le_of_ble_eq_true rfl⟩ rfl (Nat.le_of_ble_eq_true rfl) ⟨Nat.zero_le _, Nat.zero_le _⟩ dX9_shift_92) [4, 5] rfl (by decide) (fun r12 u12 h => ?_)
              refine z_if_ne (pc := 95) (tgt := 101) C dX9_shift_95 (by decide) (fun c13 => ?_) (fun c13 => ?_)
              · have h := h.1 c13
                refine z_aload (pc := 101) C 1 dX9_shift_101 rfl ?_
                refine z_get (pc := 103) C uw6 10 rfl rfl 2 (by decide) wq778 rfl dX9_shift_103 ?_
                refine z_iload_n (pc := 106) C 4 dX9_shift_106 rfl ?_
                refine z_aload (pc := 107) C 0 dX9_shift_107 rfl ?_
                refine z_get (pc := 109) C uw6 4 rfl rfl 2 (by decide) wq778 rfl dX9_shift_109 ?_
                refine z_iload (pc := 112) C 6 dX9_shift_112 rfl ?_
                refine z_iload (pc := 114) C 7 dX9_shift_114 rfl ?_
                obtain ⟨g14, h⟩ := h
                refine z_copyl (pc := 116) (ws' := ((wX9 d (dN 0) (dI 0) (dT 0) (dNc 0) (dNcj 0) (dNcs 0) (dNcp 0) (dNw 0) (dx 0) dtt v) ++ (wTT cJ cT dtt dt vt (va_up gt 1 (sb (gt 1) 1 (va_cpy ((gt 4) 1) ((gt 1) 1) x2.toNatClampNeg x4.toNatClampNeg x5.toNatClampNeg)))))) C wq804 wq65 wq66 wq67 11 5 1 rfl rfl rfl g14 (Nat.le_of_ble_eq_true rfl) (Nat.le_of_ble_eq_true rfl) dX9_shift_116 (set_r (k := 1) (i := 4) rfl sTT_c1) ?_
                refine z_iload (pc := 119) C 7 dX9_shift_119 rfl ?_
                exact hret 121 _ _ x5 (va_up gt 1 (sb (gt 1) 1 (va_cpy ((gt 4) 1) ((gt 1) 1) x2.toNatClampNeg x4.toNatClampNeg x5.toNatClampNeg))) rfl h dX9_shift_121
              · have h := h.2 c13
                refine z_bipush (pc := 98) (v := -13) C dX9_shift_98 (by decide) ?_
                exact hret 100 _ _ (-13 : Int32) gt rfl h dX9_shift_100
          · have h := h.2 c9
            refine z_bipush (pc := 72) (v := -12) C dX9_shift_72 (by decide) ?_
            exact hret 74 _ _ (-12 : Int32) gt rfl h dX9_shift_74
        · have h := h.2 c8
          refine z_bipush (pc := 56) (v := -11) C dX9_shift_56 (by decide) ?_
          exact hret 58 _ _ (-11 : Int32) gt rfl h dX9_shift_58
    · have h := h.2 c4
      refine z_iconst (pc := 18) (v := -1) C dX9_shift_18 (by decide) ?_
      exact hret 19 _ _ (-1 : Int32) gt rfl h dX9_shift_19

set_option maxHeartbeats 4000000 in
set_option maxRecDepth 100000 in
theorem kX9_shift_4_2 {l : Launch} {D : va_G} {cI cJ cT : ClassId} (d : Nat → Nat) (dN : Nat → Nat) (dI : Nat → Nat) (dT : Nat → Nat) (dNc : Nat → Nat) (dNcj : Nat → Nat) (dNcs : Nat → Nat) (dNcp : Nat → Nat) (dNw : Nat → Nat) (dx : Nat → Nat) (dtt : Nat) (dt : Nat → Nat → Nat)  (v : Lf) (vt : Nat → Lf) (gt : Nat → Lg) (x2 : Int32) (x4 : Int32) (x5 : Int32) {Q : Int32 → (Nat → Lg) → Prop} (sz : Nat) (h : pX9_shift vt gt (nI 4) x2 (nI 2) x4 x5 Q) : Met l yX9_shift wdX9_shift rmX9_shift (Pz D (tyL cI cJ cT) [.ref (d 0), .int (nI 4), .int x2, .int (nI 2), .int x4, .int x5] ((wX9 d (dN 0) (dI 0) (dT 0) (dNc 0) (dNcj 0) (dNcs 0) (dNcp 0) (dNw 0) (dx 0) dtt v) ++ (wTT cJ cT dtt dt vt gt)) sz) (va_Qi (fun (r : Int32) (u : (Nat → Lg)) => Q r u) (Bz D (tyL cI cJ cT) ((wX9 d (dN 0) (dI 0) (dT 0) (dNc 0) (dNcj 0) (dNcs 0) (dNcp 0) (dNw 0) (dx 0) dtt v) ++ (wTT cJ cT dtt dt vt gt)) sz (fun (u : (Nat → Lg)) => ((wX9 d (dN 0) (dI 0) (dT 0) (dNc 0) (dNcj 0) (dNcs 0) (dNcp 0) (dNw 0) (dx 0) dtt v) ++ (wTT cJ cT dtt dt vt u)))) (va_A ((wX9 d (dN 0) (dI 0) (dT 0) (dNc 0) (dNcj 0) (dNcs 0) (dNcp 0) (dNw 0) (dx 0) dtt v) ++ (wTT cJ cT dtt dt vt gt)) sz)) 0 0 (va_A ((wX9 d (dN 0) (dI 0) (dT 0) (dNc 0) (dNcj 0) (dNcs 0) (dNcp 0) (dNw 0) (dx 0) dtt v) ++ (wTT cJ cT dtt dt vt gt)) sz) := by
  refine z_meti (cc := cX9_shift) (maxL := 8) (own := RX9) (lv0 := [(0, .ref (d 0)), (1, .int (nI 4)), (2, .int x2), (3, .int (nI 2)), (4, .int x4), (5, .int x5)]) (by decide) rfl rfl (Nat.le_of_ble_eq_true rfl) rfl ?_
  intro p e s m args below meth c A QQ C hin hret
  refine z_iload_n (pc := 0) C 1 dX9_shift_0 rfl ?_
  refine z_iconst (pc := 1) (v := 0) C dX9_shift_1 (by decide) ?_
  refine z_iconst (pc := 2) (v := 5) C dX9_shift_2 (by decide) ?_
  refine z_call0i (pc := 3) C (z_runS (pc := 3) (wc := ([] : va_W)) (As := [.int (nI 4), .int (0 : Int32), .int (5 : Int32)]) C (fun sz => kX9_within (nI 4) (0 : Int32) (5 : Int32) sz h) [] rfl (by decide) (gdS wq366 wq553 wq373 wq112) rfl rfl rfl hdSX9_within ⟨Nat.le_of_ble_eq_true rfl, Nat.le_of_ble_eq_true rfl⟩ rfl (Nat.le_of_ble_eq_true rfl) ⟨Nat.zero_le _, Nat.zero_le _⟩ dX9_shift_3) (fun r1 u1 h => ?_)
  refine z_if_eq (pc := 6) (tgt := 18) C dX9_shift_6 (by decide) (fun c2 => ?_) (fun c2 => ?_)
  · have h := h.1 c2
    refine z_iconst (pc := 18) (v := -1) C dX9_shift_18 (by decide) ?_
    exact hret 19 _ _ (-1 : Int32) gt rfl h dX9_shift_19
  · have h := h.2 c2
    refine z_iload_n (pc := 9) C 3 dX9_shift_9 rfl ?_
    refine z_iconst (pc := 10) (v := 0) C dX9_shift_10 (by decide) ?_
    refine z_iconst (pc := 11) (v := 5) C dX9_shift_11 (by decide) ?_
    refine z_call0i (pc := 12) C (z_runS (pc := 12) (wc := ([] : va_W)) (As := [.int (nI 2), .int (0 : Int32), .int (5 : Int32)]) C (fun sz => kX9_within (nI 2) (0 : Int32) (5 : Int32) sz h) [] rfl (by decide) (gdS wq366 wq553 wq373 wq112) rfl rfl rfl hdSX9_within ⟨Nat.le_of_ble_eq_true rfl, Nat.le_of_ble_eq_true rfl⟩ rfl (Nat.le_of_ble_eq_true rfl) ⟨Nat.zero_le _, Nat.zero_le _⟩ dX9_shift_12) (fun r3 u3 h => ?_)
    refine z_if_ne (pc := 15) (tgt := 20) C dX9_shift_15 (by decide) (fun c4 => ?_) (fun c4 => ?_)
    · have h := h.1 c4
      refine z_aload_n (pc := 20) C 0 dX9_shift_20 rfl ?_
      refine z_get (pc := 21) C uw9 0 rfl rfl 9 (by decide) wq544 rfl dX9_shift_21 ?_
      refine z_iload_n (pc := 24) C 1 dX9_shift_24 rfl ?_
      obtain ⟨g5, h⟩ := h
      refine z_aldq (pc := 25) C 1 2 rfl rfl g5 (.ref (dt 4 0)) rfl dX9_shift_25 ?_
      refine z_astore (pc := 26) (lv' := [(6, .ref (dt 4 0)), (0, .ref (d 0)), (1, .int (nI 4)), (2, .int x2), (3, .int (nI 2)), (4, .int x4), (5, .int x5)]) C dX9_shift_26 (by decide) rfl ?_
      refine z_aload_n (pc := 28) C 1 dX9_shift_28 rfl ?_
      refine z_get (pc := 29) C uw9 0 rfl rfl 9 (by decide) wq544 rfl dX9_shift_29 ?_
      refine z_iload_n (pc := 32) C 4 dX9_shift_32 rfl ?_
      obtain ⟨g6, h⟩ := h
      refine z_aldq (pc := 33) C 1 2 rfl rfl g6 (.ref (dt 2 0)) rfl dX9_shift_33 ?_
      refine z_astore (pc := 34) (lv' := [(7, .ref (dt 2 0)), (6, .ref (dt 4 0)), (0, .ref (d 0)), (1, .int (nI 4)), (2, .int x2), (3, .int (nI 2)), (4, .int x4), (5, .int x5)]) C dX9_shift_34 (by decide) rfl ?_
      refine z_aload (pc := 36) C 1 dX9_shift_36 rfl ?_
      refine z_get (pc := 38) C uw6 10 rfl rfl 0 (by decide) wq777 rfl dX9_shift_38 ?_
      refine z_bipush (pc := 41) (v := -5) C dX9_shift_41 (by decide) ?_
      refine z_icmp_eq (pc := 43) (tgt := 56) C dX9_shift_43 (by decide) (fun c7 => ?_) (fun c7 => ?_)
      · have h := h.1 c7
        refine z_bipush (pc := 56) (v := -11) C dX9_shift_56 (by decide) ?_
        exact hret 58 _ _ (-11 : Int32) gt rfl h dX9_shift_58
      · have h := h.2 c7
        refine z_aload (pc := 46) C 0 dX9_shift_46 rfl ?_
        refine z_get (pc := 48) C uw6 6 rfl rfl 0 (by decide) wq777 rfl dX9_shift_48 ?_
        refine z_bipush (pc := 51) (v := -5) C dX9_shift_51 (by decide) ?_
        refine z_icmp_ne (pc := 53) (tgt := 59) C dX9_shift_53 (by decide) (fun c8 => ?_) (fun c8 => ?_)
        · have h := h.1 c8
          refine z_aload (pc := 59) C 1 dX9_shift_59 rfl ?_
          refine z_get (pc := 61) C uw6 10 rfl rfl 0 (by decide) wq777 rfl dX9_shift_61 ?_
          refine z_aload (pc := 64) C 0 dX9_shift_64 rfl ?_
          refine z_get (pc := 66) C uw6 6 rfl rfl 0 (by decide) wq777 rfl dX9_shift_66 ?_
          refine z_icmp_eq (pc := 69) (tgt := 75) C dX9_shift_69 (by decide) (fun c9 => ?_) (fun c9 => ?_)
          · have h := h.1 c9
            refine z_aload (pc := 75) C 1 dX9_shift_75 rfl ?_
            refine z_iload_n (pc := 77) C 4 dX9_shift_77 rfl ?_
            refine z_iload (pc := 78) C 7 dX9_shift_78 rfl ?_
            refine z_callRi (pc := 80) C (z_runV (pc := 80) (wc := (wX6 cJ (dt 4) (vt 4) (gt 4))) (As := [.int x2, .int x5]) C (fun sz => kX6_hasPlaces (dt 4) (vt 4) (gt 4) x2 x5 sz h) [10, 11] rfl (by decide) (gdV wq414 wq805 wq806 wq807 wq546) rfl rfl rfl hdX6_hasPlaces 10 rfl rfl rfl ⟨Nat.le_of_ble_eq_true rfl, Nat.le_of_ble_eq_true rfl⟩ rfl (Nat.le_of_ble_eq_true rfl) ⟨Nat.zero_le _, Nat.zero_le _⟩ dX9_shift_80) [10, 11] rfl (by decide) (fun r10 u10 h => ?_)
            refine z_if_eq (pc := 83) (tgt := 98) C dX9_shift_83 (by decide) (fun c11 => ?_) (fun c11 => ?_)
            · have h := h.1 c11
              refine z_bipush (pc := 98) (v := -13) C dX9_shift_98 (by decide) ?_
              exact hret 100 _ _ (-13 : Int32) gt rfl h dX9_shift_100
            · have h := h.2 c11
              refine z_aload (pc := 86) C 0 dX9_shift_86 rfl ?_
              refine z_iload (pc := 88) C 6 dX9_shift_88 rfl ?_
              refine z_iload (pc := 90) C 7 dX9_shift_90 rfl ?_
              refine z_callRi (pc := 92) C (z_runV (pc := 92) (wc := (wX6 cJ (dt 2) (vt 2) (gt 2))) (As := [.int x4, .int x5]) C (fun sz => kX6_hasPlaces (dt 2) (vt 2) (gt 2) x4 x5 sz h) [6, 7] rfl (by decide) (gdV wq414 wq805 wq806 wq807 wq546) rfl rfl rfl hdX6_hasPlaces 6 rfl rfl rfl ⟨Nat.le_of_ble_eq_true rfl, Nat.le_of_ble_eq_true rfl⟩ rfl (Nat.le_of_ble_eq_true rfl) ⟨Nat.zero_le _, Nat.zero_le _⟩ dX9_shift_92) [6, 7] rfl (by decide) (fun r12 u12 h => ?_)
              refine z_if_ne (pc := 95) (tgt := 101) C dX9_shift_95 (by decide) (fun c13 => ?_) (fun c13 => ?_)
              · have h := h.1 c13
                refine z_aload (pc := 101) C 1 dX9_shift_101 rfl ?_
                refine z_get (pc := 103) C uw6 10 rfl rfl 2 (by decide) wq778 rfl dX9_shift_103 ?_
                refine z_iload_n (pc := 106) C 4 dX9_shift_106 rfl ?_
                refine z_aload (pc := 107) C 0 dX9_shift_107 rfl ?_
                refine z_get (pc := 109) C uw6 6 rfl rfl 2 (by decide) wq778 rfl dX9_shift_109 ?_
                refine z_iload (pc := 112) C 6 dX9_shift_112 rfl ?_
                refine z_iload (pc := 114) C 7 dX9_shift_114 rfl ?_
                obtain ⟨g14, h⟩ := h
                refine z_copyl (pc := 116) (ws' := ((wX9 d (dN 0) (dI 0) (dT 0) (dNc 0) (dNcj 0) (dNcs 0) (dNcp 0) (dNw 0) (dx 0) dtt v) ++ (wTT cJ cT dtt dt vt (va_up gt 2 (sb (gt 2) 1 (va_cpy ((gt 4) 1) ((gt 2) 1) x2.toNatClampNeg x4.toNatClampNeg x5.toNatClampNeg)))))) C wq804 wq65 wq66 wq67 11 7 1 rfl rfl rfl g14 (Nat.le_of_ble_eq_true rfl) (Nat.le_of_ble_eq_true rfl) dX9_shift_116 (set_r (k := 1) (i := 6) rfl sTT_c2) ?_
                refine z_iload (pc := 119) C 7 dX9_shift_119 rfl ?_
                exact hret 121 _ _ x5 (va_up gt 2 (sb (gt 2) 1 (va_cpy ((gt 4) 1) ((gt 2) 1) x2.toNatClampNeg x4.toNatClampNeg x5.toNatClampNeg))) rfl h dX9_shift_121
              · have h := h.2 c13
                refine z_bipush (pc := 98) (v := -13) C dX9_shift_98 (by decide) ?_
                exact hret 100 _ _ (-13 : Int32) gt rfl h dX9_shift_100
          · have h := h.2 c9
            refine z_bipush (pc := 72) (v := -12) C dX9_shift_72 (by decide) ?_
            exact hret 74 _ _ (-12 : Int32) gt rfl h dX9_shift_74
        · have h := h.2 c8
          refine z_bipush (pc := 56) (v := -11) C dX9_shift_56 (by decide) ?_
          exact hret 58 _ _ (-11 : Int32) gt rfl h dX9_shift_58
    · have h := h.2 c4
      refine z_iconst (pc := 18) (v := -1) C dX9_shift_18 (by decide) ?_
      exact hret 19 _ _ (-1 : Int32) gt rfl h dX9_shift_19

set_option maxHeartbeats 4000000 in
set_option maxRecDepth 100000 in
theorem kX9_shift_4_3 {l : Launch} {D : va_G} {cI cJ cT : ClassId} (d : Nat → Nat) (dN : Nat → Nat) (dI : Nat → Nat) (dT : Nat → Nat) (dNc : Nat → Nat) (dNcj : Nat → Nat) (dNcs : Nat → Nat) (dNcp : Nat → Nat) (dNw : Nat → Nat) (dx : Nat → Nat) (dtt : Nat) (dt : Nat → Nat → Nat)  (v : Lf) (vt : Nat → Lf) (gt : Nat → Lg) (x2 : Int32) (x4 : Int32) (x5 : Int32) {Q : Int32 → (Nat → Lg) → Prop} (sz : Nat) (h : pX9_shift vt gt (nI 4) x2 (nI 3) x4 x5 Q) : Met l yX9_shift wdX9_shift rmX9_shift (Pz D (tyL cI cJ cT) [.ref (d 0), .int (nI 4), .int x2, .int (nI 3), .int x4, .int x5] ((wX9 d (dN 0) (dI 0) (dT 0) (dNc 0) (dNcj 0) (dNcs 0) (dNcp 0) (dNw 0) (dx 0) dtt v) ++ (wTT cJ cT dtt dt vt gt)) sz) (va_Qi (fun (r : Int32) (u : (Nat → Lg)) => Q r u) (Bz D (tyL cI cJ cT) ((wX9 d (dN 0) (dI 0) (dT 0) (dNc 0) (dNcj 0) (dNcs 0) (dNcp 0) (dNw 0) (dx 0) dtt v) ++ (wTT cJ cT dtt dt vt gt)) sz (fun (u : (Nat → Lg)) => ((wX9 d (dN 0) (dI 0) (dT 0) (dNc 0) (dNcj 0) (dNcs 0) (dNcp 0) (dNw 0) (dx 0) dtt v) ++ (wTT cJ cT dtt dt vt u)))) (va_A ((wX9 d (dN 0) (dI 0) (dT 0) (dNc 0) (dNcj 0) (dNcs 0) (dNcp 0) (dNw 0) (dx 0) dtt v) ++ (wTT cJ cT dtt dt vt gt)) sz)) 0 0 (va_A ((wX9 d (dN 0) (dI 0) (dT 0) (dNc 0) (dNcj 0) (dNcs 0) (dNcp 0) (dNw 0) (dx 0) dtt v) ++ (wTT cJ cT dtt dt vt gt)) sz) := by
  refine z_meti (cc := cX9_shift) (maxL := 8) (own := RX9) (lv0 := [(0, .ref (d 0)), (1, .int (nI 4)), (2, .int x2), (3, .int (nI 3)), (4, .int x4), (5, .int x5)]) (by decide) rfl rfl (Nat.le_of_ble_eq_true rfl) rfl ?_
  intro p e s m args below meth c A QQ C hin hret
  refine z_iload_n (pc := 0) C 1 dX9_shift_0 rfl ?_
  refine z_iconst (pc := 1) (v := 0) C dX9_shift_1 (by decide) ?_
  refine z_iconst (pc := 2) (v := 5) C dX9_shift_2 (by decide) ?_
  refine z_call0i (pc := 3) C (z_runS (pc := 3) (wc := ([] : va_W)) (As := [.int (nI 4), .int (0 : Int32), .int (5 : Int32)]) C (fun sz => kX9_within (nI 4) (0 : Int32) (5 : Int32) sz h) [] rfl (by decide) (gdS wq366 wq553 wq373 wq112) rfl rfl rfl hdSX9_within ⟨Nat.le_of_ble_eq_true rfl, Nat.le_of_ble_eq_true rfl⟩ rfl (Nat.le_of_ble_eq_true rfl) ⟨Nat.zero_le _, Nat.zero_le _⟩ dX9_shift_3) (fun r1 u1 h => ?_)
  refine z_if_eq (pc := 6) (tgt := 18) C dX9_shift_6 (by decide) (fun c2 => ?_) (fun c2 => ?_)
  · have h := h.1 c2
    refine z_iconst (pc := 18) (v := -1) C dX9_shift_18 (by decide) ?_
    exact hret 19 _ _ (-1 : Int32) gt rfl h dX9_shift_19
  · have h := h.2 c2
    refine z_iload_n (pc := 9) C 3 dX9_shift_9 rfl ?_
    refine z_iconst (pc := 10) (v := 0) C dX9_shift_10 (by decide) ?_
    refine z_iconst (pc := 11) (v := 5) C dX9_shift_11 (by decide) ?_
    refine z_call0i (pc := 12) C (z_runS (pc := 12) (wc := ([] : va_W)) (As := [.int (nI 3), .int (0 : Int32), .int (5 : Int32)]) C (fun sz => kX9_within (nI 3) (0 : Int32) (5 : Int32) sz h) [] rfl (by decide) (gdS wq366 wq553 wq373 wq112) rfl rfl rfl hdSX9_within ⟨Nat.le_of_ble_eq_true rfl, Nat.le_of_ble_eq_true rfl⟩ rfl (Nat.le_of_ble_eq_true rfl) ⟨Nat.zero_le _, Nat.zero_le _⟩ dX9_shift_12) (fun r3 u3 h => ?_)
    refine z_if_ne (pc := 15) (tgt := 20) C dX9_shift_15 (by decide) (fun c4 => ?_) (fun c4 => ?_)
    · have h := h.1 c4
      refine z_aload_n (pc := 20) C 0 dX9_shift_20 rfl ?_
      refine z_get (pc := 21) C uw9 0 rfl rfl 9 (by decide) wq544 rfl dX9_shift_21 ?_
      refine z_iload_n (pc := 24) C 1 dX9_shift_24 rfl ?_
      obtain ⟨g5, h⟩ := h
      refine z_aldq (pc := 25) C 1 2 rfl rfl g5 (.ref (dt 4 0)) rfl dX9_shift_25 ?_
      refine z_astore (pc := 26) (lv' := [(6, .ref (dt 4 0)), (0, .ref (d 0)), (1, .int (nI 4)), (2, .int x2), (3, .int (nI 3)), (4, .int x4), (5, .int x5)]) C dX9_shift_26 (by decide) rfl ?_
      refine z_aload_n (pc := 28) C 1 dX9_shift_28 rfl ?_
      refine z_get (pc := 29) C uw9 0 rfl rfl 9 (by decide) wq544 rfl dX9_shift_29 ?_
      refine z_iload_n (pc := 32) C 4 dX9_shift_32 rfl ?_
      obtain ⟨g6, h⟩ := h
      refine z_aldq (pc := 33) C 1 2 rfl rfl g6 (.ref (dt 3 0)) rfl dX9_shift_33 ?_
      refine z_astore (pc := 34) (lv' := [(7, .ref (dt 3 0)), (6, .ref (dt 4 0)), (0, .ref (d 0)), (1, .int (nI 4)), (2, .int x2), (3, .int (nI 3)), (4, .int x4), (5, .int x5)]) C dX9_shift_34 (by decide) rfl ?_
      refine z_aload (pc := 36) C 1 dX9_shift_36 rfl ?_
      refine z_get (pc := 38) C uw6 10 rfl rfl 0 (by decide) wq777 rfl dX9_shift_38 ?_
      refine z_bipush (pc := 41) (v := -5) C dX9_shift_41 (by decide) ?_
      refine z_icmp_eq (pc := 43) (tgt := 56) C dX9_shift_43 (by decide) (fun c7 => ?_) (fun c7 => ?_)
      · have h := h.1 c7
        refine z_bipush (pc := 56) (v := -11) C dX9_shift_56 (by decide) ?_
        exact hret 58 _ _ (-11 : Int32) gt rfl h dX9_shift_58
      · have h := h.2 c7
        refine z_aload (pc := 46) C 0 dX9_shift_46 rfl ?_
        refine z_get (pc := 48) C uw6 8 rfl rfl 0 (by decide) wq777 rfl dX9_shift_48 ?_
        refine z_bipush (pc := 51) (v := -5) C dX9_shift_51 (by decide) ?_
        refine z_icmp_ne (pc := 53) (tgt := 59) C dX9_shift_53 (by decide) (fun c8 => ?_) (fun c8 => ?_)
        · have h := h.1 c8
          refine z_aload (pc := 59) C 1 dX9_shift_59 rfl ?_
          refine z_get (pc := 61) C uw6 10 rfl rfl 0 (by decide) wq777 rfl dX9_shift_61 ?_
          refine z_aload (pc := 64) C 0 dX9_shift_64 rfl ?_
          refine z_get (pc := 66) C uw6 8 rfl rfl 0 (by decide) wq777 rfl dX9_shift_66 ?_
          refine z_icmp_eq (pc := 69) (tgt := 75) C dX9_shift_69 (by decide) (fun c9 => ?_) (fun c9 => ?_)
          · have h := h.1 c9
            refine z_aload (pc := 75) C 1 dX9_shift_75 rfl ?_
            refine z_iload_n (pc := 77) C 4 dX9_shift_77 rfl ?_
            refine z_iload (pc := 78) C 7 dX9_shift_78 rfl ?_
            refine z_callRi (pc := 80) C (z_runV (pc := 80) (wc := (wX6 cJ (dt 4) (vt 4) (gt 4))) (As := [.int x2, .int x5]) C (fun sz => kX6_hasPlaces (dt 4) (vt 4) (gt 4) x2 x5 sz h) [10, 11] rfl (by decide) (gdV wq414 wq805 wq806 wq807 wq546) rfl rfl rfl hdX6_hasPlaces 10 rfl rfl rfl ⟨Nat.le_of_ble_eq_true rfl, Nat.le_of_ble_eq_true rfl⟩ rfl (Nat.le_of_ble_eq_true rfl) ⟨Nat.zero_le _, Nat.zero_le _⟩ dX9_shift_80) [10, 11] rfl (by decide) (fun r10 u10 h => ?_)
            refine z_if_eq (pc := 83) (tgt := 98) C dX9_shift_83 (by decide) (fun c11 => ?_) (fun c11 => ?_)
            · have h := h.1 c11
              refine z_bipush (pc := 98) (v := -13) C dX9_shift_98 (by decide) ?_
              exact hret 100 _ _ (-13 : Int32) gt rfl h dX9_shift_100
            · have h := h.2 c11
              refine z_aload (pc := 86) C 0 dX9_shift_86 rfl ?_
              refine z_iload (pc := 88) C 6 dX9_shift_88 rfl ?_
              refine z_iload (pc := 90) C 7 dX9_shift_90 rfl ?_
              refine z_callRi (pc := 92) C (z_runV (pc := 92) (wc := (wX6 cJ (dt 3) (vt 3) (gt 3))) (As := [.int x4, .int x5]) C (fun sz => kX6_hasPlaces (dt 3) (vt 3) (gt 3) x4 x5 sz h) [8, 9] rfl (by decide) (gdV wq414 wq805 wq806 wq807 wq546) rfl rfl rfl hdX6_hasPlaces 8 rfl rfl rfl ⟨Nat.le_of_ble_eq_true rfl, Nat.le_of_ble_eq_true rfl⟩ rfl (Nat.le_of_ble_eq_true rfl) ⟨Nat.zero_le _, Nat.zero_le _⟩ dX9_shift_92) [8, 9] rfl (by decide) (fun r12 u12 h => ?_)
              refine z_if_ne (pc := 95) (tgt := 101) C dX9_shift_95 (by decide) (fun c13 => ?_) (fun c13 => ?_)
              · have h := h.1 c13
                refine z_aload (pc := 101) C 1 dX9_shift_101 rfl ?_
                refine z_get (pc := 103) C uw6 10 rfl rfl 2 (by decide) wq778 rfl dX9_shift_103 ?_
                refine z_iload_n (pc := 106) C 4 dX9_shift_106 rfl ?_
                refine z_aload (pc := 107) C 0 dX9_shift_107 rfl ?_
                refine z_get (pc := 109) C uw6 8 rfl rfl 2 (by decide) wq778 rfl dX9_shift_109 ?_
                refine z_iload (pc := 112) C 6 dX9_shift_112 rfl ?_
                refine z_iload (pc := 114) C 7 dX9_shift_114 rfl ?_
                obtain ⟨g14, h⟩ := h
                refine z_copyl (pc := 116) (ws' := ((wX9 d (dN 0) (dI 0) (dT 0) (dNc 0) (dNcj 0) (dNcs 0) (dNcp 0) (dNw 0) (dx 0) dtt v) ++ (wTT cJ cT dtt dt vt (va_up gt 3 (sb (gt 3) 1 (va_cpy ((gt 4) 1) ((gt 3) 1) x2.toNatClampNeg x4.toNatClampNeg x5.toNatClampNeg)))))) C wq804 wq65 wq66 wq67 11 9 1 rfl rfl rfl g14 (Nat.le_of_ble_eq_true rfl) (Nat.le_of_ble_eq_true rfl) dX9_shift_116 (set_r (k := 1) (i := 8) rfl sTT_c3) ?_
                refine z_iload (pc := 119) C 7 dX9_shift_119 rfl ?_
                exact hret 121 _ _ x5 (va_up gt 3 (sb (gt 3) 1 (va_cpy ((gt 4) 1) ((gt 3) 1) x2.toNatClampNeg x4.toNatClampNeg x5.toNatClampNeg))) rfl h dX9_shift_121
              · have h := h.2 c13
                refine z_bipush (pc := 98) (v := -13) C dX9_shift_98 (by decide) ?_
                exact hret 100 _ _ (-13 : Int32) gt rfl h dX9_shift_100
          · have h := h.2 c9
            refine z_bipush (pc := 72) (v := -12) C dX9_shift_72 (by decide) ?_
            exact hret 74 _ _ (-12 : Int32) gt rfl h dX9_shift_74
        · have h := h.2 c8
          refine z_bipush (pc := 56) (v := -11) C dX9_shift_56 (by decide) ?_
          exact hret 58 _ _ (-11 : Int32) gt rfl h dX9_shift_58
    · have h := h.2 c4
      refine z_iconst (pc := 18) (v := -1) C dX9_shift_18 (by decide) ?_
      exact hret 19 _ _ (-1 : Int32) gt rfl h dX9_shift_19

set_option maxHeartbeats 4000000 in
set_option maxRecDepth 100000 in
theorem kX9_shift_4_4 {l : Launch} {D : va_G} {cI cJ cT : ClassId} (d : Nat → Nat) (dN : Nat → Nat) (dI : Nat → Nat) (dT : Nat → Nat) (dNc : Nat → Nat) (dNcj : Nat → Nat) (dNcs : Nat → Nat) (dNcp : Nat → Nat) (dNw : Nat → Nat) (dx : Nat → Nat) (dtt : Nat) (dt : Nat → Nat → Nat)  (v : Lf) (vt : Nat → Lf) (gt : Nat → Lg) (x2 : Int32) (x4 : Int32) (x5 : Int32) {Q : Int32 → (Nat → Lg) → Prop} (sz : Nat) (h : pX9_shift vt gt (nI 4) x2 (nI 4) x4 x5 Q) : Met l yX9_shift wdX9_shift rmX9_shift (Pz D (tyL cI cJ cT) [.ref (d 0), .int (nI 4), .int x2, .int (nI 4), .int x4, .int x5] ((wX9 d (dN 0) (dI 0) (dT 0) (dNc 0) (dNcj 0) (dNcs 0) (dNcp 0) (dNw 0) (dx 0) dtt v) ++ (wTT cJ cT dtt dt vt gt)) sz) (va_Qi (fun (r : Int32) (u : (Nat → Lg)) => Q r u) (Bz D (tyL cI cJ cT) ((wX9 d (dN 0) (dI 0) (dT 0) (dNc 0) (dNcj 0) (dNcs 0) (dNcp 0) (dNw 0) (dx 0) dtt v) ++ (wTT cJ cT dtt dt vt gt)) sz (fun (u : (Nat → Lg)) => ((wX9 d (dN 0) (dI 0) (dT 0) (dNc 0) (dNcj 0) (dNcs 0) (dNcp 0) (dNw 0) (dx 0) dtt v) ++ (wTT cJ cT dtt dt vt u)))) (va_A ((wX9 d (dN 0) (dI 0) (dT 0) (dNc 0) (dNcj 0) (dNcs 0) (dNcp 0) (dNw 0) (dx 0) dtt v) ++ (wTT cJ cT dtt dt vt gt)) sz)) 0 0 (va_A ((wX9 d (dN 0) (dI 0) (dT 0) (dNc 0) (dNcj 0) (dNcs 0) (dNcp 0) (dNw 0) (dx 0) dtt v) ++ (wTT cJ cT dtt dt vt gt)) sz) := by
  refine z_meti (cc := cX9_shift) (maxL := 8) (own := RX9) (lv0 := [(0, .ref (d 0)), (1, .int (nI 4)), (2, .int x2), (3, .int (nI 4)), (4, .int x4), (5, .int x5)]) (by decide) rfl rfl (Nat.le_of_ble_eq_true rfl) rfl ?_
  intro p e s m args below meth c A QQ C hin hret
  refine z_iload_n (pc := 0) C 1 dX9_shift_0 rfl ?_
  refine z_iconst (pc := 1) (v := 0) C dX9_shift_1 (by decide) ?_
  refine z_iconst (pc := 2) (v := 5) C dX9_shift_2 (by decide) ?_
  refine z_call0i (pc := 3) C (z_runS (pc := 3) (wc := ([] : va_W)) (As := [.int (nI 4), .int (0 : Int32), .int (5 : Int32)]) C (fun sz => kX9_within (nI 4) (0 : Int32) (5 : Int32) sz h) [] rfl (by decide) (gdS wq366 wq553 wq373 wq112) rfl rfl rfl hdSX9_within ⟨Nat.le_of_ble_eq_true rfl, Nat.le_of_ble_eq_true rfl⟩ rfl (Nat.le_of_ble_eq_true rfl) ⟨Nat.zero_le _, Nat.zero_le _⟩ dX9_shift_3) (fun r1 u1 h => ?_)
  refine z_if_eq (pc := 6) (tgt := 18) C dX9_shift_6 (by decide) (fun c2 => ?_) (fun c2 => ?_)
  · have h := h.1 c2
    refine z_iconst (pc := 18) (v := -1) C dX9_shift_18 (by decide) ?_
    exact hret 19 _ _ (-1 : Int32) gt rfl h dX9_shift_19
  · have h := h.2 c2
    refine z_iload_n (pc := 9) C 3 dX9_shift_9 rfl ?_
    refine z_iconst (pc := 10) (v := 0) C dX9_shift_10 (by decide) ?_
    refine z_iconst (pc := 11) (v := 5) C dX9_shift_11 (by decide) ?_
    refine z_call0i (pc := 12) C (z_runS (pc := 12) (wc := ([] : va_W)) (As := [.int (nI 4), .int (0 : Int32), .int (5 : Int32)]) C (fun sz => kX9_within (nI 4) (0 : Int32) (5 : Int32) sz h) [] rfl (by decide) (gdS wq366 wq553 wq373 wq112) rfl rfl rfl hdSX9_within ⟨Nat.le_of_ble_eq_true rfl, Nat.le_of_ble_eq_true rfl⟩ rfl (Nat.le_of_ble_eq_true rfl) ⟨Nat.zero_le _, Nat.zero_le _⟩ dX9_shift_12) (fun r3 u3 h => ?_)
    refine z_if_ne (pc := 15) (tgt := 20) C dX9_shift_15 (by decide) (fun c4 => ?_) (fun c4 => ?_)
    · have h := h.1 c4
      refine z_aload_n (pc := 20) C 0 dX9_shift_20 rfl ?_
      refine z_get (pc := 21) C uw9 0 rfl rfl 9 (by decide) wq544 rfl dX9_shift_21 ?_
      refine z_iload_n (pc := 24) C 1 dX9_shift_24 rfl ?_
      obtain ⟨g5, h⟩ := h
      refine z_aldq (pc := 25) C 1 2 rfl rfl g5 (.ref (dt 4 0)) rfl dX9_shift_25 ?_
      refine z_astore (pc := 26) (lv' := [(6, .ref (dt 4 0)), (0, .ref (d 0)), (1, .int (nI 4)), (2, .int x2), (3, .int (nI 4)), (4, .int x4), (5, .int x5)]) C dX9_shift_26 (by decide) rfl ?_
      refine z_aload_n (pc := 28) C 1 dX9_shift_28 rfl ?_
      refine z_get (pc := 29) C uw9 0 rfl rfl 9 (by decide) wq544 rfl dX9_shift_29 ?_
      refine z_iload_n (pc := 32) C 4 dX9_shift_32 rfl ?_
      obtain ⟨g6, h⟩ := h
      refine z_aldq (pc := 33) C 1 2 rfl rfl g6 (.ref (dt 4 0)) rfl dX9_shift_33 ?_
      refine z_astore (pc := 34) (lv' := [(7, .ref (dt 4 0)), (6, .ref (dt 4 0)), (0, .ref (d 0)), (1, .int (nI 4)), (2, .int x2), (3, .int (nI 4)), (4, .int x4), (5, .int x5)]) C dX9_shift_34 (by decide) rfl ?_
      refine z_aload (pc := 36) C 1 dX9_shift_36 rfl ?_
      refine z_get (pc := 38) C uw6 10 rfl rfl 0 (by decide) wq777 rfl dX9_shift_38 ?_
      refine z_bipush (pc := 41) (v := -5) C dX9_shift_41 (by decide) ?_
      refine z_icmp_eq (pc := 43) (tgt := 56) C dX9_shift_43 (by decide) (fun c7 => ?_) (fun c7 => ?_)
      · have h := h.1 c7
        refine z_bipush (pc := 56) (v := -11) C dX9_shift_56 (by decide) ?_
        exact hret 58 _ _ (-11 : Int32) gt rfl h dX9_shift_58
      · have h := h.2 c7
        refine z_aload (pc := 46) C 0 dX9_shift_46 rfl ?_
        refine z_get (pc := 48) C uw6 10 rfl rfl 0 (by decide) wq777 rfl dX9_shift_48 ?_
        refine z_bipush (pc := 51) (v := -5) C dX9_shift_51 (by decide) ?_
        refine z_icmp_ne (pc := 53) (tgt := 59) C dX9_shift_53 (by decide) (fun c8 => ?_) (fun c8 => ?_)
        · have h := h.1 c8
          refine z_aload (pc := 59) C 1 dX9_shift_59 rfl ?_
          refine z_get (pc := 61) C uw6 10 rfl rfl 0 (by decide) wq777 rfl dX9_shift_61 ?_
          refine z_aload (pc := 64) C 0 dX9_shift_64 rfl ?_
          refine z_get (pc := 66) C uw6 10 rfl rfl 0 (by decide) wq777 rfl dX9_shift_66 ?_
          refine z_icmp_eq (pc := 69) (tgt := 75) C dX9_shift_69 (by decide) (fun c9 => ?_) (fun c9 => ?_)
          · have h := h.1 c9
            refine z_aload (pc := 75) C 1 dX9_shift_75 rfl ?_
            refine z_iload_n (pc := 77) C 4 dX9_shift_77 rfl ?_
            refine z_iload (pc := 78) C 7 dX9_shift_78 rfl ?_
            refine z_callRi (pc := 80) C (z_runV (pc := 80) (wc := (wX6 cJ (dt 4) (vt 4) (gt 4))) (As := [.int x2, .int x5]) C (fun sz => kX6_hasPlaces (dt 4) (vt 4) (gt 4) x2 x5 sz h) [10, 11] rfl (by decide) (gdV wq414 wq805 wq806 wq807 wq546) rfl rfl rfl hdX6_hasPlaces 10 rfl rfl rfl ⟨Nat.le_of_ble_eq_true rfl, Nat.le_of_ble_eq_true rfl⟩ rfl (Nat.le_of_ble_eq_true rfl) ⟨Nat.zero_le _, Nat.zero_le _⟩ dX9_shift_80) [10, 11] rfl (by decide) (fun r10 u10 h => ?_)
            refine z_if_eq (pc := 83) (tgt := 98) C dX9_shift_83 (by decide) (fun c11 => ?_) (fun c11 => ?_)
            · have h := h.1 c11
              refine z_bipush (pc := 98) (v := -13) C dX9_shift_98 (by decide) ?_
              exact hret 100 _ _ (-13 : Int32) gt rfl h dX9_shift_100
            · have h := h.2 c11
              refine z_aload (pc := 86) C 0 dX9_shift_86 rfl ?_
              refine z_iload (pc := 88) C 6 dX9_shift_88 rfl ?_
              refine z_iload (pc := 90) C 7 dX9_shift_90 rfl ?_
              refine z_callRi (pc := 92) C (z_runV (pc := 92) (wc := (wX6 cJ (dt 4) (vt 4) (gt 4))) (As := [.int x4, .int x5]) C (fun sz => kX6_hasPlaces (dt 4) (vt 4) (gt 4) x4 x5 sz h) [10, 11] rfl (by decide) (gdV wq414 wq805 wq806 wq807 wq546) rfl rfl rfl hdX6_hasPlaces 10 rfl rfl rfl ⟨Nat.le_of_ble_eq_true rfl, Nat.le_of_ble_eq_true rfl⟩ rfl (Nat.le_of_ble_eq_true rfl) ⟨Nat.zero_le _, Nat.zero_le _⟩ dX9_shift_92) [10, 11] rfl (by decide) (fun r12 u12 h => ?_)
              refine z_if_ne (pc := 95) (tgt := 101) C dX9_shift_95 (by decide) (fun c13 => ?_) (fun c13 => ?_)
              · have h := h.1 c13
                refine z_aload (pc := 101) C 1 dX9_shift_101 rfl ?_
                refine z_get (pc := 103) C uw6 10 rfl rfl 2 (by decide) wq778 rfl dX9_shift_103 ?_
                refine z_iload_n (pc := 106) C 4 dX9_shift_106 rfl ?_
                refine z_aload (pc := 107) C 0 dX9_shift_107 rfl ?_
                refine z_get (pc := 109) C uw6 10 rfl rfl 2 (by decide) wq778 rfl dX9_shift_109 ?_
                refine z_iload (pc := 112) C 6 dX9_shift_112 rfl ?_
                refine z_iload (pc := 114) C 7 dX9_shift_114 rfl ?_
                obtain ⟨g14, h⟩ := h
                refine z_copyl (pc := 116) (ws' := ((wX9 d (dN 0) (dI 0) (dT 0) (dNc 0) (dNcj 0) (dNcs 0) (dNcp 0) (dNw 0) (dx 0) dtt v) ++ (wTT cJ cT dtt dt vt (va_up gt 4 (sb (gt 4) 1 (va_cpy ((gt 4) 1) ((gt 4) 1) x2.toNatClampNeg x4.toNatClampNeg x5.toNatClampNeg)))))) C wq804 wq65 wq66 wq67 11 11 1 rfl rfl rfl g14 (Nat.le_of_ble_eq_true rfl) (Nat.le_of_ble_eq_true rfl) dX9_shift_116 (set_r (k := 1) (i := 10) rfl sTT_c4) ?_
                refine z_iload (pc := 119) C 7 dX9_shift_119 rfl ?_
                exact hret 121 _ _ x5 (va_up gt 4 (sb (gt 4) 1 (va_cpy ((gt 4) 1) ((gt 4) 1) x2.toNatClampNeg x4.toNatClampNeg x5.toNatClampNeg))) rfl h dX9_shift_121
              · have h := h.2 c13
                refine z_bipush (pc := 98) (v := -13) C dX9_shift_98 (by decide) ?_
                exact hret 100 _ _ (-13 : Int32) gt rfl h dX9_shift_100
          · have h := h.2 c9
            refine z_bipush (pc := 72) (v := -12) C dX9_shift_72 (by decide) ?_
            exact hret 74 _ _ (-12 : Int32) gt rfl h dX9_shift_74
        · have h := h.2 c8
          refine z_bipush (pc := 56) (v := -11) C dX9_shift_56 (by decide) ?_
          exact hret 58 _ _ (-11 : Int32) gt rfl h dX9_shift_58
    · have h := h.2 c4
      refine z_iconst (pc := 18) (v := -1) C dX9_shift_18 (by decide) ?_
      exact hret 19 _ _ (-1 : Int32) gt rfl h dX9_shift_19

set_option maxHeartbeats 4000000 in
set_option maxRecDepth 100000 in
theorem kX9_shift_4_5 {l : Launch} {D : va_G} {cI cJ cT : ClassId} (d : Nat → Nat) (dN : Nat → Nat) (dI : Nat → Nat) (dT : Nat → Nat) (dNc : Nat → Nat) (dNcj : Nat → Nat) (dNcs : Nat → Nat) (dNcp : Nat → Nat) (dNw : Nat → Nat) (dx : Nat → Nat) (dtt : Nat) (dt : Nat → Nat → Nat)  (v : Lf) (vt : Nat → Lf) (gt : Nat → Lg) (x2 : Int32) (x4 : Int32) (x5 : Int32) {Q : Int32 → (Nat → Lg) → Prop} (sz : Nat) (h : pX9_shift vt gt (nI 4) x2 (nI 5) x4 x5 Q) : Met l yX9_shift wdX9_shift rmX9_shift (Pz D (tyL cI cJ cT) [.ref (d 0), .int (nI 4), .int x2, .int (nI 5), .int x4, .int x5] ((wX9 d (dN 0) (dI 0) (dT 0) (dNc 0) (dNcj 0) (dNcs 0) (dNcp 0) (dNw 0) (dx 0) dtt v) ++ (wTT cJ cT dtt dt vt gt)) sz) (va_Qi (fun (r : Int32) (u : (Nat → Lg)) => Q r u) (Bz D (tyL cI cJ cT) ((wX9 d (dN 0) (dI 0) (dT 0) (dNc 0) (dNcj 0) (dNcs 0) (dNcp 0) (dNw 0) (dx 0) dtt v) ++ (wTT cJ cT dtt dt vt gt)) sz (fun (u : (Nat → Lg)) => ((wX9 d (dN 0) (dI 0) (dT 0) (dNc 0) (dNcj 0) (dNcs 0) (dNcp 0) (dNw 0) (dx 0) dtt v) ++ (wTT cJ cT dtt dt vt u)))) (va_A ((wX9 d (dN 0) (dI 0) (dT 0) (dNc 0) (dNcj 0) (dNcs 0) (dNcp 0) (dNw 0) (dx 0) dtt v) ++ (wTT cJ cT dtt dt vt gt)) sz)) 0 0 (va_A ((wX9 d (dN 0) (dI 0) (dT 0) (dNc 0) (dNcj 0) (dNcs 0) (dNcp 0) (dNw 0) (dx 0) dtt v) ++ (wTT cJ cT dtt dt vt gt)) sz) := by
  refine z_meti (cc := cX9_shift) (maxL := 8) (own := RX9) (lv0 := [(0, .ref (d 0)), (1, .int (nI 4)), (2, .int x2), (3, .int (nI 5)), (4, .int x4), (5, .int x5)]) (by decide) rfl rfl (Nat.le_of_ble_eq_true rfl) rfl ?_
  intro p e s m args below meth c A QQ C hin hret
  refine z_iload_n (pc := 0) C 1 dX9_shift_0 rfl ?_
  refine z_iconst (pc := 1) (v := 0) C dX9_shift_1 (by decide) ?_
  refine z_iconst (pc := 2) (v := 5) C dX9_shift_2 (by decide) ?_
  refine z_call0i (pc := 3) C (z_runS (pc := 3) (wc := ([] : va_W)) (As := [.int (nI 4), .int (0 : Int32), .int (5 : Int32)]) C (fun sz => kX9_within (nI 4) (0 : Int32) (5 : Int32) sz h) [] rfl (by decide) (gdS wq366 wq553 wq373 wq112) rfl rfl rfl hdSX9_within ⟨Nat.le_of_ble_eq_true rfl, Nat.le_of_ble_eq_true rfl⟩ rfl (Nat.le_of_ble_eq_true rfl) ⟨Nat.zero_le _, Nat.zero_le _⟩ dX9_shift_3) (fun r1 u1 h => ?_)
  refine z_if_eq (pc := 6) (tgt := 18) C dX9_shift_6 (by decide) (fun c2 => ?_) (fun c2 => ?_)
  · have h := h.1 c2
    refine z_iconst (pc := 18) (v := -1) C dX9_shift_18 (by decide) ?_
    exact hret 19 _ _ (-1 : Int32) gt rfl h dX9_shift_19
  · have h := h.2 c2
    refine z_iload_n (pc := 9) C 3 dX9_shift_9 rfl ?_
    refine z_iconst (pc := 10) (v := 0) C dX9_shift_10 (by decide) ?_
    refine z_iconst (pc := 11) (v := 5) C dX9_shift_11 (by decide) ?_
    refine z_call0i (pc := 12) C (z_runS (pc := 12) (wc := ([] : va_W)) (As := [.int (nI 5), .int (0 : Int32), .int (5 : Int32)]) C (fun sz => kX9_within (nI 5) (0 : Int32) (5 : Int32) sz h) [] rfl (by decide) (gdS wq366 wq553 wq373 wq112) rfl rfl rfl hdSX9_within ⟨Nat.le_of_ble_eq_true rfl, Nat.le_of_ble_eq_true rfl⟩ rfl (Nat.le_of_ble_eq_true rfl) ⟨Nat.zero_le _, Nat.zero_le _⟩ dX9_shift_12) (fun r3 u3 h => ?_)
    refine z_if_ne (pc := 15) (tgt := 20) C dX9_shift_15 (by decide) (fun c4 => ?_) (fun c4 => ?_)
    · have h := h.1 c4
      refine z_aload_n (pc := 20) C 0 dX9_shift_20 rfl ?_
      refine z_get (pc := 21) C uw9 0 rfl rfl 9 (by decide) wq544 rfl dX9_shift_21 ?_
      refine z_iload_n (pc := 24) C 1 dX9_shift_24 rfl ?_
      obtain ⟨g5, h⟩ := h
      refine z_aldq (pc := 25) C 1 2 rfl rfl g5 (.ref (dt 4 0)) rfl dX9_shift_25 ?_
      refine z_astore (pc := 26) (lv' := [(6, .ref (dt 4 0)), (0, .ref (d 0)), (1, .int (nI 4)), (2, .int x2), (3, .int (nI 5)), (4, .int x4), (5, .int x5)]) C dX9_shift_26 (by decide) rfl ?_
      refine z_aload_n (pc := 28) C 1 dX9_shift_28 rfl ?_
      refine z_get (pc := 29) C uw9 0 rfl rfl 9 (by decide) wq544 rfl dX9_shift_29 ?_
      refine z_iload_n (pc := 32) C 4 dX9_shift_32 rfl ?_
      obtain ⟨g6, h⟩ := h
      refine z_aldq (pc := 33) C 1 2 rfl rfl g6 (.ref (dt 5 0)) rfl dX9_shift_33 ?_
      refine z_astore (pc := 34) (lv' := [(7, .ref (dt 5 0)), (6, .ref (dt 4 0)), (0, .ref (d 0)), (1, .int (nI 4)), (2, .int x2), (3, .int (nI 5)), (4, .int x4), (5, .int x5)]) C dX9_shift_34 (by decide) rfl ?_
      refine z_aload (pc := 36) C 1 dX9_shift_36 rfl ?_
      refine z_get (pc := 38) C uw6 10 rfl rfl 0 (by decide) wq777 rfl dX9_shift_38 ?_
      refine z_bipush (pc := 41) (v := -5) C dX9_shift_41 (by decide) ?_
      refine z_icmp_eq (pc := 43) (tgt := 56) C dX9_shift_43 (by decide) (fun c7 => ?_) (fun c7 => ?_)
      · have h := h.1 c7
        refine z_bipush (pc := 56) (v := -11) C dX9_shift_56 (by decide) ?_
        exact hret 58 _ _ (-11 : Int32) gt rfl h dX9_shift_58
      · have h := h.2 c7
        refine z_aload (pc := 46) C 0 dX9_shift_46 rfl ?_
        refine z_get (pc := 48) C uw6 12 rfl rfl 0 (by decide) wq777 rfl dX9_shift_48 ?_
        refine z_bipush (pc := 51) (v := -5) C dX9_shift_51 (by decide) ?_
        refine z_icmp_ne (pc := 53) (tgt := 59) C dX9_shift_53 (by decide) (fun c8 => ?_) (fun c8 => ?_)
        · have h := h.1 c8
          refine z_aload (pc := 59) C 1 dX9_shift_59 rfl ?_
          refine z_get (pc := 61) C uw6 10 rfl rfl 0 (by decide) wq777 rfl dX9_shift_61 ?_
          refine z_aload (pc := 64) C 0 dX9_shift_64 rfl ?_
          refine z_get (pc := 66) C uw6 12 rfl rfl 0 (by decide) wq777 rfl dX9_shift_66 ?_
          refine z_icmp_eq (pc := 69) (tgt := 75) C dX9_shift_69 (by decide) (fun c9 => ?_) (fun c9 => ?_)
          · have h := h.1 c9
            refine z_aload (pc := 75) C 1 dX9_shift_75 rfl ?_
            refine z_iload_n (pc := 77) C 4 dX9_shift_77 rfl ?_
            refine z_iload (pc := 78) C 7 dX9_shift_78 rfl ?_
            refine z_callRi (pc := 80) C (z_runV (pc := 80) (wc := (wX6 cJ (dt 4) (vt 4) (gt 4))) (As := [.int x2, .int x5]) C (fun sz => kX6_hasPlaces (dt 4) (vt 4) (gt 4) x2 x5 sz h) [10, 11] rfl (by decide) (gdV wq414 wq805 wq806 wq807 wq546) rfl rfl rfl hdX6_hasPlaces 10 rfl rfl rfl ⟨Nat.le_of_ble_eq_true rfl, Nat.le_of_ble_eq_true rfl⟩ rfl (Nat.le_of_ble_eq_true rfl) ⟨Nat.zero_le _, Nat.zero_le _⟩ dX9_shift_80) [10, 11] rfl (by decide) (fun r10 u10 h => ?_)
            refine z_if_eq (pc := 83) (tgt := 98) C dX9_shift_83 (by decide) (fun c11 => ?_) (fun c11 => ?_)
            · have h := h.1 c11
              refine z_bipush (pc := 98) (v := -13) C dX9_shift_98 (by decide) ?_
              exact hret 100 _ _ (-13 : Int32) gt rfl h dX9_shift_100
            · have h := h.2 c11
              refine z_aload (pc := 86) C 0 dX9_shift_86 rfl ?_
              refine z_iload (pc := 88) C 6 dX9_shift_88 rfl ?_
              refine z_iload (pc := 90) C 7 dX9_shift_90 rfl ?_
              refine z_callRi (pc := 92) C (z_runV (pc := 92) (wc := (wX6 cJ (dt 5) (vt 5) (gt 5))) (As := [.int x4, .int x5]) C (fun sz => kX6_hasPlaces (dt 5) (vt 5) (gt 5) x4 x5 sz h) [12, 13] rfl (by decide) (gdV wq414 wq805 wq806 wq807 wq546) rfl rfl rfl hdX6_hasPlaces 12 rfl rfl rfl ⟨Nat.le_of_ble_eq_true rfl, Nat.le_of_ble_eq_true rfl⟩ rfl (Nat.le_of_ble_eq_true rfl) ⟨Nat.zero_le _, Nat.zero_le _⟩ dX9_shift_92) [12, 13] rfl (by decide) (fun r12 u12 h => ?_)
              refine z_if_ne (pc := 95) (tgt := 101) C dX9_shift_95 (by decide) (fun c13 => ?_) (fun c13 => ?_)
              · have h := h.1 c13
                refine z_aload (pc := 101) C 1 dX9_shift_101 rfl ?_
                refine z_get (pc := 103) C uw6 10 rfl rfl 2 (by decide) wq778 rfl dX9_shift_103 ?_
                refine z_iload_n (pc := 106) C 4 dX9_shift_106 rfl ?_
                refine z_aload (pc := 107) C 0 dX9_shift_107 rfl ?_
                refine z_get (pc := 109) C uw6 12 rfl rfl 2 (by decide) wq778 rfl dX9_shift_109 ?_
                refine z_iload (pc := 112) C 6 dX9_shift_112 rfl ?_
                refine z_iload (pc := 114) C 7 dX9_shift_114 rfl ?_
                obtain ⟨g14, h⟩ := h
                refine z_copyl (pc := 116) (ws' := ((wX9 d (dN 0) (dI 0) (dT 0) (dNc 0) (dNcj 0) (dNcs 0) (dNcp 0) (dNw 0) (dx 0) dtt v) ++ (wTT cJ cT dtt dt vt (va_up gt 5 (sb (gt 5) 1 (va_cpy ((gt 4) 1) ((gt 5) 1) x2.toNatClampNeg x4.toNatClampNeg x5.toNatClampNeg)))))) C wq804 wq65 wq66 wq67 11 13 1 rfl rfl rfl g14 (Nat.le_of_ble_eq_true rfl) (Nat.le_of_ble_eq_true rfl) dX9_shift_116 (set_r (k := 1) (i := 12) rfl sTT_c5) ?_
                refine z_iload (pc := 119) C 7 dX9_shift_119 rfl ?_
                exact hret 121 _ _ x5 (va_up gt 5 (sb (gt 5) 1 (va_cpy ((gt 4) 1) ((gt 5) 1) x2.toNatClampNeg x4.toNatClampNeg x5.toNatClampNeg))) rfl h dX9_shift_121
              · have h := h.2 c13
                refine z_bipush (pc := 98) (v := -13) C dX9_shift_98 (by decide) ?_
                exact hret 100 _ _ (-13 : Int32) gt rfl h dX9_shift_100
          · have h := h.2 c9
            refine z_bipush (pc := 72) (v := -12) C dX9_shift_72 (by decide) ?_
            exact hret 74 _ _ (-12 : Int32) gt rfl h dX9_shift_74
        · have h := h.2 c8
          refine z_bipush (pc := 56) (v := -11) C dX9_shift_56 (by decide) ?_
          exact hret 58 _ _ (-11 : Int32) gt rfl h dX9_shift_58
    · have h := h.2 c4
      refine z_iconst (pc := 18) (v := -1) C dX9_shift_18 (by decide) ?_
      exact hret 19 _ _ (-1 : Int32) gt rfl h dX9_shift_19

set_option maxHeartbeats 4000000 in
set_option maxRecDepth 100000 in
theorem kX9_shift_4_n {l : Launch} {D : va_G} {cI cJ cT : ClassId} (d : Nat → Nat) (dN : Nat → Nat) (dI : Nat → Nat) (dT : Nat → Nat) (dNc : Nat → Nat) (dNcj : Nat → Nat) (dNcs : Nat → Nat) (dNcp : Nat → Nat) (dNw : Nat → Nat) (dx : Nat → Nat) (dtt : Nat) (dt : Nat → Nat → Nat)  (v : Lf) (vt : Nat → Lf) (gt : Nat → Lg) (x2 : Int32) (x3 : Int32) (x4 : Int32) (x5 : Int32) (g2 : ¬ vp_in x3 6) {Q : Int32 → (Nat → Lg) → Prop} (sz : Nat) (h : pX9_shift vt gt (nI 4) x2 x3 x4 x5 Q) : Met l yX9_shift wdX9_shift rmX9_shift (Pz D (tyL cI cJ cT) [.ref (d 0), .int (nI 4), .int x2, .int x3, .int x4, .int x5] ((wX9 d (dN 0) (dI 0) (dT 0) (dNc 0) (dNcj 0) (dNcs 0) (dNcp 0) (dNw 0) (dx 0) dtt v) ++ (wTT cJ cT dtt dt vt gt)) sz) (va_Qi (fun (r : Int32) (u : (Nat → Lg)) => Q r u) (Bz D (tyL cI cJ cT) ((wX9 d (dN 0) (dI 0) (dT 0) (dNc 0) (dNcj 0) (dNcs 0) (dNcp 0) (dNw 0) (dx 0) dtt v) ++ (wTT cJ cT dtt dt vt gt)) sz (fun (u : (Nat → Lg)) => ((wX9 d (dN 0) (dI 0) (dT 0) (dNc 0) (dNcj 0) (dNcs 0) (dNcp 0) (dNw 0) (dx 0) dtt v) ++ (wTT cJ cT dtt dt vt u)))) (va_A ((wX9 d (dN 0) (dI 0) (dT 0) (dNc 0) (dNcj 0) (dNcs 0) (dNcp 0) (dNw 0) (dx 0) dtt v) ++ (wTT cJ cT dtt dt vt gt)) sz)) 0 0 (va_A ((wX9 d (dN 0) (dI 0) (dT 0) (dNc 0) (dNcj 0) (dNcs 0) (dNcp 0) (dNw 0) (dx 0) dtt v) ++ (wTT cJ cT dtt dt vt gt)) sz) := by
  refine z_meti (cc := cX9_shift) (maxL := 8) (own := RX9) (lv0 := [(0, .ref (d 0)), (1, .int (nI 4)), (2, .int x2), (3, .int x3), (4, .int x4), (5, .int x5)]) (by decide) rfl rfl (Nat.le_of_ble_eq_true rfl) rfl ?_
  intro p e s m args below meth c A QQ C hin hret
  refine z_iload_n (pc := 0) C 1 dX9_shift_0 rfl ?_
  refine z_iconst (pc := 1) (v := 0) C dX9_shift_1 (by decide) ?_
  refine z_iconst (pc := 2) (v := 5) C dX9_shift_2 (by decide) ?_
  refine z_call0i (pc := 3) C (z_runS (pc := 3) (wc := ([] : va_W)) (As := [.int (nI 4), .int (0 : Int32), .int (5 : Int32)]) C (fun sz => kX9_within (nI 4) (0 : Int32) (5 : Int32) sz h) [] rfl (by decide) (gdS wq366 wq553 wq373 wq112) rfl rfl rfl hdSX9_within ⟨Nat.le_of_ble_eq_true rfl, Nat.le_of_ble_eq_true rfl⟩ rfl (Nat.le_of_ble_eq_true rfl) ⟨Nat.zero_le _, Nat.zero_le _⟩ dX9_shift_3) (fun r1 u1 h => ?_)
  refine z_if_eq (pc := 6) (tgt := 18) C dX9_shift_6 (by decide) (fun c2 => ?_) (fun c2 => ?_)
  · have h := h.1 c2
    refine z_iconst (pc := 18) (v := -1) C dX9_shift_18 (by decide) ?_
    exact hret 19 _ _ (-1 : Int32) gt rfl h dX9_shift_19
  · have h := h.2 c2
    refine z_iload_n (pc := 9) C 3 dX9_shift_9 rfl ?_
    refine z_iconst (pc := 10) (v := 0) C dX9_shift_10 (by decide) ?_
    refine z_iconst (pc := 11) (v := 5) C dX9_shift_11 (by decide) ?_
    refine z_call0i (pc := 12) C (z_runS (pc := 12) (wc := ([] : va_W)) (As := [.int x3, .int (0 : Int32), .int (5 : Int32)]) C (fun sz => kX9_within x3 (0 : Int32) (5 : Int32) sz h) [] rfl (by decide) (gdS wq366 wq553 wq373 wq112) rfl rfl rfl hdSX9_within ⟨Nat.le_of_ble_eq_true rfl, Nat.le_of_ble_eq_true rfl⟩ rfl (Nat.le_of_ble_eq_true rfl) ⟨Nat.zero_le _, Nat.zero_le _⟩ dX9_shift_12) (fun r3 u3 h => ?_)
    refine z_if_ne (pc := 15) (tgt := 20) C dX9_shift_15 (by decide) (fun c4 => ?_) (fun c4 => ?_)
    · have h := h.1 c4
      refine z_aload_n (pc := 20) C 0 dX9_shift_20 rfl ?_
      refine z_get (pc := 21) C uw9 0 rfl rfl 9 (by decide) wq544 rfl dX9_shift_21 ?_
      refine z_iload_n (pc := 24) C 1 dX9_shift_24 rfl ?_
      obtain ⟨g5, h⟩ := h
      refine z_aldq (pc := 25) C 1 2 rfl rfl g5 (.ref (dt 4 0)) rfl dX9_shift_25 ?_
      refine z_astore (pc := 26) (lv' := [(6, .ref (dt 4 0)), (0, .ref (d 0)), (1, .int (nI 4)), (2, .int x2), (3, .int x3), (4, .int x4), (5, .int x5)]) C dX9_shift_26 (by decide) rfl ?_
      refine z_aload_n (pc := 28) C 1 dX9_shift_28 rfl ?_
      refine z_get (pc := 29) C uw9 0 rfl rfl 9 (by decide) wq544 rfl dX9_shift_29 ?_
      refine z_iload_n (pc := 32) C 4 dX9_shift_32 rfl ?_
      obtain ⟨g6, h⟩ := h
      exact absurd g6 g2
    · have h := h.2 c4
      refine z_iconst (pc := 18) (v := -1) C dX9_shift_18 (by decide) ?_
      exact hret 19 _ _ (-1 : Int32) gt rfl h dX9_shift_19

set_option maxHeartbeats 4000000 in
set_option maxRecDepth 100000 in
theorem kX9_shift_5_0 {l : Launch} {D : va_G} {cI cJ cT : ClassId} (d : Nat → Nat) (dN : Nat → Nat) (dI : Nat → Nat) (dT : Nat → Nat) (dNc : Nat → Nat) (dNcj : Nat → Nat) (dNcs : Nat → Nat) (dNcp : Nat → Nat) (dNw : Nat → Nat) (dx : Nat → Nat) (dtt : Nat) (dt : Nat → Nat → Nat)  (v : Lf) (vt : Nat → Lf) (gt : Nat → Lg) (x2 : Int32) (x4 : Int32) (x5 : Int32) {Q : Int32 → (Nat → Lg) → Prop} (sz : Nat) (h : pX9_shift vt gt (nI 5) x2 (nI 0) x4 x5 Q) : Met l yX9_shift wdX9_shift rmX9_shift (Pz D (tyL cI cJ cT) [.ref (d 0), .int (nI 5), .int x2, .int (nI 0), .int x4, .int x5] ((wX9 d (dN 0) (dI 0) (dT 0) (dNc 0) (dNcj 0) (dNcs 0) (dNcp 0) (dNw 0) (dx 0) dtt v) ++ (wTT cJ cT dtt dt vt gt)) sz) (va_Qi (fun (r : Int32) (u : (Nat → Lg)) => Q r u) (Bz D (tyL cI cJ cT) ((wX9 d (dN 0) (dI 0) (dT 0) (dNc 0) (dNcj 0) (dNcs 0) (dNcp 0) (dNw 0) (dx 0) dtt v) ++ (wTT cJ cT dtt dt vt gt)) sz (fun (u : (Nat → Lg)) => ((wX9 d (dN 0) (dI 0) (dT 0) (dNc 0) (dNcj 0) (dNcs 0) (dNcp 0) (dNw 0) (dx 0) dtt v) ++ (wTT cJ cT dtt dt vt u)))) (va_A ((wX9 d (dN 0) (dI 0) (dT 0) (dNc 0) (dNcj 0) (dNcs 0) (dNcp 0) (dNw 0) (dx 0) dtt v) ++ (wTT cJ cT dtt dt vt gt)) sz)) 0 0 (va_A ((wX9 d (dN 0) (dI 0) (dT 0) (dNc 0) (dNcj 0) (dNcs 0) (dNcp 0) (dNw 0) (dx 0) dtt v) ++ (wTT cJ cT dtt dt vt gt)) sz) := by
  refine z_meti (cc := cX9_shift) (maxL := 8) (own := RX9) (lv0 := [(0, .ref (d 0)), (1, .int (nI 5)), (2, .int x2), (3, .int (nI 0)), (4, .int x4), (5, .int x5)]) (by decide) rfl rfl (Nat.le_of_ble_eq_true rfl) rfl ?_
  intro p e s m args below meth c A QQ C hin hret
  refine z_iload_n (pc := 0) C 1 dX9_shift_0 rfl ?_
  refine z_iconst (pc := 1) (v := 0) C dX9_shift_1 (by decide) ?_
  refine z_iconst (pc := 2) (v := 5) C dX9_shift_2 (by decide) ?_
  refine z_call0i (pc := 3) C (z_runS (pc := 3) (wc := ([] : va_W)) (As := [.int (nI 5), .int (0 : Int32), .int (5 : Int32)]) C (fun sz => kX9_within (nI 5) (0 : Int32) (5 : Int32) sz h) [] rfl (by decide) (gdS wq366 wq553 wq373 wq112) rfl rfl rfl hdSX9_within ⟨Nat.le_of_ble_eq_true rfl, Nat.le_of_ble_eq_true rfl⟩ rfl (Nat.le_of_ble_eq_true rfl) ⟨Nat.zero_le _, Nat.zero_le _⟩ dX9_shift_3) (fun r1 u1 h => ?_)
  refine z_if_eq (pc := 6) (tgt := 18) C dX9_shift_6 (by decide) (fun c2 => ?_) (fun c2 => ?_)
  · have h := h.1 c2
    refine z_iconst (pc := 18) (v := -1) C dX9_shift_18 (by decide) ?_
    exact hret 19 _ _ (-1 : Int32) gt rfl h dX9_shift_19
  · have h := h.2 c2
    refine z_iload_n (pc := 9) C 3 dX9_shift_9 rfl ?_
    refine z_iconst (pc := 10) (v := 0) C dX9_shift_10 (by decide) ?_
    refine z_iconst (pc := 11) (v := 5) C dX9_shift_11 (by decide) ?_
    refine z_call0i (pc := 12) C (z_runS (pc := 12) (wc := ([] : va_W)) (As := [.int (nI 0), .int (0 : Int32), .int (5 : Int32)]) C (fun sz => kX9_within (nI 0) (0 : Int32) (5 : Int32) sz h) [] rfl (by decide) (gdS wq366 wq553 wq373 wq112) rfl rfl rfl hdSX9_within ⟨Nat.le_of_ble_eq_true rfl, Nat.le_of_ble_eq_true rfl⟩ rfl (Nat.le_of_ble_eq_true rfl) ⟨Nat.zero_le _, Nat.zero_le _⟩ dX9_shift_12) (fun r3 u3 h => ?_)
    refine z_if_ne (pc := 15) (tgt := 20) C dX9_shift_15 (by decide) (fun c4 => ?_) (fun c4 => ?_)
    · have h := h.1 c4
      refine z_aload_n (pc := 20) C 0 dX9_shift_20 rfl ?_
      refine z_get (pc := 21) C uw9 0 rfl rfl 9 (by decide) wq544 rfl dX9_shift_21 ?_
      refine z_iload_n (pc := 24) C 1 dX9_shift_24 rfl ?_
      obtain ⟨g5, h⟩ := h
      refine z_aldq (pc := 25) C 1 2 rfl rfl g5 (.ref (dt 5 0)) rfl dX9_shift_25 ?_
      refine z_astore (pc := 26) (lv' := [(6, .ref (dt 5 0)), (0, .ref (d 0)), (1, .int (nI 5)), (2, .int x2), (3, .int (nI 0)), (4, .int x4), (5, .int x5)]) C dX9_shift_26 (by decide) rfl ?_
      refine z_aload_n (pc := 28) C 1 dX9_shift_28 rfl ?_
      refine z_get (pc := 29) C uw9 0 rfl rfl 9 (by decide) wq544 rfl dX9_shift_29 ?_
      refine z_iload_n (pc := 32) C 4 dX9_shift_32 rfl ?_
      obtain ⟨g6, h⟩ := h
      refine z_aldq (pc := 33) C 1 2 rfl rfl g6 (.ref (dt 0 0)) rfl dX9_shift_33 ?_
      refine z_astore (pc := 34) (lv' := [(7, .ref (dt 0 0)), (6, .ref (dt 5 0)), (0, .ref (d 0)), (1, .int (nI 5)), (2, .int x2), (3, .int (nI 0)), (4, .int x4), (5, .int x5)]) C dX9_shift_34 (by decide) rfl ?_
      refine z_aload (pc := 36) C 1 dX9_shift_36 rfl ?_
      refine z_get (pc := 38) C uw6 12 rfl rfl 0 (by decide) wq777 rfl dX9_shift_38 ?_
      refine z_bipush (pc := 41) (v := -5) C dX9_shift_41 (by decide) ?_
      refine z_icmp_eq (pc := 43) (tgt := 56) C dX9_shift_43 (by decide) (fun c7 => ?_) (fun c7 => ?_)
      · have h := h.1 c7
        refine z_bipush (pc := 56) (v := -11) C dX9_shift_56 (by decide) ?_
        exact hret 58 _ _ (-11 : Int32) gt rfl h dX9_shift_58
      · have h := h.2 c7
        refine z_aload (pc := 46) C 0 dX9_shift_46 rfl ?_
        refine z_get (pc := 48) C uw6 2 rfl rfl 0 (by decide) wq777 rfl dX9_shift_48 ?_
        refine z_bipush (pc := 51) (v := -5) C dX9_shift_51 (by decide) ?_
        refine z_icmp_ne (pc := 53) (tgt := 59) C dX9_shift_53 (by decide) (fun c8 => ?_) (fun c8 => ?_)
        · have h := h.1 c8
          refine z_aload (pc := 59) C 1 dX9_shift_59 rfl ?_
          refine z_get (pc := 61) C uw6 12 rfl rfl 0 (by decide) wq777 rfl dX9_shift_61 ?_
          refine z_aload (pc := 64) C 0 dX9_shift_64 rfl ?_
          refine z_get (pc := 66) C uw6 2 rfl rfl 0 (by decide) wq777 rfl dX9_shift_66 ?_
          refine z_icmp_eq (pc := 69) (tgt := 75) C dX9_shift_69 (by decide) (fun c9 => ?_) (fun c9 => ?_)
          · have h := h.1 c9
            refine z_aload (pc := 75) C 1 dX9_shift_75 rfl ?_
            refine z_iload_n (pc := 77) C 4 dX9_shift_77 rfl ?_
            refine z_iload (pc := 78) C 7 dX9_shift_78 rfl ?_
            refine z_callRi (pc := 80) C (z_runV (pc := 80) (wc := (wX6 cJ (dt 5) (vt 5) (gt 5))) (As := [.int x2, .int x5]) C (fun sz => kX6_hasPlaces (dt 5) (vt 5) (gt 5) x2 x5 sz h) [12, 13] rfl (by decide) (gdV wq414 wq805 wq806 wq807 wq546) rfl rfl rfl hdX6_hasPlaces 12 rfl rfl rfl ⟨Nat.le_of_ble_eq_true rfl, Nat.le_of_ble_eq_true rfl⟩ rfl (Nat.le_of_ble_eq_true rfl) ⟨Nat.zero_le _, Nat.zero_le _⟩ dX9_shift_80) [12, 13] rfl (by decide) (fun r10 u10 h => ?_)
            refine z_if_eq (pc := 83) (tgt := 98) C dX9_shift_83 (by decide) (fun c11 => ?_) (fun c11 => ?_)
            · have h := h.1 c11
              refine z_bipush (pc := 98) (v := -13) C dX9_shift_98 (by decide) ?_
              exact hret 100 _ _ (-13 : Int32) gt rfl h dX9_shift_100
            · have h := h.2 c11
              refine z_aload (pc := 86) C 0 dX9_shift_86 rfl ?_
              refine z_iload (pc := 88) C 6 dX9_shift_88 rfl ?_
              refine z_iload (pc := 90) C 7 dX9_shift_90 rfl ?_
              refine z_callRi (pc := 92) C (z_runV (pc := 92) (wc := (wX6 cJ (dt 0) (vt 0) (gt 0))) (As := [.int x4, .int x5]) C (fun sz => kX6_hasPlaces (dt 0) (vt 0) (gt 0) x4 x5 sz h) [2, 3] rfl (by decide) (gdV wq414 wq805 wq806 wq807 wq546) rfl rfl rfl hdX6_hasPlaces 2 rfl rfl rfl ⟨Nat.le_of_ble_eq_true rfl, Nat.le_of_ble_eq_true rfl⟩ rfl (Nat.le_of_ble_eq_true rfl) ⟨Nat.zero_le _, Nat.zero_le _⟩ dX9_shift_92) [2, 3] rfl (by decide) (fun r12 u12 h => ?_)
              refine z_if_ne (pc := 95) (tgt := 101) C dX9_shift_95 (by decide) (fun c13 => ?_) (fun c13 => ?_)
              · have h := h.1 c13
                refine z_aload (pc := 101) C 1 dX9_shift_101 rfl ?_
                refine z_get (pc := 103) C uw6 12 rfl rfl 2 (by decide) wq778 rfl dX9_shift_103 ?_
                refine z_iload_n (pc := 106) C 4 dX9_shift_106 rfl ?_
                refine z_aload (pc := 107) C 0 dX9_shift_107 rfl ?_
                refine z_get (pc := 109) C uw6 2 rfl rfl 2 (by decide) wq778 rfl dX9_shift_109 ?_
                refine z_iload (pc := 112) C 6 dX9_shift_112 rfl ?_
                refine z_iload (pc := 114) C 7 dX9_shift_114 rfl ?_
                obtain ⟨g14, h⟩ := h
                refine z_copyl (pc := 116) (ws' := ((wX9 d (dN 0) (dI 0) (dT 0) (dNc 0) (dNcj 0) (dNcs 0) (dNcp 0) (dNw 0) (dx 0) dtt v) ++ (wTT cJ cT dtt dt vt (va_up gt 0 (sb (gt 0) 1 (va_cpy ((gt 5) 1) ((gt 0) 1) x2.toNatClampNeg x4.toNatClampNeg x5.toNatClampNeg)))))) C wq804 wq65 wq66 wq67 13 3 1 rfl rfl rfl g14 (Nat.le_of_ble_eq_true rfl) (Nat.le_of_ble_eq_true rfl) dX9_shift_116 (set_r (k := 1) (i := 2) rfl sTT_c0) ?_
                refine z_iload (pc := 119) C 7 dX9_shift_119 rfl ?_
                exact hret 121 _ _ x5 (va_up gt 0 (sb (gt 0) 1 (va_cpy ((gt 5) 1) ((gt 0) 1) x2.toNatClampNeg x4.toNatClampNeg x5.toNatClampNeg))) rfl h dX9_shift_121
              · have h := h.2 c13
                refine z_bipush (pc := 98) (v := -13) C dX9_shift_98 (by decide) ?_
                exact hret 100 _ _ (-13 : Int32) gt rfl h dX9_shift_100
          · have h := h.2 c9
            refine z_bipush (pc := 72) (v := -12) C dX9_shift_72 (by decide) ?_
            exact hret 74 _ _ (-12 : Int32) gt rfl h dX9_shift_74
        · have h := h.2 c8
          refine z_bipush (pc := 56) (v := -11) C dX9_shift_56 (by decide) ?_
          exact hret 58 _ _ (-11 : Int32) gt rfl h dX9_shift_58
    · have h := h.2 c4
      refine z_iconst (pc := 18) (v := -1) C dX9_shift_18 (by decide) ?_
      exact hret 19 _ _ (-1 : Int32) gt rfl h dX9_shift_19

set_option maxHeartbeats 4000000 in
set_option maxRecDepth 100000 in
theorem kX9_shift_5_1 {l : Launch} {D : va_G} {cI cJ cT : ClassId} (d : Nat → Nat) (dN : Nat → Nat) (dI : Nat → Nat) (dT : Nat → Nat) (dNc : Nat → Nat) (dNcj : Nat → Nat) (dNcs : Nat → Nat) (dNcp : Nat → Nat) (dNw : Nat → Nat) (dx : Nat → Nat) (dtt : Nat) (dt : Nat → Nat → Nat)  (v : Lf) (vt : Nat → Lf) (gt : Nat → Lg) (x2 : Int32) (x4 : Int32) (x5 : Int32) {Q : Int32 → (Nat → Lg) → Prop} (sz : Nat) (h : pX9_shift vt gt (nI 5) x2 (nI 1) x4 x5 Q) : Met l yX9_shift wdX9_shift rmX9_shift (Pz D (tyL cI cJ cT) [.ref (d 0), .int (nI 5), .int x2, .int (nI 1), .int x4, .int x5] ((wX9 d (dN 0) (dI 0) (dT 0) (dNc 0) (dNcj 0) (dNcs 0) (dNcp 0) (dNw 0) (dx 0) dtt v) ++ (wTT cJ cT dtt dt vt gt)) sz) (va_Qi (fun (r : Int32) (u : (Nat → Lg)) => Q r u) (Bz D (tyL cI cJ cT) ((wX9 d (dN 0) (dI 0) (dT 0) (dNc 0) (dNcj 0) (dNcs 0) (dNcp 0) (dNw 0) (dx 0) dtt v) ++ (wTT cJ cT dtt dt vt gt)) sz (fun (u : (Nat → Lg)) => ((wX9 d (dN 0) (dI 0) (dT 0) (dNc 0) (dNcj 0) (dNcs 0) (dNcp 0) (dNw 0) (dx 0) dtt v) ++ (wTT cJ cT dtt dt vt u)))) (va_A ((wX9 d (dN 0) (dI 0) (dT 0) (dNc 0) (dNcj 0) (dNcs 0) (dNcp 0) (dNw 0) (dx 0) dtt v) ++ (wTT cJ cT dtt dt vt gt)) sz)) 0 0 (va_A ((wX9 d (dN 0) (dI 0) (dT 0) (dNc 0) (dNcj 0) (dNcs 0) (dNcp 0) (dNw 0) (dx 0) dtt v) ++ (wTT cJ cT dtt dt vt gt)) sz) := by
  refine z_meti (cc := cX9_shift) (maxL := 8) (own := RX9) (lv0 := [(0, .ref (d 0)), (1, .int (nI 5)), (2, .int x2), (3, .int (nI 1)), (4, .int x4), (5, .int x5)]) (by decide) rfl rfl (Nat.le_of_ble_eq_true rfl) rfl ?_
  intro p e s m args below meth c A QQ C hin hret
  refine z_iload_n (pc := 0) C 1 dX9_shift_0 rfl ?_
  refine z_iconst (pc := 1) (v := 0) C dX9_shift_1 (by decide) ?_
  refine z_iconst (pc := 2) (v := 5) C dX9_shift_2 (by decide) ?_
  refine z_call0i (pc := 3) C (z_runS (pc := 3) (wc := ([] : va_W)) (As := [.int (nI 5), .int (0 : Int32), .int (5 : Int32)]) C (fun sz => kX9_within (nI 5) (0 : Int32) (5 : Int32) sz h) [] rfl (by decide) (gdS wq366 wq553 wq373 wq112) rfl rfl rfl hdSX9_within ⟨Nat.le_of_ble_eq_true rfl, Nat.le_of_ble_eq_true rfl⟩ rfl (Nat.le_of_ble_eq_true rfl) ⟨Nat.zero_le _, Nat.zero_le _⟩ dX9_shift_3) (fun r1 u1 h => ?_)
  refine z_if_eq (pc := 6) (tgt := 18) C dX9_shift_6 (by decide) (fun c2 => ?_) (fun c2 => ?_)
  · have h := h.1 c2
    refine z_iconst (pc := 18) (v := -1) C dX9_shift_18 (by decide) ?_
    exact hret 19 _ _ (-1 : Int32) gt rfl h dX9_shift_19
  · have h := h.2 c2
    refine z_iload_n (pc := 9) C 3 dX9_shift_9 rfl ?_
    refine z_iconst (pc := 10) (v := 0) C dX9_shift_10 (by decide) ?_
    refine z_iconst (pc := 11) (v := 5) C dX9_shift_11 (by decide) ?_
    refine z_call0i (pc := 12) C (z_runS (pc := 12) (wc := ([] : va_W)) (As := [.int (nI 1), .int (0 : Int32), .int (5 : Int32)]) C (fun sz => kX9_within (nI 1) (0 : Int32) (5 : Int32) sz h) [] rfl (by decide) (gdS wq366 wq553 wq373 wq112) rfl rfl rfl hdSX9_within ⟨Nat.le_of_ble_eq_true rfl, Nat.le_of_ble_eq_true rfl⟩ rfl (Nat.le_of_ble_eq_true rfl) ⟨Nat.zero_le _, Nat.zero_le _⟩ dX9_shift_12) (fun r3 u3 h => ?_)
    refine z_if_ne (pc := 15) (tgt := 20) C dX9_shift_15 (by decide) (fun c4 => ?_) (fun c4 => ?_)
    · have h := h.1 c4
      refine z_aload_n (pc := 20) C 0 dX9_shift_20 rfl ?_
      refine z_get (pc := 21) C uw9 0 rfl rfl 9 (by decide) wq544 rfl dX9_shift_21 ?_
      refine z_iload_n (pc := 24) C 1 dX9_shift_24 rfl ?_
      obtain ⟨g5, h⟩ := h
      refine z_aldq (pc := 25) C 1 2 rfl rfl g5 (.ref (dt 5 0)) rfl dX9_shift_25 ?_
      refine z_astore (pc := 26) (lv' := [(6, .ref (dt 5 0)), (0, .ref (d 0)), (1, .int (nI 5)), (2, .int x2), (3, .int (nI 1)), (4, .int x4), (5, .int x5)]) C dX9_shift_26 (by decide) rfl ?_
      refine z_aload_n (pc := 28) C 1 dX9_shift_28 rfl ?_
      refine z_get (pc := 29) C uw9 0 rfl rfl 9 (by decide) wq544 rfl dX9_shift_29 ?_
      refine z_iload_n (pc := 32) C 4 dX9_shift_32 rfl ?_
      obtain ⟨g6, h⟩ := h
      refine z_aldq (pc := 33) C 1 2 rfl rfl g6 (.ref (dt 1 0)) rfl dX9_shift_33 ?_
      refine z_astore (pc := 34) (lv' := [(7, .ref (dt 1 0)), (6, .ref (dt 5 0)), (0, .ref (d 0)), (1, .int (nI 5)), (2, .int x2), (3, .int (nI 1)), (4, .int x4), (5, .int x5)]) C dX9_shift_34 (by decide) rfl ?_
      refine z_aload (pc := 36) C 1 dX9_shift_36 rfl ?_
      refine z_get (pc := 38) C uw6 12 rfl rfl 0 (by decide) wq777 rfl dX9_shift_38 ?_
      refine z_bipush (pc := 41) (v := -5) C dX9_shift_41 (by decide) ?_
      refine z_icmp_eq (pc := 43) (tgt := 56) C dX9_shift_43 (by decide) (fun c7 => ?_) (fun c7 => ?_)
      · have h := h.1 c7
        refine z_bipush (pc := 56) (v := -11) C dX9_shift_56 (by decide) ?_
        exact hret 58 _ _ (-11 : Int32) gt rfl h dX9_shift_58
      · have h := h.2 c7
        refine z_aload (pc := 46) C 0 dX9_shift_46 rfl ?_
        refine z_get (pc := 48) C uw6 4 rfl rfl 0 (by decide) wq777 rfl dX9_shift_48 ?_
        refine z_bipush (pc := 51) (v := -5) C dX9_shift_51 (by decide) ?_
        refine z_icmp_ne (pc := 53) (tgt := 59) C dX9_shift_53 (by decide) (fun c8 => ?_) (fun c8 => ?_)
        · have h := h.1 c8
          refine z_aload (pc := 59) C 1 dX9_shift_59 rfl ?_
          refine z_get (pc := 61) C uw6 12 rfl rfl 0 (by decide) wq777 rfl dX9_shift_61 ?_
          refine z_aload (pc := 64) C 0 dX9_shift_64 rfl ?_
          refine z_get (pc := 66) C uw6 4 rfl rfl 0 (by decide) wq777 rfl dX9_shift_66 ?_
          refine z_icmp_eq (pc := 69) (tgt := 75) C dX9_shift_69 (by decide) (fun c9 => ?_) (fun c9 => ?_)
          · have h := h.1 c9
            refine z_aload (pc := 75) C 1 dX9_shift_75 rfl ?_
            refine z_iload_n (pc := 77) C 4 dX9_shift_77 rfl ?_
            refine z_iload (pc := 78) C 7 dX9_shift_78 rfl ?_
            refine z_callRi (pc := 80) C (z_runV (pc := 80) (wc := (wX6 cJ (dt 5) (vt 5) (gt 5))) (As := [.int x2, .int x5]) C (fun sz => kX6_hasPlaces (dt 5) (vt 5) (gt 5) x2 x5 sz h) [12, 13] rfl (by decide) (gdV wq414 wq805 wq806 wq807 wq546) rfl rfl rfl hdX6_hasPlaces 12 rfl rfl rfl ⟨Nat.le_of_ble_eq_true rfl, Nat.le_of_ble_eq_true rfl⟩ rfl (Nat.le_of_ble_eq_true rfl) ⟨Nat.zero_le _, Nat.zero_le _⟩ dX9_shift_80) [12, 13] rfl (by decide) (fun r10 u10 h => ?_)
            refine z_if_eq (pc := 83) (tgt := 98) C dX9_shift_83 (by decide) (fun c11 => ?_) (fun c11 => ?_)
            · have h := h.1 c11
              refine z_bipush (pc := 98) (v := -13) C dX9_shift_98 (by decide) ?_
              exact hret 100 _ _ (-13 : Int32) gt rfl h dX9_shift_100
            · have h := h.2 c11
              refine z_aload (pc := 86) C 0 dX9_shift_86 rfl ?_
              refine z_iload (pc := 88) C 6 dX9_shift_88 rfl ?_
              refine z_iload (pc := 90) C 7 dX9_shift_90 rfl ?_
              refine z_callRi (pc := 92) C (z_runV (pc := 92) (wc := (wX6 cJ (dt 1) (vt 1) (gt 1))) (As := [.int x4, .int x5]) C (fun sz => kX6_hasPlaces (dt 1) (vt 1) (gt 1) x4 x5 sz h) [4, 5] rfl (by decide) (gdV wq414 wq805 wq806 wq807 wq546) rfl rfl rfl hdX6_hasPlaces 4 rfl rfl rfl ⟨Nat.le_of_ble_eq_true rfl, Nat.le_of_ble_eq_true rfl⟩ rfl (Nat.le_of_ble_eq_true rfl) ⟨Nat.zero_le _, Nat.zero_le _⟩ dX9_shift_92) [4, 5] rfl (by decide) (fun r12 u12 h => ?_)
              refine z_if_ne (pc := 95) (tgt := 101) C dX9_shift_95 (by decide) (fun c13 => ?_) (fun c13 => ?_)
              · have h := h.1 c13
                refine z_aload (pc := 101) C 1 dX9_shift_101 rfl ?_
                refine z_get (pc := 103) C uw6 12 rfl rfl 2 (by decide) wq778 rfl dX9_shift_103 ?_
                refine z_iload_n (pc := 106) C 4 dX9_shift_106 rfl ?_
                refine z_aload (pc := 107) C 0 dX9_shift_107 rfl ?_
                refine z_get (pc := 109) C uw6 4 rfl rfl 2 (by decide) wq778 rfl dX9_shift_109 ?_
                refine z_iload (pc := 112) C 6 dX9_shift_112 rfl ?_
                refine z_iload (pc := 114) C 7 dX9_shift_114 rfl ?_
                obtain ⟨g14, h⟩ := h
                refine z_copyl (pc := 116) (ws' := ((wX9 d (dN 0) (dI 0) (dT 0) (dNc 0) (dNcj 0) (dNcs 0) (dNcp 0) (dNw 0) (dx 0) dtt v) ++ (wTT cJ cT dtt dt vt (va_up gt 1 (sb (gt 1) 1 (va_cpy ((gt 5) 1) ((gt 1) 1) x2.toNatClampNeg x4.toNatClampNeg x5.toNatClampNeg)))))) C wq804 wq65 wq66 wq67 13 5 1 rfl rfl rfl g14 (Nat.le_of_ble_eq_true rfl) (Nat.le_of_ble_eq_true rfl) dX9_shift_116 (set_r (k := 1) (i := 4) rfl sTT_c1) ?_
                refine z_iload (pc := 119) C 7 dX9_shift_119 rfl ?_
                exact hret 121 _ _ x5 (va_up gt 1 (sb (gt 1) 1 (va_cpy ((gt 5) 1) ((gt 1) 1) x2.toNatClampNeg x4.toNatClampNeg x5.toNatClampNeg))) rfl h dX9_shift_121
              · have h := h.2 c13
                refine z_bipush (pc := 98) (v := -13) C dX9_shift_98 (by decide) ?_
                exact hret 100 _ _ (-13 : Int32) gt rfl h dX9_shift_100
          · have h := h.2 c9
            refine z_bipush (pc := 72) (v := -12) C dX9_shift_72 (by decide) ?_
            exact hret 74 _ _ (-12 : Int32) gt rfl h dX9_shift_74
        · have h := h.2 c8
          refine z_bipush (pc := 56) (v := -11) C dX9_shift_56 (by decide) ?_
          exact hret 58 _ _ (-11 : Int32) gt rfl h dX9_shift_58
    · have h := h.2 c4
      refine z_iconst (pc := 18) (v := -1) C dX9_shift_18 (by decide) ?_
      exact hret 19 _ _ (-1 : Int32) gt rfl h dX9_shift_19

set_option maxHeartbeats 4000000 in
set_option maxRecDepth 100000 in
theorem kX9_shift_5_2 {l : Launch} {D : va_G} {cI cJ cT : ClassId} (d : Nat → Nat) (dN : Nat → Nat) (dI : Nat → Nat) (dT : Nat → Nat) (dNc : Nat → Nat) (dNcj : Nat → Nat) (dNcs : Nat → Nat) (dNcp : Nat → Nat) (dNw : Nat → Nat) (dx : Nat → Nat) (dtt : Nat) (dt : Nat → Nat → Nat)  (v : Lf) (vt : Nat → Lf) (gt : Nat → Lg) (x2 : Int32) (x4 : Int32) (x5 : Int32) {Q : Int32 → (Nat → Lg) → Prop} (sz : Nat) (h : pX9_shift vt gt (nI 5) x2 (nI 2) x4 x5 Q) : Met l yX9_shift wdX9_shift rmX9_shift (Pz D (tyL cI cJ cT) [.ref (d 0), .int (nI 5), .int x2, .int (nI 2), .int x4, .int x5] ((wX9 d (dN 0) (dI 0) (dT 0) (dNc 0) (dNcj 0) (dNcs 0) (dNcp 0) (dNw 0) (dx 0) dtt v) ++ (wTT cJ cT dtt dt vt gt)) sz) (va_Qi (fun (r : Int32) (u : (Nat → Lg)) => Q r u) (Bz D (tyL cI cJ cT) ((wX9 d (dN 0) (dI 0) (dT 0) (dNc 0) (dNcj 0) (dNcs 0) (dNcp 0) (dNw 0) (dx 0) dtt v) ++ (wTT cJ cT dtt dt vt gt)) sz (fun (u : (Nat → Lg)) => ((wX9 d (dN 0) (dI 0) (dT 0) (dNc 0) (dNcj 0) (dNcs 0) (dNcp 0) (dNw 0) (dx 0) dtt v) ++ (wTT cJ cT dtt dt vt u)))) (va_A ((wX9 d (dN 0) (dI 0) (dT 0) (dNc 0) (dNcj 0) (dNcs 0) (dNcp 0) (dNw 0) (dx 0) dtt v) ++ (wTT cJ cT dtt dt vt gt)) sz)) 0 0 (va_A ((wX9 d (dN 0) (dI 0) (dT 0) (dNc 0) (dNcj 0) (dNcs 0) (dNcp 0) (dNw 0) (dx 0) dtt v) ++ (wTT cJ cT dtt dt vt gt)) sz) := by
  refine z_meti (cc := cX9_shift) (maxL := 8) (own := RX9) (lv0 := [(0, .ref (d 0)), (1, .int (nI 5)), (2, .int x2), (3, .int (nI 2)), (4, .int x4), (5, .int x5)]) (by decide) rfl rfl (Nat.le_of_ble_eq_true rfl) rfl ?_
  intro p e s m args below meth c A QQ C hin hret
  refine z_iload_n (pc := 0) C 1 dX9_shift_0 rfl ?_
  refine z_iconst (pc := 1) (v := 0) C dX9_shift_1 (by decide) ?_
  refine z_iconst (pc := 2) (v := 5) C dX9_shift_2 (by decide) ?_
  refine z_call0i (pc := 3) C (z_runS (pc := 3) (wc := ([] : va_W)) (As := [.int (nI 5), .int (0 : Int32), .int (5 : Int32)]) C (fun sz => kX9_within (nI 5) (0 : Int32) (5 : Int32) sz h) [] rfl (by decide) (gdS wq366 wq553 wq373 wq112) rfl rfl rfl hdSX9_within ⟨Nat.le_of_ble_eq_true rfl, Nat.le_of_ble_eq_true rfl⟩ rfl (Nat.le_of_ble_eq_true rfl) ⟨Nat.zero_le _, Nat.zero_le _⟩ dX9_shift_3) (fun r1 u1 h => ?_)
  refine z_if_eq (pc := 6) (tgt := 18) C dX9_shift_6 (by decide) (fun c2 => ?_) (fun c2 => ?_)
  · have h := h.1 c2
    refine z_iconst (pc := 18) (v := -1) C dX9_shift_18 (by decide) ?_
    exact hret 19 _ _ (-1 : Int32) gt rfl h dX9_shift_19
  · have h := h.2 c2
    refine z_iload_n (pc := 9) C 3 dX9_shift_9 rfl ?_
    refine z_iconst (pc := 10) (v := 0) C dX9_shift_10 (by decide) ?_
    refine z_iconst (pc := 11) (v := 5) C dX9_shift_11 (by decide) ?_
    refine z_call0i (pc := 12) C (z_runS (pc := 12) (wc := ([] : va_W)) (As := [.int (nI 2), .int (0 : Int32), .int (5 : Int32)]) C (fun sz => kX9_within (nI 2) (0 : Int32) (5 : Int32) sz h) [] rfl (by decide) (gdS wq366 wq553 wq373 wq112) rfl rfl rfl hdSX9_within ⟨Nat.le_of_ble_eq_true rfl, Nat.le_of_ble_eq_true rfl⟩ rfl (Nat.le_of_ble_eq_true rfl) ⟨Nat.zero_le _, Nat.zero_le _⟩ dX9_shift_12) (fun r3 u3 h => ?_)
    refine z_if_ne (pc := 15) (tgt := 20) C dX9_shift_15 (by decide) (fun c4 => ?_) (fun c4 => ?_)
    · have h := h.1 c4
      refine z_aload_n (pc := 20) C 0 dX9_shift_20 rfl ?_
      refine z_get (pc := 21) C uw9 0 rfl rfl 9 (by decide) wq544 rfl dX9_shift_21 ?_
      refine z_iload_n (pc := 24) C 1 dX9_shift_24 rfl ?_
      obtain ⟨g5, h⟩ := h
      refine z_aldq (pc := 25) C 1 2 rfl rfl g5 (.ref (dt 5 0)) rfl dX9_shift_25 ?_
      refine z_astore (pc := 26) (lv' := [(6, .ref (dt 5 0)), (0, .ref (d 0)), (1, .int (nI 5)), (2, .int x2), (3, .int (nI 2)), (4, .int x4), (5, .int x5)]) C dX9_shift_26 (by decide) rfl ?_
      refine z_aload_n (pc := 28) C 1 dX9_shift_28 rfl ?_
      refine z_get (pc := 29) C uw9 0 rfl rfl 9 (by decide) wq544 rfl dX9_shift_29 ?_
      refine z_iload_n (pc := 32) C 4 dX9_shift_32 rfl ?_
      obtain ⟨g6, h⟩ := h
      refine z_aldq (pc := 33) C 1 2 rfl rfl g6 (.ref (dt 2 0)) rfl dX9_shift_33 ?_
      refine z_astore (pc := 34) (lv' := [(7, .ref (dt 2 0)), (6, .ref (dt 5 0)), (0, .ref (d 0)), (1, .int (nI 5)), (2, .int x2), (3, .int (nI 2)), (4, .int x4), (5, .int x5)]) C dX9_shift_34 (by decide) rfl ?_
      refine z_aload (pc := 36) C 1 dX9_shift_36 rfl ?_
      refine z_get (pc := 38) C uw6 12 rfl rfl 0 (by decide) wq777 rfl dX9_shift_38 ?_
      refine z_bipush (pc := 41) (v := -5) C dX9_shift_41 (by decide) ?_
      refine z_icmp_eq (pc := 43) (tgt := 56) C dX9_shift_43 (by decide) (fun c7 => ?_) (fun c7 => ?_)
      · have h := h.1 c7
        refine z_bipush (pc := 56) (v := -11) C dX9_shift_56 (by decide) ?_
        exact hret 58 _ _ (-11 : Int32) gt rfl h dX9_shift_58
      · have h := h.2 c7
        refine z_aload (pc := 46) C 0 dX9_shift_46 rfl ?_
        refine z_get (pc := 48) C uw6 6 rfl rfl 0 (by decide) wq777 rfl dX9_shift_48 ?_
        refine z_bipush (pc := 51) (v := -5) C dX9_shift_51 (by decide) ?_
        refine z_icmp_ne (pc := 53) (tgt := 59) C dX9_shift_53 (by decide) (fun c8 => ?_) (fun c8 => ?_)
        · have h := h.1 c8
          refine z_aload (pc := 59) C 1 dX9_shift_59 rfl ?_
          refine z_get (pc := 61) C uw6 12 rfl rfl 0 (by decide) wq777 rfl dX9_shift_61 ?_
          refine z_aload (pc := 64) C 0 dX9_shift_64 rfl ?_
          refine z_get (pc := 66) C uw6 6 rfl rfl 0 (by decide) wq777 rfl dX9_shift_66 ?_
          refine z_icmp_eq (pc := 69) (tgt := 75) C dX9_shift_69 (by decide) (fun c9 => ?_) (fun c9 => ?_)
          · have h := h.1 c9
            refine z_aload (pc := 75) C 1 dX9_shift_75 rfl ?_
            refine z_iload_n (pc := 77) C 4 dX9_shift_77 rfl ?_
            refine z_iload (pc := 78) C 7 dX9_shift_78 rfl ?_
            refine z_callRi (pc := 80) C (z_runV (pc := 80) (wc := (wX6 cJ (dt 5) (vt 5) (gt 5))) (As := [.int x2, .int x5]) C (fun sz => kX6_hasPlaces (dt 5) (vt 5) (gt 5) x2 x5 sz h) [12, 13] rfl (by decide) (gdV wq414 wq805 wq806 wq807 wq546) rfl rfl rfl hdX6_hasPlaces 12 rfl rfl rfl ⟨Nat.le_of_ble_eq_true rfl, Nat.le_of_ble_eq_true rfl⟩ rfl (Nat.le_of_ble_eq_true rfl) ⟨Nat.zero_le _, Nat.zero_le _⟩ dX9_shift_80) [12, 13] rfl (by decide) (fun r10 u10 h => ?_)
            refine z_if_eq (pc := 83) (tgt := 98) C dX9_shift_83 (by decide) (fun c11 => ?_) (fun c11 => ?_)
            · have h := h.1 c11
              refine z_bipush (pc := 98) (v := -13) C dX9_shift_98 (by decide) ?_
              exact hret 100 _ _ (-13 : Int32) gt rfl h dX9_shift_100
            · have h := h.2 c11
              refine z_aload (pc := 86) C 0 dX9_shift_86 rfl ?_
              refine z_iload (pc := 88) C 6 dX9_shift_88 rfl ?_
              refine z_iload (pc := 90) C 7 dX9_shift_90 rfl ?_
              refine z_callRi (pc := 92) C (z_runV (pc := 92) (wc := (wX6 cJ (dt 2) (vt 2) (gt 2))) (As := [.int x4, .int x5]) C (fun sz => kX6_hasPlaces (dt 2) (vt 2) (gt 2) x4 x5 sz h) [6, 7] rfl (by decide) (gdV wq414 wq805 wq806 wq807 wq546) rfl rfl rfl hdX6_hasPlaces 6 rfl rfl rfl ⟨Nat.le_of_ble_eq_true rfl, Nat.le_of_ble_eq_true rfl⟩ rfl (Nat.le_of_ble_eq_true rfl) ⟨Nat.zero_le _, Nat.zero_le _⟩ dX9_shift_92) [6, 7] rfl (by decide) (fun r12 u12 h => ?_)
              refine z_if_ne (pc := 95) (tgt := 101) C dX9_shift_95 (by decide) (fun c13 => ?_) (fun c13 => ?_)
              · have h := h.1 c13
                refine z_aload (pc := 101) C 1 dX9_shift_101 rfl ?_
                refine z_get (pc := 103) C uw6 12 rfl rfl 2 (by decide) wq778 rfl dX9_shift_103 ?_
                refine z_iload_n (pc := 106) C 4 dX9_shift_106 rfl ?_
                refine z_aload (pc := 107) C 0 dX9_shift_107 rfl ?_
                refine z_get (pc := 109) C uw6 6 rfl rfl 2 (by decide) wq778 rfl dX9_shift_109 ?_
                refine z_iload (pc := 112) C 6 dX9_shift_112 rfl ?_
                refine z_iload (pc := 114) C 7 dX9_shift_114 rfl ?_
                obtain ⟨g14, h⟩ := h
                refine z_copyl (pc := 116) (ws' := ((wX9 d (dN 0) (dI 0) (dT 0) (dNc 0) (dNcj 0) (dNcs 0) (dNcp 0) (dNw 0) (dx 0) dtt v) ++ (wTT cJ cT dtt dt vt (va_up gt 2 (sb (gt 2) 1 (va_cpy ((gt 5) 1) ((gt 2) 1) x2.toNatClampNeg x4.toNatClampNeg x5.toNatClampNeg)))))) C wq804 wq65 wq66 wq67 13 7 1 rfl rfl rfl g14 (Nat.le_of_ble_eq_true rfl) (Nat.le_of_ble_eq_true rfl) dX9_shift_116 (set_r (k := 1) (i := 6) rfl sTT_c2) ?_
                refine z_iload (pc := 119) C 7 dX9_shift_119 rfl ?_
                exact hret 121 _ _ x5 (va_up gt 2 (sb (gt 2) 1 (va_cpy ((gt 5) 1) ((gt 2) 1) x2.toNatClampNeg x4.toNatClampNeg x5.toNatClampNeg))) rfl h dX9_shift_121
              · have h := h.2 c13
                refine z_bipush (pc := 98) (v := -13) C dX9_shift_98 (by decide) ?_
                exact hret 100 _ _ (-13 : Int32) gt rfl h dX9_shift_100
          · have h := h.2 c9
            refine z_bipush (pc := 72) (v := -12) C dX9_shift_72 (by decide) ?_
            exact hret 74 _ _ (-12 : Int32) gt rfl h dX9_shift_74
        · have h := h.2 c8
          refine z_bipush (pc := 56) (v := -11) C dX9_shift_56 (by decide) ?_
          exact hret 58 _ _ (-11 : Int32) gt rfl h dX9_shift_58
    · have h := h.2 c4
      refine z_iconst (pc := 18) (v := -1) C dX9_shift_18 (by decide) ?_
      exact hret 19 _ _ (-1 : Int32) gt rfl h dX9_shift_19

set_option maxHeartbeats 4000000 in
set_option maxRecDepth 100000 in
theorem kX9_shift_5_3 {l : Launch} {D : va_G} {cI cJ cT : ClassId} (d : Nat → Nat) (dN : Nat → Nat) (dI : Nat → Nat) (dT : Nat → Nat) (dNc : Nat → Nat) (dNcj : Nat → Nat) (dNcs : Nat → Nat) (dNcp : Nat → Nat) (dNw : Nat → Nat) (dx : Nat → Nat) (dtt : Nat) (dt : Nat → Nat → Nat)  (v : Lf) (vt : Nat → Lf) (gt : Nat → Lg) (x2 : Int32) (x4 : Int32) (x5 : Int32) {Q : Int32 → (Nat → Lg) → Prop} (sz : Nat) (h : pX9_shift vt gt (nI 5) x2 (nI 3) x4 x5 Q) : Met l yX9_shift wdX9_shift rmX9_shift (Pz D (tyL cI cJ cT) [.ref (d 0), .int (nI 5), .int x2, .int (nI 3), .int x4, .int x5] ((wX9 d (dN 0) (dI 0) (dT 0) (dNc 0) (dNcj 0) (dNcs 0) (dNcp 0) (dNw 0) (dx 0) dtt v) ++ (wTT cJ cT dtt dt vt gt)) sz) (va_Qi (fun (r : Int32) (u : (Nat → Lg)) => Q r u) (Bz D (tyL cI cJ cT) ((wX9 d (dN 0) (dI 0) (dT 0) (dNc 0) (dNcj 0) (dNcs 0) (dNcp 0) (dNw 0) (dx 0) dtt v) ++ (wTT cJ cT dtt dt vt gt)) sz (fun (u : (Nat → Lg)) => ((wX9 d (dN 0) (dI 0) (dT 0) (dNc 0) (dNcj 0) (dNcs 0) (dNcp 0) (dNw 0) (dx 0) dtt v) ++ (wTT cJ cT dtt dt vt u)))) (va_A ((wX9 d (dN 0) (dI 0) (dT 0) (dNc 0) (dNcj 0) (dNcs 0) (dNcp 0) (dNw 0) (dx 0) dtt v) ++ (wTT cJ cT dtt dt vt gt)) sz)) 0 0 (va_A ((wX9 d (dN 0) (dI 0) (dT 0) (dNc 0) (dNcj 0) (dNcs 0) (dNcp 0) (dNw 0) (dx 0) dtt v) ++ (wTT cJ cT dtt dt vt gt)) sz) := by
  refine z_meti (cc := cX9_shift) (maxL := 8) (own := RX9) (lv0 := [(0, .ref (d 0)), (1, .int (nI 5)), (2, .int x2), (3, .int (nI 3)), (4, .int x4), (5, .int x5)]) (by decide) rfl rfl (Nat.le_of_ble_eq_true rfl) rfl ?_
  intro p e s m args below meth c A QQ C hin hret
  refine z_iload_n (pc := 0) C 1 dX9_shift_0 rfl ?_
  refine z_iconst (pc := 1) (v := 0) C dX9_shift_1 (by decide) ?_
  refine z_iconst (pc := 2) (v := 5) C dX9_shift_2 (by decide) ?_
  refine z_call0i (pc := 3) C (z_runS (pc := 3) (wc := ([] : va_W)) (As := [.int (nI 5), .int (0 : Int32), .int (5 : Int32)]) C (fun sz => kX9_within (nI 5) (0 : Int32) (5 : Int32) sz h) [] rfl (by decide) (gdS wq366 wq553 wq373 wq112) rfl rfl rfl hdSX9_within ⟨Nat.le_of_ble_eq_true rfl, Nat.le_of_ble_eq_true rfl⟩ rfl (Nat.le_of_ble_eq_true rfl) ⟨Nat.zero_le _, Nat.zero_le _⟩ dX9_shift_3) (fun r1 u1 h => ?_)
  refine z_if_eq (pc := 6) (tgt := 18) C dX9_shift_6 (by decide) (fun c2 => ?_) (fun c2 => ?_)
  · have h := h.1 c2
    refine z_iconst (pc := 18) (v := -1) C dX9_shift_18 (by decide) ?_
    exact hret 19 _ _ (-1 : Int32) gt rfl h dX9_shift_19
  · have h := h.2 c2
    refine z_iload_n (pc := 9) C 3 dX9_shift_9 rfl ?_
    refine z_iconst (pc := 10) (v := 0) C dX9_shift_10 (by decide) ?_
    refine z_iconst (pc := 11) (v := 5) C dX9_shift_11 (by decide) ?_
    refine z_call0i (pc := 12) C (z_runS (pc := 12) (wc := ([] : va_W)) (As := [.int (nI 3), .int (0 : Int32), .int (5 : Int32)]) C (fun sz => kX9_within (nI 3) (0 : Int32) (5 : Int32) sz h) [] rfl (by decide) (gdS wq366 wq553 wq373 wq112) rfl rfl rfl hdSX9_within ⟨Nat.le_of_ble_eq_true rfl, Nat.le_of_ble_eq_true rfl⟩ rfl (Nat.le_of_ble_eq_true rfl) ⟨Nat.zero_le _, Nat.zero_le _⟩ dX9_shift_12) (fun r3 u3 h => ?_)
    refine z_if_ne (pc := 15) (tgt := 20) C dX9_shift_15 (by decide) (fun c4 => ?_) (fun c4 => ?_)
    · have h := h.1 c4
      refine z_aload_n (pc := 20) C 0 dX9_shift_20 rfl ?_
      refine z_get (pc := 21) C uw9 0 rfl rfl 9 (by decide) wq544 rfl dX9_shift_21 ?_
      refine z_iload_n (pc := 24) C 1 dX9_shift_24 rfl ?_
      obtain ⟨g5, h⟩ := h
      refine z_aldq (pc := 25) C 1 2 rfl rfl g5 (.ref (dt 5 0)) rfl dX9_shift_25 ?_
      refine z_astore (pc := 26) (lv' := [(6, .ref (dt 5 0)), (0, .ref (d 0)), (1, .int (nI 5)), (2, .int x2), (3, .int (nI 3)), (4, .int x4), (5, .int x5)]) C dX9_shift_26 (by decide) rfl ?_
      refine z_aload_n (pc := 28) C 1 dX9_shift_28 rfl ?_
      refine z_get (pc := 29) C uw9 0 rfl rfl 9 (by decide) wq544 rfl dX9_shift_29 ?_
      refine z_iload_n (pc := 32) C 4 dX9_shift_32 rfl ?_
      obtain ⟨g6, h⟩ := h
      refine z_aldq (pc := 33) C 1 2 rfl rfl g6 (.ref (dt 3 0)) rfl dX9_shift_33 ?_
      refine z_astore (pc := 34) (lv' := [(7, .ref (dt 3 0)), (6, .ref (dt 5 0)), (0, .ref (d 0)), (1, .int (nI 5)), (2, .int x2), (3, .int (nI 3)), (4, .int x4), (5, .int x5)]) C dX9_shift_34 (by decide) rfl ?_
      refine z_aload (pc := 36) C 1 dX9_shift_36 rfl ?_
      refine z_get (pc := 38) C uw6 12 rfl rfl 0 (by decide) wq777 rfl dX9_shift_38 ?_
      refine z_bipush (pc := 41) (v := -5) C dX9_shift_41 (by decide) ?_
      refine z_icmp_eq (pc := 43) (tgt := 56) C dX9_shift_43 (by decide) (fun c7 => ?_) (fun c7 => ?_)
      · have h := h.1 c7
        refine z_bipush (pc := 56) (v := -11) C dX9_shift_56 (by decide) ?_
        exact hret 58 _ _ (-11 : Int32) gt rfl h dX9_shift_58
      · have h := h.2 c7
        refine z_aload (pc := 46) C 0 dX9_shift_46 rfl ?_
        refine z_get (pc := 48) C uw6 8 rfl rfl 0 (by decide) wq777 rfl dX9_shift_48 ?_
        refine z_bipush (pc := 51) (v := -5) C dX9_shift_51 (by decide) ?_
        refine z_icmp_ne (pc := 53) (tgt := 59) C dX9_shift_53 (by decide) (fun c8 => ?_) (fun c8 => ?_)
        · have h := h.1 c8
          refine z_aload (pc := 59) C 1 dX9_shift_59 rfl ?_
          refine z_get (pc := 61) C uw6 12 rfl rfl 0 (by decide) wq777 rfl dX9_shift_61 ?_
          refine z_aload (pc := 64) C 0 dX9_shift_64 rfl ?_
          refine z_get (pc := 66) C uw6 8 rfl rfl 0 (by decide) wq777 rfl dX9_shift_66 ?_
          refine z_icmp_eq (pc := 69) (tgt := 75) C dX9_shift_69 (by decide) (fun c9 => ?_) (fun c9 => ?_)
          · have h := h.1 c9
            refine z_aload (pc := 75) C 1 dX9_shift_75 rfl ?_
            refine z_iload_n (pc := 77) C 4 dX9_shift_77 rfl ?_
            refine z_iload (pc := 78) C 7 dX9_shift_78 rfl ?_
            refine z_callRi (pc := 80) C (z_runV (pc := 80) (wc := (wX6 cJ (dt 5) (vt 5) (gt 5))) (As := [.int x2, .int x5]) C (fun sz => kX6_hasPlaces (dt 5) (vt 5) (gt 5) x2 x5 sz h) [12, 13] rfl (by decide) (gdV wq414 wq805 wq806 wq807 wq546) rfl rfl rfl hdX6_hasPlaces 12 rfl rfl rfl ⟨Nat.le_of_ble_eq_true rfl, Nat.le_of_ble_eq_true rfl⟩ rfl (Nat.le_of_ble_eq_true rfl) ⟨Nat.zero_le _, Nat.zero_le _⟩ dX9_shift_80) [12, 13] rfl (by decide) (fun r10 u10 h => ?_)
            refine z_if_eq (pc := 83) (tgt := 98) C dX9_shift_83 (by decide) (fun c11 => ?_) (fun c11 => ?_)
            · have h := h.1 c11
              refine z_bipush (pc := 98) (v := -13) C dX9_shift_98 (by decide) ?_
              exact hret 100 _ _ (-13 : Int32) gt rfl h dX9_shift_100
            · have h := h.2 c11
              refine z_aload (pc := 86) C 0 dX9_shift_86 rfl ?_
              refine z_iload (pc := 88) C 6 dX9_shift_88 rfl ?_
              refine z_iload (pc := 90) C 7 dX9_shift_90 rfl ?_
              refine z_callRi (pc := 92) C (z_runV (pc := 92) (wc := (wX6 cJ (dt 3) (vt 3) (gt 3))) (As := [.int x4, .int x5]) C (fun sz => kX6_hasPlaces (dt 3) (vt 3) (gt 3) x4 x5 sz h) [8, 9] rfl (by decide) (gdV wq414 wq805 wq806 wq807 wq546) rfl rfl rfl hdX6_hasPlaces 8 rfl rfl rfl ⟨Nat.le_of_ble_eq_true rfl, Nat.le_of_ble_eq_true rfl⟩ rfl (Nat.le_of_ble_eq_true rfl) ⟨Nat.zero_le _, Nat.zero_le _⟩ dX9_shift_92) [8, 9] rfl (by decide) (fun r12 u12 h => ?_)
              refine z_if_ne (pc := 95) (tgt := 101) C dX9_shift_95 (by decide) (fun c13 => ?_) (fun c13 => ?_)
              · have h := h.1 c13
                refine z_aload (pc := 101) C 1 dX9_shift_101 rfl ?_
                refine z_get (pc := 103) C uw6 12 rfl rfl 2 (by decide) wq778 rfl dX9_shift_103 ?_
                refine z_iload_n (pc := 106) C 4 dX9_shift_106 rfl ?_
                refine z_aload (pc := 107) C 0 dX9_shift_107 rfl ?_
                refine z_get (pc := 109) C uw6 8 rfl rfl 2 (by decide) wq778 rfl dX9_shift_109 ?_
                refine z_iload (pc := 112) C 6 dX9_shift_112 rfl ?_
                refine z_iload (pc := 114) C 7 dX9_shift_114 rfl ?_
                obtain ⟨g14, h⟩ := h
                refine z_copyl (pc := 116) (ws' := ((wX9 d (dN 0) (dI 0) (dT 0) (dNc 0) (dNcj 0) (dNcs 0) (dNcp 0) (dNw 0) (dx 0) dtt v) ++ (wTT cJ cT dtt dt vt (va_up gt 3 (sb (gt 3) 1 (va_cpy ((gt 5) 1) ((gt 3) 1) x2.toNatClampNeg x4.toNatClampNeg x5.toNatClampNeg)))))) C wq804 wq65 wq66 wq67 13 9 1 rfl rfl rfl g14 (Nat.le_of_ble_eq_true rfl) (Nat.le_of_ble_eq_true rfl) dX9_shift_116 (set_r (k := 1) (i := 8) rfl sTT_c3) ?_
                refine z_iload (pc := 119) C 7 dX9_shift_119 rfl ?_
                exact hret 121 _ _ x5 (va_up gt 3 (sb (gt 3) 1 (va_cpy ((gt 5) 1) ((gt 3) 1) x2.toNatClampNeg x4.toNatClampNeg x5.toNatClampNeg))) rfl h dX9_shift_121
              · have h := h.2 c13
                refine z_bipush (pc := 98) (v := -13) C dX9_shift_98 (by decide) ?_
                exact hret 100 _ _ (-13 : Int32) gt rfl h dX9_shift_100
          · have h := h.2 c9
            refine z_bipush (pc := 72) (v := -12) C dX9_shift_72 (by decide) ?_
            exact hret 74 _ _ (-12 : Int32) gt rfl h dX9_shift_74
        · have h := h.2 c8
          refine z_bipush (pc := 56) (v := -11) C dX9_shift_56 (by decide) ?_
          exact hret 58 _ _ (-11 : Int32) gt rfl h dX9_shift_58
    · have h := h.2 c4
      refine z_iconst (pc := 18) (v := -1) C dX9_shift_18 (by decide) ?_
      exact hret 19 _ _ (-1 : Int32) gt rfl h dX9_shift_19

set_option maxHeartbeats 4000000 in
set_option maxRecDepth 100000 in
theorem kX9_shift_5_4 {l : Launch} {D : va_G} {cI cJ cT : ClassId} (d : Nat → Nat) (dN : Nat → Nat) (dI : Nat → Nat) (dT : Nat → Nat) (dNc : Nat → Nat) (dNcj : Nat → Nat) (dNcs : Nat → Nat) (dNcp : Nat → Nat) (dNw : Nat → Nat) (dx : Nat → Nat) (dtt : Nat) (dt : Nat → Nat → Nat)  (v : Lf) (vt : Nat → Lf) (gt : Nat → Lg) (x2 : Int32) (x4 : Int32) (x5 : Int32) {Q : Int32 → (Nat → Lg) → Prop} (sz : Nat) (h : pX9_shift vt gt (nI 5) x2 (nI 4) x4 x5 Q) : Met l yX9_shift wdX9_shift rmX9_shift (Pz D (tyL cI cJ cT) [.ref (d 0), .int (nI 5), .int x2, .int (nI 4), .int x4, .int x5] ((wX9 d (dN 0) (dI 0) (dT 0) (dNc 0) (dNcj 0) (dNcs 0) (dNcp 0) (dNw 0) (dx 0) dtt v) ++ (wTT cJ cT dtt dt vt gt)) sz) (va_Qi (fun (r : Int32) (u : (Nat → Lg)) => Q r u) (Bz D (tyL cI cJ cT) ((wX9 d (dN 0) (dI 0) (dT 0) (dNc 0) (dNcj 0) (dNcs 0) (dNcp 0) (dNw 0) (dx 0) dtt v) ++ (wTT cJ cT dtt dt vt gt)) sz (fun (u : (Nat → Lg)) => ((wX9 d (dN 0) (dI 0) (dT 0) (dNc 0) (dNcj 0) (dNcs 0) (dNcp 0) (dNw 0) (dx 0) dtt v) ++ (wTT cJ cT dtt dt vt u)))) (va_A ((wX9 d (dN 0) (dI 0) (dT 0) (dNc 0) (dNcj 0) (dNcs 0) (dNcp 0) (dNw 0) (dx 0) dtt v) ++ (wTT cJ cT dtt dt vt gt)) sz)) 0 0 (va_A ((wX9 d (dN 0) (dI 0) (dT 0) (dNc 0) (dNcj 0) (dNcs 0) (dNcp 0) (dNw 0) (dx 0) dtt v) ++ (wTT cJ cT dtt dt vt gt)) sz) := by
  refine z_meti (cc := cX9_shift) (maxL := 8) (own := RX9) (lv0 := [(0, .ref (d 0)), (1, .int (nI 5)), (2, .int x2), (3, .int (nI 4)), (4, .int x4), (5, .int x5)]) (by decide) rfl rfl (Nat.le_of_ble_eq_true rfl) rfl ?_
  intro p e s m args below meth c A QQ C hin hret
  refine z_iload_n (pc := 0) C 1 dX9_shift_0 rfl ?_
  refine z_iconst (pc := 1) (v := 0) C dX9_shift_1 (by decide) ?_
  refine z_iconst (pc := 2) (v := 5) C dX9_shift_2 (by decide) ?_
  refine z_call0i (pc := 3) C (z_runS (pc := 3) (wc := ([] : va_W)) (As := [.int (nI 5), .int (0 : Int32), .int (5 : Int32)]) C (fun sz => kX9_within (nI 5) (0 : Int32) (5 : Int32) sz h) [] rfl (by decide) (gdS wq366 wq553 wq373 wq112) rfl rfl rfl hdSX9_within ⟨Nat.le_of_ble_eq_true rfl, Nat.le_of_ble_eq_true rfl⟩ rfl (Nat.le_of_ble_eq_true rfl) ⟨Nat.zero_le _, Nat.zero_le _⟩ dX9_shift_3) (fun r1 u1 h => ?_)
  refine z_if_eq (pc := 6) (tgt := 18) C dX9_shift_6 (by decide) (fun c2 => ?_) (fun c2 => ?_)
  · have h := h.1 c2
    refine z_iconst (pc := 18) (v := -1) C dX9_shift_18 (by decide) ?_
    exact hret 19 _ _ (-1 : Int32) gt rfl h dX9_shift_19
  · have h := h.2 c2
    refine z_iload_n (pc := 9) C 3 dX9_shift_9 rfl ?_
    refine z_iconst (pc := 10) (v := 0) C dX9_shift_10 (by decide) ?_
    refine z_iconst (pc := 11) (v := 5) C dX9_shift_11 (by decide) ?_
    refine z_call0i (pc := 12) C (z_runS (pc := 12) (wc := ([] : va_W)) (As := [.int (nI 4), .int (0 : Int32), .int (5 : Int32)]) C (fun sz => kX9_within (nI 4) (0 : Int32) (5 : Int32) sz h) [] rfl (by decide) (gdS wq366 wq553 wq373 wq112) rfl rfl rfl hdSX9_within ⟨Nat.le_of_ble_eq_true rfl, Nat.le_of_ble_eq_true rfl⟩ rfl (Nat.le_of_ble_eq_true rfl) ⟨Nat.zero_le _, Nat.zero_le _⟩ dX9_shift_12) (fun r3 u3 h => ?_)
    refine z_if_ne (pc := 15) (tgt := 20) C dX9_shift_15 (by decide) (fun c4 => ?_) (fun c4 => ?_)
    · have h := h.1 c4
      refine z_aload_n (pc := 20) C 0 dX9_shift_20 rfl ?_
      refine z_get (pc := 21) C uw9 0 rfl rfl 9 (by decide) wq544 rfl dX9_shift_21 ?_
      refine z_iload_n (pc := 24) C 1 dX9_shift_24 rfl ?_
      obtain ⟨g5, h⟩ := h
      refine z_aldq (pc := 25) C 1 2 rfl rfl g5 (.ref (dt 5 0)) rfl dX9_shift_25 ?_
      refine z_astore (pc := 26) (lv' := [(6, .ref (dt 5 0)), (0, .ref (d 0)), (1, .int (nI 5)), (2, .int x2), (3, .int (nI 4)), (4, .int x4), (5, .int x5)]) C dX9_shift_26 (by decide) rfl ?_
      refine z_aload_n (pc := 28) C 1 dX9_shift_28 rfl ?_
      refine z_get (pc := 29) C uw9 0 rfl rfl 9 (by decide) wq544 rfl dX9_shift_29 ?_
      refine z_iload_n (pc := 32) C 4 dX9_shift_32 rfl ?_
      obtain ⟨g6, h⟩ := h
      refine z_aldq (pc := 33) C 1 2 rfl rfl g6 (.ref (dt 4 0)) rfl dX9_shift_33 ?_
      refine z_astore (pc := 34) (lv' := [(7, .ref (dt 4 0)), (6, .ref (dt 5 0)), (0, .ref (d 0)), (1, .int (nI 5)), (2, .int x2), (3, .int (nI 4)), (4, .int x4), (5, .int x5)]) C dX9_shift_34 (by decide) rfl ?_
      refine z_aload (pc := 36) C 1 dX9_shift_36 rfl ?_
      refine z_get (pc := 38) C uw6 12 rfl rfl 0 (by decide) wq777 rfl dX9_shift_38 ?_
      refine z_bipush (pc := 41) (v := -5) C dX9_shift_41 (by decide) ?_
      refine z_icmp_eq (pc := 43) (tgt := 56) C dX9_shift_43 (by decide) (fun c7 => ?_) (fun c7 => ?_)
      · have h := h.1 c7
        refine z_bipush (pc := 56) (v := -11) C dX9_shift_56 (by decide) ?_
        exact hret 58 _ _ (-11 : Int32) gt rfl h dX9_shift_58
      · have h := h.2 c7
        refine z_aload (pc := 46) C 0 dX9_shift_46 rfl ?_
        refine z_get (pc := 48) C uw6 10 rfl rfl 0 (by decide) wq777 rfl dX9_shift_48 ?_
        refine z_bipush (pc := 51) (v := -5) C dX9_shift_51 (by decide) ?_
        refine z_icmp_ne (pc := 53) (tgt := 59) C dX9_shift_53 (by decide) (fun c8 => ?_) (fun c8 => ?_)
        · have h := h.1 c8
          refine z_aload (pc := 59) C 1 dX9_shift_59 rfl ?_
          refine z_get (pc := 61) C uw6 12 rfl rfl 0 (by decide) wq777 rfl dX9_shift_61 ?_
          refine z_aload (pc := 64) C 0 dX9_shift_64 rfl ?_
          refine z_get (pc := 66) C uw6 10 rfl rfl 0 (by decide) wq777 rfl dX9_shift_66 ?_
          refine z_icmp_eq (pc := 69) (tgt := 75) C dX9_shift_69 (by decide) (fun c9 => ?_) (fun c9 => ?_)
          · have h := h.1 c9
            refine z_aload (pc := 75) C 1 dX9_shift_75 rfl ?_
            refine z_iload_n (pc := 77) C 4 dX9_shift_77 rfl ?_
            refine z_iload (pc := 78) C 7 dX9_shift_78 rfl ?_
            refine z_callRi (pc := 80) C (z_runV (pc := 80) (wc := (wX6 cJ (dt 5) (vt 5) (gt 5))) (As := [.int x2, .int x5]) C (fun sz => kX6_hasPlaces (dt 5) (vt 5) (gt 5) x2 x5 sz h) [12, 13] rfl (by decide) (gdV wq414 wq805 wq806 wq807 wq546) rfl rfl rfl hdX6_hasPlaces 12 rfl rfl rfl ⟨Nat.le_of_ble_eq_true rfl, Nat.le_of_ble_eq_true rfl⟩ rfl (Nat.le_of_ble_eq_true rfl) ⟨Nat.zero_le _, Nat.zero_le _⟩ dX9_shift_80) [12, 13] rfl (by decide) (fun r10 u10 h => ?_)
            refine z_if_eq (pc := 83) (tgt := 98) C dX9_shift_83 (by decide) (fun c11 => ?_) (fun c11 => ?_)
            · have h := h.1 c11
              refine z_bipush (pc := 98) (v := -13) C dX9_shift_98 (by decide) ?_
              exact hret 100 _ _ (-13 : Int32) gt rfl h dX9_shift_100
            · have h := h.2 c11
              refine z_aload (pc := 86) C 0 dX9_shift_86 rfl ?_
              refine z_iload (pc := 88) C 6 dX9_shift_88 rfl ?_
              refine z_iload (pc := 90) C 7 dX9_shift_90 rfl ?_
              refine z_callRi (pc := 92) C (z_runV (pc := 92) (wc := (wX6 cJ (dt 4) (vt 4) (gt 4))) (As := [.int x4, .int x5]) C (fun sz => kX6_hasPlaces (dt 4) (vt 4) (gt 4) x4 x5 sz h) [10, 11] rfl (by decide) (gdV wq414 wq805 wq806 wq807 wq546) rfl rfl rfl hdX6_hasPlaces 10 rfl rfl rfl ⟨Nat.le_of_ble_eq_true rfl, Nat.le_of_ble_eq_true rfl⟩ rfl (Nat.le_of_ble_eq_true rfl) ⟨Nat.zero_le _, Nat.zero_le _⟩ dX9_shift_92) [10, 11] rfl (by decide) (fun r12 u12 h => ?_)
              refine z_if_ne (pc := 95) (tgt := 101) C dX9_shift_95 (by decide) (fun c13 => ?_) (fun c13 => ?_)
              · have h := h.1 c13
                refine z_aload (pc := 101) C 1 dX9_shift_101 rfl ?_
                refine z_get (pc := 103) C uw6 12 rfl rfl 2 (by decide) wq778 rfl dX9_shift_103 ?_
                refine z_iload_n (pc := 106) C 4 dX9_shift_106 rfl ?_
                refine z_aload (pc := 107) C 0 dX9_shift_107 rfl ?_
                refine z_get (pc := 109) C uw6 10 rfl rfl 2 (by decide) wq778 rfl dX9_shift_109 ?_
                refine z_iload (pc := 112) C 6 dX9_shift_112 rfl ?_
                refine z_iload (pc := 114) C 7 dX9_shift_114 rfl ?_
                obtain ⟨g14, h⟩ := h
                refine z_copyl (pc := 116) (ws' := ((wX9 d (dN 0) (dI 0) (dT 0) (dNc 0) (dNcj 0) (dNcs 0) (dNcp 0) (dNw 0) (dx 0) dtt v) ++ (wTT cJ cT dtt dt vt (va_up gt 4 (sb (gt 4) 1 (va_cpy ((gt 5) 1) ((gt 4) 1) x2.toNatClampNeg x4.toNatClampNeg x5.toNatClampNeg)))))) C wq804 wq65 wq66 wq67 13 11 1 rfl rfl rfl g14 (Nat.le_of_ble_eq_true rfl) (Nat.le_of_ble_eq_true rfl) dX9_shift_116 (set_r (k := 1) (i := 10) rfl sTT_c4) ?_
                refine z_iload (pc := 119) C 7 dX9_shift_119 rfl ?_
                exact hret 121 _ _ x5 (va_up gt 4 (sb (gt 4) 1 (va_cpy ((gt 5) 1) ((gt 4) 1) x2.toNatClampNeg x4.toNatClampNeg x5.toNatClampNeg))) rfl h dX9_shift_121
              · have h := h.2 c13
                refine z_bipush (pc := 98) (v := -13) C dX9_shift_98 (by decide) ?_
                exact hret 100 _ _ (-13 : Int32) gt rfl h dX9_shift_100
          · have h := h.2 c9
            refine z_bipush (pc := 72) (v := -12) C dX9_shift_72 (by decide) ?_
            exact hret 74 _ _ (-12 : Int32) gt rfl h dX9_shift_74
        · have h := h.2 c8
          refine z_bipush (pc := 56) (v := -11) C dX9_shift_56 (by decide) ?_
          exact hret 58 _ _ (-11 : Int32) gt rfl h dX9_shift_58
    · have h := h.2 c4
      refine z_iconst (pc := 18) (v := -1) C dX9_shift_18 (by decide) ?_
      exact hret 19 _ _ (-1 : Int32) gt rfl h dX9_shift_19

set_option maxHeartbeats 4000000 in
set_option maxRecDepth 100000 in
theorem kX9_shift_5_5 {l : Launch} {D : va_G} {cI cJ cT : ClassId} (d : Nat → Nat) (dN : Nat → Nat) (dI : Nat → Nat) (dT : Nat → Nat) (dNc : Nat → Nat) (dNcj : Nat → Nat) (dNcs : Nat → Nat) (dNcp : Nat → Nat) (dNw : Nat → Nat) (dx : Nat → Nat) (dtt : Nat) (dt : Nat → Nat → Nat)  (v : Lf) (vt : Nat → Lf) (gt : Nat → Lg) (x2 : Int32) (x4 : Int32) (x5 : Int32) {Q : Int32 → (Nat → Lg) → Prop} (sz : Nat) (h : pX9_shift vt gt (nI 5) x2 (nI 5) x4 x5 Q) : Met l yX9_shift wdX9_shift rmX9_shift (Pz D (tyL cI cJ cT) [.ref (d 0), .int (nI 5), .int x2, .int (nI 5), .int x4, .int x5] ((wX9 d (dN 0) (dI 0) (dT 0) (dNc 0) (dNcj 0) (dNcs 0) (dNcp 0) (dNw 0) (dx 0) dtt v) ++ (wTT cJ cT dtt dt vt gt)) sz) (va_Qi (fun (r : Int32) (u : (Nat → Lg)) => Q r u) (Bz D (tyL cI cJ cT) ((wX9 d (dN 0) (dI 0) (dT 0) (dNc 0) (dNcj 0) (dNcs 0) (dNcp 0) (dNw 0) (dx 0) dtt v) ++ (wTT cJ cT dtt dt vt gt)) sz (fun (u : (Nat → Lg)) => ((wX9 d (dN 0) (dI 0) (dT 0) (dNc 0) (dNcj 0) (dNcs 0) (dNcp 0) (dNw 0) (dx 0) dtt v) ++ (wTT cJ cT dtt dt vt u)))) (va_A ((wX9 d (dN 0) (dI 0) (dT 0) (dNc 0) (dNcj 0) (dNcs 0) (dNcp 0) (dNw 0) (dx 0) dtt v) ++ (wTT cJ cT dtt dt vt gt)) sz)) 0 0 (va_A ((wX9 d (dN 0) (dI 0) (dT 0) (dNc 0) (dNcj 0) (dNcs 0) (dNcp 0) (dNw 0) (dx 0) dtt v) ++ (wTT cJ cT dtt dt vt gt)) sz) := by
  refine z_meti (cc := cX9_shift) (maxL := 8) (own := RX9) (lv0 := [(0, .ref (d 0)), (1, .int (nI 5)), (2, .int x2), (3, .int (nI 5)), (4, .int x4), (5, .int x5)]) (by decide) rfl rfl (Nat.le_of_ble_eq_true rfl) rfl ?_
  intro p e s m args below meth c A QQ C hin hret
  refine z_iload_n (pc := 0) C 1 dX9_shift_0 rfl ?_
  refine z_iconst (pc := 1) (v := 0) C dX9_shift_1 (by decide) ?_
  refine z_iconst (pc := 2) (v := 5) C dX9_shift_2 (by decide) ?_
  refine z_call0i (pc := 3) C (z_runS (pc := 3) (wc := ([] : va_W)) (As := [.int (nI 5), .int (0 : Int32), .int (5 : Int32)]) C (fun sz => kX9_within (nI 5) (0 : Int32) (5 : Int32) sz h) [] rfl (by decide) (gdS wq366 wq553 wq373 wq112) rfl rfl rfl hdSX9_within ⟨Nat.le_of_ble_eq_true rfl, Nat.le_of_ble_eq_true rfl⟩ rfl (Nat.le_of_ble_eq_true rfl) ⟨Nat.zero_le _, Nat.zero_le _⟩ dX9_shift_3) (fun r1 u1 h => ?_)
  refine z_if_eq (pc := 6) (tgt := 18) C dX9_shift_6 (by decide) (fun c2 => ?_) (fun c2 => ?_)
  · have h := h.1 c2
    refine z_iconst (pc := 18) (v := -1) C dX9_shift_18 (by decide) ?_
    exact hret 19 _ _ (-1 : Int32) gt rfl h dX9_shift_19
  · have h := h.2 c2
    refine z_iload_n (pc := 9) C 3 dX9_shift_9 rfl ?_
    refine z_iconst (pc := 10) (v := 0) C dX9_shift_10 (by decide) ?_
    refine z_iconst (pc := 11) (v := 5) C dX9_shift_11 (by decide) ?_
    refine z_call0i (pc := 12) C (z_runS (pc := 12) (wc := ([] : va_W)) (As := [.int (nI 5), .int (0 : Int32), .int (5 : Int32)]) C (fun sz => kX9_within (nI 5) (0 : Int32) (5 : Int32) sz h) [] rfl (by decide) (gdS wq366 wq553 wq373 wq112) rfl rfl rfl hdSX9_within ⟨Nat.le_of_ble_eq_true rfl, Nat.le_of_ble_eq_true rfl⟩ rfl (Nat.le_of_ble_eq_true rfl) ⟨Nat.zero_le _, Nat.zero_le _⟩ dX9_shift_12) (fun r3 u3 h => ?_)
    refine z_if_ne (pc := 15) (tgt := 20) C dX9_shift_15 (by decide) (fun c4 => ?_) (fun c4 => ?_)
    · have h := h.1 c4
      refine z_aload_n (pc := 20) C 0 dX9_shift_20 rfl ?_
      refine z_get (pc := 21) C uw9 0 rfl rfl 9 (by decide) wq544 rfl dX9_shift_21 ?_
      refine z_iload_n (pc := 24) C 1 dX9_shift_24 rfl ?_
      obtain ⟨g5, h⟩ := h
      refine z_aldq (pc := 25) C 1 2 rfl rfl g5 (.ref (dt 5 0)) rfl dX9_shift_25 ?_
      refine z_astore (pc := 26) (lv' := [(6, .ref (dt 5 0)), (0, .ref (d 0)), (1, .int (nI 5)), (2, .int x2), (3, .int (nI 5)), (4, .int x4), (5, .int x5)]) C dX9_shift_26 (by decide) rfl ?_
      refine z_aload_n (pc := 28) C 1 dX9_shift_28 rfl ?_
      refine z_get (pc := 29) C uw9 0 rfl rfl 9 (by decide) wq544 rfl dX9_shift_29 ?_
      refine z_iload_n (pc := 32) C 4 dX9_shift_32 rfl ?_
      obtain ⟨g6, h⟩ := h
      refine z_aldq (pc := 33) C 1 2 rfl rfl g6 (.ref (dt 5 0)) rfl dX9_shift_33 ?_
      refine z_astore (pc := 34) (lv' := [(7, .ref (dt 5 0)), (6, .ref (dt 5 0)), (0, .ref (d 0)), (1, .int (nI 5)), (2, .int x2), (3, .int (nI 5)), (4, .int x4), (5, .int x5)]) C dX9_shift_34 (by decide) rfl ?_
      refine z_aload (pc := 36) C 1 dX9_shift_36 rfl ?_
      refine z_get (pc := 38) C uw6 12 rfl rfl 0 (by decide) wq777 rfl dX9_shift_38 ?_
      refine z_bipush (pc := 41) (v := -5) C dX9_shift_41 (by decide) ?_
      refine z_icmp_eq (pc := 43) (tgt := 56) C dX9_shift_43 (by decide) (fun c7 => ?_) (fun c7 => ?_)
      · have h := h.1 c7
        refine z_bipush (pc := 56) (v := -11) C dX9_shift_56 (by decide) ?_
        exact hret 58 _ _ (-11 : Int32) gt rfl h dX9_shift_58
      · have h := h.2 c7
        refine z_aload (pc := 46) C 0 dX9_shift_46 rfl ?_
        refine z_get (pc := 48) C uw6 12 rfl rfl 0 (by decide) wq777 rfl dX9_shift_48 ?_
        refine z_bipush (pc := 51) (v := -5) C dX9_shift_51 (by decide) ?_
        refine z_icmp_ne (pc := 53) (tgt := 59) C dX9_shift_53 (by decide) (fun c8 => ?_) (fun c8 => ?_)
        · have h := h.1 c8
          refine z_aload (pc := 59) C 1 dX9_shift_59 rfl ?_
          refine z_get (pc := 61) C uw6 12 rfl rfl 0 (by decide) wq777 rfl dX9_shift_61 ?_
          refine z_aload (pc := 64) C 0 dX9_shift_64 rfl ?_
          refine z_get (pc := 66) C uw6 12 rfl rfl 0 (by decide) wq777 rfl dX9_shift_66 ?_
          refine z_icmp_eq (pc := 69) (tgt := 75) C dX9_shift_69 (by decide) (fun c9 => ?_) (fun c9 => ?_)
          · have h := h.1 c9
            refine z_aload (pc := 75) C 1 dX9_shift_75 rfl ?_
            refine z_iload_n (pc := 77) C 4 dX9_shift_77 rfl ?_
            refine z_iload (pc := 78) C 7 dX9_shift_78 rfl ?_
            refine z_callRi (pc := 80) C (z_runV (pc := 80) (wc := (wX6 cJ (dt 5) (vt 5) (gt 5))) (As := [.int x2, .int x5]) C (fun sz => kX6_hasPlaces (dt 5) (vt 5) (gt 5) x2 x5 sz h) [12, 13] rfl (by decide) (gdV wq414 wq805 wq806 wq807 wq546) rfl rfl rfl hdX6_hasPlaces 12 rfl rfl rfl ⟨Nat.le_of_ble_eq_true rfl, Nat.le_of_ble_eq_true rfl⟩ rfl (Nat.le_of_ble_eq_true rfl) ⟨Nat.zero_le _, Nat.zero_le _⟩ dX9_shift_80) [12, 13] rfl (by decide) (fun r10 u10 h => ?_)
            refine z_if_eq (pc := 83) (tgt := 98) C dX9_shift_83 (by decide) (fun c11 => ?_) (fun c11 => ?_)
            · have h := h.1 c11
              refine z_bipush (pc := 98) (v := -13) C dX9_shift_98 (by decide) ?_
              exact hret 100 _ _ (-13 : Int32) gt rfl h dX9_shift_100
            · have h := h.2 c11
              refine z_aload (pc := 86) C 0 dX9_shift_86 rfl ?_
              refine z_iload (pc := 88) C 6 dX9_shift_88 rfl ?_
              refine z_iload (pc := 90) C 7 dX9_shift_90 rfl ?_
              refine z_callRi (pc := 92) C (z_runV (pc := 92) (wc := (wX6 cJ (dt 5) (vt 5) (gt 5))) (As := [.int x4, .int x5]) C (fun sz => kX6_hasPlaces (dt 5) (vt 5) (gt 5) x4 x5 sz h) [12, 13] rfl (by decide) (gdV wq414 wq805 wq806 wq807 wq546) rfl rfl rfl hdX6_hasPlaces 12 rfl rfl rfl ⟨Nat.le_of_ble_eq_true rfl, Nat.le_of_ble_eq_true rfl⟩ rfl (Nat.le_of_ble_eq_true rfl) ⟨Nat.zero_le _, Nat.zero_le _⟩ dX9_shift_92) [12, 13] rfl (by decide) (fun r12 u12 h => ?_)
              refine z_if_ne (pc := 95) (tgt := 101) C dX9_shift_95 (by decide) (fun c13 => ?_) (fun c13 => ?_)
              · have h := h.1 c13
                refine z_aload (pc := 101) C 1 dX9_shift_101 rfl ?_
                refine z_get (pc := 103) C uw6 12 rfl rfl 2 (by decide) wq778 rfl dX9_shift_103 ?_
                refine z_iload_n (pc := 106) C 4 dX9_shift_106 rfl ?_
                refine z_aload (pc := 107) C 0 dX9_shift_107 rfl ?_
                refine z_get (pc := 109) C uw6 12 rfl rfl 2 (by decide) wq778 rfl dX9_shift_109 ?_
                refine z_iload (pc := 112) C 6 dX9_shift_112 rfl ?_
                refine z_iload (pc := 114) C 7 dX9_shift_114 rfl ?_
                obtain ⟨g14, h⟩ := h
                refine z_copyl (pc := 116) (ws' := ((wX9 d (dN 0) (dI 0) (dT 0) (dNc 0) (dNcj 0) (dNcs 0) (dNcp 0) (dNw 0) (dx 0) dtt v) ++ (wTT cJ cT dtt dt vt (va_up gt 5 (sb (gt 5) 1 (va_cpy ((gt 5) 1) ((gt 5) 1) x2.toNatClampNeg x4.toNatClampNeg x5.toNatClampNeg)))))) C wq804 wq65 wq66 wq67 13 13 1 rfl rfl rfl g14 (Nat.le_of_ble_eq_true rfl) (Nat.le_of_ble_eq_true rfl) dX9_shift_116 (set_r (k := 1) (i := 12) rfl sTT_c5) ?_
                refine z_iload (pc := 119) C 7 dX9_shift_119 rfl ?_
                exact hret 121 _ _ x5 (va_up gt 5 (sb (gt 5) 1 (va_cpy ((gt 5) 1) ((gt 5) 1) x2.toNatClampNeg x4.toNatClampNeg x5.toNatClampNeg))) rfl h dX9_shift_121
              · have h := h.2 c13
                refine z_bipush (pc := 98) (v := -13) C dX9_shift_98 (by decide) ?_
                exact hret 100 _ _ (-13 : Int32) gt rfl h dX9_shift_100
          · have h := h.2 c9
            refine z_bipush (pc := 72) (v := -12) C dX9_shift_72 (by decide) ?_
            exact hret 74 _ _ (-12 : Int32) gt rfl h dX9_shift_74
        · have h := h.2 c8
          refine z_bipush (pc := 56) (v := -11) C dX9_shift_56 (by decide) ?_
          exact hret 58 _ _ (-11 : Int32) gt rfl h dX9_shift_58
    · have h := h.2 c4
      refine z_iconst (pc := 18) (v := -1) C dX9_shift_18 (by decide) ?_
      exact hret 19 _ _ (-1 : Int32) gt rfl h dX9_shift_19

set_option maxHeartbeats 4000000 in
set_option maxRecDepth 100000 in
theorem kX9_shift_5_n {l : Launch} {D : va_G} {cI cJ cT : ClassId} (d : Nat → Nat) (dN : Nat → Nat) (dI : Nat → Nat) (dT : Nat → Nat) (dNc : Nat → Nat) (dNcj : Nat → Nat) (dNcs : Nat → Nat) (dNcp : Nat → Nat) (dNw : Nat → Nat) (dx : Nat → Nat) (dtt : Nat) (dt : Nat → Nat → Nat)  (v : Lf) (vt : Nat → Lf) (gt : Nat → Lg) (x2 : Int32) (x3 : Int32) (x4 : Int32) (x5 : Int32) (g2 : ¬ vp_in x3 6) {Q : Int32 → (Nat → Lg) → Prop} (sz : Nat) (h : pX9_shift vt gt (nI 5) x2 x3 x4 x5 Q) : Met l yX9_shift wdX9_shift rmX9_shift (Pz D (tyL cI cJ cT) [.ref (d 0), .int (nI 5), .int x2, .int x3, .int x4, .int x5] ((wX9 d (dN 0) (dI 0) (dT 0) (dNc 0) (dNcj 0) (dNcs 0) (dNcp 0) (dNw 0) (dx 0) dtt v) ++ (wTT cJ cT dtt dt vt gt)) sz) (va_Qi (fun (r : Int32) (u : (Nat → Lg)) => Q r u) (Bz D (tyL cI cJ cT) ((wX9 d (dN 0) (dI 0) (dT 0) (dNc 0) (dNcj 0) (dNcs 0) (dNcp 0) (dNw 0) (dx 0) dtt v) ++ (wTT cJ cT dtt dt vt gt)) sz (fun (u : (Nat → Lg)) => ((wX9 d (dN 0) (dI 0) (dT 0) (dNc 0) (dNcj 0) (dNcs 0) (dNcp 0) (dNw 0) (dx 0) dtt v) ++ (wTT cJ cT dtt dt vt u)))) (va_A ((wX9 d (dN 0) (dI 0) (dT 0) (dNc 0) (dNcj 0) (dNcs 0) (dNcp 0) (dNw 0) (dx 0) dtt v) ++ (wTT cJ cT dtt dt vt gt)) sz)) 0 0 (va_A ((wX9 d (dN 0) (dI 0) (dT 0) (dNc 0) (dNcj 0) (dNcs 0) (dNcp 0) (dNw 0) (dx 0) dtt v) ++ (wTT cJ cT dtt dt vt gt)) sz) := by
  refine z_meti (cc := cX9_shift) (maxL := 8) (own := RX9) (lv0 := [(0, .ref (d 0)), (1, .int (nI 5)), (2, .int x2), (3, .int x3), (4, .int x4), (5, .int x5)]) (by decide) rfl rfl (Nat.le_of_ble_eq_true rfl) rfl ?_
  intro p e s m args below meth c A QQ C hin hret
  refine z_iload_n (pc := 0) C 1 dX9_shift_0 rfl ?_
  refine z_iconst (pc := 1) (v := 0) C dX9_shift_1 (by decide) ?_
  refine z_iconst (pc := 2) (v := 5) C dX9_shift_2 (by decide) ?_
  refine z_call0i (pc := 3) C (z_runS (pc := 3) (wc := ([] : va_W)) (As := [.int (nI 5), .int (0 : Int32), .int (5 : Int32)]) C (fun sz => kX9_within (nI 5) (0 : Int32) (5 : Int32) sz h) [] rfl (by decide) (gdS wq366 wq553 wq373 wq112) rfl rfl rfl hdSX9_within ⟨Nat.le_of_ble_eq_true rfl, Nat.le_of_ble_eq_true rfl⟩ rfl (Nat.le_of_ble_eq_true rfl) ⟨Nat.zero_le _, Nat.zero_le _⟩ dX9_shift_3) (fun r1 u1 h => ?_)
  refine z_if_eq (pc := 6) (tgt := 18) C dX9_shift_6 (by decide) (fun c2 => ?_) (fun c2 => ?_)
  · have h := h.1 c2
    refine z_iconst (pc := 18) (v := -1) C dX9_shift_18 (by decide) ?_
    exact hret 19 _ _ (-1 : Int32) gt rfl h dX9_shift_19
  · have h := h.2 c2
    refine z_iload_n (pc := 9) C 3 dX9_shift_9 rfl ?_
    refine z_iconst (pc := 10) (v := 0) C dX9_shift_10 (by decide) ?_
    refine z_iconst (pc := 11) (v := 5) C dX9_shift_11 (by decide) ?_
    refine z_call0i (pc := 12) C (z_runS (pc := 12) (wc := ([] : va_W)) (As := [.int x3, .int (0 : Int32), .int (5 : Int32)]) C (fun sz => kX9_within x3 (0 : Int32) (5 : Int32) sz h) [] rfl (by decide) (gdS wq366 wq553 wq373 wq112) rfl rfl rfl hdSX9_within ⟨Nat.le_of_ble_eq_true rfl, Nat.le_of_ble_eq_true rfl⟩ rfl (Nat.le_of_ble_eq_true rfl) ⟨Nat.zero_le _, Nat.zero_le _⟩ dX9_shift_12) (fun r3 u3 h => ?_)
    refine z_if_ne (pc := 15) (tgt := 20) C dX9_shift_15 (by decide) (fun c4 => ?_) (fun c4 => ?_)
    · have h := h.1 c4
      refine z_aload_n (pc := 20) C 0 dX9_shift_20 rfl ?_
      refine z_get (pc := 21) C uw9 0 rfl rfl 9 (by decide) wq544 rfl dX9_shift_21 ?_
      refine z_iload_n (pc := 24) C 1 dX9_shift_24 rfl ?_
      obtain ⟨g5, h⟩ := h
      refine z_aldq (pc := 25) C 1 2 rfl rfl g5 (.ref (dt 5 0)) rfl dX9_shift_25 ?_
      refine z_astore (pc := 26) (lv' := [(6, .ref (dt 5 0)), (0, .ref (d 0)), (1, .int (nI 5)), (2, .int x2), (3, .int x3), (4, .int x4), (5, .int x5)]) C dX9_shift_26 (by decide) rfl ?_
      refine z_aload_n (pc := 28) C 1 dX9_shift_28 rfl ?_
      refine z_get (pc := 29) C uw9 0 rfl rfl 9 (by decide) wq544 rfl dX9_shift_29 ?_
      refine z_iload_n (pc := 32) C 4 dX9_shift_32 rfl ?_
      obtain ⟨g6, h⟩ := h
      exact absurd g6 g2
    · have h := h.2 c4
      refine z_iconst (pc := 18) (v := -1) C dX9_shift_18 (by decide) ?_
      exact hret 19 _ _ (-1 : Int32) gt rfl h dX9_shift_19

set_option maxHeartbeats 4000000 in
set_option maxRecDepth 100000 in
theorem kX9_shift_n {l : Launch} {D : va_G} {cI cJ cT : ClassId} (d : Nat → Nat) (dN : Nat → Nat) (dI : Nat → Nat) (dT : Nat → Nat) (dNc : Nat → Nat) (dNcj : Nat → Nat) (dNcs : Nat → Nat) (dNcp : Nat → Nat) (dNw : Nat → Nat) (dx : Nat → Nat) (dtt : Nat) (dt : Nat → Nat → Nat)  (v : Lf) (vt : Nat → Lf) (gt : Nat → Lg) (x1 : Int32) (x2 : Int32) (x3 : Int32) (x4 : Int32) (x5 : Int32) (g1 : ¬ vp_in x1 6) {Q : Int32 → (Nat → Lg) → Prop} (sz : Nat) (h : pX9_shift vt gt x1 x2 x3 x4 x5 Q) : Met l yX9_shift wdX9_shift rmX9_shift (Pz D (tyL cI cJ cT) [.ref (d 0), .int x1, .int x2, .int x3, .int x4, .int x5] ((wX9 d (dN 0) (dI 0) (dT 0) (dNc 0) (dNcj 0) (dNcs 0) (dNcp 0) (dNw 0) (dx 0) dtt v) ++ (wTT cJ cT dtt dt vt gt)) sz) (va_Qi (fun (r : Int32) (u : (Nat → Lg)) => Q r u) (Bz D (tyL cI cJ cT) ((wX9 d (dN 0) (dI 0) (dT 0) (dNc 0) (dNcj 0) (dNcs 0) (dNcp 0) (dNw 0) (dx 0) dtt v) ++ (wTT cJ cT dtt dt vt gt)) sz (fun (u : (Nat → Lg)) => ((wX9 d (dN 0) (dI 0) (dT 0) (dNc 0) (dNcj 0) (dNcs 0) (dNcp 0) (dNw 0) (dx 0) dtt v) ++ (wTT cJ cT dtt dt vt u)))) (va_A ((wX9 d (dN 0) (dI 0) (dT 0) (dNc 0) (dNcj 0) (dNcs 0) (dNcp 0) (dNw 0) (dx 0) dtt v) ++ (wTT cJ cT dtt dt vt gt)) sz)) 0 0 (va_A ((wX9 d (dN 0) (dI 0) (dT 0) (dNc 0) (dNcj 0) (dNcs 0) (dNcp 0) (dNw 0) (dx 0) dtt v) ++ (wTT cJ cT dtt dt vt gt)) sz) := by
  refine z_meti (cc := cX9_shift) (maxL := 8) (own := RX9) (lv0 := [(0, .ref (d 0)), (1, .int x1), (2, .int x2), (3, .int x3), (4, .int x4), (5, .int x5)]) (by decide) rfl rfl (Nat.le_of_ble_eq_true rfl) rfl ?_
  intro p e s m args below meth c A QQ C hin hret
  refine z_iload_n (pc := 0) C 1 dX9_shift_0 rfl ?_
  refine z_iconst (pc := 1) (v := 0) C dX9_shift_1 (by decide) ?_
  refine z_iconst (pc := 2) (v := 5) C dX9_shift_2 (by decide) ?_
  refine z_call0i (pc := 3) C (z_runS (pc := 3) (wc := ([] : va_W)) (As := [.int x1, .int (0 : Int32), .int (5 : Int32)]) C (fun sz => kX9_within x1 (0 : Int32) (5 : Int32) sz h) [] rfl (by decide) (gdS wq366 wq553 wq373 wq112) rfl rfl rfl hdSX9_within ⟨Nat.le_of_ble_eq_true rfl, Nat.le_of_ble_eq_true rfl⟩ rfl (Nat.le_of_ble_eq_true rfl) ⟨Nat.zero_le _, Nat.zero_le _⟩ dX9_shift_3) (fun r1 u1 h => ?_)
  refine z_if_eq (pc := 6) (tgt := 18) C dX9_shift_6 (by decide) (fun c2 => ?_) (fun c2 => ?_)
  · have h := h.1 c2
    refine z_iconst (pc := 18) (v := -1) C dX9_shift_18 (by decide) ?_
    exact hret 19 _ _ (-1 : Int32) gt rfl h dX9_shift_19
  · have h := h.2 c2
    refine z_iload_n (pc := 9) C 3 dX9_shift_9 rfl ?_
    refine z_iconst (pc := 10) (v := 0) C dX9_shift_10 (by decide) ?_
    refine z_iconst (pc := 11) (v := 5) C dX9_shift_11 (by decide) ?_
    refine z_call0i (pc := 12) C (z_runS (pc := 12) (wc := ([] : va_W)) (As := [.int x3, .int (0 : Int32), .int (5 : Int32)]) C (fun sz => kX9_within x3 (0 : Int32) (5 : Int32) sz h) [] rfl (by decide) (gdS wq366 wq553 wq373 wq112) rfl rfl rfl hdSX9_within ⟨Nat.le_of_ble_eq_true rfl, Nat.le_of_ble_eq_true rfl⟩ rfl (Nat.le_of_ble_eq_true rfl) ⟨Nat.zero_le _, Nat.zero_le _⟩ dX9_shift_12) (fun r3 u3 h => ?_)
    refine z_if_ne (pc := 15) (tgt := 20) C dX9_shift_15 (by decide) (fun c4 => ?_) (fun c4 => ?_)
    · have h := h.1 c4
      refine z_aload_n (pc := 20) C 0 dX9_shift_20 rfl ?_
      refine z_get (pc := 21) C uw9 0 rfl rfl 9 (by decide) wq544 rfl dX9_shift_21 ?_
      refine z_iload_n (pc := 24) C 1 dX9_shift_24 rfl ?_
      obtain ⟨g5, h⟩ := h
      exact absurd g5 g1
    · have h := h.2 c4
      refine z_iconst (pc := 18) (v := -1) C dX9_shift_18 (by decide) ?_
      exact hret 19 _ _ (-1 : Int32) gt rfl h dX9_shift_19

set_option maxHeartbeats 4000000 in
theorem kX9_shift {l : Launch} {D : va_G} {cI cJ cT : ClassId} (d : Nat → Nat) (dN : Nat → Nat) (dI : Nat → Nat) (dT : Nat → Nat) (dNc : Nat → Nat) (dNcj : Nat → Nat) (dNcs : Nat → Nat) (dNcp : Nat → Nat) (dNw : Nat → Nat) (dx : Nat → Nat) (dtt : Nat) (dt : Nat → Nat → Nat)  (v : Lf) (vt : Nat → Lf) (gt : Nat → Lg) (x1 : Int32) (x2 : Int32) (x3 : Int32) (x4 : Int32) (x5 : Int32) {Q : Int32 → (Nat → Lg) → Prop} (sz : Nat) (h : pX9_shift vt gt x1 x2 x3 x4 x5 Q) : Met l yX9_shift wdX9_shift rmX9_shift (Pz D (tyL cI cJ cT) [.ref (d 0), .int x1, .int x2, .int x3, .int x4, .int x5] ((wX9 d (dN 0) (dI 0) (dT 0) (dNc 0) (dNcj 0) (dNcs 0) (dNcp 0) (dNw 0) (dx 0) dtt v) ++ (wTT cJ cT dtt dt vt gt)) sz) (va_Qi (fun (r : Int32) (u : (Nat → Lg)) => Q r u) (Bz D (tyL cI cJ cT) ((wX9 d (dN 0) (dI 0) (dT 0) (dNc 0) (dNcj 0) (dNcs 0) (dNcp 0) (dNw 0) (dx 0) dtt v) ++ (wTT cJ cT dtt dt vt gt)) sz (fun (u : (Nat → Lg)) => ((wX9 d (dN 0) (dI 0) (dT 0) (dNc 0) (dNcj 0) (dNcs 0) (dNcp 0) (dNw 0) (dx 0) dtt v) ++ (wTT cJ cT dtt dt vt u)))) (va_A ((wX9 d (dN 0) (dI 0) (dT 0) (dNc 0) (dNcj 0) (dNcs 0) (dNcp 0) (dNw 0) (dx 0) dtt v) ++ (wTT cJ cT dtt dt vt gt)) sz)) 0 0 (va_A ((wX9 d (dN 0) (dI 0) (dT 0) (dNc 0) (dNcj 0) (dNcs 0) (dNcp 0) (dNw 0) (dx 0) dtt v) ++ (wTT cJ cT dtt dt vt gt)) sz) := by
  by_cases g1 : vp_in x1 6
  · obtain ⟨j, hj, rfl⟩ := vp_in_of g1 (by decide)
    rcases (show j = 0 ∨ j = 1 ∨ j = 2 ∨ j = 3 ∨ j = 4 ∨ j = 5 by omega) with rfl | rfl | rfl | rfl | rfl | rfl
    · by_cases g2 : vp_in x3 6
      · obtain ⟨i, hi, rfl⟩ := vp_in_of g2 (by decide)
        rcases (show i = 0 ∨ i = 1 ∨ i = 2 ∨ i = 3 ∨ i = 4 ∨ i = 5 by omega) with rfl | rfl | rfl | rfl | rfl | rfl
        · exact kX9_shift_0_0 d dN dI dT dNc dNcj dNcs dNcp dNw dx dtt dt v vt gt x2 x4 x5 sz h
        · exact kX9_shift_0_1 d dN dI dT dNc dNcj dNcs dNcp dNw dx dtt dt v vt gt x2 x4 x5 sz h
        · exact kX9_shift_0_2 d dN dI dT dNc dNcj dNcs dNcp dNw dx dtt dt v vt gt x2 x4 x5 sz h
        · exact kX9_shift_0_3 d dN dI dT dNc dNcj dNcs dNcp dNw dx dtt dt v vt gt x2 x4 x5 sz h
        · exact kX9_shift_0_4 d dN dI dT dNc dNcj dNcs dNcp dNw dx dtt dt v vt gt x2 x4 x5 sz h
        · exact kX9_shift_0_5 d dN dI dT dNc dNcj dNcs dNcp dNw dx dtt dt v vt gt x2 x4 x5 sz h
      · exact kX9_shift_0_n d dN dI dT dNc dNcj dNcs dNcp dNw dx dtt dt v vt gt x2 x3 x4 x5 g2 sz h
    · by_cases g2 : vp_in x3 6
      · obtain ⟨i, hi, rfl⟩ := vp_in_of g2 (by decide)
        rcases (show i = 0 ∨ i = 1 ∨ i = 2 ∨ i = 3 ∨ i = 4 ∨ i = 5 by omega) with rfl | rfl | rfl | rfl | rfl | rfl
        · exact kX9_shift_1_0 d dN dI dT dNc dNcj dNcs dNcp dNw dx dtt dt v vt gt x2 x4 x5 sz h
        · exact kX9_shift_1_1 d dN dI dT dNc dNcj dNcs dNcp dNw dx dtt dt v vt gt x2 x4 x5 sz h
        · exact kX9_shift_1_2 d dN dI dT dNc dNcj dNcs dNcp dNw dx dtt dt v vt gt x2 x4 x5 sz h
        · exact kX9_shift_1_3 d dN dI dT dNc dNcj dNcs dNcp dNw dx dtt dt v vt gt x2 x4 x5 sz h
        · exact kX9_shift_1_4 d dN dI dT dNc dNcj dNcs dNcp dNw dx dtt dt v vt gt x2 x4 x5 sz h
        · exact kX9_shift_1_5 d dN dI dT dNc dNcj dNcs dNcp dNw dx dtt dt v vt gt x2 x4 x5 sz h
      · exact kX9_shift_1_n d dN dI dT dNc dNcj dNcs dNcp dNw dx dtt dt v vt gt x2 x3 x4 x5 g2 sz h
    · by_cases g2 : vp_in x3 6
      · obtain ⟨i, hi, rfl⟩ := vp_in_of g2 (by decide)
        rcases (show i = 0 ∨ i = 1 ∨ i = 2 ∨ i = 3 ∨ i = 4 ∨ i = 5 by omega) with rfl | rfl | rfl | rfl | rfl | rfl
        · exact kX9_shift_2_0 d dN dI dT dNc dNcj dNcs dNcp dNw dx dtt dt v vt gt x2 x4 x5 sz h
        · exact kX9_shift_2_1 d dN dI dT dNc dNcj dNcs dNcp dNw dx dtt dt v vt gt x2 x4 x5 sz h
        · exact kX9_shift_2_2 d dN dI dT dNc dNcj dNcs dNcp dNw dx dtt dt v vt gt x2 x4 x5 sz h
        · exact kX9_shift_2_3 d dN dI dT dNc dNcj dNcs dNcp dNw dx dtt dt v vt gt x2 x4 x5 sz h
        · exact kX9_shift_2_4 d dN dI dT dNc dNcj dNcs dNcp dNw dx dtt dt v vt gt x2 x4 x5 sz h
        · exact kX9_shift_2_5 d dN dI dT dNc dNcj dNcs dNcp dNw dx dtt dt v vt gt x2 x4 x5 sz h
      · exact kX9_shift_2_n d dN dI dT dNc dNcj dNcs dNcp dNw dx dtt dt v vt gt x2 x3 x4 x5 g2 sz h
    · by_cases g2 : vp_in x3 6
      · obtain ⟨i, hi, rfl⟩ := vp_in_of g2 (by decide)
        rcases (show i = 0 ∨ i = 1 ∨ i = 2 ∨ i = 3 ∨ i = 4 ∨ i = 5 by omega) with rfl | rfl | rfl | rfl | rfl | rfl
        · exact kX9_shift_3_0 d dN dI dT dNc dNcj dNcs dNcp dNw dx dtt dt v vt gt x2 x4 x5 sz h
        · exact kX9_shift_3_1 d dN dI dT dNc dNcj dNcs dNcp dNw dx dtt dt v vt gt x2 x4 x5 sz h
        · exact kX9_shift_3_2 d dN dI dT dNc dNcj dNcs dNcp dNw dx dtt dt v vt gt x2 x4 x5 sz h
        · exact kX9_shift_3_3 d dN dI dT dNc dNcj dNcs dNcp dNw dx dtt dt v vt gt x2 x4 x5 sz h
        · exact kX9_shift_3_4 d dN dI dT dNc dNcj dNcs dNcp dNw dx dtt dt v vt gt x2 x4 x5 sz h
        · exact kX9_shift_3_5 d dN dI dT dNc dNcj dNcs dNcp dNw dx dtt dt v vt gt x2 x4 x5 sz h
      · exact kX9_shift_3_n d dN dI dT dNc dNcj dNcs dNcp dNw dx dtt dt v vt gt x2 x3 x4 x5 g2 sz h
    · by_cases g2 : vp_in x3 6
      · obtain ⟨i, hi, rfl⟩ := vp_in_of g2 (by decide)
        rcases (show i = 0 ∨ i = 1 ∨ i = 2 ∨ i = 3 ∨ i = 4 ∨ i = 5 by omega) with rfl | rfl | rfl | rfl | rfl | rfl
        · exact kX9_shift_4_0 d dN dI dT dNc dNcj dNcs dNcp dNw dx dtt dt v vt gt x2 x4 x5 sz h
        · exact kX9_shift_4_1 d dN dI dT dNc dNcj dNcs dNcp dNw dx dtt dt v vt gt x2 x4 x5 sz h
        · exact kX9_shift_4_2 d dN dI dT dNc dNcj dNcs dNcp dNw dx dtt dt v vt gt x2 x4 x5 sz h
        · exact kX9_shift_4_3 d dN dI dT dNc dNcj dNcs dNcp dNw dx dtt dt v vt gt x2 x4 x5 sz h
        · exact kX9_shift_4_4 d dN dI dT dNc dNcj dNcs dNcp dNw dx dtt dt v vt gt x2 x4 x5 sz h
        · exact kX9_shift_4_5 d dN dI dT dNc dNcj dNcs dNcp dNw dx dtt dt v vt gt x2 x4 x5 sz h
      · exact kX9_shift_4_n d dN dI dT dNc dNcj dNcs dNcp dNw dx dtt dt v vt gt x2 x3 x4 x5 g2 sz h
    · by_cases g2 : vp_in x3 6
      · obtain ⟨i, hi, rfl⟩ := vp_in_of g2 (by decide)
        rcases (show i = 0 ∨ i = 1 ∨ i = 2 ∨ i = 3 ∨ i = 4 ∨ i = 5 by omega) with rfl | rfl | rfl | rfl | rfl | rfl
        · exact kX9_shift_5_0 d dN dI dT dNc dNcj dNcs dNcp dNw dx dtt dt v vt gt x2 x4 x5 sz h
        · exact kX9_shift_5_1 d dN dI dT dNc dNcj dNcs dNcp dNw dx dtt dt v vt gt x2 x4 x5 sz h
        · exact kX9_shift_5_2 d dN dI dT dNc dNcj dNcs dNcp dNw dx dtt dt v vt gt x2 x4 x5 sz h
        · exact kX9_shift_5_3 d dN dI dT dNc dNcj dNcs dNcp dNw dx dtt dt v vt gt x2 x4 x5 sz h
        · exact kX9_shift_5_4 d dN dI dT dNc dNcj dNcs dNcp dNw dx dtt dt v vt gt x2 x4 x5 sz h
        · exact kX9_shift_5_5 d dN dI dT dNc dNcj dNcs dNcp dNw dx dtt dt v vt gt x2 x4 x5 sz h
      · exact kX9_shift_5_n d dN dI dT dNc dNcj dNcs dNcp dNw dx dtt dt v vt gt x2 x3 x4 x5 g2 sz h
  · exact kX9_shift_n d dN dI dT dNc dNcj dNcs dNcp dNw dx dtt dt v vt gt x1 x2 x3 x4 x5 g1 sz h

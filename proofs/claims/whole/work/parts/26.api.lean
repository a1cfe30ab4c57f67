def pX9_signal (vNc : Lf) (vNcj : Lf) (x1 : Int32) (x2 : Int32) (Q : Int32 → Lf → Prop) : Prop := (pX9_within x1 (0 : Int32) (3 : Int32) (fun r1 => ((r1 = 0 → (Q (-2 : Int32) vNcj)) ∧ (¬ r1 = 0 → (pX9_within x2 (0 : Int32) (63 : Int32) (fun r3 => ((¬ r3 = 0 → (((vNc 0 4) = 0 → (((vNcj 0 0) < (8 : Int32) → (pX1_addSignal vNcj x1 x2 (fun r7 vNcj_7 => (Q r7 vNcj_7)))) ∧ (¬ (vNcj 0 0) < (8 : Int32) → (Q (-4 : Int32) vNcj)))) ∧ (¬ (vNc 0 4) = 0 → (Q (-3 : Int32) vNcj)))) ∧ (r3 = 0 → (Q (-2 : Int32) vNcj)))))))))
abbrev rmX9_signal : Room := { frames := 5, cells := 0, slots := 0, locals := 119 }
abbrev wdX9_signal : List Cond := Cond.code yX9_signal cX9_signal 3 (some .int) :: TB
theorem hdSX9_signal : (yX9_signal).cls ≠ "java/lang/invoke/MethodHandle" ∧ (yX9_signal).cls ≠ "java/lang/invoke/VarHandle" ∧ (parseMethodDescriptor (yX9_signal).desc).map (fun d => d.parameters.length) = some 2 := by decide +kernel
theorem hdX9_signal : (yX9_signal).cls = RX9 ∧ (yX9_signal).cls ≠ "java/lang/invoke/MethodHandle" ∧ (yX9_signal).cls ≠ "java/lang/invoke/VarHandle" ∧ (parseMethodDescriptor (yX9_signal).desc).map (fun d => d.parameters.length) = some 2 := ⟨rfl, hdSX9_signal⟩
set_option maxHeartbeats 4000000 in
set_option maxRecDepth 100000 in
theorem kX9_signal {l : Launch} {D : va_G} {cI cJ cT : ClassId} (d : Nat → Nat) (dN : Nat → Nat) (dI : Nat → Nat) (dT : Nat → Nat) (dNc : Nat → Nat) (dNcj : Nat → Nat) (dNcs : Nat → Nat) (dNcp : Nat → Nat) (dNw : Nat → Nat) (dx : Nat → Nat) (dtt : Nat) (dNcr : Nat → Nat)  (v : Lf) (vNc : Lf) (vNcj : Lf) (x1 : Int32) (x2 : Int32) {Q : Int32 → Lf → Prop} (sz : Nat) (h : pX9_signal vNc vNcj x1 x2 Q) : Met l yX9_signal wdX9_signal rmX9_signal (Pz D (tyL cI cJ cT) [.ref (d 0), .int x1, .int x2] ((wX9 d (dN 0) (dI 0) (dT 0) (dNc 0) (dNcj 0) (dNcs 0) (dNcp 0) (dNw 0) (dx 0) dtt v) ++ ((wX0 dNc (dNcj 0) (dNcs 0) (dNcp 0) (dNcr 0) vNc) ++ (wX1 cI dNcj vNcj))) sz) (va_Qi (fun (r : Int32) (u : Lf) => Q r u) (Bz D (tyL cI cJ cT) ((wX9 d (dN 0) (dI 0) (dT 0) (dNc 0) (dNcj 0) (dNcs 0) (dNcp 0) (dNw 0) (dx 0) dtt v) ++ ((wX0 dNc (dNcj 0) (dNcs 0) (dNcp 0) (dNcr 0) vNc) ++ (wX1 cI dNcj vNcj))) sz (fun (u : Lf) => ((wX9 d (dN 0) (dI 0) (dT 0) (dNc 0) (dNcj 0) (dNcs 0) (dNcp 0) (dNw 0) (dx 0) dtt v) ++ ((wX0 dNc (dNcj 0) (dNcs 0) (dNcp 0) (dNcr 0) vNc) ++ (wX1 cI dNcj u))))) (va_A ((wX9 d (dN 0) (dI 0) (dT 0) (dNc 0) (dNcj 0) (dNcs 0) (dNcp 0) (dNw 0) (dx 0) dtt v) ++ ((wX0 dNc (dNcj 0) (dNcs 0) (dNcp 0) (dNcr 0) vNc) ++ (wX1 cI dNcj vNcj))) sz)) 0 0 (va_A ((wX9 d (dN 0) (dI 0) (dT 0) (dNc 0) (dNcj 0) (dNcs 0) (dNcp 0) (dNw 0) (dx 0) dtt v) ++ ((wX0 dNc (dNcj 0) (dNcs 0) (dNcp 0) (dNcr 0) vNc) ++ (wX1 cI dNcj vNcj))) sz) := by
  refine z_meti (cc := cX9_signal) (maxL := 3) (own := RX9) (lv0 := [(0, .ref (d 0)), (1, .int x1), (2, .int x2)]) (by decide) rfl rfl (Nat.le_of_ble_eq_true rfl) rfl ?_
  intro p e s m args below meth c A QQ C hin hret
  refine z_iload_n (pc := 0) C 1 dX9_signal_0 rfl ?_
  refine z_iconst (pc := 1) (v := 0) C dX9_signal_1 (by decide) ?_
  refine z_iconst (pc := 2) (v := 3) C dX9_signal_2 (by decide) ?_
  refine z_call0i (pc := 3) C (z_runS (pc := 3) (wc := ([] : va_W)) (As := [.int x1, .int (0 : Int32), .int (3 : Int32)]) C (fun sz => kX9_within x1 (0 : Int32) (3 : Int32) sz h) [] rfl (by decide) (gdS wq366 wq553 wq373 wq112) rfl rfl rfl hdSX9_within ⟨Nat.le_of_ble_eq_true rfl, Nat.le_of_ble_eq_true rfl⟩ rfl (Nat.le_of_ble_eq_true rfl) ⟨Nat.zero_le _, Nat.zero_le _⟩ dX9_signal_3) (fun r1 u1 h => ?_)
  refine z_if_eq (pc := 6) (tgt := 19) C dX9_signal_6 (by decide) (fun c2 => ?_) (fun c2 => ?_)
  · have h := h.1 c2
    refine z_bipush (pc := 19) (v := -2) C dX9_signal_19 (by decide) ?_
    exact hret 21 _ _ (-2 : Int32) vNcj rfl h dX9_signal_21
  · have h := h.2 c2
    refine z_iload_n (pc := 9) C 2 dX9_signal_9 rfl ?_
    refine z_iconst (pc := 10) (v := 0) C dX9_signal_10 (by decide) ?_
    refine z_bipush (pc := 11) (v := 63) C dX9_signal_11 (by decide) ?_
    refine z_call0i (pc := 13) C (z_runS (pc := 13) (wc := ([] : va_W)) (As := [.int x2, .int (0 : Int32), .int (63 : Int32)]) C (fun sz => kX9_within x2 (0 : Int32) (63 : Int32) sz h) [] rfl (by decide) (gdS wq366 wq553 wq373 wq112) rfl rfl rfl hdSX9_within ⟨Nat.le_of_ble_eq_true rfl, Nat.le_of_ble_eq_true rfl⟩ rfl (Nat.le_of_ble_eq_true rfl) ⟨Nat.zero_le _, Nat.zero_le _⟩ dX9_signal_13) (fun r3 u3 h => ?_)
    refine z_if_ne (pc := 16) (tgt := 22) C dX9_signal_16 (by decide) (fun c4 => ?_) (fun c4 => ?_)
    · have h := h.1 c4
      refine z_aload_n (pc := 22) C 0 dX9_signal_22 rfl ?_
      refine z_get (pc := 23) C uw9 0 rfl rfl 3 (by decide) wq531 rfl dX9_signal_23 ?_
      refine z_get (pc := 26) C uw0 1 rfl rfl 4 (by decide) wq551 rfl dX9_signal_26 ?_
      refine z_if_eq (pc := 29) (tgt := 35) C dX9_signal_29 (by decide) (fun c5 => ?_) (fun c5 => ?_)
      · have h := h.1 c5
        refine z_aload_n (pc := 35) C 0 dX9_signal_35 rfl ?_
        refine z_get (pc := 36) C uw9 0 rfl rfl 4 (by decide) wq533 rfl dX9_signal_36 ?_
        refine z_get (pc := 39) C uw1 2 rfl rfl 0 (by decide) wq552 rfl dX9_signal_39 ?_
        refine z_bipush (pc := 42) (v := 8) C dX9_signal_42 (by decide) ?_
        refine z_icmp_lt (pc := 44) (tgt := 50) C dX9_signal_44 (by decide) (fun c6 => ?_) (fun c6 => ?_)
        · have h := h.1 c6
          refine z_aload_n (pc := 50) C 0 dX9_signal_50 rfl ?_
          refine z_get (pc := 51) C uw9 0 rfl rfl 4 (by decide) wq533 rfl dX9_signal_51 ?_
          refine z_iload_n (pc := 54) C 1 dX9_signal_54 rfl ?_
          refine z_iload_n (pc := 55) C 2 dX9_signal_55 rfl ?_
          refine z_calli (pc := 56) (wr := ((wX9 d (dN 0) (dI 0) (dT 0) (dNc 0) (dNcj 0) (dNcs 0) (dNcp 0) (dNw 0) (dx 0) dtt v) ++ (wX0 dNc (dNcj 0) (dNcs 0) (dNcp 0) (dNcr 0) vNc))) (w1 := fun (u : Lf) => (wX1 cI dNcj u)) (w2 := fun (u : Lf) => ((wX9 d (dN 0) (dI 0) (dT 0) (dNc 0) (dNcj 0) (dNcs 0) (dNcp 0) (dNw 0) (dx 0) dtt v) ++ ((wX0 dNc (dNcj 0) (dNcs 0) (dNcp 0) (dNcr 0) vNc) ++ (wX1 cI dNcj u)))) C (z_runV (pc := 56) (wc := (wX1 cI dNcj vNcj)) (As := [.int x1, .int x2]) C (fun sz => kX1_addSignal dNcj vNcj x1 x2 sz h) [2, 3, 4, 5, 6, 7] rfl (by decide) (gdV wq337 wq554 wq555 wq556 wq36) rfl rfl rfl hdX1_addSignal 2 rfl rfl rfl ⟨Nat.le_of_ble_eq_true rfl, Nat.le_of_ble_eq_true rfl⟩ rfl (Nat.le_of_ble_eq_true rfl) ⟨Nat.zero_le _, Nat.zero_le _⟩ dX9_signal_56) [2, 3, 4, 5, 6, 7] [0, 1] [0, 1, 2, 3, 4, 5, 6, 7] rfl rfl (by decide) (by decide) (fun _ => rfl) (by decide) (fun r7 u7 h => ?_)
          obtain ⟨vNcj_7, hu7⟩ : ∃ z, z = u7 := ⟨_, rfl⟩
          subst hu7
          exact hret 59 _ _ r7 vNcj_7 rfl h dX9_signal_59
        · have h := h.2 c6
          refine z_bipush (pc := 47) (v := -4) C dX9_signal_47 (by decide) ?_
          exact hret 49 _ _ (-4 : Int32) vNcj rfl h dX9_signal_49
      · have h := h.2 c5
        refine z_bipush (pc := 32) (v := -3) C dX9_signal_32 (by decide) ?_
        exact hret 34 _ _ (-3 : Int32) vNcj rfl h dX9_signal_34
    · have h := h.2 c4
      refine z_bipush (pc := 19) (v := -2) C dX9_signal_19 (by decide) ?_
      exact hret 21 _ _ (-2 : Int32) vNcj rfl h dX9_signal_21

def pX9_isSignal (vNcj : Lf) (x1 : Int32) (Q : Int32 → Prop) : Prop := (pX9_within x1 (0 : Int32) ((vNcj 0 0) - (1 : Int32)) (fun r1 => (narrow .boolean (.int r1) = .int r1 ∧ (Q r1 ))))
abbrev rmX9_isSignal : Room := { frames := 1, cells := 0, slots := 0, locals := 22 }
abbrev wdX9_isSignal : List Cond := Cond.code yX9_isSignal cX9_isSignal 2 (some .boolean) :: TB
theorem hdSX9_isSignal : (yX9_isSignal).cls ≠ "java/lang/invoke/MethodHandle" ∧ (yX9_isSignal).cls ≠ "java/lang/invoke/VarHandle" ∧ (parseMethodDescriptor (yX9_isSignal).desc).map (fun d => d.parameters.length) = some 1 := by decide +kernel
theorem hdX9_isSignal : (yX9_isSignal).cls = RX9 ∧ (yX9_isSignal).cls ≠ "java/lang/invoke/MethodHandle" ∧ (yX9_isSignal).cls ≠ "java/lang/invoke/VarHandle" ∧ (parseMethodDescriptor (yX9_isSignal).desc).map (fun d => d.parameters.length) = some 1 := ⟨rfl, hdSX9_isSignal⟩
set_option maxHeartbeats 4000000 in
set_option maxRecDepth 100000 in
theorem kX9_isSignal {l : Launch} {D : va_G} {cI cJ cT : ClassId} (d : Nat → Nat) (dN : Nat → Nat) (dI : Nat → Nat) (dT : Nat → Nat) (dNc : Nat → Nat) (dNcj : Nat → Nat) (dNcs : Nat → Nat) (dNcp : Nat → Nat) (dNw : Nat → Nat) (dx : Nat → Nat) (dtt : Nat)  (v : Lf) (vNcj : Lf) (x1 : Int32) {Q : Int32 → Prop} (sz : Nat) (h : pX9_isSignal vNcj x1 Q) : Met l yX9_isSignal wdX9_isSignal rmX9_isSignal (Pz D (tyL cI cJ cT) [.ref (d 0), .int x1] ((wX9 d (dN 0) (dI 0) (dT 0) (dNc 0) (dNcj 0) (dNcs 0) (dNcp 0) (dNw 0) (dx 0) dtt v) ++ (wX1 cI dNcj vNcj)) sz) (va_Qi (fun (r : Int32) (u : Unit) => Q r) (Bz D (tyL cI cJ cT) ((wX9 d (dN 0) (dI 0) (dT 0) (dNc 0) (dNcj 0) (dNcs 0) (dNcp 0) (dNw 0) (dx 0) dtt v) ++ (wX1 cI dNcj vNcj)) sz (fun (u : Unit) => ((wX9 d (dN 0) (dI 0) (dT 0) (dNc 0) (dNcj 0) (dNcs 0) (dNcp 0) (dNw 0) (dx 0) dtt v) ++ (wX1 cI dNcj vNcj)))) (va_A ((wX9 d (dN 0) (dI 0) (dT 0) (dNc 0) (dNcj 0) (dNcs 0) (dNcp 0) (dNw 0) (dx 0) dtt v) ++ (wX1 cI dNcj vNcj)) sz)) 0 0 (va_A ((wX9 d (dN 0) (dI 0) (dT 0) (dNc 0) (dNcj 0) (dNcs 0) (dNcp 0) (dNw 0) (dx 0) dtt v) ++ (wX1 cI dNcj vNcj)) sz) := by
  refine z_metz (cc := cX9_isSignal) (maxL := 2) (own := RX9) (lv0 := [(0, .ref (d 0)), (1, .int x1)]) (by decide) rfl rfl (Nat.le_of_ble_eq_true rfl) rfl ?_
  intro p e s m args below meth c A QQ C hin hret
  refine z_iload_n (pc := 0) C 1 dX9_isSignal_0 rfl ?_
  refine z_iconst (pc := 1) (v := 0) C dX9_isSignal_1 (by decide) ?_
  refine z_aload_n (pc := 2) C 0 dX9_isSignal_2 rfl ?_
  refine z_get (pc := 3) C uw9 0 rfl rfl 4 (by decide) wq533 rfl dX9_isSignal_3 ?_
  refine z_get (pc := 6) C uw1 1 rfl rfl 0 (by decide) wq552 rfl dX9_isSignal_6 ?_
  refine z_iconst (pc := 9) (v := 1) C dX9_isSignal_9 (by decide) ?_
  refine z_isub (pc := 10) C dX9_isSignal_10 ?_
  refine z_call0i (pc := 11) C (z_runS (pc := 11) (wc := ([] : va_W)) (As := [.int x1, .int (0 : Int32), .int ((vNcj 0 0) - (1 : Int32))]) C (fun sz => kX9_within x1 (0 : Int32) ((vNcj 0 0) - (1 : Int32)) sz h) [] rfl (by decide) (gdS wq366 wq553 wq373 wq112) rfl rfl rfl hdSX9_within ⟨Nat.le_of_ble_eq_true rfl, Nat.le_of_ble_eq_true rfl⟩ rfl (Nat.le_of_ble_eq_true rfl) ⟨Nat.zero_le _, Nat.zero_le _⟩ dX9_isSignal_11) (fun r1 u1 h => ?_)
  obtain ⟨g2, h⟩ := h
  exact hret 14 _ _ r1 g2 () rfl h dX9_isSignal_14

def pX9_goes (vNcj : Lf) (vNcp : Lf) (x1 : Int32) (x2 : Int32) (Q : Int32 → Lf → Prop) : Prop := (pX9_isSignal vNcj x1 (fun r1 => ((¬ r1 = 0 → (pX9_within x2 (0 : Int32) (63 : Int32) (fun r3 => ((r3 = 0 → (Q (-2 : Int32) vNcj)) ∧ (¬ r3 = 0 → (pX1_placeOf vNcj x1 x2 (fun r5 => ((r5 = (-5 : Int32) → (((vNcp 0 0) ≤ 0 → (vp_in x1 8 ∧ (((vNcj 2 x1.toNatClampNeg) < (8 : Int32) → (pX1_addCell vNcj x1 x2 (fun r10 vNcj_10 => (Q r10 vNcj_10)))) ∧ (¬ (vNcj 2 x1.toNatClampNeg) < (8 : Int32) → (Q (-4 : Int32) vNcj))))) ∧ (¬ (vNcp 0 0) ≤ 0 → (Q (-3 : Int32) vNcj)))) ∧ (¬ r5 = (-5 : Int32) → (Q (-2 : Int32) vNcj)))))))))) ∧ (r1 = 0 → (Q (-1 : Int32) vNcj)))))
abbrev rmX9_goes : Room := { frames := 4, cells := 0, slots := 0, locals := 96 }
abbrev wdX9_goes : List Cond := Cond.code yX9_goes cX9_goes 3 (some .int) :: TB
theorem hdSX9_goes : (yX9_goes).cls ≠ "java/lang/invoke/MethodHandle" ∧ (yX9_goes).cls ≠ "java/lang/invoke/VarHandle" ∧ (parseMethodDescriptor (yX9_goes).desc).map (fun d => d.parameters.length) = some 2 := by decide +kernel
theorem hdX9_goes : (yX9_goes).cls = RX9 ∧ (yX9_goes).cls ≠ "java/lang/invoke/MethodHandle" ∧ (yX9_goes).cls ≠ "java/lang/invoke/VarHandle" ∧ (parseMethodDescriptor (yX9_goes).desc).map (fun d => d.parameters.length) = some 2 := ⟨rfl, hdSX9_goes⟩
set_option maxHeartbeats 4000000 in
set_option maxRecDepth 100000 in
theorem kX9_goes {l : Launch} {D : va_G} {cI cJ cT : ClassId} (d : Nat → Nat) (dN : Nat → Nat) (dI : Nat → Nat) (dT : Nat → Nat) (dNc : Nat → Nat) (dNcj : Nat → Nat) (dNcs : Nat → Nat) (dNcp : Nat → Nat) (dNw : Nat → Nat) (dx : Nat → Nat) (dtt : Nat)  (v : Lf) (vNcj : Lf) (vNcp : Lf) (x1 : Int32) (x2 : Int32) {Q : Int32 → Lf → Prop} (sz : Nat) (h : pX9_goes vNcj vNcp x1 x2 Q) : Met l yX9_goes wdX9_goes rmX9_goes (Pz D (tyL cI cJ cT) [.ref (d 0), .int x1, .int x2] ((wX9 d (dN 0) (dI 0) (dT 0) (dNc 0) (dNcj 0) (dNcs 0) (dNcp 0) (dNw 0) (dx 0) dtt v) ++ ((wX1 cI dNcj vNcj) ++ (wX2 cI dNcp vNcp))) sz) (va_Qi (fun (r : Int32) (u : Lf) => Q r u) (Bz D (tyL cI cJ cT) ((wX9 d (dN 0) (dI 0) (dT 0) (dNc 0) (dNcj 0) (dNcs 0) (dNcp 0) (dNw 0) (dx 0) dtt v) ++ ((wX1 cI dNcj vNcj) ++ (wX2 cI dNcp vNcp))) sz (fun (u : Lf) => ((wX9 d (dN 0) (dI 0) (dT 0) (dNc 0) (dNcj 0) (dNcs 0) (dNcp 0) (dNw 0) (dx 0) dtt v) ++ ((wX1 cI dNcj u) ++ (wX2 cI dNcp vNcp))))) (va_A ((wX9 d (dN 0) (dI 0) (dT 0) (dNc 0) (dNcj 0) (dNcs 0) (dNcp 0) (dNw 0) (dx 0) dtt v) ++ ((wX1 cI dNcj vNcj) ++ (wX2 cI dNcp vNcp))) sz)) 0 0 (va_A ((wX9 d (dN 0) (dI 0) (dT 0) (dNc 0) (dNcj 0) (dNcs 0) (dNcp 0) (dNw 0) (dx 0) dtt v) ++ ((wX1 cI dNcj vNcj) ++ (wX2 cI dNcp vNcp))) sz) := by
  refine z_meti (cc := cX9_goes) (maxL := 3) (own := RX9) (lv0 := [(0, .ref (d 0)), (1, .int x1), (2, .int x2)]) (by decide) rfl rfl (Nat.le_of_ble_eq_true rfl) rfl ?_
  intro p e s m args below meth c A QQ C hin hret
  refine z_aload_n (pc := 0) C 0 dX9_goes_0 rfl ?_
  refine z_iload_n (pc := 1) C 1 dX9_goes_1 rfl ?_
  refine z_callRi (pc := 2) C (z_runV (pc := 2) (wc := ((wX9 d (dN 0) (dI 0) (dT 0) (dNc 0) (dNcj 0) (dNcs 0) (dNcp 0) (dNw 0) (dx 0) dtt v) ++ (wX1 cI dNcj vNcj))) (As := [.int x1]) C (fun sz => kX9_isSignal d dN dI dT dNc dNcj dNcs dNcp dNw dx dtt v vNcj x1 sz h) [0, 1, 2, 3, 4, 5, 6] rfl (by decide) (gdV wq558 wq561 wq562 wq563 wq112) rfl rfl rfl hdX9_isSignal 0 rfl rfl rfl ⟨Nat.le_of_ble_eq_true rfl, Nat.le_of_ble_eq_true rfl⟩ rfl (Nat.le_of_ble_eq_true rfl) ⟨Nat.zero_le _, Nat.zero_le _⟩ dX9_goes_2) [0, 1, 2, 3, 4, 5, 6] rfl (by decide) (fun r1 u1 h => ?_)
  refine z_if_ne (pc := 5) (tgt := 10) C dX9_goes_5 (by decide) (fun c2 => ?_) (fun c2 => ?_)
  · have h := h.1 c2
    refine z_iload_n (pc := 10) C 2 dX9_goes_10 rfl ?_
    refine z_iconst (pc := 11) (v := 0) C dX9_goes_11 (by decide) ?_
    refine z_bipush (pc := 12) (v := 63) C dX9_goes_12 (by decide) ?_
    refine z_call0i (pc := 14) C (z_runS (pc := 14) (wc := ([] : va_W)) (As := [.int x2, .int (0 : Int32), .int (63 : Int32)]) C (fun sz => kX9_within x2 (0 : Int32) (63 : Int32) sz h) [] rfl (by decide) (gdS wq366 wq553 wq373 wq112) rfl rfl rfl hdSX9_within ⟨Nat.le_of_ble_eq_true rfl, Nat.le_of_ble_eq_true rfl⟩ rfl (Nat.le_of_ble_eq_true rfl) ⟨Nat.zero_le _, Nat.zero_le _⟩ dX9_goes_14) (fun r3 u3 h => ?_)
    refine z_if_eq (pc := 17) (tgt := 34) C dX9_goes_17 (by decide) (fun c4 => ?_) (fun c4 => ?_)
    · have h := h.1 c4
      refine z_bipush (pc := 34) (v := -2) C dX9_goes_34 (by decide) ?_
      exact hret 36 _ _ (-2 : Int32) vNcj rfl h dX9_goes_36
    · have h := h.2 c4
      refine z_aload_n (pc := 20) C 0 dX9_goes_20 rfl ?_
      refine z_get (pc := 21) C uw9 0 rfl rfl 4 (by decide) wq533 rfl dX9_goes_21 ?_
      refine z_iload_n (pc := 24) C 1 dX9_goes_24 rfl ?_
      refine z_iload_n (pc := 25) C 2 dX9_goes_25 rfl ?_
      refine z_callRi (pc := 26) C (z_runV (pc := 26) (wc := (wX1 cI dNcj vNcj)) (As := [.int x1, .int x2]) C (fun sz => kX1_placeOf dNcj vNcj x1 x2 sz h) [1, 2, 3, 4, 5, 6] rfl (by decide) (gdV wq305 wq564 wq315 wq316 wq36) rfl rfl rfl hdX1_placeOf 1 rfl rfl rfl ⟨Nat.le_of_ble_eq_true rfl, Nat.le_of_ble_eq_true rfl⟩ rfl (Nat.le_of_ble_eq_true rfl) ⟨Nat.zero_le _, Nat.zero_le _⟩ dX9_goes_26) [1, 2, 3, 4, 5, 6] rfl (by decide) (fun r5 u5 h => ?_)
      refine z_bipush (pc := 29) (v := -5) C dX9_goes_29 (by decide) ?_
      refine z_icmp_eq (pc := 31) (tgt := 37) C dX9_goes_31 (by decide) (fun c6 => ?_) (fun c6 => ?_)
      · have h := h.1 c6
        refine z_aload_n (pc := 37) C 0 dX9_goes_37 rfl ?_
        refine z_get (pc := 38) C uw9 0 rfl rfl 6 (by decide) wq537 rfl dX9_goes_38 ?_
        refine z_get (pc := 41) C uw2 7 rfl rfl 0 (by decide) wq559 rfl dX9_goes_41 ?_
        refine z_if_le (pc := 44) (tgt := 50) C dX9_goes_44 (by decide) (fun c7 => ?_) (fun c7 => ?_)
        · have h := h.1 c7
          refine z_aload_n (pc := 50) C 0 dX9_goes_50 rfl ?_
          refine z_get (pc := 51) C uw9 0 rfl rfl 4 (by decide) wq533 rfl dX9_goes_51 ?_
          refine z_get (pc := 54) C uw1 1 rfl rfl 3 (by decide) wq560 rfl dX9_goes_54 ?_
          refine z_iload_n (pc := 57) C 1 dX9_goes_57 rfl ?_
          obtain ⟨g8, h⟩ := h
          refine z_iald (pc := 58) C 3 0 rfl rfl g8 (vNcj 2 x1.toNatClampNeg) rfl dX9_goes_58 ?_
          refine z_bipush (pc := 59) (v := 8) C dX9_goes_59 (by decide) ?_
          refine z_icmp_lt (pc := 61) (tgt := 67) C dX9_goes_61 (by decide) (fun c9 => ?_) (fun c9 => ?_)
          · have h := h.1 c9
            refine z_aload_n (pc := 67) C 0 dX9_goes_67 rfl ?_
            refine z_get (pc := 68) C uw9 0 rfl rfl 4 (by decide) wq533 rfl dX9_goes_68 ?_
            refine z_iload_n (pc := 71) C 1 dX9_goes_71 rfl ?_
            refine z_iload_n (pc := 72) C 2 dX9_goes_72 rfl ?_
            refine z_calli (pc := 73) (wr := ((wX9 d (dN 0) (dI 0) (dT 0) (dNc 0) (dNcj 0) (dNcs 0) (dNcp 0) (dNw 0) (dx 0) dtt v) ++ (wX2 cI dNcp vNcp))) (w1 := fun (u : Lf) => (wX1 cI dNcj u)) (w2 := fun (u : Lf) => ((wX9 d (dN 0) (dI 0) (dT 0) (dNc 0) (dNcj 0) (dNcs 0) (dNcp 0) (dNw 0) (dx 0) dtt v) ++ ((wX1 cI dNcj u) ++ (wX2 cI dNcp vNcp)))) C (z_runV (pc := 73) (wc := (wX1 cI dNcj vNcj)) (As := [.int x1, .int x2]) C (fun sz => kX1_addCell dNcj vNcj x1 x2 sz h) [1, 2, 3, 4, 5, 6] rfl (by decide) (gdV wq333 wq565 wq335 wq336 wq36) rfl rfl rfl hdX1_addCell 1 rfl rfl rfl ⟨Nat.le_of_ble_eq_true rfl, Nat.le_of_ble_eq_true rfl⟩ rfl (Nat.le_of_ble_eq_true rfl) ⟨Nat.zero_le _, Nat.zero_le _⟩ dX9_goes_73) [1, 2, 3, 4, 5, 6] [0, 7, 8, 9, 10] [0, 5, 6, 7, 8, 9, 10, 1, 2, 3, 4] rfl rfl (by decide) (by decide) (fun _ => rfl) (by decide) (fun r10 u10 h => ?_)
            obtain ⟨vNcj_10, hu10⟩ : ∃ z, z = u10 := ⟨_, rfl⟩
            subst hu10
            exact hret 76 _ _ r10 vNcj_10 rfl h dX9_goes_76
          · have h := h.2 c9
            refine z_bipush (pc := 64) (v := -4) C dX9_goes_64 (by decide) ?_
            exact hret 66 _ _ (-4 : Int32) vNcj rfl h dX9_goes_66
        · have h := h.2 c7
          refine z_bipush (pc := 47) (v := -3) C dX9_goes_47 (by decide) ?_
          exact hret 49 _ _ (-3 : Int32) vNcj rfl h dX9_goes_49
      · have h := h.2 c6
        refine z_bipush (pc := 34) (v := -2) C dX9_goes_34 (by decide) ?_
        exact hret 36 _ _ (-2 : Int32) vNcj rfl h dX9_goes_36
  · have h := h.2 c2
    refine z_iconst (pc := 8) (v := -1) C dX9_goes_8 (by decide) ?_
    exact hret 9 _ _ (-1 : Int32) vNcj rfl h dX9_goes_9

def pX9_tell (vNcj : Lf) (vNcs : Lf) (x1 : Int32) (x2 : Int32) (x3 : Int32) (Q : Int32 → Lf → Prop) : Prop := (pX9_isSignal vNcj x1 (fun r1 => ((r1 = 0 → (Q (-1 : Int32) vNcs)) ∧ (¬ r1 = 0 → (pX9_within x2 (0 : Int32) (3 : Int32) (fun r3 => ((¬ r3 = 0 → (pX5_lowest vNcs x1 x2 (fun r5 => (pX5_highest vNcs x1 x2 (fun r6 => (pX9_within x3 r5 r6 (fun r7 => ((¬ r7 = 0 → (pX5_rule vNcs x1 x2 (fun r9 => (vp_in ((x1 * (4 : Int32)) + x2) 32 ∧ (Q r9 (st vNcs 1 (((x1 * (4 : Int32)) + x2).toNatClampNeg) x3)))))) ∧ (r7 = 0 → (Q (-2 : Int32) vNcs)))))))))) ∧ (r3 = 0 → (Q (-1 : Int32) vNcs)))))))))
abbrev rmX9_tell : Room := { frames := 2, cells := 0, slots := 0, locals := 62 }
abbrev wdX9_tell : List Cond := Cond.code yX9_tell cX9_tell 5 (some .int) :: TB
theorem hdSX9_tell : (yX9_tell).cls ≠ "java/lang/invoke/MethodHandle" ∧ (yX9_tell).cls ≠ "java/lang/invoke/VarHandle" ∧ (parseMethodDescriptor (yX9_tell).desc).map (fun d => d.parameters.length) = some 3 := by decide +kernel
theorem hdX9_tell : (yX9_tell).cls = RX9 ∧ (yX9_tell).cls ≠ "java/lang/invoke/MethodHandle" ∧ (yX9_tell).cls ≠ "java/lang/invoke/VarHandle" ∧ (parseMethodDescriptor (yX9_tell).desc).map (fun d => d.parameters.length) = some 3 := ⟨rfl, hdSX9_tell⟩
set_option maxHeartbeats 4000000 in
set_option maxRecDepth 100000 in
theorem kX9_tell {l : Launch} {D : va_G} {cI cJ cT : ClassId} (d : Nat → Nat) (dN : Nat → Nat) (dI : Nat → Nat) (dT : Nat → Nat) (dNc : Nat → Nat) (dNcj : Nat → Nat) (dNcs : Nat → Nat) (dNcp : Nat → Nat) (dNw : Nat → Nat) (dx : Nat → Nat) (dtt : Nat)  (v : Lf) (vNcj : Lf) (vNcs : Lf) (x1 : Int32) (x2 : Int32) (x3 : Int32) {Q : Int32 → Lf → Prop} (sz : Nat) (h : pX9_tell vNcj vNcs x1 x2 x3 Q) : Met l yX9_tell wdX9_tell rmX9_tell (Pz D (tyL cI cJ cT) [.ref (d 0), .int x1, .int x2, .int x3] ((wX9 d (dN 0) (dI 0) (dT 0) (dNc 0) (dNcj 0) (dNcs 0) (dNcp 0) (dNw 0) (dx 0) dtt v) ++ ((wX1 cI dNcj vNcj) ++ (wX5 cI dNcs vNcs))) sz) (va_Qi (fun (r : Int32) (u : Lf) => Q r u) (Bz D (tyL cI cJ cT) ((wX9 d (dN 0) (dI 0) (dT 0) (dNc 0) (dNcj 0) (dNcs 0) (dNcp 0) (dNw 0) (dx 0) dtt v) ++ ((wX1 cI dNcj vNcj) ++ (wX5 cI dNcs vNcs))) sz (fun (u : Lf) => ((wX9 d (dN 0) (dI 0) (dT 0) (dNc 0) (dNcj 0) (dNcs 0) (dNcp 0) (dNw 0) (dx 0) dtt v) ++ ((wX1 cI dNcj vNcj) ++ (wX5 cI dNcs u))))) (va_A ((wX9 d (dN 0) (dI 0) (dT 0) (dNc 0) (dNcj 0) (dNcs 0) (dNcp 0) (dNw 0) (dx 0) dtt v) ++ ((wX1 cI dNcj vNcj) ++ (wX5 cI dNcs vNcs))) sz)) 0 0 (va_A ((wX9 d (dN 0) (dI 0) (dT 0) (dNc 0) (dNcj 0) (dNcs 0) (dNcp 0) (dNw 0) (dx 0) dtt v) ++ ((wX1 cI dNcj vNcj) ++ (wX5 cI dNcs vNcs))) sz) := by
  refine z_meti (cc := cX9_tell) (maxL := 5) (own := RX9) (lv0 := [(0, .ref (d 0)), (1, .int x1), (2, .int x2), (3, .int x3)]) (by decide) rfl rfl (Nat.le_of_ble_eq_true rfl) rfl ?_
  intro p e s m args below meth c A QQ C hin hret
  refine z_aload_n (pc := 0) C 0 dX9_tell_0 rfl ?_
  refine z_iload_n (pc := 1) C 1 dX9_tell_1 rfl ?_
  refine z_callRi (pc := 2) C (z_runV (pc := 2) (wc := ((wX9 d (dN 0) (dI 0) (dT 0) (dNc 0) (dNcj 0) (dNcs 0) (dNcp 0) (dNw 0) (dx 0) dtt v) ++ (wX1 cI dNcj vNcj))) (As := [.int x1]) C (fun sz => kX9_isSignal d dN dI dT dNc dNcj dNcs dNcp dNw dx dtt v vNcj x1 sz h) [0, 1, 2, 3, 4, 5, 6] rfl (by decide) (gdV wq558 wq561 wq562 wq563 wq112) rfl rfl rfl hdX9_isSignal 0 rfl rfl rfl ⟨Nat.le_of_ble_eq_true rfl, Nat.le_of_ble_eq_true rfl⟩ rfl (Nat.le_of_ble_eq_true rfl) ⟨Nat.zero_le _, Nat.zero_le _⟩ dX9_tell_2) [0, 1, 2, 3, 4, 5, 6] rfl (by decide) (fun r1 u1 h => ?_)
  refine z_if_eq (pc := 5) (tgt := 17) C dX9_tell_5 (by decide) (fun c2 => ?_) (fun c2 => ?_)
  · have h := h.1 c2
    refine z_iconst (pc := 17) (v := -1) C dX9_tell_17 (by decide) ?_
    exact hret 18 _ _ (-1 : Int32) vNcs rfl h dX9_tell_18
  · have h := h.2 c2
    refine z_iload_n (pc := 8) C 2 dX9_tell_8 rfl ?_
    refine z_iconst (pc := 9) (v := 0) C dX9_tell_9 (by decide) ?_
    refine z_iconst (pc := 10) (v := 3) C dX9_tell_10 (by decide) ?_
    refine z_call0i (pc := 11) C (z_runS (pc := 11) (wc := ([] : va_W)) (As := [.int x2, .int (0 : Int32), .int (3 : Int32)]) C (fun sz => kX9_within x2 (0 : Int32) (3 : Int32) sz h) [] rfl (by decide) (gdS wq366 wq553 wq373 wq112) rfl rfl rfl hdSX9_within ⟨Nat.le_of_ble_eq_true rfl, Nat.le_of_ble_eq_true rfl⟩ rfl (Nat.le_of_ble_eq_true rfl) ⟨Nat.zero_le _, Nat.zero_le _⟩ dX9_tell_11) (fun r3 u3 h => ?_)
    refine z_if_ne (pc := 14) (tgt := 19) C dX9_tell_14 (by decide) (fun c4 => ?_) (fun c4 => ?_)
    · have h := h.1 c4
      refine z_iload_n (pc := 19) C 3 dX9_tell_19 rfl ?_
      refine z_aload_n (pc := 20) C 0 dX9_tell_20 rfl ?_
      refine z_get (pc := 21) C uw9 0 rfl rfl 5 (by decide) wq535 rfl dX9_tell_21 ?_
      refine z_iload_n (pc := 24) C 1 dX9_tell_24 rfl ?_
      refine z_iload_n (pc := 25) C 2 dX9_tell_25 rfl ?_
      refine z_callRi (pc := 26) C (z_runV (pc := 26) (wc := (wX5 cI dNcs vNcs)) (As := [.int x1, .int x2]) C (fun sz => kX5_lowest dNcs vNcs x1 x2 sz h) [7, 8, 9, 10, 11, 12, 13, 14] rfl (by decide) (gdV wq399 wq568 wq569 wq570 wq40) rfl rfl rfl hdX5_lowest 7 rfl rfl rfl ⟨Nat.le_of_ble_eq_true rfl, Nat.le_of_ble_eq_true rfl⟩ rfl (Nat.le_of_ble_eq_true rfl) ⟨Nat.zero_le _, Nat.zero_le _⟩ dX9_tell_26) [7, 8, 9, 10, 11, 12, 13, 14] rfl (by decide) (fun r5 u5 h => ?_)
      refine z_aload_n (pc := 29) C 0 dX9_tell_29 rfl ?_
      refine z_get (pc := 30) C uw9 0 rfl rfl 5 (by decide) wq535 rfl dX9_tell_30 ?_
      refine z_iload_n (pc := 33) C 1 dX9_tell_33 rfl ?_
      refine z_iload_n (pc := 34) C 2 dX9_tell_34 rfl ?_
      refine z_callRi (pc := 35) C (z_runV (pc := 35) (wc := (wX5 cI dNcs vNcs)) (As := [.int x1, .int x2]) C (fun sz => kX5_highest dNcs vNcs x1 x2 sz h) [7, 8, 9, 10, 11, 12, 13, 14] rfl (by decide) (gdV wq401 wq571 wq572 wq573 wq40) rfl rfl rfl hdX5_highest 7 rfl rfl rfl ⟨Nat.le_of_ble_eq_true rfl, Nat.le_of_ble_eq_true rfl⟩ rfl (Nat.le_of_ble_eq_true rfl) ⟨Nat.zero_le _, Nat.zero_le _⟩ dX9_tell_35) [7, 8, 9, 10, 11, 12, 13, 14] rfl (by decide) (fun r6 u6 h => ?_)
      refine z_call0i (pc := 38) C (z_runS (pc := 38) (wc := ([] : va_W)) (As := [.int x3, .int r5, .int r6]) C (fun sz => kX9_within x3 r5 r6 sz h) [] rfl (by decide) (gdS wq366 wq553 wq373 wq112) rfl rfl rfl hdSX9_within ⟨Nat.le_of_ble_eq_true rfl, Nat.le_of_ble_eq_true rfl⟩ rfl (Nat.le_of_ble_eq_true rfl) ⟨Nat.zero_le _, Nat.zero_le _⟩ dX9_tell_38) (fun r7 u7 h => ?_)
      refine z_if_ne (pc := 41) (tgt := 47) C dX9_tell_41 (by decide) (fun c8 => ?_) (fun c8 => ?_)
      · have h := h.1 c8
        refine z_aload_n (pc := 47) C 0 dX9_tell_47 rfl ?_
        refine z_get (pc := 48) C uw9 0 rfl rfl 5 (by decide) wq535 rfl dX9_tell_48 ?_
        refine z_iload_n (pc := 51) C 1 dX9_tell_51 rfl ?_
        refine z_iload_n (pc := 52) C 2 dX9_tell_52 rfl ?_
        refine z_callRi (pc := 53) C (z_runV (pc := 53) (wc := (wX5 cI dNcs vNcs)) (As := [.int x1, .int x2]) C (fun sz => kX5_rule dNcs vNcs x1 x2 sz h) [7, 8, 9, 10, 11, 12, 13, 14] rfl (by decide) (gdV wq117 wq574 wq126 wq127 wq40) rfl rfl rfl hdX5_rule 7 rfl rfl rfl ⟨Nat.le_of_ble_eq_true rfl, Nat.le_of_ble_eq_true rfl⟩ rfl (Nat.le_of_ble_eq_true rfl) ⟨Nat.zero_le _, Nat.zero_le _⟩ dX9_tell_53) [7, 8, 9, 10, 11, 12, 13, 14] rfl (by decide) (fun r9 u9 h => ?_)
        refine z_istore (pc := 56) (lv' := [(4, .int r9), (0, .ref (d 0)), (1, .int x1), (2, .int x2), (3, .int x3)]) C dX9_tell_56 (by decide) rfl ?_
        refine z_aload_n (pc := 58) C 1 dX9_tell_58 rfl ?_
        refine z_get (pc := 59) C uw9 0 rfl rfl 5 (by decide) wq535 rfl dX9_tell_59 ?_
        refine z_get (pc := 62) C uw5 7 rfl rfl 1 (by decide) wq567 rfl dX9_tell_62 ?_
        refine z_iload_n (pc := 65) C 2 dX9_tell_65 rfl ?_
        refine z_iconst (pc := 66) (v := 4) C dX9_tell_66 (by decide) ?_
        refine z_imul (pc := 67) C dX9_tell_67 ?_
        refine z_iload_n (pc := 68) C 3 dX9_tell_68 rfl ?_
        refine z_iadd (pc := 69) C dX9_tell_69 ?_
        refine z_iload_n (pc := 70) C 4 dX9_tell_70 rfl ?_
        obtain ⟨g10, h⟩ := h
        refine z_iast (pc := 71) (ws' := ((wX9 d (dN 0) (dI 0) (dT 0) (dNc 0) (dNcj 0) (dNcs 0) (dNcp 0) (dNw 0) (dx 0) dtt v) ++ ((wX1 cI dNcj vNcj) ++ (wX5 cI dNcs (st vNcs 1 (((x1 * (4 : Int32)) + x2).toNatClampNeg) x3))))) C 8 0 rfl rfl g10 dX9_tell_71 rfl (set_r (k := 1) (i := 7) rfl (set_r (k := 6) (i := 1) rfl sX5_a1)) ?_
        refine z_iload (pc := 72) C 0 dX9_tell_72 rfl ?_
        exact hret 74 _ _ r9 (st vNcs 1 (((x1 * (4 : Int32)) + x2).toNatClampNeg) x3) rfl h dX9_tell_74
      · have h := h.2 c8
        refine z_bipush (pc := 44) (v := -2) C dX9_tell_44 (by decide) ?_
        exact hret 46 _ _ (-2 : Int32) vNcs rfl h dX9_tell_46
    · have h := h.2 c4
      refine z_iconst (pc := 17) (v := -1) C dX9_tell_17 (by decide) ?_
      exact hret 18 _ _ (-1 : Int32) vNcs rfl h dX9_tell_18

def pX9_feed (vx : Lf) (x1 : Int32) (Q : Int32 → Lf → Prop) : Prop := (pX9_within x1 (0 : Int32) (127 : Int32) (fun r1 => ((¬ r1 = 0 → (((vx 0 1) < (100 : Int32) → (pX3_append vx x1 (fun r4 vx_4 => (Q r4 vx_4)))) ∧ (¬ (vx 0 1) < (100 : Int32) → (Q (-4 : Int32) vx)))) ∧ (r1 = 0 → (Q (-2 : Int32) vx)))))
abbrev rmX9_feed : Room := { frames := 1, cells := 0, slots := 0, locals := 22 }
abbrev wdX9_feed : List Cond := Cond.code yX9_feed cX9_feed 2 (some .int) :: TB
theorem hdSX9_feed : (yX9_feed).cls ≠ "java/lang/invoke/MethodHandle" ∧ (yX9_feed).cls ≠ "java/lang/invoke/VarHandle" ∧ (parseMethodDescriptor (yX9_feed).desc).map (fun d => d.parameters.length) = some 1 := by decide +kernel
theorem hdX9_feed : (yX9_feed).cls = RX9 ∧ (yX9_feed).cls ≠ "java/lang/invoke/MethodHandle" ∧ (yX9_feed).cls ≠ "java/lang/invoke/VarHandle" ∧ (parseMethodDescriptor (yX9_feed).desc).map (fun d => d.parameters.length) = some 1 := ⟨rfl, hdSX9_feed⟩
set_option maxHeartbeats 4000000 in
set_option maxRecDepth 100000 in
theorem kX9_feed {l : Launch} {D : va_G} {cI cJ cT : ClassId} (d : Nat → Nat) (dN : Nat → Nat) (dI : Nat → Nat) (dT : Nat → Nat) (dNc : Nat → Nat) (dNcj : Nat → Nat) (dNcs : Nat → Nat) (dNcp : Nat → Nat) (dNw : Nat → Nat) (dx : Nat → Nat) (dtt : Nat)  (v : Lf) (vx : Lf) (x1 : Int32) {Q : Int32 → Lf → Prop} (sz : Nat) (h : pX9_feed vx x1 Q) : Met l yX9_feed wdX9_feed rmX9_feed (Pz D (tyL cI cJ cT) [.ref (d 0), .int x1] ((wX9 d (dN 0) (dI 0) (dT 0) (dNc 0) (dNcj 0) (dNcs 0) (dNcp 0) (dNw 0) (dx 0) dtt v) ++ (wX3 cI dx vx)) sz) (va_Qi (fun (r : Int32) (u : Lf) => Q r u) (Bz D (tyL cI cJ cT) ((wX9 d (dN 0) (dI 0) (dT 0) (dNc 0) (dNcj 0) (dNcs 0) (dNcp 0) (dNw 0) (dx 0) dtt v) ++ (wX3 cI dx vx)) sz (fun (u : Lf) => ((wX9 d (dN 0) (dI 0) (dT 0) (dNc 0) (dNcj 0) (dNcs 0) (dNcp 0) (dNw 0) (dx 0) dtt v) ++ (wX3 cI dx u)))) (va_A ((wX9 d (dN 0) (dI 0) (dT 0) (dNc 0) (dNcj 0) (dNcs 0) (dNcp 0) (dNw 0) (dx 0) dtt v) ++ (wX3 cI dx vx)) sz)) 0 0 (va_A ((wX9 d (dN 0) (dI 0) (dT 0) (dNc 0) (dNcj 0) (dNcs 0) (dNcp 0) (dNw 0) (dx 0) dtt v) ++ (wX3 cI dx vx)) sz) := by
  refine z_meti (cc := cX9_feed) (maxL := 2) (own := RX9) (lv0 := [(0, .ref (d 0)), (1, .int x1)]) (by decide) rfl rfl (Nat.le_of_ble_eq_true rfl) rfl ?_
  intro p e s m args below meth c A QQ C hin hret
  refine z_iload_n (pc := 0) C 1 dX9_feed_0 rfl ?_
  refine z_iconst (pc := 1) (v := 0) C dX9_feed_1 (by decide) ?_
  refine z_bipush (pc := 2) (v := 127) C dX9_feed_2 (by decide) ?_
  refine z_call0i (pc := 4) C (z_runS (pc := 4) (wc := ([] : va_W)) (As := [.int x1, .int (0 : Int32), .int (127 : Int32)]) C (fun sz => kX9_within x1 (0 : Int32) (127 : Int32) sz h) [] rfl (by decide) (gdS wq366 wq553 wq373 wq112) rfl rfl rfl hdSX9_within ⟨Nat.le_of_ble_eq_true rfl, Nat.le_of_ble_eq_true rfl⟩ rfl (Nat.le_of_ble_eq_true rfl) ⟨Nat.zero_le _, Nat.zero_le _⟩ dX9_feed_4) (fun r1 u1 h => ?_)
  refine z_if_ne (pc := 7) (tgt := 13) C dX9_feed_7 (by decide) (fun c2 => ?_) (fun c2 => ?_)
  · have h := h.1 c2
    refine z_aload_n (pc := 13) C 0 dX9_feed_13 rfl ?_
    refine z_get (pc := 14) C uw9 0 rfl rfl 8 (by decide) wq542 rfl dX9_feed_14 ?_
    refine z_get (pc := 17) C uw3 1 rfl rfl 1 (by decide) wq577 rfl dX9_feed_17 ?_
    refine z_bipush (pc := 20) (v := 100) C dX9_feed_20 (by decide) ?_
    refine z_icmp_lt (pc := 22) (tgt := 28) C dX9_feed_22 (by decide) (fun c3 => ?_) (fun c3 => ?_)
    · have h := h.1 c3
      refine z_aload_n (pc := 28) C 0 dX9_feed_28 rfl ?_
      refine z_get (pc := 29) C uw9 0 rfl rfl 8 (by decide) wq542 rfl dX9_feed_29 ?_
      refine z_iload_n (pc := 32) C 1 dX9_feed_32 rfl ?_
      refine z_calli (pc := 33) (wr := (wX9 d (dN 0) (dI 0) (dT 0) (dNc 0) (dNcj 0) (dNcs 0) (dNcp 0) (dNw 0) (dx 0) dtt v)) (w1 := fun (u : Lf) => (wX3 cI dx u)) (w2 := fun (u : Lf) => ((wX9 d (dN 0) (dI 0) (dT 0) (dNc 0) (dNcj 0) (dNcs 0) (dNcp 0) (dNw 0) (dx 0) dtt v) ++ (wX3 cI dx u))) C (z_runV (pc := 33) (wc := (wX3 cI dx vx)) (As := [.int x1]) C (fun sz => kX3_append dx vx x1 sz h) [1, 2, 3, 4, 5, 6] rfl (by decide) (gdV wq359 wq578 wq579 wq580 wq372) rfl rfl rfl hdX3_append 1 rfl rfl rfl ⟨Nat.le_of_ble_eq_true rfl, Nat.le_of_ble_eq_true rfl⟩ rfl (Nat.le_of_ble_eq_true rfl) ⟨Nat.zero_le _, Nat.zero_le _⟩ dX9_feed_33) [1, 2, 3, 4, 5, 6] [0] [0, 1, 2, 3, 4, 5, 6] rfl rfl (by decide) (by decide) (fun _ => rfl) (by decide) (fun r4 u4 h => ?_)
      obtain ⟨vx_4, hu4⟩ : ∃ z, z = u4 := ⟨_, rfl⟩
      subst hu4
      exact hret 36 _ _ r4 vx_4 rfl h dX9_feed_36
    · have h := h.2 c3
      refine z_bipush (pc := 25) (v := -4) C dX9_feed_25 (by decide) ?_
      exact hret 27 _ _ (-4 : Int32) vx rfl h dX9_feed_27
  · have h := h.2 c2
    refine z_bipush (pc := 10) (v := -2) C dX9_feed_10 (by decide) ?_
    exact hret 12 _ _ (-2 : Int32) vx rfl h dX9_feed_12

def pX9_bringClause_L75 (vx : Lf) (x1 : Int32) (Q : Lf → Lf → Prop) : Nat → Lf → Lf → Int32 → Int32 → Prop
  | 0, _, _, _, _ => False
  | n75 + 1, vNcj, vNcs, x2, x3 => (((4 : Int32) ≤ x3 → (Q vNcj vNcs)) ∧ (¬ (4 : Int32) ≤ x3 → (vp_in ((x1 * (4 : Int32)) + x3) 16 ∧ (vp_in ((x2 * (4 : Int32)) + x3) 32 ∧ (pX9_bringClause_L75 vx x1 Q n75 vNcj (st vNcs 1 (((x2 * (4 : Int32)) + x3).toNatClampNeg) (vx 5 ((x1 * (4 : Int32)) + x3).toNatClampNeg)) x2 (x3 + 1))))))
def pX9_bringClause_L31 (vx : Lf) (x1 : Int32) (Q : Lf → Lf → Prop) : Nat → Lf → Lf → Int32 → Int32 → Prop
  | 0, _, _, _, _ => False
  | n31 + 1, vNcj, vNcs, x2, x3 => (vp_in x1 4 ∧ (((vx 3 x1.toNatClampNeg) ≤ x3 → (∃ n75, pX9_bringClause_L75 vx x1 Q  n75 vNcj vNcs x2 (0 : Int32))) ∧ (¬ (vx 3 x1.toNatClampNeg) ≤ x3 → (vp_in ((x1 * (8 : Int32)) + x3) 32 ∧ (pX1_addCell vNcj x2 (vx 4 ((x1 * (8 : Int32)) + x3).toNatClampNeg) (fun r10 vNcj_10 => (pX9_bringClause_L31 vx x1 Q n31 vNcj_10 vNcs x2 (x3 + 1))))))))
def pX9_bringClause (vNcj : Lf) (vNcs : Lf) (vx : Lf) (x1 : Int32) (Q : Lf → Lf → Prop) : Prop := (vp_in x1 4 ∧ (vp_in (x1 * (8 : Int32)) 32 ∧ (pX1_addSignal vNcj (vx 2 x1.toNatClampNeg) (vx 4 (x1 * (8 : Int32)).toNatClampNeg) (fun r3 vNcj_3 => (∃ n31, pX9_bringClause_L31 vx x1 Q  n31 vNcj_3 vNcs r3 (1 : Int32))))))
abbrev rmX9_bringClause : Room := { frames := 5, cells := 0, slots := 0, locals := 119 }
abbrev wdX9_bringClause : List Cond := Cond.code yX9_bringClause cX9_bringClause 4 none :: TB
theorem hdSX9_bringClause : (yX9_bringClause).cls ≠ "java/lang/invoke/MethodHandle" ∧ (yX9_bringClause).cls ≠ "java/lang/invoke/VarHandle" ∧ (parseMethodDescriptor (yX9_bringClause).desc).map (fun d => d.parameters.length) = some 1 := by decide +kernel
theorem hdX9_bringClause : (yX9_bringClause).cls = RX9 ∧ (yX9_bringClause).cls ≠ "java/lang/invoke/MethodHandle" ∧ (yX9_bringClause).cls ≠ "java/lang/invoke/VarHandle" ∧ (parseMethodDescriptor (yX9_bringClause).desc).map (fun d => d.parameters.length) = some 1 := ⟨rfl, hdSX9_bringClause⟩
set_option maxHeartbeats 4000000 in
set_option maxRecDepth 100000 in
theorem kX9_bringClause {l : Launch} {D : va_G} {cI cJ cT : ClassId} (d : Nat → Nat) (dN : Nat → Nat) (dI : Nat → Nat) (dT : Nat → Nat) (dNc : Nat → Nat) (dNcj : Nat → Nat) (dNcs : Nat → Nat) (dNcp : Nat → Nat) (dNw : Nat → Nat) (dx : Nat → Nat) (dtt : Nat)  (v : Lf) (vNcj : Lf) (vNcs : Lf) (vx : Lf) (x1 : Int32) {Q : Lf → Lf → Prop} (sz : Nat) (h : pX9_bringClause vNcj vNcs vx x1 Q) : Met l yX9_bringClause wdX9_bringClause rmX9_bringClause (Pz D (tyL cI cJ cT) [.ref (d 0), .int x1] ((wX9 d (dN 0) (dI 0) (dT 0) (dNc 0) (dNcj 0) (dNcs 0) (dNcp 0) (dNw 0) (dx 0) dtt v) ++ ((wX1 cI dNcj vNcj) ++ ((wX5 cI dNcs vNcs) ++ (wX3 cI dx vx)))) sz) (va_Qv (fun (u : Lf × Lf) => Q u.1 u.2) (Bz D (tyL cI cJ cT) ((wX9 d (dN 0) (dI 0) (dT 0) (dNc 0) (dNcj 0) (dNcs 0) (dNcp 0) (dNw 0) (dx 0) dtt v) ++ ((wX1 cI dNcj vNcj) ++ ((wX5 cI dNcs vNcs) ++ (wX3 cI dx vx)))) sz (fun (u : Lf × Lf) => ((wX9 d (dN 0) (dI 0) (dT 0) (dNc 0) (dNcj 0) (dNcs 0) (dNcp 0) (dNw 0) (dx 0) dtt v) ++ ((wX1 cI dNcj u.1) ++ ((wX5 cI dNcs u.2) ++ (wX3 cI dx vx)))))) (va_A ((wX9 d (dN 0) (dI 0) (dT 0) (dNc 0) (dNcj 0) (dNcs 0) (dNcp 0) (dNw 0) (dx 0) dtt v) ++ ((wX1 cI dNcj vNcj) ++ ((wX5 cI dNcs vNcs) ++ (wX3 cI dx vx)))) sz)) 0 0 (va_A ((wX9 d (dN 0) (dI 0) (dT 0) (dNc 0) (dNcj 0) (dNcs 0) (dNcp 0) (dNw 0) (dx 0) dtt v) ++ ((wX1 cI dNcj vNcj) ++ ((wX5 cI dNcs vNcs) ++ (wX3 cI dx vx)))) sz) := by
  refine z_metv (cc := cX9_bringClause) (maxL := 4) (own := RX9) (lv0 := [(0, .ref (d 0)), (1, .int x1)]) (by decide) rfl rfl (Nat.le_of_ble_eq_true rfl) rfl ?_
  intro p e s m args below meth c A QQ C hin hret
  have L75 : ∀ (n75 : Nat) (vNcj : Lf) (vNcs : Lf) (x2 : Int32) (x3 : Int32), pX9_bringClause_L75 vx x1 Q n75 vNcj vNcs x2 x3 → ZZ p l e rmX9_bringClause s m args below meth c D A 4 0 0 QQ 75 ((wX9 d (dN 0) (dI 0) (dT 0) (dNc 0) (dNcj 0) (dNcs 0) (dNcp 0) (dNw 0) (dx 0) dtt v) ++ ((wX1 cI dNcj vNcj) ++ ((wX5 cI dNcs vNcs) ++ (wX3 cI dx vx)))) [(0, .ref (d 0)), (1, .int x1), (2, .int x2), (3, .int x3)] [] := by
    intro n75
    induction n75 with
    | zero => intro vNcj vNcs x2 x3 h; exact False.elim h
    | succ n75 ih75 =>
      intro vNcj vNcs x2 x3 h
      refine z_iload_n (pc := 75) C 3 dX9_bringClause_75 rfl ?_
      refine z_iconst (pc := 76) (v := 4) C dX9_bringClause_76 (by decide) ?_
      refine z_icmp_ge (pc := 77) (tgt := 112) C dX9_bringClause_77 (by decide) (fun c6 => ?_) (fun c6 => ?_)
      · have h := h.1 c6
        exact hret 112 _ _ (vNcj, vNcs) rfl h dX9_bringClause_112
      · have h := h.2 c6
        refine z_aload_n (pc := 80) C 0 dX9_bringClause_80 rfl ?_
        refine z_get (pc := 81) C uw9 0 rfl rfl 5 (by decide) wq535 rfl dX9_bringClause_81 ?_
        refine z_get (pc := 84) C uw5 7 rfl rfl 1 (by decide) wq567 rfl dX9_bringClause_84 ?_
        refine z_iload_n (pc := 87) C 2 dX9_bringClause_87 rfl ?_
        refine z_iconst (pc := 88) (v := 4) C dX9_bringClause_88 (by decide) ?_
        refine z_imul (pc := 89) C dX9_bringClause_89 ?_
        refine z_iload_n (pc := 90) C 3 dX9_bringClause_90 rfl ?_
        refine z_iadd (pc := 91) C dX9_bringClause_91 ?_
        refine z_aload_n (pc := 92) C 0 dX9_bringClause_92 rfl ?_
        refine z_get (pc := 93) C uw9 0 rfl rfl 8 (by decide) wq542 rfl dX9_bringClause_93 ?_
        refine z_get (pc := 96) C uw3 15 rfl rfl 8 (by decide) wq584 rfl dX9_bringClause_96 ?_
        refine z_iload_n (pc := 99) C 1 dX9_bringClause_99 rfl ?_
        refine z_iconst (pc := 100) (v := 4) C dX9_bringClause_100 (by decide) ?_
        refine z_imul (pc := 101) C dX9_bringClause_101 ?_
        refine z_iload_n (pc := 102) C 3 dX9_bringClause_102 rfl ?_
        refine z_iadd (pc := 103) C dX9_bringClause_103 ?_
        obtain ⟨g7, h⟩ := h
        refine z_iald (pc := 104) C 20 0 rfl rfl g7 (vx 5 ((x1 * (4 : Int32)) + x3).toNatClampNeg) rfl dX9_bringClause_104 ?_
        obtain ⟨g8, h⟩ := h
        refine z_iast (pc := 105) (ws' := ((wX9 d (dN 0) (dI 0) (dT 0) (dNc 0) (dNcj 0) (dNcs 0) (dNcp 0) (dNw 0) (dx 0) dtt v) ++ ((wX1 cI dNcj vNcj) ++ ((wX5 cI dNcs (st vNcs 1 (((x2 * (4 : Int32)) + x3).toNatClampNeg) (vx 5 ((x1 * (4 : Int32)) + x3).toNatClampNeg))) ++ (wX3 cI dx vx))))) C 8 0 rfl rfl g8 dX9_bringClause_105 rfl (set_r (k := 1) (i := 7) rfl (set_r (k := 6) (i := 1) rfl (set_l (Nat.le_of_ble_eq_true rfl) sX5_a1))) ?_
        refine z_iinc (pc := 106) (v := (x3 + 1)) (lv' := [(3, .int (x3 + 1)), (0, .ref (d 0)), (1, .int x1), (2, .int x2)]) C 3 dX9_bringClause_106 rfl rfl (by decide) rfl ?_
        refine z_goto (pc := 109) (tgt := 75) C dX9_bringClause_109 (by decide) ?_
        refine z_sub (lv' := [(0, .ref (d 0)), (1, .int x1), (2, .int x2), (3, .int (x3 + 1))]) [1, 2, 3, 0] rfl ?_
        exact ih75 vNcj (st vNcs 1 (((x2 * (4 : Int32)) + x3).toNatClampNeg) (vx 5 ((x1 * (4 : Int32)) + x3).toNatClampNeg)) x2 (x3 + 1) h
  have L31 : ∀ (n31 : Nat) (vNcj : Lf) (vNcs : Lf) (x2 : Int32) (x3 : Int32), pX9_bringClause_L31 vx x1 Q n31 vNcj vNcs x2 x3 → ZZ p l e rmX9_bringClause s m args below meth c D A 4 0 0 QQ 31 ((wX9 d (dN 0) (dI 0) (dT 0) (dNc 0) (dNcj 0) (dNcs 0) (dNcp 0) (dNw 0) (dx 0) dtt v) ++ ((wX1 cI dNcj vNcj) ++ ((wX5 cI dNcs vNcs) ++ (wX3 cI dx vx)))) [(0, .ref (d 0)), (1, .int x1), (2, .int x2), (3, .int x3)] [] := by
    intro n31
    induction n31 with
    | zero => intro vNcj vNcs x2 x3 h; exact False.elim h
    | succ n31 ih31 =>
      intro vNcj vNcs x2 x3 h
      refine z_iload_n (pc := 31) C 3 dX9_bringClause_31 rfl ?_
      refine z_aload_n (pc := 32) C 0 dX9_bringClause_32 rfl ?_
      refine z_get (pc := 33) C uw9 0 rfl rfl 8 (by decide) wq542 rfl dX9_bringClause_33 ?_
      refine z_get (pc := 36) C uw3 15 rfl rfl 6 (by decide) wq583 rfl dX9_bringClause_36 ?_
      refine z_iload_n (pc := 39) C 1 dX9_bringClause_39 rfl ?_
      obtain ⟨g4, h⟩ := h
      refine z_iald (pc := 40) C 18 0 rfl rfl g4 (vx 3 x1.toNatClampNeg) rfl dX9_bringClause_40 ?_
      refine z_icmp_ge (pc := 41) (tgt := 73) C dX9_bringClause_41 (by decide) (fun c5 => ?_) (fun c5 => ?_)
      · have h := h.1 c5
        refine z_iconst (pc := 73) (v := 0) C dX9_bringClause_73 (by decide) ?_
        refine z_istore_n (pc := 74) (lv' := [(3, .int (0 : Int32)), (0, .ref (d 0)), (1, .int x1), (2, .int x2)]) C dX9_bringClause_74 (by decide) rfl ?_
        obtain ⟨n75, h⟩ := h
        refine z_sub (lv' := [(0, .ref (d 0)), (1, .int x1), (2, .int x2), (3, .int (0 : Int32))]) [1, 2, 3, 0] rfl ?_
        exact L75  n75 vNcj vNcs x2 (0 : Int32) h
      · have h := h.2 c5
        refine z_aload_n (pc := 44) C 0 dX9_bringClause_44 rfl ?_
        refine z_get (pc := 45) C uw9 0 rfl rfl 4 (by decide) wq533 rfl dX9_bringClause_45 ?_
        refine z_iload_n (pc := 48) C 2 dX9_bringClause_48 rfl ?_
        refine z_aload_n (pc := 49) C 0 dX9_bringClause_49 rfl ?_
        refine z_get (pc := 50) C uw9 0 rfl rfl 8 (by decide) wq542 rfl dX9_bringClause_50 ?_
        refine z_get (pc := 53) C uw3 15 rfl rfl 7 (by decide) wq582 rfl dX9_bringClause_53 ?_
        refine z_iload_n (pc := 56) C 1 dX9_bringClause_56 rfl ?_
        refine z_bipush (pc := 57) (v := 8) C dX9_bringClause_57 (by decide) ?_
        refine z_imul (pc := 59) C dX9_bringClause_59 ?_
        refine z_iload_n (pc := 60) C 3 dX9_bringClause_60 rfl ?_
        refine z_iadd (pc := 61) C dX9_bringClause_61 ?_
        obtain ⟨g9, h⟩ := h
        refine z_iald (pc := 62) C 19 0 rfl rfl g9 (vx 4 ((x1 * (8 : Int32)) + x3).toNatClampNeg) rfl dX9_bringClause_62 ?_
        refine z_calli (pc := 63) (wr := ((wX9 d (dN 0) (dI 0) (dT 0) (dNc 0) (dNcj 0) (dNcs 0) (dNcp 0) (dNw 0) (dx 0) dtt v) ++ ((wX5 cI dNcs vNcs) ++ (wX3 cI dx vx)))) (w1 := fun (u : Lf) => (wX1 cI dNcj u)) (w2 := fun (u : Lf) => ((wX9 d (dN 0) (dI 0) (dT 0) (dNc 0) (dNcj 0) (dNcs 0) (dNcp 0) (dNw 0) (dx 0) dtt v) ++ ((wX1 cI dNcj u) ++ ((wX5 cI dNcs vNcs) ++ (wX3 cI dx vx))))) C (z_runV (pc := 63) (wc := (wX1 cI dNcj vNcj)) (As := [.int x2, .int (vx 4 ((x1 * (8 : Int32)) + x3).toNatClampNeg)]) C (fun sz => kX1_addCell dNcj vNcj x2 (vx 4 ((x1 * (8 : Int32)) + x3).toNatClampNeg) sz h) [1, 2, 3, 4, 5, 6] rfl (by decide) (gdV wq333 wq565 wq335 wq336 wq36) rfl rfl rfl hdX1_addCell 1 rfl rfl rfl ⟨Nat.le_of_ble_eq_true rfl, Nat.le_of_ble_eq_true rfl⟩ rfl (Nat.le_of_ble_eq_true rfl) ⟨Nat.zero_le _, Nat.zero_le _⟩ dX9_bringClause_63) [1, 2, 3, 4, 5, 6] [0, 7, 8, 9, 10, 11, 12, 13, 14, 15, 16, 17, 18, 19, 20] [0, 15, 16, 17, 18, 19, 20, 1, 2, 3, 4, 5, 6, 7, 8, 9, 10, 11, 12, 13, 14] rfl rfl (by decide) (by decide) (fun _ => rfl) (by decide) (fun r10 u10 h => ?_)
        obtain ⟨vNcj_10, hu10⟩ : ∃ z, z = u10 := ⟨_, rfl⟩
        subst hu10
        refine z_pop (pc := 66) C dX9_bringClause_66 rfl ?_
        refine z_iinc (pc := 67) (v := (x3 + 1)) (lv' := [(3, .int (x3 + 1)), (0, .ref (d 0)), (1, .int x1), (2, .int x2)]) C 3 dX9_bringClause_67 rfl rfl (by decide) rfl ?_
        refine z_goto (pc := 70) (tgt := 31) C dX9_bringClause_70 (by decide) ?_
        refine z_sub (lv' := [(0, .ref (d 0)), (1, .int x1), (2, .int x2), (3, .int (x3 + 1))]) [1, 2, 3, 0] rfl ?_
        exact ih31 vNcj_10 vNcs x2 (x3 + 1) h
  refine z_aload_n (pc := 0) C 0 dX9_bringClause_0 rfl ?_
  refine z_get (pc := 1) C uw9 0 rfl rfl 4 (by decide) wq533 rfl dX9_bringClause_1 ?_
  refine z_aload_n (pc := 4) C 0 dX9_bringClause_4 rfl ?_
  refine z_get (pc := 5) C uw9 0 rfl rfl 8 (by decide) wq542 rfl dX9_bringClause_5 ?_
  refine z_get (pc := 8) C uw3 15 rfl rfl 5 (by decide) wq581 rfl dX9_bringClause_8 ?_
  refine z_iload_n (pc := 11) C 1 dX9_bringClause_11 rfl ?_
  obtain ⟨g1, h⟩ := h
  refine z_iald (pc := 12) C 17 0 rfl rfl g1 (vx 2 x1.toNatClampNeg) rfl dX9_bringClause_12 ?_
  refine z_aload_n (pc := 13) C 0 dX9_bringClause_13 rfl ?_
  refine z_get (pc := 14) C uw9 0 rfl rfl 8 (by decide) wq542 rfl dX9_bringClause_14 ?_
  refine z_get (pc := 17) C uw3 15 rfl rfl 7 (by decide) wq582 rfl dX9_bringClause_17 ?_
  refine z_iload_n (pc := 20) C 1 dX9_bringClause_20 rfl ?_
  refine z_bipush (pc := 21) (v := 8) C dX9_bringClause_21 (by decide) ?_
  refine z_imul (pc := 23) C dX9_bringClause_23 ?_
  obtain ⟨g2, h⟩ := h
  refine z_iald (pc := 24) C 19 0 rfl rfl g2 (vx 4 (x1 * (8 : Int32)).toNatClampNeg) rfl dX9_bringClause_24 ?_
  refine z_calli (pc := 25) (wr := ((wX9 d (dN 0) (dI 0) (dT 0) (dNc 0) (dNcj 0) (dNcs 0) (dNcp 0) (dNw 0) (dx 0) dtt v) ++ ((wX5 cI dNcs vNcs) ++ (wX3 cI dx vx)))) (w1 := fun (u : Lf) => (wX1 cI dNcj u)) (w2 := fun (u : Lf) => ((wX9 d (dN 0) (dI 0) (dT 0) (dNc 0) (dNcj 0) (dNcs 0) (dNcp 0) (dNw 0) (dx 0) dtt v) ++ ((wX1 cI dNcj u) ++ ((wX5 cI dNcs vNcs) ++ (wX3 cI dx vx))))) C (z_runV (pc := 25) (wc := (wX1 cI dNcj vNcj)) (As := [.int (vx 2 x1.toNatClampNeg), .int (vx 4 (x1 * (8 : Int32)).toNatClampNeg)]) C (fun sz => kX1_addSignal dNcj vNcj (vx 2 x1.toNatClampNeg) (vx 4 (x1 * (8 : Int32)).toNatClampNeg) sz h) [1, 2, 3, 4, 5, 6] rfl (by decide) (gdV wq337 wq554 wq555 wq556 wq36) rfl rfl rfl hdX1_addSignal 1 rfl rfl rfl ⟨Nat.le_of_ble_eq_true rfl, Nat.le_of_ble_eq_true rfl⟩ rfl (Nat.le_of_ble_eq_true rfl) ⟨Nat.zero_le _, Nat.zero_le _⟩ dX9_bringClause_25) [1, 2, 3, 4, 5, 6] [0, 7, 8, 9, 10, 11, 12, 13, 14, 15, 16, 17, 18, 19, 20] [0, 15, 16, 17, 18, 19, 20, 1, 2, 3, 4, 5, 6, 7, 8, 9, 10, 11, 12, 13, 14] rfl rfl (by decide) (by decide) (fun _ => rfl) (by decide) (fun r3 u3 h => ?_)
  obtain ⟨vNcj_3, hu3⟩ : ∃ z, z = u3 := ⟨_, rfl⟩
  subst hu3
  refine z_istore_n (pc := 28) (lv' := [(2, .int r3), (0, .ref (d 0)), (1, .int x1)]) C dX9_bringClause_28 (by decide) rfl ?_
  refine z_iconst (pc := 29) (v := 1) C dX9_bringClause_29 (by decide) ?_
  refine z_istore_n (pc := 30) (lv' := [(3, .int (1 : Int32)), (2, .int r3), (0, .ref (d 0)), (1, .int x1)]) C dX9_bringClause_30 (by decide) rfl ?_
  obtain ⟨n31, h⟩ := h
  refine z_sub (lv' := [(0, .ref (d 0)), (1, .int x1), (2, .int r3), (3, .int (1 : Int32))]) [2, 3, 1, 0] rfl ?_
  exact L31  n31 vNcj_3 vNcs r3 (1 : Int32) h

def pX9_read_L87 (vNc : Lf) (Q : Int32 → Lf → Lf → Lf → Prop) : Nat → Lf → Lf → Lf → Int32 → Prop
  | 0, _, _, _, _ => False
  | n87 + 1, vNcj, vNcs, vx, x2 => (((vx 0 4) ≤ x2 → (Q (vx 0 4) vNcj vNcs vx)) ∧ (¬ (vx 0 4) ≤ x2 → (pX9_bringClause vNcj vNcs vx x2 (fun vNcj_6 vNcs_6 => (pX9_read_L87 vNc Q n87 vNcj_6 vNcs_6 vx (x2 + 1))))))
def pX9_read_J25 (vNc : Lf) (Q : Int32 → Lf → Lf → Lf → Prop) (vNcj : Lf) (vNcs : Lf) (vx : Lf) (t0 : Int32) : Prop := (((vNc 0 4) = 0 → ((¬ t0 = 0 → ((((vNcj 0 0) + ((st vx 0 1 (0 : Int32)) 0 4)) ≤ (8 : Int32) → (∃ n87, pX9_read_L87 vNc Q  n87 vNcj vNcs (st vx 0 1 (0 : Int32)) (0 : Int32))) ∧ (¬ ((vNcj 0 0) + ((st vx 0 1 (0 : Int32)) 0 4)) ≤ (8 : Int32) → (Q (-4 : Int32) vNcj vNcs (st vx 0 1 (0 : Int32)))))) ∧ (t0 = 0 → (Q ((-10 : Int32) - ((st vx 0 1 (0 : Int32)) 0 3)) vNcj vNcs (st vx 0 1 (0 : Int32)))))) ∧ (¬ (vNc 0 4) = 0 → (Q (-3 : Int32) vNcj vNcs (st vx 0 1 (0 : Int32)))))
def pX9_read_J24 (vNc : Lf) (Q : Int32 → Lf → Lf → Lf → Prop) (vNcj : Lf) (vNcs : Lf) (vx : Lf) : Prop := (pX9_read_J25 vNc Q  vNcj vNcs vx (0 : Int32))
def pX9_read (vNc : Lf) (vNcj : Lf) (vNcs : Lf) (vx : Lf)  (Q : Int32 → Lf → Lf → Lf → Prop) : Prop := ((¬ (vNc 0 4) = 0 → (pX9_read_J24 vNc Q  vNcj vNcs vx)) ∧ ((vNc 0 4) = 0 → (pX3_parse vx (fun r7 vx_7 => ((r7 = 0 → (pX9_read_J24 vNc Q  vNcj vNcs vx_7)) ∧ (¬ r7 = 0 → (pX9_read_J25 vNc Q  vNcj vNcs vx_7 (1 : Int32))))))))
abbrev rmX9_read : Room := { frames := 6, cells := 0, slots := 0, locals := 142 }
abbrev wdX9_read : List Cond := Cond.code yX9_read cX9_read 3 (some .int) :: TB
theorem hdSX9_read : (yX9_read).cls ≠ "java/lang/invoke/MethodHandle" ∧ (yX9_read).cls ≠ "java/lang/invoke/VarHandle" ∧ (parseMethodDescriptor (yX9_read).desc).map (fun d => d.parameters.length) = some 0 := by decide +kernel
theorem hdX9_read : (yX9_read).cls = RX9 ∧ (yX9_read).cls ≠ "java/lang/invoke/MethodHandle" ∧ (yX9_read).cls ≠ "java/lang/invoke/VarHandle" ∧ (parseMethodDescriptor (yX9_read).desc).map (fun d => d.parameters.length) = some 0 := ⟨rfl, hdSX9_read⟩
set_option maxHeartbeats 4000000 in
set_option maxRecDepth 100000 in
theorem kX9_read {l : Launch} {D : va_G} {cI cJ cT : ClassId} (d : Nat → Nat) (dN : Nat → Nat) (dI : Nat → Nat) (dT : Nat → Nat) (dNc : Nat → Nat) (dNcj : Nat → Nat) (dNcs : Nat → Nat) (dNcp : Nat → Nat) (dNw : Nat → Nat) (dx : Nat → Nat) (dtt : Nat) (dNcr : Nat → Nat)  (v : Lf) (vNc : Lf) (vNcj : Lf) (vNcs : Lf) (vx : Lf)  {Q : Int32 → Lf → Lf → Lf → Prop} (sz : Nat) (h : pX9_read vNc vNcj vNcs vx Q) : Met l yX9_read wdX9_read rmX9_read (Pz D (tyL cI cJ cT) [.ref (d 0)] ((wX9 d (dN 0) (dI 0) (dT 0) (dNc 0) (dNcj 0) (dNcs 0) (dNcp 0) (dNw 0) (dx 0) dtt v) ++ ((wX0 dNc (dNcj 0) (dNcs 0) (dNcp 0) (dNcr 0) vNc) ++ ((wX1 cI dNcj vNcj) ++ ((wX5 cI dNcs vNcs) ++ (wX3 cI dx vx))))) sz) (va_Qi (fun (r : Int32) (u : Lf × Lf × Lf) => Q r u.1 u.2.1 u.2.2) (Bz D (tyL cI cJ cT) ((wX9 d (dN 0) (dI 0) (dT 0) (dNc 0) (dNcj 0) (dNcs 0) (dNcp 0) (dNw 0) (dx 0) dtt v) ++ ((wX0 dNc (dNcj 0) (dNcs 0) (dNcp 0) (dNcr 0) vNc) ++ ((wX1 cI dNcj vNcj) ++ ((wX5 cI dNcs vNcs) ++ (wX3 cI dx vx))))) sz (fun (u : Lf × Lf × Lf) => ((wX9 d (dN 0) (dI 0) (dT 0) (dNc 0) (dNcj 0) (dNcs 0) (dNcp 0) (dNw 0) (dx 0) dtt v) ++ ((wX0 dNc (dNcj 0) (dNcs 0) (dNcp 0) (dNcr 0) vNc) ++ ((wX1 cI dNcj u.1) ++ ((wX5 cI dNcs u.2.1) ++ (wX3 cI dx u.2.2))))))) (va_A ((wX9 d (dN 0) (dI 0) (dT 0) (dNc 0) (dNcj 0) (dNcs 0) (dNcp 0) (dNw 0) (dx 0) dtt v) ++ ((wX0 dNc (dNcj 0) (dNcs 0) (dNcp 0) (dNcr 0) vNc) ++ ((wX1 cI dNcj vNcj) ++ ((wX5 cI dNcs vNcs) ++ (wX3 cI dx vx))))) sz)) 0 0 (va_A ((wX9 d (dN 0) (dI 0) (dT 0) (dNc 0) (dNcj 0) (dNcs 0) (dNcp 0) (dNw 0) (dx 0) dtt v) ++ ((wX0 dNc (dNcj 0) (dNcs 0) (dNcp 0) (dNcr 0) vNc) ++ ((wX1 cI dNcj vNcj) ++ ((wX5 cI dNcs vNcs) ++ (wX3 cI dx vx))))) sz) := by
  refine z_meti (cc := cX9_read) (maxL := 3) (own := RX9) (lv0 := [(0, .ref (d 0))]) (by decide) rfl rfl (Nat.le_of_ble_eq_true rfl) rfl ?_
  intro p e s m args below meth c A QQ C hin hret
  have L87 : ∀ (n87 : Nat) (vNcj : Lf) (vNcs : Lf) (vx : Lf) (x2 : Int32), pX9_read_L87 vNc Q n87 vNcj vNcs vx x2 → ZZ p l e rmX9_read s m args below meth c D A 3 0 0 QQ 87 ((wX9 d (dN 0) (dI 0) (dT 0) (dNc 0) (dNcj 0) (dNcs 0) (dNcp 0) (dNw 0) (dx 0) dtt v) ++ ((wX0 dNc (dNcj 0) (dNcs 0) (dNcp 0) (dNcr 0) vNc) ++ ((wX1 cI dNcj vNcj) ++ ((wX5 cI dNcs vNcs) ++ (wX3 cI dx vx))))) [(0, .ref (d 0)), (2, .int x2)] [] := by
    intro n87
    induction n87 with
    | zero => intro vNcj vNcs vx x2 h; exact False.elim h
    | succ n87 ih87 =>
      intro vNcj vNcs vx x2 h
      refine z_iload_n (pc := 87) C 1 dX9_read_87 rfl ?_
      refine z_aload_n (pc := 88) C 0 dX9_read_88 rfl ?_
      refine z_get (pc := 89) C uw9 0 rfl rfl 8 (by decide) wq542 rfl dX9_read_89 ?_
      refine z_get (pc := 92) C uw3 16 rfl rfl 4 (by decide) wq587 rfl dX9_read_92 ?_
      refine z_icmp_ge (pc := 95) (tgt := 109) C dX9_read_95 (by decide) (fun c5 => ?_) (fun c5 => ?_)
      · have h := h.1 c5
        refine z_aload_n (pc := 109) C 0 dX9_read_109 rfl ?_
        refine z_get (pc := 110) C uw9 0 rfl rfl 8 (by decide) wq542 rfl dX9_read_110 ?_
        refine z_get (pc := 113) C uw3 16 rfl rfl 4 (by decide) wq587 rfl dX9_read_113 ?_
        exact hret 116 _ _ (vx 0 4) (vNcj, vNcs, vx) rfl h dX9_read_116
      · have h := h.2 c5
        refine z_aload_n (pc := 98) C 0 dX9_read_98 rfl ?_
        refine z_iload_n (pc := 99) C 1 dX9_read_99 rfl ?_
        refine z_callv (pc := 100) (wr := (wX0 dNc (dNcj 0) (dNcs 0) (dNcp 0) (dNcr 0) vNc)) (w1 := fun (u : Lf × Lf) => ((wX9 d (dN 0) (dI 0) (dT 0) (dNc 0) (dNcj 0) (dNcs 0) (dNcp 0) (dNw 0) (dx 0) dtt v) ++ ((wX1 cI dNcj u.1) ++ ((wX5 cI dNcs u.2) ++ (wX3 cI dx vx))))) (w2 := fun (u : Lf × Lf) => ((wX9 d (dN 0) (dI 0) (dT 0) (dNc 0) (dNcj 0) (dNcs 0) (dNcp 0) (dNw 0) (dx 0) dtt v) ++ ((wX0 dNc (dNcj 0) (dNcs 0) (dNcp 0) (dNcr 0) vNc) ++ ((wX1 cI dNcj u.1) ++ ((wX5 cI dNcs u.2) ++ (wX3 cI dx vx)))))) C (z_runV (pc := 100) (wc := ((wX9 d (dN 0) (dI 0) (dT 0) (dNc 0) (dNcj 0) (dNcs 0) (dNcp 0) (dNw 0) (dx 0) dtt v) ++ ((wX1 cI dNcj vNcj) ++ ((wX5 cI dNcs vNcs) ++ (wX3 cI dx vx))))) (As := [.int x2]) C (fun sz => kX9_bringClause d dN dI dT dNc dNcj dNcs dNcp dNw dx dtt v vNcj vNcs vx x2 sz h) [0, 2, 3, 4, 5, 6, 7, 8, 9, 10, 11, 12, 13, 14, 15, 16, 17, 18, 19, 20, 21] rfl (by decide) (gdV wq585 wq591 wq592 wq593 wq112) rfl rfl rfl hdX9_bringClause 0 rfl rfl rfl ⟨Nat.le_of_ble_eq_true rfl, Nat.le_of_ble_eq_true rfl⟩ rfl (Nat.le_of_ble_eq_true rfl) ⟨Nat.zero_le _, Nat.zero_le _⟩ dX9_read_100) [0, 2, 3, 4, 5, 6, 7, 8, 9, 10, 11, 12, 13, 14, 15, 16, 17, 18, 19, 20, 21] [1] [1, 0, 2, 3, 4, 5, 6, 7, 8, 9, 10, 11, 12, 13, 14, 15, 16, 17, 18, 19, 20, 21] rfl rfl (by decide) (by decide) (fun _ => rfl) (by decide) (fun u6 h => ?_)
        obtain ⟨vNcj_6, vNcs_6⟩ := u6
        dsimp only at h
        refine z_iinc (pc := 103) (v := (x2 + 1)) (lv' := [(2, .int (x2 + 1)), (0, .ref (d 0))]) C 1 dX9_read_103 rfl rfl (by decide) rfl ?_
        refine z_goto (pc := 106) (tgt := 87) C dX9_read_106 (by decide) ?_
        refine z_sub (lv' := [(0, .ref (d 0)), (2, .int (x2 + 1))]) [1, 0] rfl ?_
        exact ih87 vNcj_6 vNcs_6 vx (x2 + 1) h
  have J25 : ∀ (vNcj : Lf) (vNcs : Lf) (vx : Lf) (t0 : Int32), pX9_read_J25 vNc Q vNcj vNcs vx t0 → ZZ p l e rmX9_read s m args below meth c D A 3 0 0 QQ 25 ((wX9 d (dN 0) (dI 0) (dT 0) (dNc 0) (dNcj 0) (dNcs 0) (dNcp 0) (dNw 0) (dx 0) dtt v) ++ ((wX0 dNc (dNcj 0) (dNcs 0) (dNcp 0) (dNcr 0) vNc) ++ ((wX1 cI dNcj vNcj) ++ ((wX5 cI dNcs vNcs) ++ (wX3 cI dx vx))))) [(0, .ref (d 0))] [.int t0] := by
    intro  vNcj vNcs vx t0 h
    refine z_istore_n (pc := 25) (lv' := [(1, .int t0), (0, .ref (d 0))]) C dX9_read_25 (by decide) rfl ?_
    refine z_aload_n (pc := 26) C 1 dX9_read_26 rfl ?_
    refine z_get (pc := 27) C uw9 0 rfl rfl 8 (by decide) wq542 rfl dX9_read_27 ?_
    refine z_iconst (pc := 30) (v := 0) C dX9_read_30 (by decide) ?_
    refine z_put (pc := 31) (ws' := ((wX9 d (dN 0) (dI 0) (dT 0) (dNc 0) (dNcj 0) (dNcs 0) (dNcp 0) (dNw 0) (dx 0) dtt v) ++ ((wX0 dNc (dNcj 0) (dNcs 0) (dNcp 0) (dNcr 0) vNc) ++ ((wX1 cI dNcj vNcj) ++ ((wX5 cI dNcs vNcs) ++ (wX3 cI dx (st vx 0 1 (0 : Int32)))))))) C uw3 tyX3 tyX3_ok nmX3 16 rfl rfl 1 (by decide) wq577 rfl rfl rfl (Nat.le_of_ble_eq_true rfl) dX9_read_31 (set_r (k := 1) (i := 15) rfl (set_r (k := 1) (i := 14) rfl (set_r (k := 6) (i := 8) rfl (set_r (k := 8) (i := 0) rfl sX3_f1)))) ?_
    refine z_aload_n (pc := 34) C 1 dX9_read_34 rfl ?_
    refine z_get (pc := 35) C uw9 0 rfl rfl 3 (by decide) wq531 rfl dX9_read_35 ?_
    refine z_get (pc := 38) C uw0 1 rfl rfl 4 (by decide) wq551 rfl dX9_read_38 ?_
    refine z_if_eq (pc := 41) (tgt := 47) C dX9_read_41 (by decide) (fun c2 => ?_) (fun c2 => ?_)
    · have h := h.1 c2
      refine z_iload_n (pc := 47) C 0 dX9_read_47 rfl ?_
      refine z_if_ne (pc := 48) (tgt := 62) C dX9_read_48 (by decide) (fun c3 => ?_) (fun c3 => ?_)
      · have h := h.1 c3
        refine z_aload_n (pc := 62) C 1 dX9_read_62 rfl ?_
        refine z_get (pc := 63) C uw9 0 rfl rfl 4 (by decide) wq533 rfl dX9_read_63 ?_
        refine z_get (pc := 66) C uw1 2 rfl rfl 0 (by decide) wq552 rfl dX9_read_66 ?_
        refine z_aload_n (pc := 69) C 1 dX9_read_69 rfl ?_
        refine z_get (pc := 70) C uw9 0 rfl rfl 8 (by decide) wq542 rfl dX9_read_70 ?_
        refine z_get (pc := 73) C uw3 16 rfl rfl 4 (by decide) wq587 rfl dX9_read_73 ?_
        refine z_iadd (pc := 76) C dX9_read_76 ?_
        refine z_bipush (pc := 77) (v := 8) C dX9_read_77 (by decide) ?_
        refine z_icmp_le (pc := 79) (tgt := 85) C dX9_read_79 (by decide) (fun c4 => ?_) (fun c4 => ?_)
        · have h := h.1 c4
          refine z_iconst (pc := 85) (v := 0) C dX9_read_85 (by decide) ?_
          refine z_istore_n (pc := 86) (lv' := [(2, .int (0 : Int32)), (1, .int t0), (0, .ref (d 0))]) C dX9_read_86 (by decide) rfl ?_
          obtain ⟨n87, h⟩ := h
          refine z_sub (lv' := [(0, .ref (d 0)), (2, .int (0 : Int32))]) [2, 0] rfl ?_
          exact L87  n87 vNcj vNcs (st vx 0 1 (0 : Int32)) (0 : Int32) h
        · have h := h.2 c4
          refine z_bipush (pc := 82) (v := -4) C dX9_read_82 (by decide) ?_
          exact hret 84 _ _ (-4 : Int32) (vNcj, vNcs, (st vx 0 1 (0 : Int32))) rfl h dX9_read_84
      · have h := h.2 c3
        refine z_bipush (pc := 51) (v := -10) C dX9_read_51 (by decide) ?_
        refine z_aload_n (pc := 53) C 1 dX9_read_53 rfl ?_
        refine z_get (pc := 54) C uw9 0 rfl rfl 8 (by decide) wq542 rfl dX9_read_54 ?_
        refine z_get (pc := 57) C uw3 16 rfl rfl 3 (by decide) wq586 rfl dX9_read_57 ?_
        refine z_isub (pc := 60) C dX9_read_60 ?_
        exact hret 61 _ _ ((-10 : Int32) - ((st vx 0 1 (0 : Int32)) 0 3)) (vNcj, vNcs, (st vx 0 1 (0 : Int32))) rfl h dX9_read_61
    · have h := h.2 c2
      refine z_bipush (pc := 44) (v := -3) C dX9_read_44 (by decide) ?_
      exact hret 46 _ _ (-3 : Int32) (vNcj, vNcs, (st vx 0 1 (0 : Int32))) rfl h dX9_read_46
  have J24 : ∀ (vNcj : Lf) (vNcs : Lf) (vx : Lf), pX9_read_J24 vNc Q vNcj vNcs vx → ZZ p l e rmX9_read s m args below meth c D A 3 0 0 QQ 24 ((wX9 d (dN 0) (dI 0) (dT 0) (dNc 0) (dNcj 0) (dNcs 0) (dNcp 0) (dNw 0) (dx 0) dtt v) ++ ((wX0 dNc (dNcj 0) (dNcs 0) (dNcp 0) (dNcr 0) vNc) ++ ((wX1 cI dNcj vNcj) ++ ((wX5 cI dNcs vNcs) ++ (wX3 cI dx vx))))) [(0, .ref (d 0))] [] := by
    intro  vNcj vNcs vx h
    refine z_iconst (pc := 24) (v := 0) C dX9_read_24 (by decide) ?_
    exact J25  vNcj vNcs vx (0 : Int32) h
  refine z_aload_n (pc := 0) C 0 dX9_read_0 rfl ?_
  refine z_get (pc := 1) C uw9 0 rfl rfl 3 (by decide) wq531 rfl dX9_read_1 ?_
  refine z_get (pc := 4) C uw0 1 rfl rfl 4 (by decide) wq551 rfl dX9_read_4 ?_
  refine z_if_ne (pc := 7) (tgt := 24) C dX9_read_7 (by decide) (fun c1 => ?_) (fun c1 => ?_)
  · have h := h.1 c1
    exact J24  vNcj vNcs vx h
  · have h := h.2 c1
    refine z_aload_n (pc := 10) C 0 dX9_read_10 rfl ?_
    refine z_get (pc := 11) C uw9 0 rfl rfl 8 (by decide) wq542 rfl dX9_read_11 ?_
    refine z_calli (pc := 14) (wr := ((wX9 d (dN 0) (dI 0) (dT 0) (dNc 0) (dNcj 0) (dNcs 0) (dNcp 0) (dNw 0) (dx 0) dtt v) ++ ((wX0 dNc (dNcj 0) (dNcs 0) (dNcp 0) (dNcr 0) vNc) ++ ((wX1 cI dNcj vNcj) ++ (wX5 cI dNcs vNcs))))) (w1 := fun (u : Lf) => (wX3 cI dx u)) (w2 := fun (u : Lf) => ((wX9 d (dN 0) (dI 0) (dT 0) (dNc 0) (dNcj 0) (dNcs 0) (dNcp 0) (dNw 0) (dx 0) dtt v) ++ ((wX0 dNc (dNcj 0) (dNcs 0) (dNcp 0) (dNcr 0) vNc) ++ ((wX1 cI dNcj vNcj) ++ ((wX5 cI dNcs vNcs) ++ (wX3 cI dx u)))))) C (z_runV (pc := 14) (wc := (wX3 cI dx vx)) (As := []) C (fun sz => kX3_parse dx vx sz h) [16, 17, 18, 19, 20, 21] rfl (by decide) (gdV wq398 wq588 wq589 wq590 wq372) rfl rfl rfl hdX3_parse 16 rfl rfl rfl ⟨Nat.le_of_ble_eq_true rfl, Nat.le_of_ble_eq_true rfl⟩ rfl (Nat.le_of_ble_eq_true rfl) ⟨Nat.zero_le _, Nat.zero_le _⟩ dX9_read_14) [16, 17, 18, 19, 20, 21] [0, 1, 2, 3, 4, 5, 6, 7, 8, 9, 10, 11, 12, 13, 14, 15] [0, 1, 2, 3, 4, 5, 6, 7, 8, 9, 10, 11, 12, 13, 14, 15, 16, 17, 18, 19, 20, 21] rfl rfl (by decide) (by decide) (fun _ => rfl) (by decide) (fun r7 u7 h => ?_)
    obtain ⟨vx_7, hu7⟩ : ∃ z, z = u7 := ⟨_, rfl⟩
    subst hu7
    refine z_if_eq (pc := 17) (tgt := 24) C dX9_read_17 (by decide) (fun c8 => ?_) (fun c8 => ?_)
    · have h := h.1 c8
      exact J24  vNcj vNcs vx_7 h
    · have h := h.2 c8
      refine z_iconst (pc := 20) (v := 1) C dX9_read_20 (by decide) ?_
      refine z_goto (pc := 21) (tgt := 25) C dX9_read_21 (by decide) ?_
      exact J25  vNcj vNcs vx_7 (1 : Int32) h

def pX9_safety (vNc : Lf) (vNcj : Lf) (x1 : Int32) (Q : Int32 → Lf → Prop) : Prop := (pX9_within x1 (0 : Int32) (5 : Int32) (fun r1 => ((¬ r1 = 0 → (((vNc 0 4) = 0 → (Q (vNcj 0 1) (st vNcj 0 1 x1))) ∧ (¬ (vNc 0 4) = 0 → (Q (-3 : Int32) vNcj)))) ∧ (r1 = 0 → (Q (-2 : Int32) vNcj)))))
abbrev rmX9_safety : Room := { frames := 1, cells := 0, slots := 0, locals := 22 }
abbrev wdX9_safety : List Cond := Cond.code yX9_safety cX9_safety 3 (some .int) :: TB
theorem hdSX9_safety : (yX9_safety).cls ≠ "java/lang/invoke/MethodHandle" ∧ (yX9_safety).cls ≠ "java/lang/invoke/VarHandle" ∧ (parseMethodDescriptor (yX9_safety).desc).map (fun d => d.parameters.length) = some 1 := by decide +kernel
theorem hdX9_safety : (yX9_safety).cls = RX9 ∧ (yX9_safety).cls ≠ "java/lang/invoke/MethodHandle" ∧ (yX9_safety).cls ≠ "java/lang/invoke/VarHandle" ∧ (parseMethodDescriptor (yX9_safety).desc).map (fun d => d.parameters.length) = some 1 := ⟨rfl, hdSX9_safety⟩
set_option maxHeartbeats 4000000 in
set_option maxRecDepth 100000 in
theorem kX9_safety {l : Launch} {D : va_G} {cI cJ cT : ClassId} (d : Nat → Nat) (dN : Nat → Nat) (dI : Nat → Nat) (dT : Nat → Nat) (dNc : Nat → Nat) (dNcj : Nat → Nat) (dNcs : Nat → Nat) (dNcp : Nat → Nat) (dNw : Nat → Nat) (dx : Nat → Nat) (dtt : Nat) (dNcr : Nat → Nat)  (v : Lf) (vNc : Lf) (vNcj : Lf) (x1 : Int32) {Q : Int32 → Lf → Prop} (sz : Nat) (h : pX9_safety vNc vNcj x1 Q) : Met l yX9_safety wdX9_safety rmX9_safety (Pz D (tyL cI cJ cT) [.ref (d 0), .int x1] ((wX9 d (dN 0) (dI 0) (dT 0) (dNc 0) (dNcj 0) (dNcs 0) (dNcp 0) (dNw 0) (dx 0) dtt v) ++ ((wX0 dNc (dNcj 0) (dNcs 0) (dNcp 0) (dNcr 0) vNc) ++ (wX1 cI dNcj vNcj))) sz) (va_Qi (fun (r : Int32) (u : Lf) => Q r u) (Bz D (tyL cI cJ cT) ((wX9 d (dN 0) (dI 0) (dT 0) (dNc 0) (dNcj 0) (dNcs 0) (dNcp 0) (dNw 0) (dx 0) dtt v) ++ ((wX0 dNc (dNcj 0) (dNcs 0) (dNcp 0) (dNcr 0) vNc) ++ (wX1 cI dNcj vNcj))) sz (fun (u : Lf) => ((wX9 d (dN 0) (dI 0) (dT 0) (dNc 0) (dNcj 0) (dNcs 0) (dNcp 0) (dNw 0) (dx 0) dtt v) ++ ((wX0 dNc (dNcj 0) (dNcs 0) (dNcp 0) (dNcr 0) vNc) ++ (wX1 cI dNcj u))))) (va_A ((wX9 d (dN 0) (dI 0) (dT 0) (dNc 0) (dNcj 0) (dNcs 0) (dNcp 0) (dNw 0) (dx 0) dtt v) ++ ((wX0 dNc (dNcj 0) (dNcs 0) (dNcp 0) (dNcr 0) vNc) ++ (wX1 cI dNcj vNcj))) sz)) 0 0 (va_A ((wX9 d (dN 0) (dI 0) (dT 0) (dNc 0) (dNcj 0) (dNcs 0) (dNcp 0) (dNw 0) (dx 0) dtt v) ++ ((wX0 dNc (dNcj 0) (dNcs 0) (dNcp 0) (dNcr 0) vNc) ++ (wX1 cI dNcj vNcj))) sz) := by
  refine z_meti (cc := cX9_safety) (maxL := 3) (own := RX9) (lv0 := [(0, .ref (d 0)), (1, .int x1)]) (by decide) rfl rfl (Nat.le_of_ble_eq_true rfl) rfl ?_
  intro p e s m args below meth c A QQ C hin hret
  refine z_iload_n (pc := 0) C 1 dX9_safety_0 rfl ?_
  refine z_iconst (pc := 1) (v := 0) C dX9_safety_1 (by decide) ?_
  refine z_iconst (pc := 2) (v := 5) C dX9_safety_2 (by decide) ?_
  refine z_call0i (pc := 3) C (z_runS (pc := 3) (wc := ([] : va_W)) (As := [.int x1, .int (0 : Int32), .int (5 : Int32)]) C (fun sz => kX9_within x1 (0 : Int32) (5 : Int32) sz h) [] rfl (by decide) (gdS wq366 wq553 wq373 wq112) rfl rfl rfl hdSX9_within ⟨Nat.le_of_ble_eq_true rfl, Nat.le_of_ble_eq_true rfl⟩ rfl (Nat.le_of_ble_eq_true rfl) ⟨Nat.zero_le _, Nat.zero_le _⟩ dX9_safety_3) (fun r1 u1 h => ?_)
  refine z_if_ne (pc := 6) (tgt := 12) C dX9_safety_6 (by decide) (fun c2 => ?_) (fun c2 => ?_)
  · have h := h.1 c2
    refine z_aload_n (pc := 12) C 0 dX9_safety_12 rfl ?_
    refine z_get (pc := 13) C uw9 0 rfl rfl 3 (by decide) wq531 rfl dX9_safety_13 ?_
    refine z_get (pc := 16) C uw0 1 rfl rfl 4 (by decide) wq551 rfl dX9_safety_16 ?_
    refine z_if_eq (pc := 19) (tgt := 25) C dX9_safety_19 (by decide) (fun c3 => ?_) (fun c3 => ?_)
    · have h := h.1 c3
      refine z_aload_n (pc := 25) C 0 dX9_safety_25 rfl ?_
      refine z_get (pc := 26) C uw9 0 rfl rfl 4 (by decide) wq533 rfl dX9_safety_26 ?_
      refine z_get (pc := 29) C uw1 2 rfl rfl 1 (by decide) wq596 rfl dX9_safety_29 ?_
      refine z_istore_n (pc := 32) (lv' := [(2, .int (vNcj 0 1)), (0, .ref (d 0)), (1, .int x1)]) C dX9_safety_32 (by decide) rfl ?_
      refine z_aload_n (pc := 33) C 1 dX9_safety_33 rfl ?_
      refine z_get (pc := 34) C uw9 0 rfl rfl 4 (by decide) wq533 rfl dX9_safety_34 ?_
      refine z_iload_n (pc := 37) C 2 dX9_safety_37 rfl ?_
      refine z_put (pc := 38) (ws' := ((wX9 d (dN 0) (dI 0) (dT 0) (dNc 0) (dNcj 0) (dNcs 0) (dNcp 0) (dNw 0) (dx 0) dtt v) ++ ((wX0 dNc (dNcj 0) (dNcs 0) (dNcp 0) (dNcr 0) vNc) ++ (wX1 cI dNcj (st vNcj 0 1 x1))))) C uw1 tyX1 tyX1_ok nmX1 2 rfl rfl 1 (by decide) wq596 rfl rfl rfl (Nat.le_of_ble_eq_true rfl) dX9_safety_38 (set_r (k := 1) (i := 1) rfl (set_r (k := 1) (i := 0) rfl sX1_f1)) ?_
      refine z_iload_n (pc := 41) C 0 dX9_safety_41 rfl ?_
      exact hret 42 _ _ (vNcj 0 1) (st vNcj 0 1 x1) rfl h dX9_safety_42
    · have h := h.2 c3
      refine z_bipush (pc := 22) (v := -3) C dX9_safety_22 (by decide) ?_
      exact hret 24 _ _ (-3 : Int32) vNcj rfl h dX9_safety_24
  · have h := h.2 c2
    refine z_bipush (pc := 9) (v := -2) C dX9_safety_9 (by decide) ?_
    exact hret 11 _ _ (-2 : Int32) vNcj rfl h dX9_safety_11

def pX9_phase (vNc : Lf) (vNcj : Lf) (vNcp : Lf) (x1 : Int32) (x2 : Int32) (Q : Int32 → Lf → Prop) : Prop := (pX9_within x1 (1 : Int32) (((1 : Int32) <<< ((vNcj 0 0) &&& 31)) - (1 : Int32)) (fun r1 => ((r1 = 0 → (Q (-2 : Int32) vNcp)) ∧ (¬ r1 = 0 → (pX9_within x2 (0 : Int32) (239 : Int32) (fun r3 => ((¬ r3 = 0 → ((¬ (vNc 0 4) = 0 → (Q (-3 : Int32) vNcp)) ∧ ((vNc 0 4) = 0 → (pX1_twoMeetIn vNcj x1 (fun r6 => ((r6 = 0 → (((vNcp 0 0) < (6 : Int32) → (pX2_add vNcp x1 x2 (fun r9 vNcp_9 => (Q r9 vNcp_9)))) ∧ (¬ (vNcp 0 0) < (6 : Int32) → (Q (-4 : Int32) vNcp)))) ∧ (¬ r6 = 0 → (Q (-3 : Int32) vNcp)))))))) ∧ (r3 = 0 → (Q (-2 : Int32) vNcp)))))))))
abbrev rmX9_phase : Room := { frames := 3, cells := 0, slots := 0, locals := 67 }
abbrev wdX9_phase : List Cond := Cond.code yX9_phase cX9_phase 3 (some .int) :: TB
theorem hdSX9_phase : (yX9_phase).cls ≠ "java/lang/invoke/MethodHandle" ∧ (yX9_phase).cls ≠ "java/lang/invoke/VarHandle" ∧ (parseMethodDescriptor (yX9_phase).desc).map (fun d => d.parameters.length) = some 2 := by decide +kernel
theorem hdX9_phase : (yX9_phase).cls = RX9 ∧ (yX9_phase).cls ≠ "java/lang/invoke/MethodHandle" ∧ (yX9_phase).cls ≠ "java/lang/invoke/VarHandle" ∧ (parseMethodDescriptor (yX9_phase).desc).map (fun d => d.parameters.length) = some 2 := ⟨rfl, hdSX9_phase⟩
set_option maxHeartbeats 4000000 in
set_option maxRecDepth 100000 in
theorem kX9_phase {l : Launch} {D : va_G} {cI cJ cT : ClassId} (d : Nat → Nat) (dN : Nat → Nat) (dI : Nat → Nat) (dT : Nat → Nat) (dNc : Nat → Nat) (dNcj : Nat → Nat) (dNcs : Nat → Nat) (dNcp : Nat → Nat) (dNw : Nat → Nat) (dx : Nat → Nat) (dtt : Nat) (dNcr : Nat → Nat)  (v : Lf) (vNc : Lf) (vNcj : Lf) (vNcp : Lf) (x1 : Int32) (x2 : Int32) {Q : Int32 → Lf → Prop} (sz : Nat) (h : pX9_phase vNc vNcj vNcp x1 x2 Q) : Met l yX9_phase wdX9_phase rmX9_phase (Pz D (tyL cI cJ cT) [.ref (d 0), .int x1, .int x2] ((wX9 d (dN 0) (dI 0) (dT 0) (dNc 0) (dNcj 0) (dNcs 0) (dNcp 0) (dNw 0) (dx 0) dtt v) ++ ((wX0 dNc (dNcj 0) (dNcs 0) (dNcp 0) (dNcr 0) vNc) ++ ((wX1 cI dNcj vNcj) ++ (wX2 cI dNcp vNcp)))) sz) (va_Qi (fun (r : Int32) (u : Lf) => Q r u) (Bz D (tyL cI cJ cT) ((wX9 d (dN 0) (dI 0) (dT 0) (dNc 0) (dNcj 0) (dNcs 0) (dNcp 0) (dNw 0) (dx 0) dtt v) ++ ((wX0 dNc (dNcj 0) (dNcs 0) (dNcp 0) (dNcr 0) vNc) ++ ((wX1 cI dNcj vNcj) ++ (wX2 cI dNcp vNcp)))) sz (fun (u : Lf) => ((wX9 d (dN 0) (dI 0) (dT 0) (dNc 0) (dNcj 0) (dNcs 0) (dNcp 0) (dNw 0) (dx 0) dtt v) ++ ((wX0 dNc (dNcj 0) (dNcs 0) (dNcp 0) (dNcr 0) vNc) ++ ((wX1 cI dNcj vNcj) ++ (wX2 cI dNcp u)))))) (va_A ((wX9 d (dN 0) (dI 0) (dT 0) (dNc 0) (dNcj 0) (dNcs 0) (dNcp 0) (dNw 0) (dx 0) dtt v) ++ ((wX0 dNc (dNcj 0) (dNcs 0) (dNcp 0) (dNcr 0) vNc) ++ ((wX1 cI dNcj vNcj) ++ (wX2 cI dNcp vNcp)))) sz)) 0 0 (va_A ((wX9 d (dN 0) (dI 0) (dT 0) (dNc 0) (dNcj 0) (dNcs 0) (dNcp 0) (dNw 0) (dx 0) dtt v) ++ ((wX0 dNc (dNcj 0) (dNcs 0) (dNcp 0) (dNcr 0) vNc) ++ ((wX1 cI dNcj vNcj) ++ (wX2 cI dNcp vNcp)))) sz) := by
  refine z_meti (cc := cX9_phase) (maxL := 3) (own := RX9) (lv0 := [(0, .ref (d 0)), (1, .int x1), (2, .int x2)]) (by decide) rfl rfl (Nat.le_of_ble_eq_true rfl) rfl ?_
  intro p e s m args below meth c A QQ C hin hret
  refine z_iload_n (pc := 0) C 1 dX9_phase_0 rfl ?_
  refine z_iconst (pc := 1) (v := 1) C dX9_phase_1 (by decide) ?_
  refine z_iconst (pc := 2) (v := 1) C dX9_phase_2 (by decide) ?_
  refine z_aload_n (pc := 3) C 0 dX9_phase_3 rfl ?_
  refine z_get (pc := 4) C uw9 0 rfl rfl 4 (by decide) wq533 rfl dX9_phase_4 ?_
  refine z_get (pc := 7) C uw1 2 rfl rfl 0 (by decide) wq552 rfl dX9_phase_7 ?_
  refine z_ishl (pc := 10) C dX9_phase_10 ?_
  refine z_iconst (pc := 11) (v := 1) C dX9_phase_11 (by decide) ?_
  refine z_isub (pc := 12) C dX9_phase_12 ?_
  refine z_call0i (pc := 13) C (z_runS (pc := 13) (wc := ([] : va_W)) (As := [.int x1, .int (1 : Int32), .int (((1 : Int32) <<< ((vNcj 0 0) &&& 31)) - (1 : Int32))]) C (fun sz => kX9_within x1 (1 : Int32) (((1 : Int32) <<< ((vNcj 0 0) &&& 31)) - (1 : Int32)) sz h) [] rfl (by decide) (gdS wq366 wq553 wq373 wq112) rfl rfl rfl hdSX9_within ⟨Nat.le_of_ble_eq_true rfl, Nat.le_of_ble_eq_true rfl⟩ rfl (Nat.le_of_ble_eq_true rfl) ⟨Nat.zero_le _, Nat.zero_le _⟩ dX9_phase_13) (fun r1 u1 h => ?_)
  refine z_if_eq (pc := 16) (tgt := 30) C dX9_phase_16 (by decide) (fun c2 => ?_) (fun c2 => ?_)
  · have h := h.1 c2
    refine z_bipush (pc := 30) (v := -2) C dX9_phase_30 (by decide) ?_
    exact hret 32 _ _ (-2 : Int32) vNcp rfl h dX9_phase_32
  · have h := h.2 c2
    refine z_iload_n (pc := 19) C 2 dX9_phase_19 rfl ?_
    refine z_iconst (pc := 20) (v := 0) C dX9_phase_20 (by decide) ?_
    refine z_sipush (pc := 21) (v := 239) C dX9_phase_21 (by decide) ?_
    refine z_call0i (pc := 24) C (z_runS (pc := 24) (wc := ([] : va_W)) (As := [.int x2, .int (0 : Int32), .int (239 : Int32)]) C (fun sz => kX9_within x2 (0 : Int32) (239 : Int32) sz h) [] rfl (by decide) (gdS wq366 wq553 wq373 wq112) rfl rfl rfl hdSX9_within ⟨Nat.le_of_ble_eq_true rfl, Nat.le_of_ble_eq_true rfl⟩ rfl (Nat.le_of_ble_eq_true rfl) ⟨Nat.zero_le _, Nat.zero_le _⟩ dX9_phase_24) (fun r3 u3 h => ?_)
    refine z_if_ne (pc := 27) (tgt := 33) C dX9_phase_27 (by decide) (fun c4 => ?_) (fun c4 => ?_)
    · have h := h.1 c4
      refine z_aload_n (pc := 33) C 0 dX9_phase_33 rfl ?_
      refine z_get (pc := 34) C uw9 0 rfl rfl 3 (by decide) wq531 rfl dX9_phase_34 ?_
      refine z_get (pc := 37) C uw0 1 rfl rfl 4 (by decide) wq551 rfl dX9_phase_37 ?_
      refine z_if_ne (pc := 40) (tgt := 54) C dX9_phase_40 (by decide) (fun c5 => ?_) (fun c5 => ?_)
      · have h := h.1 c5
        refine z_bipush (pc := 54) (v := -3) C dX9_phase_54 (by decide) ?_
        exact hret 56 _ _ (-3 : Int32) vNcp rfl h dX9_phase_56
      · have h := h.2 c5
        refine z_aload_n (pc := 43) C 0 dX9_phase_43 rfl ?_
        refine z_get (pc := 44) C uw9 0 rfl rfl 4 (by decide) wq533 rfl dX9_phase_44 ?_
        refine z_iload_n (pc := 47) C 1 dX9_phase_47 rfl ?_
        refine z_callRi (pc := 48) C (z_runV (pc := 48) (wc := (wX1 cI dNcj vNcj)) (As := [.int x1]) C (fun sz => kX1_twoMeetIn dNcj vNcj x1 sz h) [2, 3, 4, 5, 6, 7] rfl (by decide) (gdV wq338 wq597 wq598 wq599 wq36) rfl rfl rfl hdX1_twoMeetIn 2 rfl rfl rfl ⟨Nat.le_of_ble_eq_true rfl, Nat.le_of_ble_eq_true rfl⟩ rfl (Nat.le_of_ble_eq_true rfl) ⟨Nat.zero_le _, Nat.zero_le _⟩ dX9_phase_48) [2, 3, 4, 5, 6, 7] rfl (by decide) (fun r6 u6 h => ?_)
        refine z_if_eq (pc := 51) (tgt := 57) C dX9_phase_51 (by decide) (fun c7 => ?_) (fun c7 => ?_)
        · have h := h.1 c7
          refine z_aload_n (pc := 57) C 0 dX9_phase_57 rfl ?_
          refine z_get (pc := 58) C uw9 0 rfl rfl 6 (by decide) wq537 rfl dX9_phase_58 ?_
          refine z_get (pc := 61) C uw2 8 rfl rfl 0 (by decide) wq559 rfl dX9_phase_61 ?_
          refine z_bipush (pc := 64) (v := 6) C dX9_phase_64 (by decide) ?_
          refine z_icmp_lt (pc := 66) (tgt := 72) C dX9_phase_66 (by decide) (fun c8 => ?_) (fun c8 => ?_)
          · have h := h.1 c8
            refine z_aload_n (pc := 72) C 0 dX9_phase_72 rfl ?_
            refine z_get (pc := 73) C uw9 0 rfl rfl 6 (by decide) wq537 rfl dX9_phase_73 ?_
            refine z_iload_n (pc := 76) C 1 dX9_phase_76 rfl ?_
            refine z_iload_n (pc := 77) C 2 dX9_phase_77 rfl ?_
            refine z_calli (pc := 78) (wr := ((wX9 d (dN 0) (dI 0) (dT 0) (dNc 0) (dNcj 0) (dNcs 0) (dNcp 0) (dNw 0) (dx 0) dtt v) ++ ((wX0 dNc (dNcj 0) (dNcs 0) (dNcp 0) (dNcr 0) vNc) ++ (wX1 cI dNcj vNcj)))) (w1 := fun (u : Lf) => (wX2 cI dNcp u)) (w2 := fun (u : Lf) => ((wX9 d (dN 0) (dI 0) (dT 0) (dNc 0) (dNcj 0) (dNcs 0) (dNcp 0) (dNw 0) (dx 0) dtt v) ++ ((wX0 dNc (dNcj 0) (dNcs 0) (dNcp 0) (dNcr 0) vNc) ++ ((wX1 cI dNcj vNcj) ++ (wX2 cI dNcp u))))) C (z_runV (pc := 78) (wc := (wX2 cI dNcp vNcp)) (As := [.int x1, .int x2]) C (fun sz => kX2_add dNcp vNcp x1 x2 sz h) [8, 9, 10, 11] rfl (by decide) (gdV wq351 wq600 wq601 wq602 wq44) rfl rfl rfl hdX2_add 8 rfl rfl rfl ⟨Nat.le_of_ble_eq_true rfl, Nat.le_of_ble_eq_true rfl⟩ rfl (Nat.le_of_ble_eq_true rfl) ⟨Nat.zero_le _, Nat.zero_le _⟩ dX9_phase_78) [8, 9, 10, 11] [0, 1, 2, 3, 4, 5, 6, 7] [0, 1, 2, 3, 4, 5, 6, 7, 8, 9, 10, 11] rfl rfl (by decide) (by decide) (fun _ => rfl) (by decide) (fun r9 u9 h => ?_)
            obtain ⟨vNcp_9, hu9⟩ : ∃ z, z = u9 := ⟨_, rfl⟩
            subst hu9
            exact hret 81 _ _ r9 vNcp_9 rfl h dX9_phase_81
          · have h := h.2 c8
            refine z_bipush (pc := 69) (v := -4) C dX9_phase_69 (by decide) ?_
            exact hret 71 _ _ (-4 : Int32) vNcp rfl h dX9_phase_71
        · have h := h.2 c7
          refine z_bipush (pc := 54) (v := -3) C dX9_phase_54 (by decide) ?_
          exact hret 56 _ _ (-3 : Int32) vNcp rfl h dX9_phase_56
    · have h := h.2 c4
      refine z_bipush (pc := 30) (v := -2) C dX9_phase_30 (by decide) ?_
      exact hret 32 _ _ (-2 : Int32) vNcp rfl h dX9_phase_32

def pX9_start (vNc : Lf) (vNcp : Lf)  (Q : Int32 → Lf → Lf → Prop) : Prop := ((¬ (vNc 0 4) = 0 → (Q (-3 : Int32) vNc vNcp)) ∧ ((vNc 0 4) = 0 → ((¬ (vNcp 0 0) = 0 → (pX0_begin vNc vNcp (fun vNc_3 vNcp_3 => (Q (vNcp_3 0 0) vNc_3 vNcp_3)))) ∧ ((vNcp 0 0) = 0 → (Q (-3 : Int32) vNc vNcp)))))
abbrev rmX9_start : Room := { frames := 2, cells := 0, slots := 0, locals := 41 }
abbrev wdX9_start : List Cond := Cond.code yX9_start cX9_start 1 (some .int) :: TB
theorem hdSX9_start : (yX9_start).cls ≠ "java/lang/invoke/MethodHandle" ∧ (yX9_start).cls ≠ "java/lang/invoke/VarHandle" ∧ (parseMethodDescriptor (yX9_start).desc).map (fun d => d.parameters.length) = some 0 := by decide +kernel
theorem hdX9_start : (yX9_start).cls = RX9 ∧ (yX9_start).cls ≠ "java/lang/invoke/MethodHandle" ∧ (yX9_start).cls ≠ "java/lang/invoke/VarHandle" ∧ (parseMethodDescriptor (yX9_start).desc).map (fun d => d.parameters.length) = some 0 := ⟨rfl, hdSX9_start⟩
set_option maxHeartbeats 4000000 in
set_option maxRecDepth 100000 in
theorem kX9_start {l : Launch} {D : va_G} {cI cJ cT : ClassId} (d : Nat → Nat) (dN : Nat → Nat) (dI : Nat → Nat) (dT : Nat → Nat) (dNc : Nat → Nat) (dNcj : Nat → Nat) (dNcs : Nat → Nat) (dNcp : Nat → Nat) (dNw : Nat → Nat) (dx : Nat → Nat) (dtt : Nat) (dNcr : Nat → Nat)  (v : Lf) (vNc : Lf) (vNcp : Lf)  {Q : Int32 → Lf → Lf → Prop} (sz : Nat) (h : pX9_start vNc vNcp Q) : Met l yX9_start wdX9_start rmX9_start (Pz D (tyL cI cJ cT) [.ref (d 0)] ((wX9 d (dN 0) (dI 0) (dT 0) (dNc 0) (dNcj 0) (dNcs 0) (dNcp 0) (dNw 0) (dx 0) dtt v) ++ ((wX0 dNc (dNcj 0) (dNcs 0) (dNcp 0) (dNcr 0) vNc) ++ (wX2 cI dNcp vNcp))) sz) (va_Qi (fun (r : Int32) (u : Lf × Lf) => Q r u.1 u.2) (Bz D (tyL cI cJ cT) ((wX9 d (dN 0) (dI 0) (dT 0) (dNc 0) (dNcj 0) (dNcs 0) (dNcp 0) (dNw 0) (dx 0) dtt v) ++ ((wX0 dNc (dNcj 0) (dNcs 0) (dNcp 0) (dNcr 0) vNc) ++ (wX2 cI dNcp vNcp))) sz (fun (u : Lf × Lf) => ((wX9 d (dN 0) (dI 0) (dT 0) (dNc 0) (dNcj 0) (dNcs 0) (dNcp 0) (dNw 0) (dx 0) dtt v) ++ ((wX0 dNc (dNcj 0) (dNcs 0) (dNcp 0) (dNcr 0) u.1) ++ (wX2 cI dNcp u.2))))) (va_A ((wX9 d (dN 0) (dI 0) (dT 0) (dNc 0) (dNcj 0) (dNcs 0) (dNcp 0) (dNw 0) (dx 0) dtt v) ++ ((wX0 dNc (dNcj 0) (dNcs 0) (dNcp 0) (dNcr 0) vNc) ++ (wX2 cI dNcp vNcp))) sz)) 0 0 (va_A ((wX9 d (dN 0) (dI 0) (dT 0) (dNc 0) (dNcj 0) (dNcs 0) (dNcp 0) (dNw 0) (dx 0) dtt v) ++ ((wX0 dNc (dNcj 0) (dNcs 0) (dNcp 0) (dNcr 0) vNc) ++ (wX2 cI dNcp vNcp))) sz) := by
  refine z_meti (cc := cX9_start) (maxL := 1) (own := RX9) (lv0 := [(0, .ref (d 0))]) (by decide) rfl rfl (Nat.le_of_ble_eq_true rfl) rfl ?_
  intro p e s m args below meth c A QQ C hin hret
  refine z_aload_n (pc := 0) C 0 dX9_start_0 rfl ?_
  refine z_get (pc := 1) C uw9 0 rfl rfl 3 (by decide) wq531 rfl dX9_start_1 ?_
  refine z_get (pc := 4) C uw0 1 rfl rfl 4 (by decide) wq551 rfl dX9_start_4 ?_
  refine z_if_ne (pc := 7) (tgt := 20) C dX9_start_7 (by decide) (fun c1 => ?_) (fun c1 => ?_)
  · have h := h.1 c1
    refine z_bipush (pc := 20) (v := -3) C dX9_start_20 (by decide) ?_
    exact hret 22 _ _ (-3 : Int32) (vNc, vNcp) rfl h dX9_start_22
  · have h := h.2 c1
    refine z_aload_n (pc := 10) C 0 dX9_start_10 rfl ?_
    refine z_get (pc := 11) C uw9 0 rfl rfl 6 (by decide) wq537 rfl dX9_start_11 ?_
    refine z_get (pc := 14) C uw2 2 rfl rfl 0 (by decide) wq559 rfl dX9_start_14 ?_
    refine z_if_ne (pc := 17) (tgt := 23) C dX9_start_17 (by decide) (fun c2 => ?_) (fun c2 => ?_)
    · have h := h.1 c2
      refine z_aload_n (pc := 23) C 0 dX9_start_23 rfl ?_
      refine z_get (pc := 24) C uw9 0 rfl rfl 3 (by decide) wq531 rfl dX9_start_24 ?_
      refine z_callv (pc := 27) (wr := (wX9 d (dN 0) (dI 0) (dT 0) (dNc 0) (dNcj 0) (dNcs 0) (dNcp 0) (dNw 0) (dx 0) dtt v)) (w1 := fun (u : Lf × Lf) => ((wX0 dNc (dNcj 0) (dNcs 0) (dNcp 0) (dNcr 0) u.1) ++ (wX2 cI dNcp u.2))) (w2 := fun (u : Lf × Lf) => ((wX9 d (dN 0) (dI 0) (dT 0) (dNc 0) (dNcj 0) (dNcs 0) (dNcp 0) (dNw 0) (dx 0) dtt v) ++ ((wX0 dNc (dNcj 0) (dNcs 0) (dNcp 0) (dNcr 0) u.1) ++ (wX2 cI dNcp u.2)))) C (z_runV (pc := 27) (wc := ((wX0 dNc (dNcj 0) (dNcs 0) (dNcp 0) (dNcr 0) vNc) ++ (wX2 cI dNcp vNcp))) (As := []) C (fun sz => kX0_begin dNc dNcj dNcs dNcp dNcr vNc vNcp sz h) [1, 2, 3, 4, 5] rfl (by decide) (gdV wq104 wq605 wq606 wq607 wq108) rfl rfl rfl hdX0_begin 1 rfl rfl rfl ⟨Nat.le_of_ble_eq_true rfl, Nat.le_of_ble_eq_true rfl⟩ rfl (Nat.le_of_ble_eq_true rfl) ⟨Nat.zero_le _, Nat.zero_le _⟩ dX9_start_27) [1, 2, 3, 4, 5] [0] [0, 1, 2, 3, 4, 5] rfl rfl (by decide) (by decide) (fun _ => rfl) (by decide) (fun u3 h => ?_)
      obtain ⟨vNc_3, vNcp_3⟩ := u3
      dsimp only at h
      refine z_aload_n (pc := 30) C 0 dX9_start_30 rfl ?_
      refine z_get (pc := 31) C uw9 0 rfl rfl 6 (by decide) wq537 rfl dX9_start_31 ?_
      refine z_get (pc := 34) C uw2 2 rfl rfl 0 (by decide) wq559 rfl dX9_start_34 ?_
      exact hret 37 _ _ (vNcp_3 0 0) (vNc_3, vNcp_3) rfl h dX9_start_37
    · have h := h.2 c2
      refine z_bipush (pc := 20) (v := -3) C dX9_start_20 (by decide) ?_
      exact hret 22 _ _ (-3 : Int32) (vNc, vNcp) rfl h dX9_start_22

def pX9_cycle_J99 (x1 : Int32) (x2 : Int32) (x3 : Int32) (Q : Int32 → Lf → Prop) (vNc : Lf) (x5 : Int32) (t1 : Int32) : Prop := (Q x5 (st vNc 0 15 t1))
def pX9_cycle_J82 (x1 : Int32) (x2 : Int32) (x3 : Int32) (Q : Int32 → Lf → Prop) (vNc : Lf) (x4 : Int32) (x5 : Int32) (t1 : Int32) : Prop := ((x4 = 0 → (pX9_cycle_J99 x1 x2 x3 Q  (st vNc 0 14 t1) x5 x3)) ∧ (¬ x4 = 0 → (pX9_cycle_J99 x1 x2 x3 Q  (st vNc 0 14 t1) x5 (0 : Int32))))
def pX9_cycle_J51 (x1 : Int32) (x2 : Int32) (x3 : Int32) (Q : Int32 → Lf → Prop) (vNc : Lf) (x4 : Int32) : Prop := ((x4 = 0 → (pX9_cycle_J82 x1 x2 x3 Q  (st vNc 0 13 x1) x4 (vNc 0 13) x2)) ∧ (¬ x4 = 0 → (pX9_cycle_J82 x1 x2 x3 Q  (st vNc 0 13 x1) x4 (vNc 0 13) (0 : Int32))))
def pX9_cycle_J9 (x1 : Int32) (x2 : Int32) (x3 : Int32) (Q : Int32 → Lf → Prop) (vNc : Lf) (t0 : Int32) : Prop := ((¬ t0 = 0 → (pX9_cycle_J51 x1 x2 x3 Q  vNc t0)) ∧ (t0 = 0 → (pX9_within x1 (20 : Int32) (240 : Int32) (fun r5 => ((r5 = 0 → (Q (-2 : Int32) vNc)) ∧ (¬ r5 = 0 → (pX9_within x2 (0 : Int32) (x1 - (1 : Int32)) (fun r7 => ((r7 = 0 → (Q (-2 : Int32) vNc)) ∧ (¬ r7 = 0 → (pX9_within x3 (1 : Int32) x1 (fun r9 => ((¬ r9 = 0 → (pX9_cycle_J51 x1 x2 x3 Q  vNc t0)) ∧ (r9 = 0 → (Q (-2 : Int32) vNc)))))))))))))))
def pX9_cycle (vNc : Lf) (x1 : Int32) (x2 : Int32) (x3 : Int32) (Q : Int32 → Lf → Prop) : Prop := ((¬ x1 = 0 → (pX9_cycle_J9 x1 x2 x3 Q  vNc (0 : Int32))) ∧ (x1 = 0 → (pX9_cycle_J9 x1 x2 x3 Q  vNc (1 : Int32))))
abbrev rmX9_cycle : Room := { frames := 1, cells := 0, slots := 0, locals := 22 }
abbrev wdX9_cycle : List Cond := Cond.code yX9_cycle cX9_cycle 6 (some .int) :: TB
theorem hdSX9_cycle : (yX9_cycle).cls ≠ "java/lang/invoke/MethodHandle" ∧ (yX9_cycle).cls ≠ "java/lang/invoke/VarHandle" ∧ (parseMethodDescriptor (yX9_cycle).desc).map (fun d => d.parameters.length) = some 3 := by decide +kernel
theorem hdX9_cycle : (yX9_cycle).cls = RX9 ∧ (yX9_cycle).cls ≠ "java/lang/invoke/MethodHandle" ∧ (yX9_cycle).cls ≠ "java/lang/invoke/VarHandle" ∧ (parseMethodDescriptor (yX9_cycle).desc).map (fun d => d.parameters.length) = some 3 := ⟨rfl, hdSX9_cycle⟩
set_option maxHeartbeats 4000000 in
set_option maxRecDepth 100000 in
theorem kX9_cycle {l : Launch} {D : va_G} {cI cJ cT : ClassId} (d : Nat → Nat) (dN : Nat → Nat) (dI : Nat → Nat) (dT : Nat → Nat) (dNc : Nat → Nat) (dNcj : Nat → Nat) (dNcs : Nat → Nat) (dNcp : Nat → Nat) (dNw : Nat → Nat) (dx : Nat → Nat) (dtt : Nat) (dNcr : Nat → Nat)  (v : Lf) (vNc : Lf) (x1 : Int32) (x2 : Int32) (x3 : Int32) {Q : Int32 → Lf → Prop} (sz : Nat) (h : pX9_cycle vNc x1 x2 x3 Q) : Met l yX9_cycle wdX9_cycle rmX9_cycle (Pz D (tyL cI cJ cT) [.ref (d 0), .int x1, .int x2, .int x3] ((wX9 d (dN 0) (dI 0) (dT 0) (dNc 0) (dNcj 0) (dNcs 0) (dNcp 0) (dNw 0) (dx 0) dtt v) ++ (wX0 dNc (dNcj 0) (dNcs 0) (dNcp 0) (dNcr 0) vNc)) sz) (va_Qi (fun (r : Int32) (u : Lf) => Q r u) (Bz D (tyL cI cJ cT) ((wX9 d (dN 0) (dI 0) (dT 0) (dNc 0) (dNcj 0) (dNcs 0) (dNcp 0) (dNw 0) (dx 0) dtt v) ++ (wX0 dNc (dNcj 0) (dNcs 0) (dNcp 0) (dNcr 0) vNc)) sz (fun (u : Lf) => ((wX9 d (dN 0) (dI 0) (dT 0) (dNc 0) (dNcj 0) (dNcs 0) (dNcp 0) (dNw 0) (dx 0) dtt v) ++ (wX0 dNc (dNcj 0) (dNcs 0) (dNcp 0) (dNcr 0) u)))) (va_A ((wX9 d (dN 0) (dI 0) (dT 0) (dNc 0) (dNcj 0) (dNcs 0) (dNcp 0) (dNw 0) (dx 0) dtt v) ++ (wX0 dNc (dNcj 0) (dNcs 0) (dNcp 0) (dNcr 0) vNc)) sz)) 0 0 (va_A ((wX9 d (dN 0) (dI 0) (dT 0) (dNc 0) (dNcj 0) (dNcs 0) (dNcp 0) (dNw 0) (dx 0) dtt v) ++ (wX0 dNc (dNcj 0) (dNcs 0) (dNcp 0) (dNcr 0) vNc)) sz) := by
  refine z_meti (cc := cX9_cycle) (maxL := 6) (own := RX9) (lv0 := [(0, .ref (d 0)), (1, .int x1), (2, .int x2), (3, .int x3)]) (by decide) rfl rfl (Nat.le_of_ble_eq_true rfl) rfl ?_
  intro p e s m args below meth c A QQ C hin hret
  have J99 : ∀ (vNc : Lf) (x5 : Int32) (t1 : Int32), pX9_cycle_J99 x1 x2 x3 Q vNc x5 t1 → ZZ p l e rmX9_cycle s m args below meth c D A 6 0 0 QQ 99 ((wX9 d (dN 0) (dI 0) (dT 0) (dNc 0) (dNcj 0) (dNcs 0) (dNcp 0) (dNw 0) (dx 0) dtt v) ++ (wX0 dNc (dNcj 0) (dNcs 0) (dNcp 0) (dNcr 0) vNc)) [(5, .int x5)] [.int t1, .ref (dNc 0)] := by
    intro  vNc x5 t1 h
    refine z_put (pc := 99) (ws' := ((wX9 d (dN 0) (dI 0) (dT 0) (dNc 0) (dNcj 0) (dNcs 0) (dNcp 0) (dNw 0) (dx 0) dtt v) ++ (wX0 dNc (dNcj 0) (dNcs 0) (dNcp 0) (dNcr 0) (st vNc 0 15 t1)))) C uw0 tyX0 tyX0_ok nmX0 1 rfl rfl 15 (by decide) wq611 rfl rfl rfl (Nat.le_of_ble_eq_true rfl) dX9_cycle_99 (set_r (k := 1) (i := 0) rfl sX0_f15) ?_
    refine z_iload (pc := 102) C 0 dX9_cycle_102 rfl ?_
    exact hret 104 _ _ x5 (st vNc 0 15 t1) rfl h dX9_cycle_104
  have J82 : ∀ (vNc : Lf) (x4 : Int32) (x5 : Int32) (t1 : Int32), pX9_cycle_J82 x1 x2 x3 Q vNc x4 x5 t1 → ZZ p l e rmX9_cycle s m args below meth c D A 6 0 0 QQ 82 ((wX9 d (dN 0) (dI 0) (dT 0) (dNc 0) (dNcj 0) (dNcs 0) (dNcp 0) (dNw 0) (dx 0) dtt v) ++ (wX0 dNc (dNcj 0) (dNcs 0) (dNcp 0) (dNcr 0) vNc)) [(0, .ref (d 0)), (3, .int x3), (4, .int x4), (5, .int x5)] [.int t1, .ref (dNc 0)] := by
    intro  vNc x4 x5 t1 h
    refine z_put (pc := 82) (ws' := ((wX9 d (dN 0) (dI 0) (dT 0) (dNc 0) (dNcj 0) (dNcs 0) (dNcp 0) (dNw 0) (dx 0) dtt v) ++ (wX0 dNc (dNcj 0) (dNcs 0) (dNcp 0) (dNcr 0) (st vNc 0 14 t1)))) C uw0 tyX0 tyX0_ok nmX0 1 rfl rfl 14 (by decide) wq610 rfl rfl rfl (Nat.le_of_ble_eq_true rfl) dX9_cycle_82 (set_r (k := 1) (i := 0) rfl sX0_f14) ?_
    refine z_aload_n (pc := 85) C 0 dX9_cycle_85 rfl ?_
    refine z_get (pc := 86) C uw9 0 rfl rfl 3 (by decide) wq531 rfl dX9_cycle_86 ?_
    refine z_iload (pc := 89) C 2 dX9_cycle_89 rfl ?_
    refine z_if_eq (pc := 91) (tgt := 98) C dX9_cycle_91 (by decide) (fun c4 => ?_) (fun c4 => ?_)
    · have h := h.1 c4
      refine z_iload_n (pc := 98) C 1 dX9_cycle_98 rfl ?_
      refine z_sub (lv' := [(5, .int x5)]) [3] rfl ?_
      exact J99  (st vNc 0 14 t1) x5 x3 h
    · have h := h.2 c4
      refine z_iconst (pc := 94) (v := 0) C dX9_cycle_94 (by decide) ?_
      refine z_goto (pc := 95) (tgt := 99) C dX9_cycle_95 (by decide) ?_
      refine z_sub (lv' := [(5, .int x5)]) [3] rfl ?_
      exact J99  (st vNc 0 14 t1) x5 (0 : Int32) h
  have J51 : ∀ (vNc : Lf) (x4 : Int32), pX9_cycle_J51 x1 x2 x3 Q vNc x4 → ZZ p l e rmX9_cycle s m args below meth c D A 6 0 0 QQ 51 ((wX9 d (dN 0) (dI 0) (dT 0) (dNc 0) (dNcj 0) (dNcs 0) (dNcp 0) (dNw 0) (dx 0) dtt v) ++ (wX0 dNc (dNcj 0) (dNcs 0) (dNcp 0) (dNcr 0) vNc)) [(0, .ref (d 0)), (1, .int x1), (2, .int x2), (3, .int x3), (4, .int x4)] [] := by
    intro  vNc x4 h
    refine z_aload_n (pc := 51) C 0 dX9_cycle_51 rfl ?_
    refine z_get (pc := 52) C uw9 0 rfl rfl 3 (by decide) wq531 rfl dX9_cycle_52 ?_
    refine z_get (pc := 55) C uw0 1 rfl rfl 13 (by decide) wq609 rfl dX9_cycle_55 ?_
    refine z_istore (pc := 58) (lv' := [(5, .int (vNc 0 13)), (0, .ref (d 0)), (1, .int x1), (2, .int x2), (3, .int x3), (4, .int x4)]) C dX9_cycle_58 (by decide) rfl ?_
    refine z_aload_n (pc := 60) C 1 dX9_cycle_60 rfl ?_
    refine z_get (pc := 61) C uw9 0 rfl rfl 3 (by decide) wq531 rfl dX9_cycle_61 ?_
    refine z_iload_n (pc := 64) C 2 dX9_cycle_64 rfl ?_
    refine z_put (pc := 65) (ws' := ((wX9 d (dN 0) (dI 0) (dT 0) (dNc 0) (dNcj 0) (dNcs 0) (dNcp 0) (dNw 0) (dx 0) dtt v) ++ (wX0 dNc (dNcj 0) (dNcs 0) (dNcp 0) (dNcr 0) (st vNc 0 13 x1)))) C uw0 tyX0 tyX0_ok nmX0 1 rfl rfl 13 (by decide) wq609 rfl rfl rfl (Nat.le_of_ble_eq_true rfl) dX9_cycle_65 (set_r (k := 1) (i := 0) rfl sX0_f13) ?_
    refine z_aload_n (pc := 68) C 1 dX9_cycle_68 rfl ?_
    refine z_get (pc := 69) C uw9 0 rfl rfl 3 (by decide) wq531 rfl dX9_cycle_69 ?_
    refine z_iload (pc := 72) C 5 dX9_cycle_72 rfl ?_
    refine z_if_eq (pc := 74) (tgt := 81) C dX9_cycle_74 (by decide) (fun c3 => ?_) (fun c3 => ?_)
    · have h := h.1 c3
      refine z_iload_n (pc := 81) C 3 dX9_cycle_81 rfl ?_
      refine z_sub (lv' := [(0, .ref (d 0)), (3, .int x3), (4, .int x4), (5, .int (vNc 0 13))]) [1, 4, 5, 0] rfl ?_
      exact J82  (st vNc 0 13 x1) x4 (vNc 0 13) x2 h
    · have h := h.2 c3
      refine z_iconst (pc := 77) (v := 0) C dX9_cycle_77 (by decide) ?_
      refine z_goto (pc := 78) (tgt := 82) C dX9_cycle_78 (by decide) ?_
      refine z_sub (lv' := [(0, .ref (d 0)), (3, .int x3), (4, .int x4), (5, .int (vNc 0 13))]) [1, 4, 5, 0] rfl ?_
      exact J82  (st vNc 0 13 x1) x4 (vNc 0 13) (0 : Int32) h
  have J9 : ∀ (vNc : Lf) (t0 : Int32), pX9_cycle_J9 x1 x2 x3 Q vNc t0 → ZZ p l e rmX9_cycle s m args below meth c D A 6 0 0 QQ 9 ((wX9 d (dN 0) (dI 0) (dT 0) (dNc 0) (dNcj 0) (dNcs 0) (dNcp 0) (dNw 0) (dx 0) dtt v) ++ (wX0 dNc (dNcj 0) (dNcs 0) (dNcp 0) (dNcr 0) vNc)) [(0, .ref (d 0)), (1, .int x1), (2, .int x2), (3, .int x3)] [.int t0] := by
    intro  vNc t0 h
    refine z_istore (pc := 9) (lv' := [(4, .int t0), (0, .ref (d 0)), (1, .int x1), (2, .int x2), (3, .int x3)]) C dX9_cycle_9 (by decide) rfl ?_
    refine z_iload (pc := 11) C 0 dX9_cycle_11 rfl ?_
    refine z_if_ne (pc := 13) (tgt := 51) C dX9_cycle_13 (by decide) (fun c2 => ?_) (fun c2 => ?_)
    · have h := h.1 c2
      refine z_sub (lv' := [(0, .ref (d 0)), (1, .int x1), (2, .int x2), (3, .int x3), (4, .int t0)]) [1, 2, 3, 4, 0] rfl ?_
      exact J51  vNc t0 h
    · have h := h.2 c2
      refine z_iload_n (pc := 16) C 2 dX9_cycle_16 rfl ?_
      refine z_bipush (pc := 17) (v := 20) C dX9_cycle_17 (by decide) ?_
      refine z_sipush (pc := 19) (v := 240) C dX9_cycle_19 (by decide) ?_
      refine z_call0i (pc := 22) C (z_runS (pc := 22) (wc := ([] : va_W)) (As := [.int x1, .int (20 : Int32), .int (240 : Int32)]) C (fun sz => kX9_within x1 (20 : Int32) (240 : Int32) sz h) [] rfl (by decide) (gdS wq366 wq553 wq373 wq112) rfl rfl rfl hdSX9_within ⟨Nat.le_of_ble_eq_true rfl, Nat.le_of_ble_eq_true rfl⟩ rfl (Nat.le_of_ble_eq_true rfl) ⟨Nat.zero_le _, Nat.zero_le _⟩ dX9_cycle_22) (fun r5 u5 h => ?_)
      refine z_if_eq (pc := 25) (tgt := 48) C dX9_cycle_25 (by decide) (fun c6 => ?_) (fun c6 => ?_)
      · have h := h.1 c6
        refine z_bipush (pc := 48) (v := -2) C dX9_cycle_48 (by decide) ?_
        exact hret 50 _ _ (-2 : Int32) vNc rfl h dX9_cycle_50
      · have h := h.2 c6
        refine z_iload_n (pc := 28) C 3 dX9_cycle_28 rfl ?_
        refine z_iconst (pc := 29) (v := 0) C dX9_cycle_29 (by decide) ?_
        refine z_iload_n (pc := 30) C 2 dX9_cycle_30 rfl ?_
        refine z_iconst (pc := 31) (v := 1) C dX9_cycle_31 (by decide) ?_
        refine z_isub (pc := 32) C dX9_cycle_32 ?_
        refine z_call0i (pc := 33) C (z_runS (pc := 33) (wc := ([] : va_W)) (As := [.int x2, .int (0 : Int32), .int (x1 - (1 : Int32))]) C (fun sz => kX9_within x2 (0 : Int32) (x1 - (1 : Int32)) sz h) [] rfl (by decide) (gdS wq366 wq553 wq373 wq112) rfl rfl rfl hdSX9_within ⟨Nat.le_of_ble_eq_true rfl, Nat.le_of_ble_eq_true rfl⟩ rfl (Nat.le_of_ble_eq_true rfl) ⟨Nat.zero_le _, Nat.zero_le _⟩ dX9_cycle_33) (fun r7 u7 h => ?_)
        refine z_if_eq (pc := 36) (tgt := 48) C dX9_cycle_36 (by decide) (fun c8 => ?_) (fun c8 => ?_)
        · have h := h.1 c8
          refine z_bipush (pc := 48) (v := -2) C dX9_cycle_48 (by decide) ?_
          exact hret 50 _ _ (-2 : Int32) vNc rfl h dX9_cycle_50
        · have h := h.2 c8
          refine z_iload_n (pc := 39) C 4 dX9_cycle_39 rfl ?_
          refine z_iconst (pc := 40) (v := 1) C dX9_cycle_40 (by decide) ?_
          refine z_iload_n (pc := 41) C 2 dX9_cycle_41 rfl ?_
          refine z_call0i (pc := 42) C (z_runS (pc := 42) (wc := ([] : va_W)) (As := [.int x3, .int (1 : Int32), .int x1]) C (fun sz => kX9_within x3 (1 : Int32) x1 sz h) [] rfl (by decide) (gdS wq366 wq553 wq373 wq112) rfl rfl rfl hdSX9_within ⟨Nat.le_of_ble_eq_true rfl, Nat.le_of_ble_eq_true rfl⟩ rfl (Nat.le_of_ble_eq_true rfl) ⟨Nat.zero_le _, Nat.zero_le _⟩ dX9_cycle_42) (fun r9 u9 h => ?_)
          refine z_if_ne (pc := 45) (tgt := 51) C dX9_cycle_45 (by decide) (fun c10 => ?_) (fun c10 => ?_)
          · have h := h.1 c10
            refine z_sub (lv' := [(0, .ref (d 0)), (1, .int x1), (2, .int x2), (3, .int x3), (4, .int t0)]) [1, 2, 3, 4, 0] rfl ?_
            exact J51  vNc t0 h
          · have h := h.2 c10
            refine z_bipush (pc := 48) (v := -2) C dX9_cycle_48 (by decide) ?_
            exact hret 50 _ _ (-2 : Int32) vNc rfl h dX9_cycle_50
  refine z_iload_n (pc := 0) C 1 dX9_cycle_0 rfl ?_
  refine z_if_ne (pc := 1) (tgt := 8) C dX9_cycle_1 (by decide) (fun c1 => ?_) (fun c1 => ?_)
  · have h := h.1 c1
    refine z_iconst (pc := 8) (v := 0) C dX9_cycle_8 (by decide) ?_
    exact J9  vNc (0 : Int32) h
  · have h := h.2 c1
    refine z_iconst (pc := 4) (v := 1) C dX9_cycle_4 (by decide) ?_
    refine z_goto (pc := 5) (tgt := 9) C dX9_cycle_5 (by decide) ?_
    exact J9  vNc (1 : Int32) h

def pX9_come (vNc : Lf) (vNcj : Lf) (vNcs : Lf) (x1 : Int32) (x2 : Int32) (Q : Int32 → Lf → Lf → Prop) : Prop := (pX9_isSignal vNcj x1 (fun r1 => ((¬ r1 = 0 → (pX9_within x2 (1 : Int32) (20 : Int32) (fun r3 => ((¬ r3 = 0 → (pX5_join vNcs x1 x2 (fun r5 vNcs_5 => (vp_in x1 8 ∧ (Q (vNcs_5 2 x1.toNatClampNeg) (st vNc 0 11 ((vNc 0 11) + r5)) vNcs_5))))) ∧ (r3 = 0 → (Q (-2 : Int32) vNc vNcs)))))) ∧ (r1 = 0 → (Q (-1 : Int32) vNc vNcs)))))
abbrev rmX9_come : Room := { frames := 2, cells := 0, slots := 0, locals := 63 }
abbrev wdX9_come : List Cond := Cond.code yX9_come cX9_come 3 (some .int) :: TB
theorem hdSX9_come : (yX9_come).cls ≠ "java/lang/invoke/MethodHandle" ∧ (yX9_come).cls ≠ "java/lang/invoke/VarHandle" ∧ (parseMethodDescriptor (yX9_come).desc).map (fun d => d.parameters.length) = some 2 := by decide +kernel
theorem hdX9_come : (yX9_come).cls = RX9 ∧ (yX9_come).cls ≠ "java/lang/invoke/MethodHandle" ∧ (yX9_come).cls ≠ "java/lang/invoke/VarHandle" ∧ (parseMethodDescriptor (yX9_come).desc).map (fun d => d.parameters.length) = some 2 := ⟨rfl, hdSX9_come⟩
set_option maxHeartbeats 4000000 in
set_option maxRecDepth 100000 in
theorem kX9_come {l : Launch} {D : va_G} {cI cJ cT : ClassId} (d : Nat → Nat) (dN : Nat → Nat) (dI : Nat → Nat) (dT : Nat → Nat) (dNc : Nat → Nat) (dNcj : Nat → Nat) (dNcs : Nat → Nat) (dNcp : Nat → Nat) (dNw : Nat → Nat) (dx : Nat → Nat) (dtt : Nat) (dNcr : Nat → Nat)  (v : Lf) (vNc : Lf) (vNcj : Lf) (vNcs : Lf) (x1 : Int32) (x2 : Int32) {Q : Int32 → Lf → Lf → Prop} (sz : Nat) (h : pX9_come vNc vNcj vNcs x1 x2 Q) : Met l yX9_come wdX9_come rmX9_come (Pz D (tyL cI cJ cT) [.ref (d 0), .int x1, .int x2] ((wX9 d (dN 0) (dI 0) (dT 0) (dNc 0) (dNcj 0) (dNcs 0) (dNcp 0) (dNw 0) (dx 0) dtt v) ++ ((wX0 dNc (dNcj 0) (dNcs 0) (dNcp 0) (dNcr 0) vNc) ++ ((wX1 cI dNcj vNcj) ++ (wX5 cI dNcs vNcs)))) sz) (va_Qi (fun (r : Int32) (u : Lf × Lf) => Q r u.1 u.2) (Bz D (tyL cI cJ cT) ((wX9 d (dN 0) (dI 0) (dT 0) (dNc 0) (dNcj 0) (dNcs 0) (dNcp 0) (dNw 0) (dx 0) dtt v) ++ ((wX0 dNc (dNcj 0) (dNcs 0) (dNcp 0) (dNcr 0) vNc) ++ ((wX1 cI dNcj vNcj) ++ (wX5 cI dNcs vNcs)))) sz (fun (u : Lf × Lf) => ((wX9 d (dN 0) (dI 0) (dT 0) (dNc 0) (dNcj 0) (dNcs 0) (dNcp 0) (dNw 0) (dx 0) dtt v) ++ ((wX0 dNc (dNcj 0) (dNcs 0) (dNcp 0) (dNcr 0) u.1) ++ ((wX1 cI dNcj vNcj) ++ (wX5 cI dNcs u.2)))))) (va_A ((wX9 d (dN 0) (dI 0) (dT 0) (dNc 0) (dNcj 0) (dNcs 0) (dNcp 0) (dNw 0) (dx 0) dtt v) ++ ((wX0 dNc (dNcj 0) (dNcs 0) (dNcp 0) (dNcr 0) vNc) ++ ((wX1 cI dNcj vNcj) ++ (wX5 cI dNcs vNcs)))) sz)) 0 0 (va_A ((wX9 d (dN 0) (dI 0) (dT 0) (dNc 0) (dNcj 0) (dNcs 0) (dNcp 0) (dNw 0) (dx 0) dtt v) ++ ((wX0 dNc (dNcj 0) (dNcs 0) (dNcp 0) (dNcr 0) vNc) ++ ((wX1 cI dNcj vNcj) ++ (wX5 cI dNcs vNcs)))) sz) := by
  refine z_meti (cc := cX9_come) (maxL := 3) (own := RX9) (lv0 := [(0, .ref (d 0)), (1, .int x1), (2, .int x2)]) (by decide) rfl rfl (Nat.le_of_ble_eq_true rfl) rfl ?_
  intro p e s m args below meth c A QQ C hin hret
  refine z_aload_n (pc := 0) C 0 dX9_come_0 rfl ?_
  refine z_iload_n (pc := 1) C 1 dX9_come_1 rfl ?_
  refine z_callRi (pc := 2) C (z_runV (pc := 2) (wc := ((wX9 d (dN 0) (dI 0) (dT 0) (dNc 0) (dNcj 0) (dNcs 0) (dNcp 0) (dNw 0) (dx 0) dtt v) ++ (wX1 cI dNcj vNcj))) (As := [.int x1]) C (fun sz => kX9_isSignal d dN dI dT dNc dNcj dNcs dNcp dNw dx dtt v vNcj x1 sz h) [0, 2, 3, 4, 5, 6, 7] rfl (by decide) (gdV wq558 wq561 wq562 wq563 wq112) rfl rfl rfl hdX9_isSignal 0 rfl rfl rfl ⟨Nat.le_of_ble_eq_true rfl, Nat.le_of_ble_eq_true rfl⟩ rfl (Nat.le_of_ble_eq_true rfl) ⟨Nat.zero_le _, Nat.zero_le _⟩ dX9_come_2) [0, 2, 3, 4, 5, 6, 7] rfl (by decide) (fun r1 u1 h => ?_)
  refine z_if_ne (pc := 5) (tgt := 10) C dX9_come_5 (by decide) (fun c2 => ?_) (fun c2 => ?_)
  · have h := h.1 c2
    refine z_iload_n (pc := 10) C 2 dX9_come_10 rfl ?_
    refine z_iconst (pc := 11) (v := 1) C dX9_come_11 (by decide) ?_
    refine z_bipush (pc := 12) (v := 20) C dX9_come_12 (by decide) ?_
    refine z_call0i (pc := 14) C (z_runS (pc := 14) (wc := ([] : va_W)) (As := [.int x2, .int (1 : Int32), .int (20 : Int32)]) C (fun sz => kX9_within x2 (1 : Int32) (20 : Int32) sz h) [] rfl (by decide) (gdS wq366 wq553 wq373 wq112) rfl rfl rfl hdSX9_within ⟨Nat.le_of_ble_eq_true rfl, Nat.le_of_ble_eq_true rfl⟩ rfl (Nat.le_of_ble_eq_true rfl) ⟨Nat.zero_le _, Nat.zero_le _⟩ dX9_come_14) (fun r3 u3 h => ?_)
    refine z_if_ne (pc := 17) (tgt := 23) C dX9_come_17 (by decide) (fun c4 => ?_) (fun c4 => ?_)
    · have h := h.1 c4
      refine z_aload_n (pc := 23) C 0 dX9_come_23 rfl ?_
      refine z_get (pc := 24) C uw9 0 rfl rfl 3 (by decide) wq531 rfl dX9_come_24 ?_
      refine z_dup (pc := 27) C dX9_come_27 rfl ?_
      refine z_get (pc := 28) C uw0 1 rfl rfl 11 (by decide) wq613 rfl dX9_come_28 ?_
      refine z_aload_n (pc := 31) C 0 dX9_come_31 rfl ?_
      refine z_get (pc := 32) C uw9 0 rfl rfl 5 (by decide) wq535 rfl dX9_come_32 ?_
      refine z_iload_n (pc := 35) C 1 dX9_come_35 rfl ?_
      refine z_iload_n (pc := 36) C 2 dX9_come_36 rfl ?_
      refine z_calli (pc := 37) (wr := ((wX9 d (dN 0) (dI 0) (dT 0) (dNc 0) (dNcj 0) (dNcs 0) (dNcp 0) (dNw 0) (dx 0) dtt v) ++ ((wX0 dNc (dNcj 0) (dNcs 0) (dNcp 0) (dNcr 0) vNc) ++ (wX1 cI dNcj vNcj)))) (w1 := fun (u : Lf) => (wX5 cI dNcs u)) (w2 := fun (u : Lf) => ((wX9 d (dN 0) (dI 0) (dT 0) (dNc 0) (dNcj 0) (dNcs 0) (dNcp 0) (dNw 0) (dx 0) dtt v) ++ ((wX0 dNc (dNcj 0) (dNcs 0) (dNcp 0) (dNcr 0) vNc) ++ ((wX1 cI dNcj vNcj) ++ (wX5 cI dNcs u))))) C (z_runV (pc := 37) (wc := (wX5 cI dNcs vNcs)) (As := [.int x1, .int x2]) C (fun sz => kX5_join dNcs vNcs x1 x2 sz h) [8, 9, 10, 11, 12, 13, 14, 15] rfl (by decide) (gdV wq120 wq615 wq132 wq133 wq40) rfl rfl rfl hdX5_join 8 rfl rfl rfl ⟨Nat.le_of_ble_eq_true rfl, Nat.le_of_ble_eq_true rfl⟩ rfl (Nat.le_of_ble_eq_true rfl) ⟨Nat.zero_le _, Nat.zero_le _⟩ dX9_come_37) [8, 9, 10, 11, 12, 13, 14, 15] [0, 1, 2, 3, 4, 5, 6, 7] [0, 1, 2, 3, 4, 5, 6, 7, 8, 9, 10, 11, 12, 13, 14, 15] rfl rfl (by decide) (by decide) (fun _ => rfl) (by decide) (fun r5 u5 h => ?_)
      obtain ⟨vNcs_5, hu5⟩ : ∃ z, z = u5 := ⟨_, rfl⟩
      subst hu5
      refine z_iadd (pc := 40) C dX9_come_40 ?_
      refine z_put (pc := 41) (ws' := ((wX9 d (dN 0) (dI 0) (dT 0) (dNc 0) (dNcj 0) (dNcs 0) (dNcp 0) (dNw 0) (dx 0) dtt v) ++ ((wX0 dNc (dNcj 0) (dNcs 0) (dNcp 0) (dNcr 0) (st vNc 0 11 ((vNc 0 11) + r5))) ++ ((wX1 cI dNcj vNcj) ++ (wX5 cI dNcs vNcs_5))))) C uw0 tyX0 tyX0_ok nmX0 1 rfl rfl 11 (by decide) wq613 rfl rfl rfl (Nat.le_of_ble_eq_true rfl) dX9_come_41 (set_r (k := 1) (i := 0) rfl (set_l (Nat.le_of_ble_eq_true rfl) sX0_f11)) ?_
      refine z_aload_n (pc := 44) C 0 dX9_come_44 rfl ?_
      refine z_get (pc := 45) C uw9 0 rfl rfl 5 (by decide) wq535 rfl dX9_come_45 ?_
      refine z_get (pc := 48) C uw5 8 rfl rfl 2 (by decide) wq614 rfl dX9_come_48 ?_
      refine z_iload_n (pc := 51) C 1 dX9_come_51 rfl ?_
      obtain ⟨g6, h⟩ := h
      refine z_iald (pc := 52) C 10 0 rfl rfl g6 (vNcs_5 2 x1.toNatClampNeg) rfl dX9_come_52 ?_
      exact hret 53 _ _ (vNcs_5 2 x1.toNatClampNeg) ((st vNc 0 11 ((vNc 0 11) + r5)), vNcs_5) rfl h dX9_come_53
    · have h := h.2 c4
      refine z_bipush (pc := 20) (v := -2) C dX9_come_20 (by decide) ?_
      exact hret 22 _ _ (-2 : Int32) (vNc, vNcs) rfl h dX9_come_22
  · have h := h.2 c2
    refine z_iconst (pc := 8) (v := -1) C dX9_come_8 (by decide) ?_
    exact hret 9 _ _ (-1 : Int32) (vNc, vNcs) rfl h dX9_come_9

def pX9_seed (vNc : Lf) (x1 : Int32) (Q : Int32 → Lf → Prop) : Prop := (Q (vNc 0 12) (st vNc 0 12 x1))
abbrev rmX9_seed : Room := { frames := 0, cells := 0, slots := 0, locals := 0 }
abbrev wdX9_seed : List Cond := Cond.code yX9_seed cX9_seed 3 (some .int) :: TB
theorem hdSX9_seed : (yX9_seed).cls ≠ "java/lang/invoke/MethodHandle" ∧ (yX9_seed).cls ≠ "java/lang/invoke/VarHandle" ∧ (parseMethodDescriptor (yX9_seed).desc).map (fun d => d.parameters.length) = some 1 := by decide +kernel
theorem hdX9_seed : (yX9_seed).cls = RX9 ∧ (yX9_seed).cls ≠ "java/lang/invoke/MethodHandle" ∧ (yX9_seed).cls ≠ "java/lang/invoke/VarHandle" ∧ (parseMethodDescriptor (yX9_seed).desc).map (fun d => d.parameters.length) = some 1 := ⟨rfl, hdSX9_seed⟩
set_option maxHeartbeats 4000000 in
set_option maxRecDepth 100000 in
theorem kX9_seed {l : Launch} {D : va_G} {cI cJ cT : ClassId} (d : Nat → Nat) (dN : Nat → Nat) (dI : Nat → Nat) (dT : Nat → Nat) (dNc : Nat → Nat) (dNcj : Nat → Nat) (dNcs : Nat → Nat) (dNcp : Nat → Nat) (dNw : Nat → Nat) (dx : Nat → Nat) (dtt : Nat) (dNcr : Nat → Nat)  (v : Lf) (vNc : Lf) (x1 : Int32) {Q : Int32 → Lf → Prop} (sz : Nat) (h : pX9_seed vNc x1 Q) : Met l yX9_seed wdX9_seed rmX9_seed (Pz D (tyL cI cJ cT) [.ref (d 0), .int x1] ((wX9 d (dN 0) (dI 0) (dT 0) (dNc 0) (dNcj 0) (dNcs 0) (dNcp 0) (dNw 0) (dx 0) dtt v) ++ (wX0 dNc (dNcj 0) (dNcs 0) (dNcp 0) (dNcr 0) vNc)) sz) (va_Qi (fun (r : Int32) (u : Lf) => Q r u) (Bz D (tyL cI cJ cT) ((wX9 d (dN 0) (dI 0) (dT 0) (dNc 0) (dNcj 0) (dNcs 0) (dNcp 0) (dNw 0) (dx 0) dtt v) ++ (wX0 dNc (dNcj 0) (dNcs 0) (dNcp 0) (dNcr 0) vNc)) sz (fun (u : Lf) => ((wX9 d (dN 0) (dI 0) (dT 0) (dNc 0) (dNcj 0) (dNcs 0) (dNcp 0) (dNw 0) (dx 0) dtt v) ++ (wX0 dNc (dNcj 0) (dNcs 0) (dNcp 0) (dNcr 0) u)))) (va_A ((wX9 d (dN 0) (dI 0) (dT 0) (dNc 0) (dNcj 0) (dNcs 0) (dNcp 0) (dNw 0) (dx 0) dtt v) ++ (wX0 dNc (dNcj 0) (dNcs 0) (dNcp 0) (dNcr 0) vNc)) sz)) 0 0 (va_A ((wX9 d (dN 0) (dI 0) (dT 0) (dNc 0) (dNcj 0) (dNcs 0) (dNcp 0) (dNw 0) (dx 0) dtt v) ++ (wX0 dNc (dNcj 0) (dNcs 0) (dNcp 0) (dNcr 0) vNc)) sz) := by
  refine z_meti (cc := cX9_seed) (maxL := 3) (own := RX9) (lv0 := [(0, .ref (d 0)), (1, .int x1)]) (by decide) rfl rfl (Nat.le_of_ble_eq_true rfl) rfl ?_
  intro p e s m args below meth c A QQ C hin hret
  refine z_aload_n (pc := 0) C 0 dX9_seed_0 rfl ?_
  refine z_get (pc := 1) C uw9 0 rfl rfl 3 (by decide) wq531 rfl dX9_seed_1 ?_
  refine z_get (pc := 4) C uw0 1 rfl rfl 12 (by decide) wq617 rfl dX9_seed_4 ?_
  refine z_istore_n (pc := 7) (lv' := [(2, .int (vNc 0 12)), (0, .ref (d 0)), (1, .int x1)]) C dX9_seed_7 (by decide) rfl ?_
  refine z_aload_n (pc := 8) C 1 dX9_seed_8 rfl ?_
  refine z_get (pc := 9) C uw9 0 rfl rfl 3 (by decide) wq531 rfl dX9_seed_9 ?_
  refine z_iload_n (pc := 12) C 2 dX9_seed_12 rfl ?_
  refine z_put (pc := 13) (ws' := ((wX9 d (dN 0) (dI 0) (dT 0) (dNc 0) (dNcj 0) (dNcs 0) (dNcp 0) (dNw 0) (dx 0) dtt v) ++ (wX0 dNc (dNcj 0) (dNcs 0) (dNcp 0) (dNcr 0) (st vNc 0 12 x1)))) C uw0 tyX0 tyX0_ok nmX0 1 rfl rfl 12 (by decide) wq617 rfl rfl rfl (Nat.le_of_ble_eq_true rfl) dX9_seed_13 (set_r (k := 1) (i := 0) rfl sX0_f12) ?_
  refine z_iload_n (pc := 16) C 0 dX9_seed_16 rfl ?_
  exact hret 17 _ _ (vNc 0 12) (st vNc 0 12 x1) rfl h dX9_seed_17

def pX9_emergency (vNc : Lf) (vNcj : Lf) (vNcp : Lf) (x1 : Int32) (Q : Int32 → Lf → Prop) : Prop := (pX9_isSignal vNcj x1 (fun r1 => ((¬ r1 = 0 → (pX0_declare vNc vNcp x1 (fun r3 vNc_3 => ((r3 = 0 → (Q (-3 : Int32) vNc_3)) ∧ (¬ r3 = 0 → (pX2_firstWith vNcp x1 (fun r5 => (Q r5 vNc_3)))))))) ∧ (r1 = 0 → (Q (-1 : Int32) vNc)))))
abbrev rmX9_emergency : Room := { frames := 3, cells := 0, slots := 0, locals := 64 }
abbrev wdX9_emergency : List Cond := Cond.code yX9_emergency cX9_emergency 2 (some .int) :: TB
theorem hdSX9_emergency : (yX9_emergency).cls ≠ "java/lang/invoke/MethodHandle" ∧ (yX9_emergency).cls ≠ "java/lang/invoke/VarHandle" ∧ (parseMethodDescriptor (yX9_emergency).desc).map (fun d => d.parameters.length) = some 1 := by decide +kernel
theorem hdX9_emergency : (yX9_emergency).cls = RX9 ∧ (yX9_emergency).cls ≠ "java/lang/invoke/MethodHandle" ∧ (yX9_emergency).cls ≠ "java/lang/invoke/VarHandle" ∧ (parseMethodDescriptor (yX9_emergency).desc).map (fun d => d.parameters.length) = some 1 := ⟨rfl, hdSX9_emergency⟩
set_option maxHeartbeats 4000000 in
set_option maxRecDepth 100000 in
theorem kX9_emergency {l : Launch} {D : va_G} {cI cJ cT : ClassId} (d : Nat → Nat) (dN : Nat → Nat) (dI : Nat → Nat) (dT : Nat → Nat) (dNc : Nat → Nat) (dNcj : Nat → Nat) (dNcs : Nat → Nat) (dNcp : Nat → Nat) (dNw : Nat → Nat) (dx : Nat → Nat) (dtt : Nat) (dNcr : Nat → Nat)  (v : Lf) (vNc : Lf) (vNcj : Lf) (vNcp : Lf) (x1 : Int32) {Q : Int32 → Lf → Prop} (sz : Nat) (h : pX9_emergency vNc vNcj vNcp x1 Q) : Met l yX9_emergency wdX9_emergency rmX9_emergency (Pz D (tyL cI cJ cT) [.ref (d 0), .int x1] ((wX9 d (dN 0) (dI 0) (dT 0) (dNc 0) (dNcj 0) (dNcs 0) (dNcp 0) (dNw 0) (dx 0) dtt v) ++ ((wX0 dNc (dNcj 0) (dNcs 0) (dNcp 0) (dNcr 0) vNc) ++ ((wX1 cI dNcj vNcj) ++ (wX2 cI dNcp vNcp)))) sz) (va_Qi (fun (r : Int32) (u : Lf) => Q r u) (Bz D (tyL cI cJ cT) ((wX9 d (dN 0) (dI 0) (dT 0) (dNc 0) (dNcj 0) (dNcs 0) (dNcp 0) (dNw 0) (dx 0) dtt v) ++ ((wX0 dNc (dNcj 0) (dNcs 0) (dNcp 0) (dNcr 0) vNc) ++ ((wX1 cI dNcj vNcj) ++ (wX2 cI dNcp vNcp)))) sz (fun (u : Lf) => ((wX9 d (dN 0) (dI 0) (dT 0) (dNc 0) (dNcj 0) (dNcs 0) (dNcp 0) (dNw 0) (dx 0) dtt v) ++ ((wX0 dNc (dNcj 0) (dNcs 0) (dNcp 0) (dNcr 0) u) ++ ((wX1 cI dNcj vNcj) ++ (wX2 cI dNcp vNcp)))))) (va_A ((wX9 d (dN 0) (dI 0) (dT 0) (dNc 0) (dNcj 0) (dNcs 0) (dNcp 0) (dNw 0) (dx 0) dtt v) ++ ((wX0 dNc (dNcj 0) (dNcs 0) (dNcp 0) (dNcr 0) vNc) ++ ((wX1 cI dNcj vNcj) ++ (wX2 cI dNcp vNcp)))) sz)) 0 0 (va_A ((wX9 d (dN 0) (dI 0) (dT 0) (dNc 0) (dNcj 0) (dNcs 0) (dNcp 0) (dNw 0) (dx 0) dtt v) ++ ((wX0 dNc (dNcj 0) (dNcs 0) (dNcp 0) (dNcr 0) vNc) ++ ((wX1 cI dNcj vNcj) ++ (wX2 cI dNcp vNcp)))) sz) := by
  refine z_meti (cc := cX9_emergency) (maxL := 2) (own := RX9) (lv0 := [(0, .ref (d 0)), (1, .int x1)]) (by decide) rfl rfl (Nat.le_of_ble_eq_true rfl) rfl ?_
  intro p e s m args below meth c A QQ C hin hret
  refine z_aload_n (pc := 0) C 0 dX9_emergency_0 rfl ?_
  refine z_iload_n (pc := 1) C 1 dX9_emergency_1 rfl ?_
  refine z_callRi (pc := 2) C (z_runV (pc := 2) (wc := ((wX9 d (dN 0) (dI 0) (dT 0) (dNc 0) (dNcj 0) (dNcs 0) (dNcp 0) (dNw 0) (dx 0) dtt v) ++ (wX1 cI dNcj vNcj))) (As := [.int x1]) C (fun sz => kX9_isSignal d dN dI dT dNc dNcj dNcs dNcp dNw dx dtt v vNcj x1 sz h) [0, 2, 3, 4, 5, 6, 7] rfl (by decide) (gdV wq558 wq561 wq562 wq563 wq112) rfl rfl rfl hdX9_isSignal 0 rfl rfl rfl ⟨Nat.le_of_ble_eq_true rfl, Nat.le_of_ble_eq_true rfl⟩ rfl (Nat.le_of_ble_eq_true rfl) ⟨Nat.zero_le _, Nat.zero_le _⟩ dX9_emergency_2) [0, 2, 3, 4, 5, 6, 7] rfl (by decide) (fun r1 u1 h => ?_)
  refine z_if_ne (pc := 5) (tgt := 10) C dX9_emergency_5 (by decide) (fun c2 => ?_) (fun c2 => ?_)
  · have h := h.1 c2
    refine z_aload_n (pc := 10) C 0 dX9_emergency_10 rfl ?_
    refine z_get (pc := 11) C uw9 0 rfl rfl 3 (by decide) wq531 rfl dX9_emergency_11 ?_
    refine z_iload_n (pc := 14) C 1 dX9_emergency_14 rfl ?_
    refine z_calli (pc := 15) (wr := ((wX9 d (dN 0) (dI 0) (dT 0) (dNc 0) (dNcj 0) (dNcs 0) (dNcp 0) (dNw 0) (dx 0) dtt v) ++ (wX1 cI dNcj vNcj))) (w1 := fun (u : Lf) => ((wX0 dNc (dNcj 0) (dNcs 0) (dNcp 0) (dNcr 0) u) ++ (wX2 cI dNcp vNcp))) (w2 := fun (u : Lf) => ((wX9 d (dN 0) (dI 0) (dT 0) (dNc 0) (dNcj 0) (dNcs 0) (dNcp 0) (dNw 0) (dx 0) dtt v) ++ ((wX0 dNc (dNcj 0) (dNcs 0) (dNcp 0) (dNcr 0) u) ++ ((wX1 cI dNcj vNcj) ++ (wX2 cI dNcp vNcp))))) C (z_runV (pc := 15) (wc := ((wX0 dNc (dNcj 0) (dNcs 0) (dNcp 0) (dNcr 0) vNc) ++ (wX2 cI dNcp vNcp))) (As := [.int x1]) C (fun sz => kX0_declare dNc dNcj dNcs dNcp dNcr vNc vNcp x1 sz h) [1, 8, 9, 10, 11] rfl (by decide) (gdV wq113 wq618 wq262 wq263 wq108) rfl rfl rfl hdX0_declare 1 rfl rfl rfl ⟨Nat.le_of_ble_eq_true rfl, Nat.le_of_ble_eq_true rfl⟩ rfl (Nat.le_of_ble_eq_true rfl) ⟨Nat.zero_le _, Nat.zero_le _⟩ dX9_emergency_15) [1, 8, 9, 10, 11] [0, 2, 3, 4, 5, 6, 7] [0, 7, 1, 2, 3, 4, 5, 6, 8, 9, 10, 11] rfl rfl (by decide) (by decide) (fun _ => rfl) (by decide) (fun r3 u3 h => ?_)
    obtain ⟨vNc_3, hu3⟩ : ∃ z, z = u3 := ⟨_, rfl⟩
    subst hu3
    refine z_if_eq (pc := 18) (tgt := 32) C dX9_emergency_18 (by decide) (fun c4 => ?_) (fun c4 => ?_)
    · have h := h.1 c4
      refine z_bipush (pc := 32) (v := -3) C dX9_emergency_32 (by decide) ?_
      exact hret 34 _ _ (-3 : Int32) vNc_3 rfl h dX9_emergency_34
    · have h := h.2 c4
      refine z_aload_n (pc := 21) C 0 dX9_emergency_21 rfl ?_
      refine z_get (pc := 22) C uw9 0 rfl rfl 6 (by decide) wq537 rfl dX9_emergency_22 ?_
      refine z_iload_n (pc := 25) C 1 dX9_emergency_25 rfl ?_
      refine z_callRi (pc := 26) C (z_runV (pc := 26) (wc := (wX2 cI dNcp vNcp)) (As := [.int x1]) C (fun sz => kX2_firstWith dNcp vNcp x1 sz h) [8, 9, 10, 11] rfl (by decide) (gdV wq110 wq619 wq115 wq116 wq44) rfl rfl rfl hdX2_firstWith 8 rfl rfl rfl ⟨Nat.le_of_ble_eq_true rfl, Nat.le_of_ble_eq_true rfl⟩ rfl (Nat.le_of_ble_eq_true rfl) ⟨Nat.zero_le _, Nat.zero_le _⟩ dX9_emergency_26) [8, 9, 10, 11] rfl (by decide) (fun r5 u5 h => ?_)
      refine z_goto (pc := 29) (tgt := 34) C dX9_emergency_29 (by decide) ?_
      exact hret 34 _ _ r5 vNc_3 rfl h dX9_emergency_34
  · have h := h.2 c2
    refine z_iconst (pc := 8) (v := -1) C dX9_emergency_8 (by decide) ?_
    exact hret 9 _ _ (-1 : Int32) vNc rfl h dX9_emergency_9

def pX9_over (vNc : Lf)  (Q : Int32 → Lf → Prop) : Prop := ((¬ (vNc 0 8) = (-5 : Int32) → (Q (vNc 0 8) (st vNc 0 8 (-5 : Int32)))) ∧ ((vNc 0 8) = (-5 : Int32) → (Q (-3 : Int32) vNc)))
abbrev rmX9_over : Room := { frames := 0, cells := 0, slots := 0, locals := 0 }
abbrev wdX9_over : List Cond := Cond.code yX9_over cX9_over 2 (some .int) :: TB
theorem hdSX9_over : (yX9_over).cls ≠ "java/lang/invoke/MethodHandle" ∧ (yX9_over).cls ≠ "java/lang/invoke/VarHandle" ∧ (parseMethodDescriptor (yX9_over).desc).map (fun d => d.parameters.length) = some 0 := by decide +kernel
theorem hdX9_over : (yX9_over).cls = RX9 ∧ (yX9_over).cls ≠ "java/lang/invoke/MethodHandle" ∧ (yX9_over).cls ≠ "java/lang/invoke/VarHandle" ∧ (parseMethodDescriptor (yX9_over).desc).map (fun d => d.parameters.length) = some 0 := ⟨rfl, hdSX9_over⟩
set_option maxHeartbeats 4000000 in
set_option maxRecDepth 100000 in
theorem kX9_over {l : Launch} {D : va_G} {cI cJ cT : ClassId} (d : Nat → Nat) (dN : Nat → Nat) (dI : Nat → Nat) (dT : Nat → Nat) (dNc : Nat → Nat) (dNcj : Nat → Nat) (dNcs : Nat → Nat) (dNcp : Nat → Nat) (dNw : Nat → Nat) (dx : Nat → Nat) (dtt : Nat) (dNcr : Nat → Nat)  (v : Lf) (vNc : Lf)  {Q : Int32 → Lf → Prop} (sz : Nat) (h : pX9_over vNc Q) : Met l yX9_over wdX9_over rmX9_over (Pz D (tyL cI cJ cT) [.ref (d 0)] ((wX9 d (dN 0) (dI 0) (dT 0) (dNc 0) (dNcj 0) (dNcs 0) (dNcp 0) (dNw 0) (dx 0) dtt v) ++ (wX0 dNc (dNcj 0) (dNcs 0) (dNcp 0) (dNcr 0) vNc)) sz) (va_Qi (fun (r : Int32) (u : Lf) => Q r u) (Bz D (tyL cI cJ cT) ((wX9 d (dN 0) (dI 0) (dT 0) (dNc 0) (dNcj 0) (dNcs 0) (dNcp 0) (dNw 0) (dx 0) dtt v) ++ (wX0 dNc (dNcj 0) (dNcs 0) (dNcp 0) (dNcr 0) vNc)) sz (fun (u : Lf) => ((wX9 d (dN 0) (dI 0) (dT 0) (dNc 0) (dNcj 0) (dNcs 0) (dNcp 0) (dNw 0) (dx 0) dtt v) ++ (wX0 dNc (dNcj 0) (dNcs 0) (dNcp 0) (dNcr 0) u)))) (va_A ((wX9 d (dN 0) (dI 0) (dT 0) (dNc 0) (dNcj 0) (dNcs 0) (dNcp 0) (dNw 0) (dx 0) dtt v) ++ (wX0 dNc (dNcj 0) (dNcs 0) (dNcp 0) (dNcr 0) vNc)) sz)) 0 0 (va_A ((wX9 d (dN 0) (dI 0) (dT 0) (dNc 0) (dNcj 0) (dNcs 0) (dNcp 0) (dNw 0) (dx 0) dtt v) ++ (wX0 dNc (dNcj 0) (dNcs 0) (dNcp 0) (dNcr 0) vNc)) sz) := by
  refine z_meti (cc := cX9_over) (maxL := 2) (own := RX9) (lv0 := [(0, .ref (d 0))]) (by decide) rfl rfl (Nat.le_of_ble_eq_true rfl) rfl ?_
  intro p e s m args below meth c A QQ C hin hret
  refine z_aload_n (pc := 0) C 0 dX9_over_0 rfl ?_
  refine z_get (pc := 1) C uw9 0 rfl rfl 3 (by decide) wq531 rfl dX9_over_1 ?_
  refine z_get (pc := 4) C uw0 1 rfl rfl 8 (by decide) wq622 rfl dX9_over_4 ?_
  refine z_istore_n (pc := 7) (lv' := [(1, .int (vNc 0 8)), (0, .ref (d 0))]) C dX9_over_7 (by decide) rfl ?_
  refine z_iload_n (pc := 8) C 0 dX9_over_8 rfl ?_
  refine z_bipush (pc := 9) (v := -5) C dX9_over_9 (by decide) ?_
  refine z_icmp_ne (pc := 11) (tgt := 17) C dX9_over_11 (by decide) (fun c1 => ?_) (fun c1 => ?_)
  · have h := h.1 c1
    refine z_aload_n (pc := 17) C 1 dX9_over_17 rfl ?_
    refine z_get (pc := 18) C uw9 0 rfl rfl 3 (by decide) wq531 rfl dX9_over_18 ?_
    refine z_bipush (pc := 21) (v := -5) C dX9_over_21 (by decide) ?_
    refine z_put (pc := 23) (ws' := ((wX9 d (dN 0) (dI 0) (dT 0) (dNc 0) (dNcj 0) (dNcs 0) (dNcp 0) (dNw 0) (dx 0) dtt v) ++ (wX0 dNc (dNcj 0) (dNcs 0) (dNcp 0) (dNcr 0) (st vNc 0 8 (-5 : Int32))))) C uw0 tyX0 tyX0_ok nmX0 1 rfl rfl 8 (by decide) wq622 rfl rfl rfl (Nat.le_of_ble_eq_true rfl) dX9_over_23 (set_r (k := 1) (i := 0) rfl sX0_f8) ?_
    refine z_iload_n (pc := 26) C 0 dX9_over_26 rfl ?_
    exact hret 27 _ _ (vNc 0 8) (st vNc 0 8 (-5 : Int32)) rfl h dX9_over_27
  · have h := h.2 c1
    refine z_bipush (pc := 14) (v := -3) C dX9_over_14 (by decide) ?_
    exact hret 16 _ _ (-3 : Int32) vNc rfl h dX9_over_16

def pX9_takeSeconds (v : Lf) (x1 : Int32) (Q : Int32 → Lf → Prop) : Prop := ((((v 0 11) + x1) ≤ (12000 : Int32) → (Q (1 : Int32) (st v 0 11 ((v 0 11) + x1)))) ∧ (¬ ((v 0 11) + x1) ≤ (12000 : Int32) → (Q (0 : Int32) v)))
abbrev rmX9_takeSeconds : Room := { frames := 0, cells := 0, slots := 0, locals := 0 }
abbrev wdX9_takeSeconds : List Cond := Cond.code yX9_takeSeconds cX9_takeSeconds 2 (some .boolean) :: TB
theorem hdSX9_takeSeconds : (yX9_takeSeconds).cls ≠ "java/lang/invoke/MethodHandle" ∧ (yX9_takeSeconds).cls ≠ "java/lang/invoke/VarHandle" ∧ (parseMethodDescriptor (yX9_takeSeconds).desc).map (fun d => d.parameters.length) = some 1 := by decide +kernel
theorem hdX9_takeSeconds : (yX9_takeSeconds).cls = RX9 ∧ (yX9_takeSeconds).cls ≠ "java/lang/invoke/MethodHandle" ∧ (yX9_takeSeconds).cls ≠ "java/lang/invoke/VarHandle" ∧ (parseMethodDescriptor (yX9_takeSeconds).desc).map (fun d => d.parameters.length) = some 1 := ⟨rfl, hdSX9_takeSeconds⟩
set_option maxHeartbeats 4000000 in
set_option maxRecDepth 100000 in
theorem kX9_takeSeconds {l : Launch} {D : va_G} {cI cJ cT : ClassId} (d : Nat → Nat) (dN : Nat → Nat) (dI : Nat → Nat) (dT : Nat → Nat) (dNc : Nat → Nat) (dNcj : Nat → Nat) (dNcs : Nat → Nat) (dNcp : Nat → Nat) (dNw : Nat → Nat) (dx : Nat → Nat) (dtt : Nat)  (v : Lf) (x1 : Int32) {Q : Int32 → Lf → Prop} (sz : Nat) (h : pX9_takeSeconds v x1 Q) : Met l yX9_takeSeconds wdX9_takeSeconds rmX9_takeSeconds (Pz D (tyL cI cJ cT) [.ref (d 0), .int x1] (wX9 d (dN 0) (dI 0) (dT 0) (dNc 0) (dNcj 0) (dNcs 0) (dNcp 0) (dNw 0) (dx 0) dtt v) sz) (va_Qi (fun (r : Int32) (u : Lf) => Q r u) (Bz D (tyL cI cJ cT) (wX9 d (dN 0) (dI 0) (dT 0) (dNc 0) (dNcj 0) (dNcs 0) (dNcp 0) (dNw 0) (dx 0) dtt v) sz (fun (u : Lf) => (wX9 d (dN 0) (dI 0) (dT 0) (dNc 0) (dNcj 0) (dNcs 0) (dNcp 0) (dNw 0) (dx 0) dtt u))) (va_A (wX9 d (dN 0) (dI 0) (dT 0) (dNc 0) (dNcj 0) (dNcs 0) (dNcp 0) (dNw 0) (dx 0) dtt v) sz)) 0 0 (va_A (wX9 d (dN 0) (dI 0) (dT 0) (dNc 0) (dNcj 0) (dNcs 0) (dNcp 0) (dNw 0) (dx 0) dtt v) sz) := by
  refine z_metz (cc := cX9_takeSeconds) (maxL := 2) (own := RX9) (lv0 := [(0, .ref (d 0)), (1, .int x1)]) (by decide) rfl rfl (Nat.le_of_ble_eq_true rfl) rfl ?_
  intro p e s m args below meth c A QQ C hin hret
  refine z_aload_n (pc := 0) C 0 dX9_takeSeconds_0 rfl ?_
  refine z_get (pc := 1) C uw9 0 rfl rfl 11 (by decide) wq624 rfl dX9_takeSeconds_1 ?_
  refine z_iload_n (pc := 4) C 1 dX9_takeSeconds_4 rfl ?_
  refine z_iadd (pc := 5) C dX9_takeSeconds_5 ?_
  refine z_sipush (pc := 6) (v := 12000) C dX9_takeSeconds_6 (by decide) ?_
  refine z_icmp_le (pc := 9) (tgt := 14) C dX9_takeSeconds_9 (by decide) (fun c1 => ?_) (fun c1 => ?_)
  · have h := h.1 c1
    refine z_aload_n (pc := 14) C 0 dX9_takeSeconds_14 rfl ?_
    refine z_dup (pc := 15) C dX9_takeSeconds_15 rfl ?_
    refine z_get (pc := 16) C uw9 0 rfl rfl 11 (by decide) wq624 rfl dX9_takeSeconds_16 ?_
    refine z_iload_n (pc := 19) C 1 dX9_takeSeconds_19 rfl ?_
    refine z_iadd (pc := 20) C dX9_takeSeconds_20 ?_
    refine z_put (pc := 21) (ws' := (wX9 d (dN 0) (dI 0) (dT 0) (dNc 0) (dNcj 0) (dNcs 0) (dNcp 0) (dNw 0) (dx 0) dtt (st v 0 11 ((v 0 11) + x1)))) C uw9 tyX9 tyX9_ok nmX9 0 rfl rfl 11 (by decide) wq624 rfl rfl rfl (Nat.le_of_ble_eq_true rfl) dX9_takeSeconds_21 sX9_f11 ?_
    refine z_iconst (pc := 24) (v := 1) C dX9_takeSeconds_24 (by decide) ?_
    exact hret 25 _ _ (1 : Int32) rfl (st v 0 11 ((v 0 11) + x1)) rfl h dX9_takeSeconds_25
  · have h := h.2 c1
    refine z_iconst (pc := 12) (v := 0) C dX9_takeSeconds_12 (by decide) ?_
    exact hret 13 _ _ (0 : Int32) rfl v rfl h dX9_takeSeconds_13

def pX9_refusalOf (v : Lf) (vNc : Lf) (x1 : Int32) (x2 : Int32) (x3 : Int32) (Q : Int32 → Lf → Prop) : Prop := (pX9_within x1 (0 : Int32) x2 (fun r1 => ((¬ r1 = 0 → ((¬ (vNc 0 4) = 0 → (pX9_takeSeconds v (x1 * x3) (fun r4 v_4 => ((r4 = 0 → (Q (-4 : Int32) v_4)) ∧ (¬ r4 = 0 → (Q (0 : Int32) v_4)))))) ∧ ((vNc 0 4) = 0 → (Q (-3 : Int32) v)))) ∧ (r1 = 0 → (Q (-2 : Int32) v)))))
abbrev rmX9_refusalOf : Room := { frames := 1, cells := 0, slots := 0, locals := 22 }
abbrev wdX9_refusalOf : List Cond := Cond.code yX9_refusalOf cX9_refusalOf 4 (some .int) :: TB
theorem hdSX9_refusalOf : (yX9_refusalOf).cls ≠ "java/lang/invoke/MethodHandle" ∧ (yX9_refusalOf).cls ≠ "java/lang/invoke/VarHandle" ∧ (parseMethodDescriptor (yX9_refusalOf).desc).map (fun d => d.parameters.length) = some 3 := by decide +kernel
theorem hdX9_refusalOf : (yX9_refusalOf).cls = RX9 ∧ (yX9_refusalOf).cls ≠ "java/lang/invoke/MethodHandle" ∧ (yX9_refusalOf).cls ≠ "java/lang/invoke/VarHandle" ∧ (parseMethodDescriptor (yX9_refusalOf).desc).map (fun d => d.parameters.length) = some 3 := ⟨rfl, hdSX9_refusalOf⟩
set_option maxHeartbeats 4000000 in
set_option maxRecDepth 100000 in
theorem kX9_refusalOf {l : Launch} {D : va_G} {cI cJ cT : ClassId} (d : Nat → Nat) (dN : Nat → Nat) (dI : Nat → Nat) (dT : Nat → Nat) (dNc : Nat → Nat) (dNcj : Nat → Nat) (dNcs : Nat → Nat) (dNcp : Nat → Nat) (dNw : Nat → Nat) (dx : Nat → Nat) (dtt : Nat) (dNcr : Nat → Nat)  (v : Lf) (vNc : Lf) (x1 : Int32) (x2 : Int32) (x3 : Int32) {Q : Int32 → Lf → Prop} (sz : Nat) (h : pX9_refusalOf v vNc x1 x2 x3 Q) : Met l yX9_refusalOf wdX9_refusalOf rmX9_refusalOf (Pz D (tyL cI cJ cT) [.ref (d 0), .int x1, .int x2, .int x3] ((wX9 d (dN 0) (dI 0) (dT 0) (dNc 0) (dNcj 0) (dNcs 0) (dNcp 0) (dNw 0) (dx 0) dtt v) ++ (wX0 dNc (dNcj 0) (dNcs 0) (dNcp 0) (dNcr 0) vNc)) sz) (va_Qi (fun (r : Int32) (u : Lf) => Q r u) (Bz D (tyL cI cJ cT) ((wX9 d (dN 0) (dI 0) (dT 0) (dNc 0) (dNcj 0) (dNcs 0) (dNcp 0) (dNw 0) (dx 0) dtt v) ++ (wX0 dNc (dNcj 0) (dNcs 0) (dNcp 0) (dNcr 0) vNc)) sz (fun (u : Lf) => ((wX9 d (dN 0) (dI 0) (dT 0) (dNc 0) (dNcj 0) (dNcs 0) (dNcp 0) (dNw 0) (dx 0) dtt u) ++ (wX0 dNc (dNcj 0) (dNcs 0) (dNcp 0) (dNcr 0) vNc)))) (va_A ((wX9 d (dN 0) (dI 0) (dT 0) (dNc 0) (dNcj 0) (dNcs 0) (dNcp 0) (dNw 0) (dx 0) dtt v) ++ (wX0 dNc (dNcj 0) (dNcs 0) (dNcp 0) (dNcr 0) vNc)) sz)) 0 0 (va_A ((wX9 d (dN 0) (dI 0) (dT 0) (dNc 0) (dNcj 0) (dNcs 0) (dNcp 0) (dNw 0) (dx 0) dtt v) ++ (wX0 dNc (dNcj 0) (dNcs 0) (dNcp 0) (dNcr 0) vNc)) sz) := by
  refine z_meti (cc := cX9_refusalOf) (maxL := 4) (own := RX9) (lv0 := [(0, .ref (d 0)), (1, .int x1), (2, .int x2), (3, .int x3)]) (by decide) rfl rfl (Nat.le_of_ble_eq_true rfl) rfl ?_
  intro p e s m args below meth c A QQ C hin hret
  refine z_iload_n (pc := 0) C 1 dX9_refusalOf_0 rfl ?_
  refine z_iconst (pc := 1) (v := 0) C dX9_refusalOf_1 (by decide) ?_
  refine z_iload_n (pc := 2) C 2 dX9_refusalOf_2 rfl ?_
  refine z_call0i (pc := 3) C (z_runS (pc := 3) (wc := ([] : va_W)) (As := [.int x1, .int (0 : Int32), .int x2]) C (fun sz => kX9_within x1 (0 : Int32) x2 sz h) [] rfl (by decide) (gdS wq366 wq553 wq373 wq112) rfl rfl rfl hdSX9_within ⟨Nat.le_of_ble_eq_true rfl, Nat.le_of_ble_eq_true rfl⟩ rfl (Nat.le_of_ble_eq_true rfl) ⟨Nat.zero_le _, Nat.zero_le _⟩ dX9_refusalOf_3) (fun r1 u1 h => ?_)
  refine z_if_ne (pc := 6) (tgt := 12) C dX9_refusalOf_6 (by decide) (fun c2 => ?_) (fun c2 => ?_)
  · have h := h.1 c2
    refine z_aload_n (pc := 12) C 0 dX9_refusalOf_12 rfl ?_
    refine z_get (pc := 13) C uw9 0 rfl rfl 3 (by decide) wq531 rfl dX9_refusalOf_13 ?_
    refine z_get (pc := 16) C uw0 1 rfl rfl 4 (by decide) wq551 rfl dX9_refusalOf_16 ?_
    refine z_if_ne (pc := 19) (tgt := 25) C dX9_refusalOf_19 (by decide) (fun c3 => ?_) (fun c3 => ?_)
    · have h := h.1 c3
      refine z_aload_n (pc := 25) C 0 dX9_refusalOf_25 rfl ?_
      refine z_iload_n (pc := 26) C 1 dX9_refusalOf_26 rfl ?_
      refine z_iload_n (pc := 27) C 3 dX9_refusalOf_27 rfl ?_
      refine z_imul (pc := 28) C dX9_refusalOf_28 ?_
      refine z_calli (pc := 29) (wr := (wX0 dNc (dNcj 0) (dNcs 0) (dNcp 0) (dNcr 0) vNc)) (w1 := fun (u : Lf) => (wX9 d (dN 0) (dI 0) (dT 0) (dNc 0) (dNcj 0) (dNcs 0) (dNcp 0) (dNw 0) (dx 0) dtt u)) (w2 := fun (u : Lf) => ((wX9 d (dN 0) (dI 0) (dT 0) (dNc 0) (dNcj 0) (dNcs 0) (dNcp 0) (dNw 0) (dx 0) dtt u) ++ (wX0 dNc (dNcj 0) (dNcs 0) (dNcp 0) (dNcr 0) vNc))) C (z_runV (pc := 29) (wc := (wX9 d (dN 0) (dI 0) (dT 0) (dNc 0) (dNcj 0) (dNcs 0) (dNcp 0) (dNw 0) (dx 0) dtt v)) (As := [.int (x1 * x3)]) C (fun sz => kX9_takeSeconds d dN dI dT dNc dNcj dNcs dNcp dNw dx dtt v (x1 * x3) sz h) [0] rfl (by decide) (gdV wq623 wq626 wq627 wq628 wq112) rfl rfl rfl hdX9_takeSeconds 0 rfl rfl rfl ⟨Nat.le_of_ble_eq_true rfl, Nat.le_of_ble_eq_true rfl⟩ rfl (Nat.le_of_ble_eq_true rfl) ⟨Nat.zero_le _, Nat.zero_le _⟩ dX9_refusalOf_29) [0] [1] [1, 0] rfl rfl (by decide) (by decide) (fun _ => rfl) (by decide) (fun r4 u4 h => ?_)
      obtain ⟨v_4, hu4⟩ : ∃ z, z = u4 := ⟨_, rfl⟩
      subst hu4
      refine z_if_eq (pc := 32) (tgt := 39) C dX9_refusalOf_32 (by decide) (fun c5 => ?_) (fun c5 => ?_)
      · have h := h.1 c5
        refine z_bipush (pc := 39) (v := -4) C dX9_refusalOf_39 (by decide) ?_
        exact hret 41 _ _ (-4 : Int32) v_4 rfl h dX9_refusalOf_41
      · have h := h.2 c5
        refine z_iconst (pc := 35) (v := 0) C dX9_refusalOf_35 (by decide) ?_
        refine z_goto (pc := 36) (tgt := 41) C dX9_refusalOf_36 (by decide) ?_
        exact hret 41 _ _ (0 : Int32) v_4 rfl h dX9_refusalOf_41
    · have h := h.2 c3
      refine z_bipush (pc := 22) (v := -3) C dX9_refusalOf_22 (by decide) ?_
      exact hret 24 _ _ (-3 : Int32) v rfl h dX9_refusalOf_24
  · have h := h.2 c2
    refine z_bipush (pc := 9) (v := -2) C dX9_refusalOf_9 (by decide) ?_
    exact hret 11 _ _ (-2 : Int32) v rfl h dX9_refusalOf_11

def pX9_pass (v : Lf) (vNc : Lf) (vNcj : Lf) (vNcs : Lf) (vNcp : Lf) (vNcr : Lf) (x1 : Int32) (Q : Int32 → Lf → Lf → Lf → Lf → Lf → Prop) : Prop := (pX9_refusalOf v vNc x1 (99 : Int32) (1 : Int32) (fun r1 v_1 => ((r1 = 0 → (pX0_passSeconds vNc vNcj vNcs vNcp vNcr x1 (fun vNc_3 vNcs_3 vNcp_3 vNcr_3 => (Q ((vNc_3 0 10) - (vNc 0 10)) v_1 vNc_3 vNcs_3 vNcp_3 vNcr_3)))) ∧ (¬ r1 = 0 → (Q r1 v_1 vNc vNcs vNcp vNcr)))))
abbrev rmX9_pass : Room := { frames := 5, cells := 0, slots := 0, locals := 189 }
abbrev wdX9_pass : List Cond := Cond.code yX9_pass cX9_pass 4 (some .int) :: TB
theorem hdSX9_pass : (yX9_pass).cls ≠ "java/lang/invoke/MethodHandle" ∧ (yX9_pass).cls ≠ "java/lang/invoke/VarHandle" ∧ (parseMethodDescriptor (yX9_pass).desc).map (fun d => d.parameters.length) = some 1 := by decide +kernel
theorem hdX9_pass : (yX9_pass).cls = RX9 ∧ (yX9_pass).cls ≠ "java/lang/invoke/MethodHandle" ∧ (yX9_pass).cls ≠ "java/lang/invoke/VarHandle" ∧ (parseMethodDescriptor (yX9_pass).desc).map (fun d => d.parameters.length) = some 1 := ⟨rfl, hdSX9_pass⟩
set_option maxHeartbeats 4000000 in
set_option maxRecDepth 100000 in
theorem kX9_pass {l : Launch} {D : va_G} {cI cJ cT : ClassId} (d : Nat → Nat) (dN : Nat → Nat) (dI : Nat → Nat) (dT : Nat → Nat) (dNc : Nat → Nat) (dNcj : Nat → Nat) (dNcs : Nat → Nat) (dNcp : Nat → Nat) (dNw : Nat → Nat) (dx : Nat → Nat) (dtt : Nat) (dNcr : Nat → Nat)  (v : Lf) (vNc : Lf) (vNcj : Lf) (vNcs : Lf) (vNcp : Lf) (vNcr : Lf) (x1 : Int32) {Q : Int32 → Lf → Lf → Lf → Lf → Lf → Prop} (sz : Nat) (h : pX9_pass v vNc vNcj vNcs vNcp vNcr x1 Q) : Met l yX9_pass wdX9_pass rmX9_pass (Pz D (tyL cI cJ cT) [.ref (d 0), .int x1] ((wX9 d (dN 0) (dI 0) (dT 0) (dNc 0) (dNcj 0) (dNcs 0) (dNcp 0) (dNw 0) (dx 0) dtt v) ++ ((wX0 dNc (dNcj 0) (dNcs 0) (dNcp 0) (dNcr 0) vNc) ++ ((wX1 cI dNcj vNcj) ++ ((wX5 cI dNcs vNcs) ++ ((wX2 cI dNcp vNcp) ++ (wX4 cI 72 dNcr vNcr)))))) sz) (va_Qi (fun (r : Int32) (u : Lf × Lf × Lf × Lf × Lf) => Q r u.1 u.2.1 u.2.2.1 u.2.2.2.1 u.2.2.2.2) (Bz D (tyL cI cJ cT) ((wX9 d (dN 0) (dI 0) (dT 0) (dNc 0) (dNcj 0) (dNcs 0) (dNcp 0) (dNw 0) (dx 0) dtt v) ++ ((wX0 dNc (dNcj 0) (dNcs 0) (dNcp 0) (dNcr 0) vNc) ++ ((wX1 cI dNcj vNcj) ++ ((wX5 cI dNcs vNcs) ++ ((wX2 cI dNcp vNcp) ++ (wX4 cI 72 dNcr vNcr)))))) sz (fun (u : Lf × Lf × Lf × Lf × Lf) => ((wX9 d (dN 0) (dI 0) (dT 0) (dNc 0) (dNcj 0) (dNcs 0) (dNcp 0) (dNw 0) (dx 0) dtt u.1) ++ ((wX0 dNc (dNcj 0) (dNcs 0) (dNcp 0) (dNcr 0) u.2.1) ++ ((wX1 cI dNcj vNcj) ++ ((wX5 cI dNcs u.2.2.1) ++ ((wX2 cI dNcp u.2.2.2.1) ++ (wX4 cI 72 dNcr u.2.2.2.2)))))))) (va_A ((wX9 d (dN 0) (dI 0) (dT 0) (dNc 0) (dNcj 0) (dNcs 0) (dNcp 0) (dNw 0) (dx 0) dtt v) ++ ((wX0 dNc (dNcj 0) (dNcs 0) (dNcp 0) (dNcr 0) vNc) ++ ((wX1 cI dNcj vNcj) ++ ((wX5 cI dNcs vNcs) ++ ((wX2 cI dNcp vNcp) ++ (wX4 cI 72 dNcr vNcr)))))) sz)) 0 0 (va_A ((wX9 d (dN 0) (dI 0) (dT 0) (dNc 0) (dNcj 0) (dNcs 0) (dNcp 0) (dNw 0) (dx 0) dtt v) ++ ((wX0 dNc (dNcj 0) (dNcs 0) (dNcp 0) (dNcr 0) vNc) ++ ((wX1 cI dNcj vNcj) ++ ((wX5 cI dNcs vNcs) ++ ((wX2 cI dNcp vNcp) ++ (wX4 cI 72 dNcr vNcr)))))) sz) := by
  refine z_meti (cc := cX9_pass) (maxL := 4) (own := RX9) (lv0 := [(0, .ref (d 0)), (1, .int x1)]) (by decide) rfl rfl (Nat.le_of_ble_eq_true rfl) rfl ?_
  intro p e s m args below meth c A QQ C hin hret
  refine z_aload_n (pc := 0) C 0 dX9_pass_0 rfl ?_
  refine z_iload_n (pc := 1) C 1 dX9_pass_1 rfl ?_
  refine z_bipush (pc := 2) (v := 99) C dX9_pass_2 (by decide) ?_
  refine z_iconst (pc := 4) (v := 1) C dX9_pass_4 (by decide) ?_
  refine z_calli (pc := 5) (wr := ((wX1 cI dNcj vNcj) ++ ((wX5 cI dNcs vNcs) ++ ((wX2 cI dNcp vNcp) ++ (wX4 cI 72 dNcr vNcr))))) (w1 := fun (u : Lf) => ((wX9 d (dN 0) (dI 0) (dT 0) (dNc 0) (dNcj 0) (dNcs 0) (dNcp 0) (dNw 0) (dx 0) dtt u) ++ (wX0 dNc (dNcj 0) (dNcs 0) (dNcp 0) (dNcr 0) vNc))) (w2 := fun (u : Lf) => ((wX9 d (dN 0) (dI 0) (dT 0) (dNc 0) (dNcj 0) (dNcs 0) (dNcp 0) (dNw 0) (dx 0) dtt u) ++ ((wX0 dNc (dNcj 0) (dNcs 0) (dNcp 0) (dNcr 0) vNc) ++ ((wX1 cI dNcj vNcj) ++ ((wX5 cI dNcs vNcs) ++ ((wX2 cI dNcp vNcp) ++ (wX4 cI 72 dNcr vNcr))))))) C (z_runV (pc := 5) (wc := ((wX9 d (dN 0) (dI 0) (dT 0) (dNc 0) (dNcj 0) (dNcs 0) (dNcp 0) (dNw 0) (dx 0) dtt v) ++ (wX0 dNc (dNcj 0) (dNcs 0) (dNcp 0) (dNcr 0) vNc))) (As := [.int x1, .int (99 : Int32), .int (1 : Int32)]) C (fun sz => kX9_refusalOf d dN dI dT dNc dNcj dNcs dNcp dNw dx dtt dNcr v vNc x1 (99 : Int32) (1 : Int32) sz h) [0, 1] rfl (by decide) (gdV wq625 wq630 wq631 wq632 wq112) rfl rfl rfl hdX9_refusalOf 0 rfl rfl rfl ⟨Nat.le_of_ble_eq_true rfl, Nat.le_of_ble_eq_true rfl⟩ rfl (Nat.le_of_ble_eq_true rfl) ⟨Nat.zero_le _, Nat.zero_le _⟩ dX9_pass_5) [0, 1] [2, 3, 4, 5, 6, 7, 8, 9, 10, 11, 12, 13, 14, 15, 16, 17, 18, 19, 20, 21] [20, 21, 0, 1, 2, 3, 4, 5, 6, 7, 8, 9, 10, 11, 12, 13, 14, 15, 16, 17, 18, 19] rfl rfl (by decide) (by decide) (fun _ => rfl) (by decide) (fun r1 u1 h => ?_)
  obtain ⟨v_1, hu1⟩ : ∃ z, z = u1 := ⟨_, rfl⟩
  subst hu1
  refine z_istore_n (pc := 8) (lv' := [(2, .int r1), (0, .ref (d 0)), (1, .int x1)]) C dX9_pass_8 (by decide) rfl ?_
  refine z_iload_n (pc := 9) C 0 dX9_pass_9 rfl ?_
  refine z_if_eq (pc := 10) (tgt := 15) C dX9_pass_10 (by decide) (fun c2 => ?_) (fun c2 => ?_)
  · have h := h.1 c2
    refine z_aload_n (pc := 15) C 1 dX9_pass_15 rfl ?_
    refine z_get (pc := 16) C uw9 0 rfl rfl 3 (by decide) wq531 rfl dX9_pass_16 ?_
    refine z_get (pc := 19) C uw0 1 rfl rfl 10 (by decide) wq629 rfl dX9_pass_19 ?_
    refine z_istore_n (pc := 22) (lv' := [(3, .int (vNc 0 10)), (2, .int r1), (0, .ref (d 0)), (1, .int x1)]) C dX9_pass_22 (by decide) rfl ?_
    refine z_aload_n (pc := 23) C 2 dX9_pass_23 rfl ?_
    refine z_get (pc := 24) C uw9 0 rfl rfl 3 (by decide) wq531 rfl dX9_pass_24 ?_
    refine z_iload_n (pc := 27) C 3 dX9_pass_27 rfl ?_
    refine z_callv (pc := 28) (wr := (wX9 d (dN 0) (dI 0) (dT 0) (dNc 0) (dNcj 0) (dNcs 0) (dNcp 0) (dNw 0) (dx 0) dtt v_1)) (w1 := fun (u : Lf × Lf × Lf × Lf) => ((wX0 dNc (dNcj 0) (dNcs 0) (dNcp 0) (dNcr 0) u.1) ++ ((wX1 cI dNcj vNcj) ++ ((wX5 cI dNcs u.2.1) ++ ((wX2 cI dNcp u.2.2.1) ++ (wX4 cI 72 dNcr u.2.2.2)))))) (w2 := fun (u : Lf × Lf × Lf × Lf) => ((wX9 d (dN 0) (dI 0) (dT 0) (dNc 0) (dNcj 0) (dNcs 0) (dNcp 0) (dNw 0) (dx 0) dtt v_1) ++ ((wX0 dNc (dNcj 0) (dNcs 0) (dNcp 0) (dNcr 0) u.1) ++ ((wX1 cI dNcj vNcj) ++ ((wX5 cI dNcs u.2.1) ++ ((wX2 cI dNcp u.2.2.1) ++ (wX4 cI 72 dNcr u.2.2.2))))))) C (z_runV (pc := 28) (wc := ((wX0 dNc (dNcj 0) (dNcs 0) (dNcp 0) (dNcr 0) vNc) ++ ((wX1 cI dNcj vNcj) ++ ((wX5 cI dNcs vNcs) ++ ((wX2 cI dNcp vNcp) ++ (wX4 cI 72 dNcr vNcr)))))) (As := [.int x1]) C (fun sz => kX0_passSeconds dNc dNcj dNcs dNcp dNcr vNc vNcj vNcs vNcp vNcr x1 sz h) [1, 2, 3, 4, 5, 6, 7, 8, 9, 10, 11, 12, 13, 14, 15, 16, 17, 18, 19, 20, 21] rfl (by decide) (gdV wq257 wq633 wq259 wq260 wq108) rfl rfl rfl hdX0_passSeconds 1 rfl rfl rfl ⟨Nat.le_of_ble_eq_true rfl, Nat.le_of_ble_eq_true rfl⟩ rfl (Nat.le_of_ble_eq_true rfl) ⟨Nat.zero_le _, Nat.zero_le _⟩ dX9_pass_28) [1, 2, 3, 4, 5, 6, 7, 8, 9, 10, 11, 12, 13, 14, 15, 16, 17, 18, 19, 20, 21] [0] [0, 1, 2, 3, 4, 5, 6, 7, 8, 9, 10, 11, 12, 13, 14, 15, 16, 17, 18, 19, 20, 21] rfl rfl (by decide) (by decide) (fun _ => rfl) (by decide) (fun u3 h => ?_)
    obtain ⟨vNc_3, vNcs_3, vNcp_3, vNcr_3⟩ := u3
    dsimp only at h
    refine z_aload_n (pc := 31) C 2 dX9_pass_31 rfl ?_
    refine z_get (pc := 32) C uw9 0 rfl rfl 3 (by decide) wq531 rfl dX9_pass_32 ?_
    refine z_get (pc := 35) C uw0 1 rfl rfl 10 (by decide) wq629 rfl dX9_pass_35 ?_
    refine z_iload_n (pc := 38) C 0 dX9_pass_38 rfl ?_
    refine z_isub (pc := 39) C dX9_pass_39 ?_
    exact hret 40 _ _ ((vNc_3 0 10) - (vNc 0 10)) (v_1, vNc_3, vNcs_3, vNcp_3, vNcr_3) rfl h dX9_pass_40
  · have h := h.2 c2
    refine z_iload_n (pc := 13) C 0 dX9_pass_13 rfl ?_
    exact hret 14 _ _ r1 (v_1, vNc, vNcs, vNcp, vNcr) rfl h dX9_pass_14

def pX9_told (vNc : Lf) (vNcj : Lf) (vNcs : Lf) (vNcp : Lf) (x1 : Int32) (Q : Int32 → Prop) : Prop := (pX9_within x1 (0 : Int32) (18 : Int32) (fun r1 => ((r1 = 0 → (Q (-1 : Int32) )) ∧ (¬ r1 = 0 → (pX0_fact vNc vNcj vNcs vNcp x1 (fun r3 => (Q r3 )))))))
abbrev rmX9_told : Room := { frames := 4, cells := 0, slots := 0, locals := 88 }
abbrev wdX9_told : List Cond := Cond.code yX9_told cX9_told 2 (some .int) :: TB
theorem hdSX9_told : (yX9_told).cls ≠ "java/lang/invoke/MethodHandle" ∧ (yX9_told).cls ≠ "java/lang/invoke/VarHandle" ∧ (parseMethodDescriptor (yX9_told).desc).map (fun d => d.parameters.length) = some 1 := by decide +kernel
theorem hdX9_told : (yX9_told).cls = RX9 ∧ (yX9_told).cls ≠ "java/lang/invoke/MethodHandle" ∧ (yX9_told).cls ≠ "java/lang/invoke/VarHandle" ∧ (parseMethodDescriptor (yX9_told).desc).map (fun d => d.parameters.length) = some 1 := ⟨rfl, hdSX9_told⟩
set_option maxHeartbeats 4000000 in
set_option maxRecDepth 100000 in
theorem kX9_told {l : Launch} {D : va_G} {cI cJ cT : ClassId} (d : Nat → Nat) (dN : Nat → Nat) (dI : Nat → Nat) (dT : Nat → Nat) (dNc : Nat → Nat) (dNcj : Nat → Nat) (dNcs : Nat → Nat) (dNcp : Nat → Nat) (dNw : Nat → Nat) (dx : Nat → Nat) (dtt : Nat) (dNcr : Nat → Nat)  (v : Lf) (vNc : Lf) (vNcj : Lf) (vNcs : Lf) (vNcp : Lf) (x1 : Int32) {Q : Int32 → Prop} (sz : Nat) (h : pX9_told vNc vNcj vNcs vNcp x1 Q) : Met l yX9_told wdX9_told rmX9_told (Pz D (tyL cI cJ cT) [.ref (d 0), .int x1] ((wX9 d (dN 0) (dI 0) (dT 0) (dNc 0) (dNcj 0) (dNcs 0) (dNcp 0) (dNw 0) (dx 0) dtt v) ++ ((wX0 dNc (dNcj 0) (dNcs 0) (dNcp 0) (dNcr 0) vNc) ++ ((wX1 cI dNcj vNcj) ++ ((wX5 cI dNcs vNcs) ++ (wX2 cI dNcp vNcp))))) sz) (va_Qi (fun (r : Int32) (u : Unit) => Q r) (Bz D (tyL cI cJ cT) ((wX9 d (dN 0) (dI 0) (dT 0) (dNc 0) (dNcj 0) (dNcs 0) (dNcp 0) (dNw 0) (dx 0) dtt v) ++ ((wX0 dNc (dNcj 0) (dNcs 0) (dNcp 0) (dNcr 0) vNc) ++ ((wX1 cI dNcj vNcj) ++ ((wX5 cI dNcs vNcs) ++ (wX2 cI dNcp vNcp))))) sz (fun (u : Unit) => ((wX9 d (dN 0) (dI 0) (dT 0) (dNc 0) (dNcj 0) (dNcs 0) (dNcp 0) (dNw 0) (dx 0) dtt v) ++ ((wX0 dNc (dNcj 0) (dNcs 0) (dNcp 0) (dNcr 0) vNc) ++ ((wX1 cI dNcj vNcj) ++ ((wX5 cI dNcs vNcs) ++ (wX2 cI dNcp vNcp))))))) (va_A ((wX9 d (dN 0) (dI 0) (dT 0) (dNc 0) (dNcj 0) (dNcs 0) (dNcp 0) (dNw 0) (dx 0) dtt v) ++ ((wX0 dNc (dNcj 0) (dNcs 0) (dNcp 0) (dNcr 0) vNc) ++ ((wX1 cI dNcj vNcj) ++ ((wX5 cI dNcs vNcs) ++ (wX2 cI dNcp vNcp))))) sz)) 0 0 (va_A ((wX9 d (dN 0) (dI 0) (dT 0) (dNc 0) (dNcj 0) (dNcs 0) (dNcp 0) (dNw 0) (dx 0) dtt v) ++ ((wX0 dNc (dNcj 0) (dNcs 0) (dNcp 0) (dNcr 0) vNc) ++ ((wX1 cI dNcj vNcj) ++ ((wX5 cI dNcs vNcs) ++ (wX2 cI dNcp vNcp))))) sz) := by
  refine z_meti (cc := cX9_told) (maxL := 2) (own := RX9) (lv0 := [(0, .ref (d 0)), (1, .int x1)]) (by decide) rfl rfl (Nat.le_of_ble_eq_true rfl) rfl ?_
  intro p e s m args below meth c A QQ C hin hret
  refine z_iload_n (pc := 0) C 1 dX9_told_0 rfl ?_
  refine z_iconst (pc := 1) (v := 0) C dX9_told_1 (by decide) ?_
  refine z_bipush (pc := 2) (v := 18) C dX9_told_2 (by decide) ?_
  refine z_call0i (pc := 4) C (z_runS (pc := 4) (wc := ([] : va_W)) (As := [.int x1, .int (0 : Int32), .int (18 : Int32)]) C (fun sz => kX9_within x1 (0 : Int32) (18 : Int32) sz h) [] rfl (by decide) (gdS wq366 wq553 wq373 wq112) rfl rfl rfl hdSX9_within ⟨Nat.le_of_ble_eq_true rfl, Nat.le_of_ble_eq_true rfl⟩ rfl (Nat.le_of_ble_eq_true rfl) ⟨Nat.zero_le _, Nat.zero_le _⟩ dX9_told_4) (fun r1 u1 h => ?_)
  refine z_if_eq (pc := 7) (tgt := 21) C dX9_told_7 (by decide) (fun c2 => ?_) (fun c2 => ?_)
  · have h := h.1 c2
    refine z_iconst (pc := 21) (v := -1) C dX9_told_21 (by decide) ?_
    exact hret 22 _ _ (-1 : Int32) () rfl h dX9_told_22
  · have h := h.2 c2
    refine z_aload_n (pc := 10) C 0 dX9_told_10 rfl ?_
    refine z_get (pc := 11) C uw9 0 rfl rfl 3 (by decide) wq531 rfl dX9_told_11 ?_
    refine z_iload_n (pc := 14) C 1 dX9_told_14 rfl ?_
    refine z_callRi (pc := 15) C (z_runV (pc := 15) (wc := ((wX0 dNc (dNcj 0) (dNcs 0) (dNcp 0) (dNcr 0) vNc) ++ ((wX1 cI dNcj vNcj) ++ ((wX5 cI dNcs vNcs) ++ (wX2 cI dNcp vNcp))))) (As := [.int x1]) C (fun sz => kX0_fact dNc dNcj dNcs dNcp dNcr vNc vNcj vNcs vNcp x1 sz h) [1, 2, 3, 4, 5, 6, 7, 8, 9, 10, 11, 12, 13, 14, 15, 16, 17, 18, 19] rfl (by decide) (gdV wq279 wq635 wq636 wq637 wq108) rfl rfl rfl hdX0_fact 1 rfl rfl rfl ⟨Nat.le_of_ble_eq_true rfl, Nat.le_of_ble_eq_true rfl⟩ rfl (Nat.le_of_ble_eq_true rfl) ⟨Nat.zero_le _, Nat.zero_le _⟩ dX9_told_15) [1, 2, 3, 4, 5, 6, 7, 8, 9, 10, 11, 12, 13, 14, 15, 16, 17, 18, 19] rfl (by decide) (fun r3 u3 h => ?_)
    refine z_goto (pc := 18) (tgt := 22) C dX9_told_18 (by decide) ?_
    exact hret 22 _ _ r3 () rfl h dX9_told_22

def pX9_of (vNc : Lf) (vNcj : Lf) (vNcs : Lf) (x1 : Int32) (x2 : Int32) (Q : Int32 → Prop) : Prop := (pX9_isSignal vNcj x1 (fun r1 => ((r1 = 0 → (Q (-1 : Int32) )) ∧ (¬ r1 = 0 → (pX0_factOf vNc vNcj vNcs x1 x2 (fun r3 => (Q r3 )))))))
abbrev rmX9_of : Room := { frames := 3, cells := 0, slots := 0, locals := 67 }
abbrev wdX9_of : List Cond := Cond.code yX9_of cX9_of 3 (some .int) :: TB
theorem hdSX9_of : (yX9_of).cls ≠ "java/lang/invoke/MethodHandle" ∧ (yX9_of).cls ≠ "java/lang/invoke/VarHandle" ∧ (parseMethodDescriptor (yX9_of).desc).map (fun d => d.parameters.length) = some 2 := by decide +kernel
theorem hdX9_of : (yX9_of).cls = RX9 ∧ (yX9_of).cls ≠ "java/lang/invoke/MethodHandle" ∧ (yX9_of).cls ≠ "java/lang/invoke/VarHandle" ∧ (parseMethodDescriptor (yX9_of).desc).map (fun d => d.parameters.length) = some 2 := ⟨rfl, hdSX9_of⟩
set_option maxHeartbeats 4000000 in
set_option maxRecDepth 100000 in
theorem kX9_of {l : Launch} {D : va_G} {cI cJ cT : ClassId} (d : Nat → Nat) (dN : Nat → Nat) (dI : Nat → Nat) (dT : Nat → Nat) (dNc : Nat → Nat) (dNcj : Nat → Nat) (dNcs : Nat → Nat) (dNcp : Nat → Nat) (dNw : Nat → Nat) (dx : Nat → Nat) (dtt : Nat) (dNcr : Nat → Nat)  (v : Lf) (vNc : Lf) (vNcj : Lf) (vNcs : Lf) (x1 : Int32) (x2 : Int32) {Q : Int32 → Prop} (sz : Nat) (h : pX9_of vNc vNcj vNcs x1 x2 Q) : Met l yX9_of wdX9_of rmX9_of (Pz D (tyL cI cJ cT) [.ref (d 0), .int x1, .int x2] ((wX9 d (dN 0) (dI 0) (dT 0) (dNc 0) (dNcj 0) (dNcs 0) (dNcp 0) (dNw 0) (dx 0) dtt v) ++ ((wX0 dNc (dNcj 0) (dNcs 0) (dNcp 0) (dNcr 0) vNc) ++ ((wX1 cI dNcj vNcj) ++ (wX5 cI dNcs vNcs)))) sz) (va_Qi (fun (r : Int32) (u : Unit) => Q r) (Bz D (tyL cI cJ cT) ((wX9 d (dN 0) (dI 0) (dT 0) (dNc 0) (dNcj 0) (dNcs 0) (dNcp 0) (dNw 0) (dx 0) dtt v) ++ ((wX0 dNc (dNcj 0) (dNcs 0) (dNcp 0) (dNcr 0) vNc) ++ ((wX1 cI dNcj vNcj) ++ (wX5 cI dNcs vNcs)))) sz (fun (u : Unit) => ((wX9 d (dN 0) (dI 0) (dT 0) (dNc 0) (dNcj 0) (dNcs 0) (dNcp 0) (dNw 0) (dx 0) dtt v) ++ ((wX0 dNc (dNcj 0) (dNcs 0) (dNcp 0) (dNcr 0) vNc) ++ ((wX1 cI dNcj vNcj) ++ (wX5 cI dNcs vNcs)))))) (va_A ((wX9 d (dN 0) (dI 0) (dT 0) (dNc 0) (dNcj 0) (dNcs 0) (dNcp 0) (dNw 0) (dx 0) dtt v) ++ ((wX0 dNc (dNcj 0) (dNcs 0) (dNcp 0) (dNcr 0) vNc) ++ ((wX1 cI dNcj vNcj) ++ (wX5 cI dNcs vNcs)))) sz)) 0 0 (va_A ((wX9 d (dN 0) (dI 0) (dT 0) (dNc 0) (dNcj 0) (dNcs 0) (dNcp 0) (dNw 0) (dx 0) dtt v) ++ ((wX0 dNc (dNcj 0) (dNcs 0) (dNcp 0) (dNcr 0) vNc) ++ ((wX1 cI dNcj vNcj) ++ (wX5 cI dNcs vNcs)))) sz) := by
  refine z_meti (cc := cX9_of) (maxL := 3) (own := RX9) (lv0 := [(0, .ref (d 0)), (1, .int x1), (2, .int x2)]) (by decide) rfl rfl (Nat.le_of_ble_eq_true rfl) rfl ?_
  intro p e s m args below meth c A QQ C hin hret
  refine z_aload_n (pc := 0) C 0 dX9_of_0 rfl ?_
  refine z_iload_n (pc := 1) C 1 dX9_of_1 rfl ?_
  refine z_callRi (pc := 2) C (z_runV (pc := 2) (wc := ((wX9 d (dN 0) (dI 0) (dT 0) (dNc 0) (dNcj 0) (dNcs 0) (dNcp 0) (dNw 0) (dx 0) dtt v) ++ (wX1 cI dNcj vNcj))) (As := [.int x1]) C (fun sz => kX9_isSignal d dN dI dT dNc dNcj dNcs dNcp dNw dx dtt v vNcj x1 sz h) [0, 2, 3, 4, 5, 6, 7] rfl (by decide) (gdV wq558 wq561 wq562 wq563 wq112) rfl rfl rfl hdX9_isSignal 0 rfl rfl rfl ⟨Nat.le_of_ble_eq_true rfl, Nat.le_of_ble_eq_true rfl⟩ rfl (Nat.le_of_ble_eq_true rfl) ⟨Nat.zero_le _, Nat.zero_le _⟩ dX9_of_2) [0, 2, 3, 4, 5, 6, 7] rfl (by decide) (fun r1 u1 h => ?_)
  refine z_if_eq (pc := 5) (tgt := 20) C dX9_of_5 (by decide) (fun c2 => ?_) (fun c2 => ?_)
  · have h := h.1 c2
    refine z_iconst (pc := 20) (v := -1) C dX9_of_20 (by decide) ?_
    exact hret 21 _ _ (-1 : Int32) () rfl h dX9_of_21
  · have h := h.2 c2
    refine z_aload_n (pc := 8) C 0 dX9_of_8 rfl ?_
    refine z_get (pc := 9) C uw9 0 rfl rfl 3 (by decide) wq531 rfl dX9_of_9 ?_
    refine z_iload_n (pc := 12) C 1 dX9_of_12 rfl ?_
    refine z_iload_n (pc := 13) C 2 dX9_of_13 rfl ?_
    refine z_callRi (pc := 14) C (z_runV (pc := 14) (wc := ((wX0 dNc (dNcj 0) (dNcs 0) (dNcp 0) (dNcr 0) vNc) ++ ((wX1 cI dNcj vNcj) ++ (wX5 cI dNcs vNcs)))) (As := [.int x1, .int x2]) C (fun sz => kX0_factOf dNc dNcj dNcs dNcp dNcr vNc vNcj vNcs x1 x2 sz h) [1, 2, 3, 4, 5, 6, 7, 8, 9, 10, 11, 12, 13, 14, 15] rfl (by decide) (gdV wq287 wq639 wq640 wq641 wq108) rfl rfl rfl hdX0_factOf 1 rfl rfl rfl ⟨Nat.le_of_ble_eq_true rfl, Nat.le_of_ble_eq_true rfl⟩ rfl (Nat.le_of_ble_eq_true rfl) ⟨Nat.zero_le _, Nat.zero_le _⟩ dX9_of_14) [1, 2, 3, 4, 5, 6, 7, 8, 9, 10, 11, 12, 13, 14, 15] rfl (by decide) (fun r3 u3 h => ?_)
    refine z_goto (pc := 17) (tgt := 21) C dX9_of_17 (by decide) ?_
    exact hret 21 _ _ r3 () rfl h dX9_of_21

def pX9_way (vNcj : Lf) (x1 : Int32) (x2 : Int32) (Q : Int32 → Prop) : Prop := (pX9_isSignal vNcj x1 (fun r1 => ((¬ r1 = 0 → (vp_in x1 8 ∧ (pX9_within x2 (0 : Int32) ((vNcj 2 x1.toNatClampNeg) - (1 : Int32)) (fun r4 => ((r4 = 0 → (Q (-2 : Int32) )) ∧ (¬ r4 = 0 → (pX1_cellAt vNcj x1 x2 (fun r6 => (Q r6 ))))))))) ∧ (r1 = 0 → (Q (-1 : Int32) )))))
abbrev rmX9_way : Room := { frames := 2, cells := 0, slots := 0, locals := 43 }
abbrev wdX9_way : List Cond := Cond.code yX9_way cX9_way 3 (some .int) :: TB
theorem hdSX9_way : (yX9_way).cls ≠ "java/lang/invoke/MethodHandle" ∧ (yX9_way).cls ≠ "java/lang/invoke/VarHandle" ∧ (parseMethodDescriptor (yX9_way).desc).map (fun d => d.parameters.length) = some 2 := by decide +kernel
theorem hdX9_way : (yX9_way).cls = RX9 ∧ (yX9_way).cls ≠ "java/lang/invoke/MethodHandle" ∧ (yX9_way).cls ≠ "java/lang/invoke/VarHandle" ∧ (parseMethodDescriptor (yX9_way).desc).map (fun d => d.parameters.length) = some 2 := ⟨rfl, hdSX9_way⟩
set_option maxHeartbeats 4000000 in
set_option maxRecDepth 100000 in
theorem kX9_way {l : Launch} {D : va_G} {cI cJ cT : ClassId} (d : Nat → Nat) (dN : Nat → Nat) (dI : Nat → Nat) (dT : Nat → Nat) (dNc : Nat → Nat) (dNcj : Nat → Nat) (dNcs : Nat → Nat) (dNcp : Nat → Nat) (dNw : Nat → Nat) (dx : Nat → Nat) (dtt : Nat)  (v : Lf) (vNcj : Lf) (x1 : Int32) (x2 : Int32) {Q : Int32 → Prop} (sz : Nat) (h : pX9_way vNcj x1 x2 Q) : Met l yX9_way wdX9_way rmX9_way (Pz D (tyL cI cJ cT) [.ref (d 0), .int x1, .int x2] ((wX9 d (dN 0) (dI 0) (dT 0) (dNc 0) (dNcj 0) (dNcs 0) (dNcp 0) (dNw 0) (dx 0) dtt v) ++ (wX1 cI dNcj vNcj)) sz) (va_Qi (fun (r : Int32) (u : Unit) => Q r) (Bz D (tyL cI cJ cT) ((wX9 d (dN 0) (dI 0) (dT 0) (dNc 0) (dNcj 0) (dNcs 0) (dNcp 0) (dNw 0) (dx 0) dtt v) ++ (wX1 cI dNcj vNcj)) sz (fun (u : Unit) => ((wX9 d (dN 0) (dI 0) (dT 0) (dNc 0) (dNcj 0) (dNcs 0) (dNcp 0) (dNw 0) (dx 0) dtt v) ++ (wX1 cI dNcj vNcj)))) (va_A ((wX9 d (dN 0) (dI 0) (dT 0) (dNc 0) (dNcj 0) (dNcs 0) (dNcp 0) (dNw 0) (dx 0) dtt v) ++ (wX1 cI dNcj vNcj)) sz)) 0 0 (va_A ((wX9 d (dN 0) (dI 0) (dT 0) (dNc 0) (dNcj 0) (dNcs 0) (dNcp 0) (dNw 0) (dx 0) dtt v) ++ (wX1 cI dNcj vNcj)) sz) := by
  refine z_meti (cc := cX9_way) (maxL := 3) (own := RX9) (lv0 := [(0, .ref (d 0)), (1, .int x1), (2, .int x2)]) (by decide) rfl rfl (Nat.le_of_ble_eq_true rfl) rfl ?_
  intro p e s m args below meth c A QQ C hin hret
  refine z_aload_n (pc := 0) C 0 dX9_way_0 rfl ?_
  refine z_iload_n (pc := 1) C 1 dX9_way_1 rfl ?_
  refine z_callRi (pc := 2) C (z_runV (pc := 2) (wc := ((wX9 d (dN 0) (dI 0) (dT 0) (dNc 0) (dNcj 0) (dNcs 0) (dNcp 0) (dNw 0) (dx 0) dtt v) ++ (wX1 cI dNcj vNcj))) (As := [.int x1]) C (fun sz => kX9_isSignal d dN dI dT dNc dNcj dNcs dNcp dNw dx dtt v vNcj x1 sz h) [0, 1, 2, 3, 4, 5, 6] rfl (by decide) (gdV wq558 wq561 wq562 wq563 wq112) rfl rfl rfl hdX9_isSignal 0 rfl rfl rfl ⟨Nat.le_of_ble_eq_true rfl, Nat.le_of_ble_eq_true rfl⟩ rfl (Nat.le_of_ble_eq_true rfl) ⟨Nat.zero_le _, Nat.zero_le _⟩ dX9_way_2) [0, 1, 2, 3, 4, 5, 6] rfl (by decide) (fun r1 u1 h => ?_)
  refine z_if_ne (pc := 5) (tgt := 10) C dX9_way_5 (by decide) (fun c2 => ?_) (fun c2 => ?_)
  · have h := h.1 c2
    refine z_iload_n (pc := 10) C 2 dX9_way_10 rfl ?_
    refine z_iconst (pc := 11) (v := 0) C dX9_way_11 (by decide) ?_
    refine z_aload_n (pc := 12) C 0 dX9_way_12 rfl ?_
    refine z_get (pc := 13) C uw9 0 rfl rfl 4 (by decide) wq533 rfl dX9_way_13 ?_
    refine z_get (pc := 16) C uw1 1 rfl rfl 3 (by decide) wq560 rfl dX9_way_16 ?_
    refine z_iload_n (pc := 19) C 1 dX9_way_19 rfl ?_
    obtain ⟨g3, h⟩ := h
    refine z_iald (pc := 20) C 3 0 rfl rfl g3 (vNcj 2 x1.toNatClampNeg) rfl dX9_way_20 ?_
    refine z_iconst (pc := 21) (v := 1) C dX9_way_21 (by decide) ?_
    refine z_isub (pc := 22) C dX9_way_22 ?_
    refine z_call0i (pc := 23) C (z_runS (pc := 23) (wc := ([] : va_W)) (As := [.int x2, .int (0 : Int32), .int ((vNcj 2 x1.toNatClampNeg) - (1 : Int32))]) C (fun sz => kX9_within x2 (0 : Int32) ((vNcj 2 x1.toNatClampNeg) - (1 : Int32)) sz h) [] rfl (by decide) (gdS wq366 wq553 wq373 wq112) rfl rfl rfl hdSX9_within ⟨Nat.le_of_ble_eq_true rfl, Nat.le_of_ble_eq_true rfl⟩ rfl (Nat.le_of_ble_eq_true rfl) ⟨Nat.zero_le _, Nat.zero_le _⟩ dX9_way_23) (fun r4 u4 h => ?_)
    refine z_if_eq (pc := 26) (tgt := 41) C dX9_way_26 (by decide) (fun c5 => ?_) (fun c5 => ?_)
    · have h := h.1 c5
      refine z_bipush (pc := 41) (v := -2) C dX9_way_41 (by decide) ?_
      exact hret 43 _ _ (-2 : Int32) () rfl h dX9_way_43
    · have h := h.2 c5
      refine z_aload_n (pc := 29) C 0 dX9_way_29 rfl ?_
      refine z_get (pc := 30) C uw9 0 rfl rfl 4 (by decide) wq533 rfl dX9_way_30 ?_
      refine z_iload_n (pc := 33) C 1 dX9_way_33 rfl ?_
      refine z_iload_n (pc := 34) C 2 dX9_way_34 rfl ?_
      refine z_callRi (pc := 35) C (z_runV (pc := 35) (wc := (wX1 cI dNcj vNcj)) (As := [.int x1, .int x2]) C (fun sz => kX1_cellAt dNcj vNcj x1 x2 sz h) [1, 2, 3, 4, 5, 6] rfl (by decide) (gdV wq304 wq644 wq307 wq308 wq36) rfl rfl rfl hdX1_cellAt 1 rfl rfl rfl ⟨Nat.le_of_ble_eq_true rfl, Nat.le_of_ble_eq_true rfl⟩ rfl (Nat.le_of_ble_eq_true rfl) ⟨Nat.zero_le _, Nat.zero_le _⟩ dX9_way_35) [1, 2, 3, 4, 5, 6] rfl (by decide) (fun r6 u6 h => ?_)
      refine z_goto (pc := 38) (tgt := 43) C dX9_way_38 (by decide) ?_
      exact hret 43 _ _ r6 () rfl h dX9_way_43
  · have h := h.2 c2
    refine z_iconst (pc := 8) (v := -1) C dX9_way_8 (by decide) ?_
    exact hret 9 _ _ (-1 : Int32) () rfl h dX9_way_9

def pX9_clear (vNcj : Lf) (x1 : Int32) (x2 : Int32) (Q : Int32 → Prop) : Prop := (pX9_isSignal vNcj x1 (fun r1 => ((r1 = 0 → (Q (-1 : Int32) )) ∧ (¬ r1 = 0 → (pX9_isSignal vNcj x2 (fun r3 => ((¬ r3 = 0 → (pX1_meet vNcj x1 x2 (fun r5 => ((r5 = 0 → (Q (-5 : Int32) )) ∧ (¬ r5 = 0 → (pX1_clearOf vNcj x1 x2 (fun r7 => (Q r7 )))))))) ∧ (r3 = 0 → (Q (-1 : Int32) )))))))))
abbrev rmX9_clear : Room := { frames := 2, cells := 0, slots := 0, locals := 43 }
abbrev wdX9_clear : List Cond := Cond.code yX9_clear cX9_clear 3 (some .int) :: TB
theorem hdSX9_clear : (yX9_clear).cls ≠ "java/lang/invoke/MethodHandle" ∧ (yX9_clear).cls ≠ "java/lang/invoke/VarHandle" ∧ (parseMethodDescriptor (yX9_clear).desc).map (fun d => d.parameters.length) = some 2 := by decide +kernel
theorem hdX9_clear : (yX9_clear).cls = RX9 ∧ (yX9_clear).cls ≠ "java/lang/invoke/MethodHandle" ∧ (yX9_clear).cls ≠ "java/lang/invoke/VarHandle" ∧ (parseMethodDescriptor (yX9_clear).desc).map (fun d => d.parameters.length) = some 2 := ⟨rfl, hdSX9_clear⟩
set_option maxHeartbeats 4000000 in
set_option maxRecDepth 100000 in
theorem kX9_clear {l : Launch} {D : va_G} {cI cJ cT : ClassId} (d : Nat → Nat) (dN : Nat → Nat) (dI : Nat → Nat) (dT : Nat → Nat) (dNc : Nat → Nat) (dNcj : Nat → Nat) (dNcs : Nat → Nat) (dNcp : Nat → Nat) (dNw : Nat → Nat) (dx : Nat → Nat) (dtt : Nat)  (v : Lf) (vNcj : Lf) (x1 : Int32) (x2 : Int32) {Q : Int32 → Prop} (sz : Nat) (h : pX9_clear vNcj x1 x2 Q) : Met l yX9_clear wdX9_clear rmX9_clear (Pz D (tyL cI cJ cT) [.ref (d 0), .int x1, .int x2] ((wX9 d (dN 0) (dI 0) (dT 0) (dNc 0) (dNcj 0) (dNcs 0) (dNcp 0) (dNw 0) (dx 0) dtt v) ++ (wX1 cI dNcj vNcj)) sz) (va_Qi (fun (r : Int32) (u : Unit) => Q r) (Bz D (tyL cI cJ cT) ((wX9 d (dN 0) (dI 0) (dT 0) (dNc 0) (dNcj 0) (dNcs 0) (dNcp 0) (dNw 0) (dx 0) dtt v) ++ (wX1 cI dNcj vNcj)) sz (fun (u : Unit) => ((wX9 d (dN 0) (dI 0) (dT 0) (dNc 0) (dNcj 0) (dNcs 0) (dNcp 0) (dNw 0) (dx 0) dtt v) ++ (wX1 cI dNcj vNcj)))) (va_A ((wX9 d (dN 0) (dI 0) (dT 0) (dNc 0) (dNcj 0) (dNcs 0) (dNcp 0) (dNw 0) (dx 0) dtt v) ++ (wX1 cI dNcj vNcj)) sz)) 0 0 (va_A ((wX9 d (dN 0) (dI 0) (dT 0) (dNc 0) (dNcj 0) (dNcs 0) (dNcp 0) (dNw 0) (dx 0) dtt v) ++ (wX1 cI dNcj vNcj)) sz) := by
  refine z_meti (cc := cX9_clear) (maxL := 3) (own := RX9) (lv0 := [(0, .ref (d 0)), (1, .int x1), (2, .int x2)]) (by decide) rfl rfl (Nat.le_of_ble_eq_true rfl) rfl ?_
  intro p e s m args below meth c A QQ C hin hret
  refine z_aload_n (pc := 0) C 0 dX9_clear_0 rfl ?_
  refine z_iload_n (pc := 1) C 1 dX9_clear_1 rfl ?_
  refine z_callRi (pc := 2) C (z_runV (pc := 2) (wc := ((wX9 d (dN 0) (dI 0) (dT 0) (dNc 0) (dNcj 0) (dNcs 0) (dNcp 0) (dNw 0) (dx 0) dtt v) ++ (wX1 cI dNcj vNcj))) (As := [.int x1]) C (fun sz => kX9_isSignal d dN dI dT dNc dNcj dNcs dNcp dNw dx dtt v vNcj x1 sz h) [0, 1, 2, 3, 4, 5, 6] rfl (by decide) (gdV wq558 wq561 wq562 wq563 wq112) rfl rfl rfl hdX9_isSignal 0 rfl rfl rfl ⟨Nat.le_of_ble_eq_true rfl, Nat.le_of_ble_eq_true rfl⟩ rfl (Nat.le_of_ble_eq_true rfl) ⟨Nat.zero_le _, Nat.zero_le _⟩ dX9_clear_2) [0, 1, 2, 3, 4, 5, 6] rfl (by decide) (fun r1 u1 h => ?_)
  refine z_if_eq (pc := 5) (tgt := 16) C dX9_clear_5 (by decide) (fun c2 => ?_) (fun c2 => ?_)
  · have h := h.1 c2
    refine z_iconst (pc := 16) (v := -1) C dX9_clear_16 (by decide) ?_
    exact hret 17 _ _ (-1 : Int32) () rfl h dX9_clear_17
  · have h := h.2 c2
    refine z_aload_n (pc := 8) C 0 dX9_clear_8 rfl ?_
    refine z_iload_n (pc := 9) C 2 dX9_clear_9 rfl ?_
    refine z_callRi (pc := 10) C (z_runV (pc := 10) (wc := ((wX9 d (dN 0) (dI 0) (dT 0) (dNc 0) (dNcj 0) (dNcs 0) (dNcp 0) (dNw 0) (dx 0) dtt v) ++ (wX1 cI dNcj vNcj))) (As := [.int x2]) C (fun sz => kX9_isSignal d dN dI dT dNc dNcj dNcs dNcp dNw dx dtt v vNcj x2 sz h) [0, 1, 2, 3, 4, 5, 6] rfl (by decide) (gdV wq558 wq561 wq562 wq563 wq112) rfl rfl rfl hdX9_isSignal 0 rfl rfl rfl ⟨Nat.le_of_ble_eq_true rfl, Nat.le_of_ble_eq_true rfl⟩ rfl (Nat.le_of_ble_eq_true rfl) ⟨Nat.zero_le _, Nat.zero_le _⟩ dX9_clear_10) [0, 1, 2, 3, 4, 5, 6] rfl (by decide) (fun r3 u3 h => ?_)
    refine z_if_ne (pc := 13) (tgt := 18) C dX9_clear_13 (by decide) (fun c4 => ?_) (fun c4 => ?_)
    · have h := h.1 c4
      refine z_aload_n (pc := 18) C 0 dX9_clear_18 rfl ?_
      refine z_get (pc := 19) C uw9 0 rfl rfl 4 (by decide) wq533 rfl dX9_clear_19 ?_
      refine z_iload_n (pc := 22) C 1 dX9_clear_22 rfl ?_
      refine z_iload_n (pc := 23) C 2 dX9_clear_23 rfl ?_
      refine z_callRi (pc := 24) C (z_runV (pc := 24) (wc := (wX1 cI dNcj vNcj)) (As := [.int x1, .int x2]) C (fun sz => kX1_meet dNcj vNcj x1 x2 sz h) [1, 2, 3, 4, 5, 6] rfl (by decide) (gdV wq213 wq646 wq218 wq219 wq36) rfl rfl rfl hdX1_meet 1 rfl rfl rfl ⟨Nat.le_of_ble_eq_true rfl, Nat.le_of_ble_eq_true rfl⟩ rfl (Nat.le_of_ble_eq_true rfl) ⟨Nat.zero_le _, Nat.zero_le _⟩ dX9_clear_24) [1, 2, 3, 4, 5, 6] rfl (by decide) (fun r5 u5 h => ?_)
      refine z_if_eq (pc := 27) (tgt := 42) C dX9_clear_27 (by decide) (fun c6 => ?_) (fun c6 => ?_)
      · have h := h.1 c6
        refine z_bipush (pc := 42) (v := -5) C dX9_clear_42 (by decide) ?_
        exact hret 44 _ _ (-5 : Int32) () rfl h dX9_clear_44
      · have h := h.2 c6
        refine z_aload_n (pc := 30) C 0 dX9_clear_30 rfl ?_
        refine z_get (pc := 31) C uw9 0 rfl rfl 4 (by decide) wq533 rfl dX9_clear_31 ?_
        refine z_iload_n (pc := 34) C 1 dX9_clear_34 rfl ?_
        refine z_iload_n (pc := 35) C 2 dX9_clear_35 rfl ?_
        refine z_callRi (pc := 36) C (z_runV (pc := 36) (wc := (wX1 cI dNcj vNcj)) (As := [.int x1, .int x2]) C (fun sz => kX1_clearOf dNcj vNcj x1 x2 sz h) [1, 2, 3, 4, 5, 6] rfl (by decide) (gdV wq214 wq647 wq221 wq222 wq36) rfl rfl rfl hdX1_clearOf 1 rfl rfl rfl ⟨Nat.le_of_ble_eq_true rfl, Nat.le_of_ble_eq_true rfl⟩ rfl (Nat.le_of_ble_eq_true rfl) ⟨Nat.zero_le _, Nat.zero_le _⟩ dX9_clear_36) [1, 2, 3, 4, 5, 6] rfl (by decide) (fun r7 u7 h => ?_)
        refine z_goto (pc := 39) (tgt := 44) C dX9_clear_39 (by decide) ?_
        exact hret 44 _ _ r7 () rfl h dX9_clear_44
    · have h := h.2 c4
      refine z_iconst (pc := 16) (v := -1) C dX9_clear_16 (by decide) ?_
      exact hret 17 _ _ (-1 : Int32) () rfl h dX9_clear_17

def pX9_narrow (vNcj : Lf) (x1 : Int32) (x2 : Int32) (Q : Int32 → Prop) : Prop := (pX9_isSignal vNcj x1 (fun r1 => ((r1 = 0 → (Q (-1 : Int32) )) ∧ (¬ r1 = 0 → (pX9_isSignal vNcj x2 (fun r3 => ((¬ r3 = 0 → (vp_in ((x1 * (8 : Int32)) + x2) 64 ∧ (Q (vNcj 5 ((x1 * (8 : Int32)) + x2).toNatClampNeg) ))) ∧ (r3 = 0 → (Q (-1 : Int32) )))))))))
abbrev rmX9_narrow : Room := { frames := 2, cells := 0, slots := 0, locals := 43 }
abbrev wdX9_narrow : List Cond := Cond.code yX9_narrow cX9_narrow 3 (some .int) :: TB
theorem hdSX9_narrow : (yX9_narrow).cls ≠ "java/lang/invoke/MethodHandle" ∧ (yX9_narrow).cls ≠ "java/lang/invoke/VarHandle" ∧ (parseMethodDescriptor (yX9_narrow).desc).map (fun d => d.parameters.length) = some 2 := by decide +kernel
theorem hdX9_narrow : (yX9_narrow).cls = RX9 ∧ (yX9_narrow).cls ≠ "java/lang/invoke/MethodHandle" ∧ (yX9_narrow).cls ≠ "java/lang/invoke/VarHandle" ∧ (parseMethodDescriptor (yX9_narrow).desc).map (fun d => d.parameters.length) = some 2 := ⟨rfl, hdSX9_narrow⟩
set_option maxHeartbeats 4000000 in
set_option maxRecDepth 100000 in
theorem kX9_narrow {l : Launch} {D : va_G} {cI cJ cT : ClassId} (d : Nat → Nat) (dN : Nat → Nat) (dI : Nat → Nat) (dT : Nat → Nat) (dNc : Nat → Nat) (dNcj : Nat → Nat) (dNcs : Nat → Nat) (dNcp : Nat → Nat) (dNw : Nat → Nat) (dx : Nat → Nat) (dtt : Nat)  (v : Lf) (vNcj : Lf) (x1 : Int32) (x2 : Int32) {Q : Int32 → Prop} (sz : Nat) (h : pX9_narrow vNcj x1 x2 Q) : Met l yX9_narrow wdX9_narrow rmX9_narrow (Pz D (tyL cI cJ cT) [.ref (d 0), .int x1, .int x2] ((wX9 d (dN 0) (dI 0) (dT 0) (dNc 0) (dNcj 0) (dNcs 0) (dNcp 0) (dNw 0) (dx 0) dtt v) ++ (wX1 cI dNcj vNcj)) sz) (va_Qi (fun (r : Int32) (u : Unit) => Q r) (Bz D (tyL cI cJ cT) ((wX9 d (dN 0) (dI 0) (dT 0) (dNc 0) (dNcj 0) (dNcs 0) (dNcp 0) (dNw 0) (dx 0) dtt v) ++ (wX1 cI dNcj vNcj)) sz (fun (u : Unit) => ((wX9 d (dN 0) (dI 0) (dT 0) (dNc 0) (dNcj 0) (dNcs 0) (dNcp 0) (dNw 0) (dx 0) dtt v) ++ (wX1 cI dNcj vNcj)))) (va_A ((wX9 d (dN 0) (dI 0) (dT 0) (dNc 0) (dNcj 0) (dNcs 0) (dNcp 0) (dNw 0) (dx 0) dtt v) ++ (wX1 cI dNcj vNcj)) sz)) 0 0 (va_A ((wX9 d (dN 0) (dI 0) (dT 0) (dNc 0) (dNcj 0) (dNcs 0) (dNcp 0) (dNw 0) (dx 0) dtt v) ++ (wX1 cI dNcj vNcj)) sz) := by
  refine z_meti (cc := cX9_narrow) (maxL := 3) (own := RX9) (lv0 := [(0, .ref (d 0)), (1, .int x1), (2, .int x2)]) (by decide) rfl rfl (Nat.le_of_ble_eq_true rfl) rfl ?_
  intro p e s m args below meth c A QQ C hin hret
  refine z_aload_n (pc := 0) C 0 dX9_narrow_0 rfl ?_
  refine z_iload_n (pc := 1) C 1 dX9_narrow_1 rfl ?_
  refine z_callRi (pc := 2) C (z_runV (pc := 2) (wc := ((wX9 d (dN 0) (dI 0) (dT 0) (dNc 0) (dNcj 0) (dNcs 0) (dNcp 0) (dNw 0) (dx 0) dtt v) ++ (wX1 cI dNcj vNcj))) (As := [.int x1]) C (fun sz => kX9_isSignal d dN dI dT dNc dNcj dNcs dNcp dNw dx dtt v vNcj x1 sz h) [0, 1, 2, 3, 4, 5, 6] rfl (by decide) (gdV wq558 wq561 wq562 wq563 wq112) rfl rfl rfl hdX9_isSignal 0 rfl rfl rfl ⟨Nat.le_of_ble_eq_true rfl, Nat.le_of_ble_eq_true rfl⟩ rfl (Nat.le_of_ble_eq_true rfl) ⟨Nat.zero_le _, Nat.zero_le _⟩ dX9_narrow_2) [0, 1, 2, 3, 4, 5, 6] rfl (by decide) (fun r1 u1 h => ?_)
  refine z_if_eq (pc := 5) (tgt := 16) C dX9_narrow_5 (by decide) (fun c2 => ?_) (fun c2 => ?_)
  · have h := h.1 c2
    refine z_iconst (pc := 16) (v := -1) C dX9_narrow_16 (by decide) ?_
    exact hret 17 _ _ (-1 : Int32) () rfl h dX9_narrow_17
  · have h := h.2 c2
    refine z_aload_n (pc := 8) C 0 dX9_narrow_8 rfl ?_
    refine z_iload_n (pc := 9) C 2 dX9_narrow_9 rfl ?_
    refine z_callRi (pc := 10) C (z_runV (pc := 10) (wc := ((wX9 d (dN 0) (dI 0) (dT 0) (dNc 0) (dNcj 0) (dNcs 0) (dNcp 0) (dNw 0) (dx 0) dtt v) ++ (wX1 cI dNcj vNcj))) (As := [.int x2]) C (fun sz => kX9_isSignal d dN dI dT dNc dNcj dNcs dNcp dNw dx dtt v vNcj x2 sz h) [0, 1, 2, 3, 4, 5, 6] rfl (by decide) (gdV wq558 wq561 wq562 wq563 wq112) rfl rfl rfl hdX9_isSignal 0 rfl rfl rfl ⟨Nat.le_of_ble_eq_true rfl, Nat.le_of_ble_eq_true rfl⟩ rfl (Nat.le_of_ble_eq_true rfl) ⟨Nat.zero_le _, Nat.zero_le _⟩ dX9_narrow_10) [0, 1, 2, 3, 4, 5, 6] rfl (by decide) (fun r3 u3 h => ?_)
    refine z_if_ne (pc := 13) (tgt := 18) C dX9_narrow_13 (by decide) (fun c4 => ?_) (fun c4 => ?_)
    · have h := h.1 c4
      refine z_aload_n (pc := 18) C 0 dX9_narrow_18 rfl ?_
      refine z_get (pc := 19) C uw9 0 rfl rfl 4 (by decide) wq533 rfl dX9_narrow_19 ?_
      refine z_get (pc := 22) C uw1 1 rfl rfl 6 (by decide) wq649 rfl dX9_narrow_22 ?_
      refine z_iload_n (pc := 25) C 1 dX9_narrow_25 rfl ?_
      refine z_bipush (pc := 26) (v := 8) C dX9_narrow_26 (by decide) ?_
      refine z_imul (pc := 28) C dX9_narrow_28 ?_
      refine z_iload_n (pc := 29) C 2 dX9_narrow_29 rfl ?_
      refine z_iadd (pc := 30) C dX9_narrow_30 ?_
      obtain ⟨g5, h⟩ := h
      refine z_iald (pc := 31) C 6 0 rfl rfl g5 (vNcj 5 ((x1 * (8 : Int32)) + x2).toNatClampNeg) rfl dX9_narrow_31 ?_
      exact hret 32 _ _ (vNcj 5 ((x1 * (8 : Int32)) + x2).toNatClampNeg) () rfl h dX9_narrow_32
    · have h := h.2 c4
      refine z_iconst (pc := 16) (v := -1) C dX9_narrow_16 (by decide) ?_
      exact hret 17 _ _ (-1 : Int32) () rfl h dX9_narrow_17

def pX9_greatestMost_L4 (vNcj : Lf) (vNcs : Lf) (Q : Int32 → Prop) : Nat → Int32 → Int32 → Prop
  | 0, _, _ => False
  | n4 + 1, x1, x2 => (((vNcj 0 0) ≤ x2 → (Q x1 )) ∧ (¬ (vNcj 0 0) ≤ x2 → (pX5_rule vNcs x2 (1 : Int32) (fun r2 => (pX9_greatestMost_L4 vNcj vNcs Q n4 (if x1 < r2 then r2 else x1) (x2 + 1))))))
def pX9_greatestMost (vNcj : Lf) (vNcs : Lf)  (Q : Int32 → Prop) : Prop := (∃ n4, pX9_greatestMost_L4 vNcj vNcs Q  n4 (0 : Int32) (0 : Int32))
abbrev rmX9_greatestMost : Room := { frames := 1, cells := 0, slots := 0, locals := 40 }
abbrev wdX9_greatestMost : List Cond := Cond.code yX9_greatestMost cX9_greatestMost 3 (some .int) :: TB
theorem hdSX9_greatestMost : (yX9_greatestMost).cls ≠ "java/lang/invoke/MethodHandle" ∧ (yX9_greatestMost).cls ≠ "java/lang/invoke/VarHandle" ∧ (parseMethodDescriptor (yX9_greatestMost).desc).map (fun d => d.parameters.length) = some 0 := by decide +kernel
theorem hdX9_greatestMost : (yX9_greatestMost).cls = RX9 ∧ (yX9_greatestMost).cls ≠ "java/lang/invoke/MethodHandle" ∧ (yX9_greatestMost).cls ≠ "java/lang/invoke/VarHandle" ∧ (parseMethodDescriptor (yX9_greatestMost).desc).map (fun d => d.parameters.length) = some 0 := ⟨rfl, hdSX9_greatestMost⟩
set_option maxHeartbeats 4000000 in
set_option maxRecDepth 100000 in
theorem kX9_greatestMost {l : Launch} {D : va_G} {cI cJ cT : ClassId} (d : Nat → Nat) (dN : Nat → Nat) (dI : Nat → Nat) (dT : Nat → Nat) (dNc : Nat → Nat) (dNcj : Nat → Nat) (dNcs : Nat → Nat) (dNcp : Nat → Nat) (dNw : Nat → Nat) (dx : Nat → Nat) (dtt : Nat)  (v : Lf) (vNcj : Lf) (vNcs : Lf)  {Q : Int32 → Prop} (sz : Nat) (h : pX9_greatestMost vNcj vNcs Q) : Met l yX9_greatestMost wdX9_greatestMost rmX9_greatestMost (Pz D (tyL cI cJ cT) [.ref (d 0)] ((wX9 d (dN 0) (dI 0) (dT 0) (dNc 0) (dNcj 0) (dNcs 0) (dNcp 0) (dNw 0) (dx 0) dtt v) ++ ((wX1 cI dNcj vNcj) ++ (wX5 cI dNcs vNcs))) sz) (va_Qi (fun (r : Int32) (u : Unit) => Q r) (Bz D (tyL cI cJ cT) ((wX9 d (dN 0) (dI 0) (dT 0) (dNc 0) (dNcj 0) (dNcs 0) (dNcp 0) (dNw 0) (dx 0) dtt v) ++ ((wX1 cI dNcj vNcj) ++ (wX5 cI dNcs vNcs))) sz (fun (u : Unit) => ((wX9 d (dN 0) (dI 0) (dT 0) (dNc 0) (dNcj 0) (dNcs 0) (dNcp 0) (dNw 0) (dx 0) dtt v) ++ ((wX1 cI dNcj vNcj) ++ (wX5 cI dNcs vNcs))))) (va_A ((wX9 d (dN 0) (dI 0) (dT 0) (dNc 0) (dNcj 0) (dNcs 0) (dNcp 0) (dNw 0) (dx 0) dtt v) ++ ((wX1 cI dNcj vNcj) ++ (wX5 cI dNcs vNcs))) sz)) 0 0 (va_A ((wX9 d (dN 0) (dI 0) (dT 0) (dNc 0) (dNcj 0) (dNcs 0) (dNcp 0) (dNw 0) (dx 0) dtt v) ++ ((wX1 cI dNcj vNcj) ++ (wX5 cI dNcs vNcs))) sz) := by
  refine z_meti (cc := cX9_greatestMost) (maxL := 3) (own := RX9) (lv0 := [(0, .ref (d 0))]) (by decide) rfl rfl (Nat.le_of_ble_eq_true rfl) rfl ?_
  intro p e s m args below meth c A QQ C hin hret
  have L4 : ∀ (n4 : Nat) (x1 : Int32) (x2 : Int32), pX9_greatestMost_L4 vNcj vNcs Q n4 x1 x2 → ZZ p l e rmX9_greatestMost s m args below meth c D A 3 0 0 QQ 4 ((wX9 d (dN 0) (dI 0) (dT 0) (dNc 0) (dNcj 0) (dNcs 0) (dNcp 0) (dNw 0) (dx 0) dtt v) ++ ((wX1 cI dNcj vNcj) ++ (wX5 cI dNcs vNcs))) [(0, .ref (d 0)), (1, .int x1), (2, .int x2)] [] := by
    intro n4
    induction n4 with
    | zero => intro x1 x2 h; exact False.elim h
    | succ n4 ih4 =>
      intro x1 x2 h
      refine z_iload_n (pc := 4) C 2 dX9_greatestMost_4 rfl ?_
      refine z_aload_n (pc := 5) C 0 dX9_greatestMost_5 rfl ?_
      refine z_get (pc := 6) C uw9 0 rfl rfl 4 (by decide) wq533 rfl dX9_greatestMost_6 ?_
      refine z_get (pc := 9) C uw1 1 rfl rfl 0 (by decide) wq552 rfl dX9_greatestMost_9 ?_
      refine z_icmp_ge (pc := 12) (tgt := 35) C dX9_greatestMost_12 (by decide) (fun c1 => ?_) (fun c1 => ?_)
      · have h := h.1 c1
        refine z_iload_n (pc := 35) C 1 dX9_greatestMost_35 rfl ?_
        exact hret 36 _ _ x1 () rfl h dX9_greatestMost_36
      · have h := h.2 c1
        refine z_iload_n (pc := 15) C 1 dX9_greatestMost_15 rfl ?_
        refine z_aload_n (pc := 16) C 0 dX9_greatestMost_16 rfl ?_
        refine z_get (pc := 17) C uw9 0 rfl rfl 5 (by decide) wq535 rfl dX9_greatestMost_17 ?_
        refine z_iload_n (pc := 20) C 2 dX9_greatestMost_20 rfl ?_
        refine z_iconst (pc := 21) (v := 1) C dX9_greatestMost_21 (by decide) ?_
        refine z_callRi (pc := 22) C (z_runV (pc := 22) (wc := (wX5 cI dNcs vNcs)) (As := [.int x2, .int (1 : Int32)]) C (fun sz => kX5_rule dNcs vNcs x2 (1 : Int32) sz h) [7, 8, 9, 10, 11, 12, 13, 14] rfl (by decide) (gdV wq117 wq574 wq126 wq127 wq40) rfl rfl rfl hdX5_rule 7 rfl rfl rfl ⟨Nat.le_of_ble_eq_true rfl, Nat.le_of_ble_eq_true rfl⟩ rfl (Nat.le_of_ble_eq_true rfl) ⟨Nat.zero_le _, Nat.zero_le _⟩ dX9_greatestMost_22) [7, 8, 9, 10, 11, 12, 13, 14] rfl (by decide) (fun r2 u2 h => ?_)
        refine z_mmax (pc := 25) C wq651 wq302 wq78 wq303 (Nat.le_of_ble_eq_true rfl) (Nat.le_of_ble_eq_true rfl) (Nat.zero_le _) (Nat.zero_le _) dX9_greatestMost_25 ?_
        refine z_istore_n (pc := 28) (lv' := [(1, .int (if x1 < r2 then r2 else x1)), (0, .ref (d 0)), (2, .int x2)]) C dX9_greatestMost_28 (by decide) rfl ?_
        refine z_iinc (pc := 29) (v := (x2 + 1)) (lv' := [(2, .int (x2 + 1)), (1, .int (if x1 < r2 then r2 else x1)), (0, .ref (d 0))]) C 2 dX9_greatestMost_29 rfl rfl (by decide) rfl ?_
        refine z_goto (pc := 32) (tgt := 4) C dX9_greatestMost_32 (by decide) ?_
        refine z_sub (lv' := [(0, .ref (d 0)), (1, .int (if x1 < r2 then r2 else x1)), (2, .int (x2 + 1))]) [2, 1, 0] rfl ?_
        exact ih4 (if x1 < r2 then r2 else x1) (x2 + 1) h
  refine z_iconst (pc := 0) (v := 0) C dX9_greatestMost_0 (by decide) ?_
  refine z_istore_n (pc := 1) (lv' := [(1, .int (0 : Int32)), (0, .ref (d 0))]) C dX9_greatestMost_1 (by decide) rfl ?_
  refine z_iconst (pc := 2) (v := 0) C dX9_greatestMost_2 (by decide) ?_
  refine z_istore_n (pc := 3) (lv' := [(2, .int (0 : Int32)), (1, .int (0 : Int32)), (0, .ref (d 0))]) C dX9_greatestMost_3 (by decide) rfl ?_
  obtain ⟨n4, h⟩ := h
  refine z_sub (lv' := [(0, .ref (d 0)), (1, .int (0 : Int32)), (2, .int (0 : Int32))]) [2, 1, 0] rfl ?_
  exact L4  n4 (0 : Int32) (0 : Int32) h

def pX9_table (vNcj : Lf) (vNcs : Lf) (vNcp : Lf) (x1 : Int32) (Q : Int32 → Prop) : Prop := ((x1 = 0 → (pX1_meetings vNcj (fun r2 => (Q r2 )))) ∧ (¬ x1 = 0 → ((x1 = 1 → (pX1_greatestClear vNcj (fun r3 => (Q r3 )))) ∧ (¬ x1 = 1 → ((x1 = 2 → (pX1_allClears vNcj (fun r4 => (Q r4 )))) ∧ (¬ x1 = 2 → ((x1 = 3 → (pX1_greatestClear vNcj (fun r5 => (pX9_greatestMost vNcj vNcs (fun r6 => (Q (((vNcp 0 0) + (1 : Int32)) * ((r5 + r6) + (1 : Int32))) )))))) ∧ (¬ x1 = 3 → (Q (-1 : Int32) )))))))))
abbrev rmX9_table : Room := { frames := 3, cells := 0, slots := 0, locals := 67 }
abbrev wdX9_table : List Cond := Cond.code yX9_table cX9_table 2 (some .int) :: TB
theorem hdSX9_table : (yX9_table).cls ≠ "java/lang/invoke/MethodHandle" ∧ (yX9_table).cls ≠ "java/lang/invoke/VarHandle" ∧ (parseMethodDescriptor (yX9_table).desc).map (fun d => d.parameters.length) = some 1 := by decide +kernel
theorem hdX9_table : (yX9_table).cls = RX9 ∧ (yX9_table).cls ≠ "java/lang/invoke/MethodHandle" ∧ (yX9_table).cls ≠ "java/lang/invoke/VarHandle" ∧ (parseMethodDescriptor (yX9_table).desc).map (fun d => d.parameters.length) = some 1 := ⟨rfl, hdSX9_table⟩
set_option maxHeartbeats 4000000 in
set_option maxRecDepth 100000 in
theorem kX9_table {l : Launch} {D : va_G} {cI cJ cT : ClassId} (d : Nat → Nat) (dN : Nat → Nat) (dI : Nat → Nat) (dT : Nat → Nat) (dNc : Nat → Nat) (dNcj : Nat → Nat) (dNcs : Nat → Nat) (dNcp : Nat → Nat) (dNw : Nat → Nat) (dx : Nat → Nat) (dtt : Nat)  (v : Lf) (vNcj : Lf) (vNcs : Lf) (vNcp : Lf) (x1 : Int32) {Q : Int32 → Prop} (sz : Nat) (h : pX9_table vNcj vNcs vNcp x1 Q) : Met l yX9_table wdX9_table rmX9_table (Pz D (tyL cI cJ cT) [.ref (d 0), .int x1] ((wX9 d (dN 0) (dI 0) (dT 0) (dNc 0) (dNcj 0) (dNcs 0) (dNcp 0) (dNw 0) (dx 0) dtt v) ++ ((wX1 cI dNcj vNcj) ++ ((wX5 cI dNcs vNcs) ++ (wX2 cI dNcp vNcp)))) sz) (va_Qi (fun (r : Int32) (u : Unit) => Q r) (Bz D (tyL cI cJ cT) ((wX9 d (dN 0) (dI 0) (dT 0) (dNc 0) (dNcj 0) (dNcs 0) (dNcp 0) (dNw 0) (dx 0) dtt v) ++ ((wX1 cI dNcj vNcj) ++ ((wX5 cI dNcs vNcs) ++ (wX2 cI dNcp vNcp)))) sz (fun (u : Unit) => ((wX9 d (dN 0) (dI 0) (dT 0) (dNc 0) (dNcj 0) (dNcs 0) (dNcp 0) (dNw 0) (dx 0) dtt v) ++ ((wX1 cI dNcj vNcj) ++ ((wX5 cI dNcs vNcs) ++ (wX2 cI dNcp vNcp)))))) (va_A ((wX9 d (dN 0) (dI 0) (dT 0) (dNc 0) (dNcj 0) (dNcs 0) (dNcp 0) (dNw 0) (dx 0) dtt v) ++ ((wX1 cI dNcj vNcj) ++ ((wX5 cI dNcs vNcs) ++ (wX2 cI dNcp vNcp)))) sz)) 0 0 (va_A ((wX9 d (dN 0) (dI 0) (dT 0) (dNc 0) (dNcj 0) (dNcs 0) (dNcp 0) (dNw 0) (dx 0) dtt v) ++ ((wX1 cI dNcj vNcj) ++ ((wX5 cI dNcs vNcs) ++ (wX2 cI dNcp vNcp)))) sz) := by
  refine z_meti (cc := cX9_table) (maxL := 2) (own := RX9) (lv0 := [(0, .ref (d 0)), (1, .int x1)]) (by decide) rfl rfl (Nat.le_of_ble_eq_true rfl) rfl ?_
  intro p e s m args below meth c A QQ C hin hret
  refine z_iload_n (pc := 0) C 1 dX9_table_0 rfl ?_
  by_cases c1_0 : x1 = 0
  · have h := h.1 c1_0
    refine z_tbl (pc := 1) (tgt := 32) C dX9_table_1 0 c1_0 (by decide) (by decide) rfl (by decide) ?_
    refine z_aload_n (pc := 32) C 0 dX9_table_32 rfl ?_
    refine z_get (pc := 33) C uw9 0 rfl rfl 4 (by decide) wq533 rfl dX9_table_33 ?_
    refine z_callRi (pc := 36) C (z_runV (pc := 36) (wc := (wX1 cI dNcj vNcj)) (As := []) C (fun sz => kX1_meetings dNcj vNcj sz h) [1, 2, 3, 4, 5, 6] rfl (by decide) (gdV wq344 wq652 wq653 wq654 wq36) rfl rfl rfl hdX1_meetings 1 rfl rfl rfl ⟨Nat.le_of_ble_eq_true rfl, Nat.le_of_ble_eq_true rfl⟩ rfl (Nat.le_of_ble_eq_true rfl) ⟨Nat.zero_le _, Nat.zero_le _⟩ dX9_table_36) [1, 2, 3, 4, 5, 6] rfl (by decide) (fun r2 u2 h => ?_)
    exact hret 39 _ _ r2 () rfl h dX9_table_39
  · have h := h.2 c1_0
    by_cases c1_1 : x1 = 1
    · have h := h.1 c1_1
      refine z_tbl (pc := 1) (tgt := 40) C dX9_table_1 1 c1_1 (by decide) (by decide) rfl (by decide) ?_
      refine z_aload_n (pc := 40) C 0 dX9_table_40 rfl ?_
      refine z_get (pc := 41) C uw9 0 rfl rfl 4 (by decide) wq533 rfl dX9_table_41 ?_
      refine z_callRi (pc := 44) C (z_runV (pc := 44) (wc := (wX1 cI dNcj vNcj)) (As := []) C (fun sz => kX1_greatestClear dNcj vNcj sz h) [1, 2, 3, 4, 5, 6] rfl (by decide) (gdV wq348 wq655 wq656 wq657 wq36) rfl rfl rfl hdX1_greatestClear 1 rfl rfl rfl ⟨Nat.le_of_ble_eq_true rfl, Nat.le_of_ble_eq_true rfl⟩ rfl (Nat.le_of_ble_eq_true rfl) ⟨Nat.zero_le _, Nat.zero_le _⟩ dX9_table_44) [1, 2, 3, 4, 5, 6] rfl (by decide) (fun r3 u3 h => ?_)
      exact hret 47 _ _ r3 () rfl h dX9_table_47
    · have h := h.2 c1_1
      by_cases c1_2 : x1 = 2
      · have h := h.1 c1_2
        refine z_tbl (pc := 1) (tgt := 48) C dX9_table_1 2 c1_2 (by decide) (by decide) rfl (by decide) ?_
        refine z_aload_n (pc := 48) C 0 dX9_table_48 rfl ?_
        refine z_get (pc := 49) C uw9 0 rfl rfl 4 (by decide) wq533 rfl dX9_table_49 ?_
        refine z_callRi (pc := 52) C (z_runV (pc := 52) (wc := (wX1 cI dNcj vNcj)) (As := []) C (fun sz => kX1_allClears dNcj vNcj sz h) [1, 2, 3, 4, 5, 6] rfl (by decide) (gdV wq350 wq658 wq659 wq660 wq36) rfl rfl rfl hdX1_allClears 1 rfl rfl rfl ⟨Nat.le_of_ble_eq_true rfl, Nat.le_of_ble_eq_true rfl⟩ rfl (Nat.le_of_ble_eq_true rfl) ⟨Nat.zero_le _, Nat.zero_le _⟩ dX9_table_52) [1, 2, 3, 4, 5, 6] rfl (by decide) (fun r4 u4 h => ?_)
        exact hret 55 _ _ r4 () rfl h dX9_table_55
      · have h := h.2 c1_2
        by_cases c1_3 : x1 = 3
        · have h := h.1 c1_3
          refine z_tbl (pc := 1) (tgt := 56) C dX9_table_1 3 c1_3 (by decide) (by decide) rfl (by decide) ?_
          refine z_aload_n (pc := 56) C 0 dX9_table_56 rfl ?_
          refine z_get (pc := 57) C uw9 0 rfl rfl 6 (by decide) wq537 rfl dX9_table_57 ?_
          refine z_get (pc := 60) C uw2 15 rfl rfl 0 (by decide) wq559 rfl dX9_table_60 ?_
          refine z_iconst (pc := 63) (v := 1) C dX9_table_63 (by decide) ?_
          refine z_iadd (pc := 64) C dX9_table_64 ?_
          refine z_aload_n (pc := 65) C 0 dX9_table_65 rfl ?_
          refine z_get (pc := 66) C uw9 0 rfl rfl 4 (by decide) wq533 rfl dX9_table_66 ?_
          refine z_callRi (pc := 69) C (z_runV (pc := 69) (wc := (wX1 cI dNcj vNcj)) (As := []) C (fun sz => kX1_greatestClear dNcj vNcj sz h) [1, 2, 3, 4, 5, 6] rfl (by decide) (gdV wq348 wq655 wq656 wq657 wq36) rfl rfl rfl hdX1_greatestClear 1 rfl rfl rfl ⟨Nat.le_of_ble_eq_true rfl, Nat.le_of_ble_eq_true rfl⟩ rfl (Nat.le_of_ble_eq_true rfl) ⟨Nat.zero_le _, Nat.zero_le _⟩ dX9_table_69) [1, 2, 3, 4, 5, 6] rfl (by decide) (fun r5 u5 h => ?_)
          refine z_aload_n (pc := 72) C 0 dX9_table_72 rfl ?_
          refine z_callRi (pc := 73) C (z_runV (pc := 73) (wc := ((wX9 d (dN 0) (dI 0) (dT 0) (dNc 0) (dNcj 0) (dNcs 0) (dNcp 0) (dNw 0) (dx 0) dtt v) ++ ((wX1 cI dNcj vNcj) ++ (wX5 cI dNcs vNcs)))) (As := []) C (fun sz => kX9_greatestMost d dN dI dT dNc dNcj dNcs dNcp dNw dx dtt v vNcj vNcs sz h) [0, 1, 2, 3, 4, 5, 6, 7, 8, 9, 10, 11, 12, 13, 14] rfl (by decide) (gdV wq650 wq661 wq662 wq663 wq112) rfl rfl rfl hdX9_greatestMost 0 rfl rfl rfl ⟨Nat.le_of_ble_eq_true rfl, Nat.le_of_ble_eq_true rfl⟩ rfl (Nat.le_of_ble_eq_true rfl) ⟨Nat.zero_le _, Nat.zero_le _⟩ dX9_table_73) [0, 1, 2, 3, 4, 5, 6, 7, 8, 9, 10, 11, 12, 13, 14] rfl (by decide) (fun r6 u6 h => ?_)
          refine z_iadd (pc := 76) C dX9_table_76 ?_
          refine z_iconst (pc := 77) (v := 1) C dX9_table_77 (by decide) ?_
          refine z_iadd (pc := 78) C dX9_table_78 ?_
          refine z_imul (pc := 79) C dX9_table_79 ?_
          exact hret 80 _ _ (((vNcp 0 0) + (1 : Int32)) * ((r5 + r6) + (1 : Int32))) () rfl h dX9_table_80
        · have h := h.2 c1_3
          refine z_tblo (pc := 1) (tgt := 81) C dX9_table_1 (z_out0_3 c1_0 c1_1 c1_2 c1_3) (by decide) ?_
          refine z_iconst (pc := 81) (v := -1) C dX9_table_81 (by decide) ?_
          exact hret 82 _ _ (-1 : Int32) () rfl h dX9_table_82

def pX9_phaseOf (vNc : Lf) (vNcs : Lf) (vNcp : Lf) (x1 : Int32) (x2 : Int32) (Q : Int32 → Prop) : Prop := (pX9_within x1 (0 : Int32) ((vNcp 0 0) - (1 : Int32)) (fun r1 => ((¬ r1 = 0 → ((x2 = 0 → (vp_in x1 6 ∧ (Q (vNcp 1 x1.toNatClampNeg) ))) ∧ (¬ x2 = 0 → ((x2 = 1 → (vp_in x1 6 ∧ (Q (vNcp 2 x1.toNatClampNeg) ))) ∧ (¬ x2 = 1 → ((x2 = 2 → (vp_in x1 6 ∧ (Q (vNcp 3 x1.toNatClampNeg) ))) ∧ (¬ x2 = 2 → ((x2 = 3 → (pX0_calledPhases vNc vNcs vNcp (fun r7 => (pX9_isIn r7 x1 (fun r8 => ((r8 = 0 → (Q (0 : Int32) )) ∧ (¬ r8 = 0 → (Q (1 : Int32) )))))))) ∧ (¬ x2 = 3 → (Q (-1 : Int32) )))))))))) ∧ (r1 = 0 → (Q (-1 : Int32) )))))
abbrev rmX9_phaseOf : Room := { frames := 3, cells := 0, slots := 0, locals := 67 }
abbrev wdX9_phaseOf : List Cond := Cond.code yX9_phaseOf cX9_phaseOf 3 (some .int) :: TB
theorem hdSX9_phaseOf : (yX9_phaseOf).cls ≠ "java/lang/invoke/MethodHandle" ∧ (yX9_phaseOf).cls ≠ "java/lang/invoke/VarHandle" ∧ (parseMethodDescriptor (yX9_phaseOf).desc).map (fun d => d.parameters.length) = some 2 := by decide +kernel
theorem hdX9_phaseOf : (yX9_phaseOf).cls = RX9 ∧ (yX9_phaseOf).cls ≠ "java/lang/invoke/MethodHandle" ∧ (yX9_phaseOf).cls ≠ "java/lang/invoke/VarHandle" ∧ (parseMethodDescriptor (yX9_phaseOf).desc).map (fun d => d.parameters.length) = some 2 := ⟨rfl, hdSX9_phaseOf⟩
set_option maxHeartbeats 4000000 in
set_option maxRecDepth 100000 in
theorem kX9_phaseOf {l : Launch} {D : va_G} {cI cJ cT : ClassId} (d : Nat → Nat) (dN : Nat → Nat) (dI : Nat → Nat) (dT : Nat → Nat) (dNc : Nat → Nat) (dNcj : Nat → Nat) (dNcs : Nat → Nat) (dNcp : Nat → Nat) (dNw : Nat → Nat) (dx : Nat → Nat) (dtt : Nat) (dNcr : Nat → Nat)  (v : Lf) (vNc : Lf) (vNcs : Lf) (vNcp : Lf) (x1 : Int32) (x2 : Int32) {Q : Int32 → Prop} (sz : Nat) (h : pX9_phaseOf vNc vNcs vNcp x1 x2 Q) : Met l yX9_phaseOf wdX9_phaseOf rmX9_phaseOf (Pz D (tyL cI cJ cT) [.ref (d 0), .int x1, .int x2] ((wX9 d (dN 0) (dI 0) (dT 0) (dNc 0) (dNcj 0) (dNcs 0) (dNcp 0) (dNw 0) (dx 0) dtt v) ++ ((wX0 dNc (dNcj 0) (dNcs 0) (dNcp 0) (dNcr 0) vNc) ++ ((wX5 cI dNcs vNcs) ++ (wX2 cI dNcp vNcp)))) sz) (va_Qi (fun (r : Int32) (u : Unit) => Q r) (Bz D (tyL cI cJ cT) ((wX9 d (dN 0) (dI 0) (dT 0) (dNc 0) (dNcj 0) (dNcs 0) (dNcp 0) (dNw 0) (dx 0) dtt v) ++ ((wX0 dNc (dNcj 0) (dNcs 0) (dNcp 0) (dNcr 0) vNc) ++ ((wX5 cI dNcs vNcs) ++ (wX2 cI dNcp vNcp)))) sz (fun (u : Unit) => ((wX9 d (dN 0) (dI 0) (dT 0) (dNc 0) (dNcj 0) (dNcs 0) (dNcp 0) (dNw 0) (dx 0) dtt v) ++ ((wX0 dNc (dNcj 0) (dNcs 0) (dNcp 0) (dNcr 0) vNc) ++ ((wX5 cI dNcs vNcs) ++ (wX2 cI dNcp vNcp)))))) (va_A ((wX9 d (dN 0) (dI 0) (dT 0) (dNc 0) (dNcj 0) (dNcs 0) (dNcp 0) (dNw 0) (dx 0) dtt v) ++ ((wX0 dNc (dNcj 0) (dNcs 0) (dNcp 0) (dNcr 0) vNc) ++ ((wX5 cI dNcs vNcs) ++ (wX2 cI dNcp vNcp)))) sz)) 0 0 (va_A ((wX9 d (dN 0) (dI 0) (dT 0) (dNc 0) (dNcj 0) (dNcs 0) (dNcp 0) (dNw 0) (dx 0) dtt v) ++ ((wX0 dNc (dNcj 0) (dNcs 0) (dNcp 0) (dNcr 0) vNc) ++ ((wX5 cI dNcs vNcs) ++ (wX2 cI dNcp vNcp)))) sz) := by
  refine z_meti (cc := cX9_phaseOf) (maxL := 3) (own := RX9) (lv0 := [(0, .ref (d 0)), (1, .int x1), (2, .int x2)]) (by decide) rfl rfl (Nat.le_of_ble_eq_true rfl) rfl ?_
  intro p e s m args below meth c A QQ C hin hret
  refine z_iload_n (pc := 0) C 1 dX9_phaseOf_0 rfl ?_
  refine z_iconst (pc := 1) (v := 0) C dX9_phaseOf_1 (by decide) ?_
  refine z_aload_n (pc := 2) C 0 dX9_phaseOf_2 rfl ?_
  refine z_get (pc := 3) C uw9 0 rfl rfl 6 (by decide) wq537 rfl dX9_phaseOf_3 ?_
  refine z_get (pc := 6) C uw2 10 rfl rfl 0 (by decide) wq559 rfl dX9_phaseOf_6 ?_
  refine z_iconst (pc := 9) (v := 1) C dX9_phaseOf_9 (by decide) ?_
  refine z_isub (pc := 10) C dX9_phaseOf_10 ?_
  refine z_call0i (pc := 11) C (z_runS (pc := 11) (wc := ([] : va_W)) (As := [.int x1, .int (0 : Int32), .int ((vNcp 0 0) - (1 : Int32))]) C (fun sz => kX9_within x1 (0 : Int32) ((vNcp 0 0) - (1 : Int32)) sz h) [] rfl (by decide) (gdS wq366 wq553 wq373 wq112) rfl rfl rfl hdSX9_within ⟨Nat.le_of_ble_eq_true rfl, Nat.le_of_ble_eq_true rfl⟩ rfl (Nat.le_of_ble_eq_true rfl) ⟨Nat.zero_le _, Nat.zero_le _⟩ dX9_phaseOf_11) (fun r1 u1 h => ?_)
  refine z_if_ne (pc := 14) (tgt := 19) C dX9_phaseOf_14 (by decide) (fun c2 => ?_) (fun c2 => ?_)
  · have h := h.1 c2
    refine z_iload_n (pc := 19) C 2 dX9_phaseOf_19 rfl ?_
    by_cases c3_0 : x2 = 0
    · have h := h.1 c3_0
      refine z_tbl (pc := 20) (tgt := 52) C dX9_phaseOf_20 0 c3_0 (by decide) (by decide) rfl (by decide) ?_
      refine z_aload_n (pc := 52) C 0 dX9_phaseOf_52 rfl ?_
      refine z_get (pc := 53) C uw9 0 rfl rfl 6 (by decide) wq537 rfl dX9_phaseOf_53 ?_
      refine z_get (pc := 56) C uw2 10 rfl rfl 1 (by decide) wq665 rfl dX9_phaseOf_56 ?_
      refine z_iload_n (pc := 59) C 1 dX9_phaseOf_59 rfl ?_
      obtain ⟨g4, h⟩ := h
      refine z_iald (pc := 60) C 11 0 rfl rfl g4 (vNcp 1 x1.toNatClampNeg) rfl dX9_phaseOf_60 ?_
      exact hret 61 _ _ (vNcp 1 x1.toNatClampNeg) () rfl h dX9_phaseOf_61
    · have h := h.2 c3_0
      by_cases c3_1 : x2 = 1
      · have h := h.1 c3_1
        refine z_tbl (pc := 20) (tgt := 62) C dX9_phaseOf_20 1 c3_1 (by decide) (by decide) rfl (by decide) ?_
        refine z_aload_n (pc := 62) C 0 dX9_phaseOf_62 rfl ?_
        refine z_get (pc := 63) C uw9 0 rfl rfl 6 (by decide) wq537 rfl dX9_phaseOf_63 ?_
        refine z_get (pc := 66) C uw2 10 rfl rfl 2 (by decide) wq666 rfl dX9_phaseOf_66 ?_
        refine z_iload_n (pc := 69) C 1 dX9_phaseOf_69 rfl ?_
        obtain ⟨g5, h⟩ := h
        refine z_iald (pc := 70) C 12 0 rfl rfl g5 (vNcp 2 x1.toNatClampNeg) rfl dX9_phaseOf_70 ?_
        exact hret 71 _ _ (vNcp 2 x1.toNatClampNeg) () rfl h dX9_phaseOf_71
      · have h := h.2 c3_1
        by_cases c3_2 : x2 = 2
        · have h := h.1 c3_2
          refine z_tbl (pc := 20) (tgt := 72) C dX9_phaseOf_20 2 c3_2 (by decide) (by decide) rfl (by decide) ?_
          refine z_aload_n (pc := 72) C 0 dX9_phaseOf_72 rfl ?_
          refine z_get (pc := 73) C uw9 0 rfl rfl 6 (by decide) wq537 rfl dX9_phaseOf_73 ?_
          refine z_get (pc := 76) C uw2 10 rfl rfl 3 (by decide) wq667 rfl dX9_phaseOf_76 ?_
          refine z_iload_n (pc := 79) C 1 dX9_phaseOf_79 rfl ?_
          obtain ⟨g6, h⟩ := h
          refine z_iald (pc := 80) C 13 0 rfl rfl g6 (vNcp 3 x1.toNatClampNeg) rfl dX9_phaseOf_80 ?_
          exact hret 81 _ _ (vNcp 3 x1.toNatClampNeg) () rfl h dX9_phaseOf_81
        · have h := h.2 c3_2
          by_cases c3_3 : x2 = 3
          · have h := h.1 c3_3
            refine z_tbl (pc := 20) (tgt := 82) C dX9_phaseOf_20 3 c3_3 (by decide) (by decide) rfl (by decide) ?_
            refine z_aload_n (pc := 82) C 0 dX9_phaseOf_82 rfl ?_
            refine z_get (pc := 83) C uw9 0 rfl rfl 3 (by decide) wq531 rfl dX9_phaseOf_83 ?_
            refine z_callRi (pc := 86) C (z_runV (pc := 86) (wc := ((wX0 dNc (dNcj 0) (dNcs 0) (dNcp 0) (dNcr 0) vNc) ++ ((wX5 cI dNcs vNcs) ++ (wX2 cI dNcp vNcp)))) (As := []) C (fun sz => kX0_calledPhases dNc dNcj dNcs dNcp dNcr vNc vNcs vNcp sz h) [1, 2, 3, 4, 5, 6, 7, 8, 9, 10, 11, 12, 13] rfl (by decide) (gdV wq181 wq668 wq198 wq199 wq108) rfl rfl rfl hdX0_calledPhases 1 rfl rfl rfl ⟨Nat.le_of_ble_eq_true rfl, Nat.le_of_ble_eq_true rfl⟩ rfl (Nat.le_of_ble_eq_true rfl) ⟨Nat.zero_le _, Nat.zero_le _⟩ dX9_phaseOf_86) [1, 2, 3, 4, 5, 6, 7, 8, 9, 10, 11, 12, 13] rfl (by decide) (fun r7 u7 h => ?_)
            refine z_iload_n (pc := 89) C 1 dX9_phaseOf_89 rfl ?_
            refine z_call0i (pc := 90) C (z_runS (pc := 90) (wc := ([] : va_W)) (As := [.int r7, .int x1]) C (fun sz => kX9_isIn r7 x1 sz h) [] rfl (by decide) (gdS wq109 wq669 wq111 wq112) rfl rfl rfl hdSX9_isIn ⟨Nat.le_of_ble_eq_true rfl, Nat.le_of_ble_eq_true rfl⟩ rfl (Nat.le_of_ble_eq_true rfl) ⟨Nat.zero_le _, Nat.zero_le _⟩ dX9_phaseOf_90) (fun r8 u8 h => ?_)
            refine z_if_eq (pc := 93) (tgt := 100) C dX9_phaseOf_93 (by decide) (fun c9 => ?_) (fun c9 => ?_)
            · have h := h.1 c9
              refine z_iconst (pc := 100) (v := 0) C dX9_phaseOf_100 (by decide) ?_
              exact hret 101 _ _ (0 : Int32) () rfl h dX9_phaseOf_101
            · have h := h.2 c9
              refine z_iconst (pc := 96) (v := 1) C dX9_phaseOf_96 (by decide) ?_
              refine z_goto (pc := 97) (tgt := 101) C dX9_phaseOf_97 (by decide) ?_
              exact hret 101 _ _ (1 : Int32) () rfl h dX9_phaseOf_101
          · have h := h.2 c3_3
            refine z_tblo (pc := 20) (tgt := 102) C dX9_phaseOf_20 (z_out0_3 c3_0 c3_1 c3_2 c3_3) (by decide) ?_
            refine z_iconst (pc := 102) (v := -1) C dX9_phaseOf_102 (by decide) ?_
            exact hret 103 _ _ (-1 : Int32) () rfl h dX9_phaseOf_103
  · have h := h.2 c2
    refine z_iconst (pc := 17) (v := -1) C dX9_phaseOf_17 (by decide) ?_
    exact hret 18 _ _ (-1 : Int32) () rfl h dX9_phaseOf_18

def pX9_taken (vNcj : Lf) (x1 : Int32) (x2 : Int32) (Q : Int32 → Prop) : Prop := (pX9_isSignal vNcj x1 (fun r1 => ((¬ r1 = 0 → (pX9_within x2 (0 : Int32) ((5 : Int32) - (1 : Int32)) (fun r4 => ((¬ r4 = 0 → (vp_in x1 8 ∧ (vp_in x2 5 ∧ (pX9_isIn (tbK x2.toNatClampNeg) (vNcj 1 x1.toNatClampNeg) (fun r9 => ((r9 = 0 → (Q (-12 : Int32) )) ∧ (¬ r9 = 0 → (Q (vNcj 1 x1.toNatClampNeg) )))))))) ∧ (r4 = 0 → (Q (-2 : Int32) )))))) ∧ (r1 = 0 → (Q (-1 : Int32) )))))
abbrev rmX9_taken : Room := { frames := 2, cells := 0, slots := 0, locals := 43 }
abbrev wdX9_taken : List Cond := Cond.code yX9_taken cX9_taken 4 (some .int) :: TB
theorem hdSX9_taken : (yX9_taken).cls ≠ "java/lang/invoke/MethodHandle" ∧ (yX9_taken).cls ≠ "java/lang/invoke/VarHandle" ∧ (parseMethodDescriptor (yX9_taken).desc).map (fun d => d.parameters.length) = some 2 := by decide +kernel
theorem hdX9_taken : (yX9_taken).cls = RX9 ∧ (yX9_taken).cls ≠ "java/lang/invoke/MethodHandle" ∧ (yX9_taken).cls ≠ "java/lang/invoke/VarHandle" ∧ (parseMethodDescriptor (yX9_taken).desc).map (fun d => d.parameters.length) = some 2 := ⟨rfl, hdSX9_taken⟩
set_option maxHeartbeats 4000000 in
set_option maxRecDepth 100000 in
theorem kX9_taken {l : Launch} {D : va_G} {cI cJ cT : ClassId} (d : Nat → Nat) (dN : Nat → Nat) (dI : Nat → Nat) (dT : Nat → Nat) (dNc : Nat → Nat) (dNcj : Nat → Nat) (dNcs : Nat → Nat) (dNcp : Nat → Nat) (dNw : Nat → Nat) (dx : Nat → Nat) (dtt : Nat)  (v : Lf) (vNcj : Lf) (x1 : Int32) (x2 : Int32) {Q : Int32 → Prop} (sz : Nat) (h : pX9_taken vNcj x1 x2 Q) : Met l yX9_taken wdX9_taken rmX9_taken (Pz D (tyL cI cJ cT) [.ref (d 0), .int x1, .int x2] ((wX9 d (dN 0) (dI 0) (dT 0) (dNc 0) (dNcj 0) (dNcs 0) (dNcp 0) (dNw 0) (dx 0) dtt v) ++ (wX1 cI dNcj vNcj)) sz) (va_Qi (fun (r : Int32) (u : Unit) => Q r) (Bz D (tyL cI cJ cT) ((wX9 d (dN 0) (dI 0) (dT 0) (dNc 0) (dNcj 0) (dNcs 0) (dNcp 0) (dNw 0) (dx 0) dtt v) ++ (wX1 cI dNcj vNcj)) sz (fun (u : Unit) => ((wX9 d (dN 0) (dI 0) (dT 0) (dNc 0) (dNcj 0) (dNcs 0) (dNcp 0) (dNw 0) (dx 0) dtt v) ++ (wX1 cI dNcj vNcj)))) (va_A ((wX9 d (dN 0) (dI 0) (dT 0) (dNc 0) (dNcj 0) (dNcs 0) (dNcp 0) (dNw 0) (dx 0) dtt v) ++ (wX1 cI dNcj vNcj)) sz)) 0 0 (va_A ((wX9 d (dN 0) (dI 0) (dT 0) (dNc 0) (dNcj 0) (dNcs 0) (dNcp 0) (dNw 0) (dx 0) dtt v) ++ (wX1 cI dNcj vNcj)) sz) := by
  refine z_meti (cc := cX9_taken) (maxL := 4) (own := RX9) (lv0 := [(0, .ref (d 0)), (1, .int x1), (2, .int x2)]) (by decide) rfl rfl (Nat.le_of_ble_eq_true rfl) rfl ?_
  intro p e s m args below meth c A QQ C hin hret
  refine z_aload_n (pc := 0) C 0 dX9_taken_0 rfl ?_
  refine z_iload_n (pc := 1) C 1 dX9_taken_1 rfl ?_
  refine z_callRi (pc := 2) C (z_runV (pc := 2) (wc := ((wX9 d (dN 0) (dI 0) (dT 0) (dNc 0) (dNcj 0) (dNcs 0) (dNcp 0) (dNw 0) (dx 0) dtt v) ++ (wX1 cI dNcj vNcj))) (As := [.int x1]) C (fun sz => kX9_isSignal d dN dI dT dNc dNcj dNcs dNcp dNw dx dtt v vNcj x1 sz h) [0, 1, 2, 3, 4, 5, 6] rfl (by decide) (gdV wq558 wq561 wq562 wq563 wq112) rfl rfl rfl hdX9_isSignal 0 rfl rfl rfl ⟨Nat.le_of_ble_eq_true rfl, Nat.le_of_ble_eq_true rfl⟩ rfl (Nat.le_of_ble_eq_true rfl) ⟨Nat.zero_le _, Nat.zero_le _⟩ dX9_taken_2) [0, 1, 2, 3, 4, 5, 6] rfl (by decide) (fun r1 u1 h => ?_)
  refine z_if_ne (pc := 5) (tgt := 10) C dX9_taken_5 (by decide) (fun c2 => ?_) (fun c2 => ?_)
  · have h := h.1 c2
    refine z_iload_n (pc := 10) C 2 dX9_taken_10 rfl ?_
    refine z_iconst (pc := 11) (v := 0) C dX9_taken_11 (by decide) ?_
    refine z_gets (pc := 12) C (CX.s2 C) wq672 dX9_taken_12 (fun z3 hz3 => ?_)
    refine z_tlen (pc := 15) C hz3 (5 : Int32) (by decide) dX9_taken_15 ?_
    refine z_iconst (pc := 16) (v := 1) C dX9_taken_16 (by decide) ?_
    refine z_isub (pc := 17) C dX9_taken_17 ?_
    refine z_call0i (pc := 18) C (z_runS (pc := 18) (wc := ([] : va_W)) (As := [.int x2, .int (0 : Int32), .int ((5 : Int32) - (1 : Int32))]) C (fun sz => kX9_within x2 (0 : Int32) ((5 : Int32) - (1 : Int32)) sz h) [] rfl (by decide) (gdS wq366 wq553 wq373 wq112) rfl rfl rfl hdSX9_within ⟨Nat.le_of_ble_eq_true rfl, Nat.le_of_ble_eq_true rfl⟩ rfl (Nat.le_of_ble_eq_true rfl) ⟨Nat.zero_le _, Nat.zero_le _⟩ dX9_taken_18) (fun r4 u4 h => ?_)
    refine z_if_ne (pc := 21) (tgt := 27) C dX9_taken_21 (by decide) (fun c5 => ?_) (fun c5 => ?_)
    · have h := h.1 c5
      refine z_aload_n (pc := 27) C 0 dX9_taken_27 rfl ?_
      refine z_get (pc := 28) C uw9 0 rfl rfl 4 (by decide) wq533 rfl dX9_taken_28 ?_
      refine z_get (pc := 31) C uw1 1 rfl rfl 2 (by decide) wq673 rfl dX9_taken_31 ?_
      refine z_iload_n (pc := 34) C 1 dX9_taken_34 rfl ?_
      obtain ⟨g6, h⟩ := h
      refine z_iald (pc := 35) C 2 0 rfl rfl g6 (vNcj 1 x1.toNatClampNeg) rfl dX9_taken_35 ?_
      refine z_istore_n (pc := 36) (lv' := [(3, .int (vNcj 1 x1.toNatClampNeg)), (0, .ref (d 0)), (1, .int x1), (2, .int x2)]) C dX9_taken_36 (by decide) rfl ?_
      refine z_gets (pc := 37) C (CX.s2 C) wq672 dX9_taken_37 (fun z7 hz7 => ?_)
      refine z_iload_n (pc := 40) C 3 dX9_taken_40 rfl ?_
      obtain ⟨g8, h⟩ := h
      refine z_ti (pc := 41) C hz7 g8 (tbK x2.toNatClampNeg) rfl dX9_taken_41 ?_
      refine z_iload_n (pc := 42) C 0 dX9_taken_42 rfl ?_
      refine z_call0i (pc := 43) C (z_runS (pc := 43) (wc := ([] : va_W)) (As := [.int (tbK x2.toNatClampNeg), .int (vNcj 1 x1.toNatClampNeg)]) C (fun sz => kX9_isIn (tbK x2.toNatClampNeg) (vNcj 1 x1.toNatClampNeg) sz h) [] rfl (by decide) (gdS wq109 wq669 wq111 wq112) rfl rfl rfl hdSX9_isIn ⟨Nat.le_of_ble_eq_true rfl, Nat.le_of_ble_eq_true rfl⟩ rfl (Nat.le_of_ble_eq_true rfl) ⟨Nat.zero_le _, Nat.zero_le _⟩ dX9_taken_43) (fun r9 u9 h => ?_)
      refine z_if_eq (pc := 46) (tgt := 53) C dX9_taken_46 (by decide) (fun c10 => ?_) (fun c10 => ?_)
      · have h := h.1 c10
        refine z_bipush (pc := 53) (v := -12) C dX9_taken_53 (by decide) ?_
        exact hret 55 _ _ (-12 : Int32) () rfl h dX9_taken_55
      · have h := h.2 c10
        refine z_iload_n (pc := 49) C 0 dX9_taken_49 rfl ?_
        refine z_goto (pc := 50) (tgt := 55) C dX9_taken_50 (by decide) ?_
        exact hret 55 _ _ (vNcj 1 x1.toNatClampNeg) () rfl h dX9_taken_55
    · have h := h.2 c5
      refine z_bipush (pc := 24) (v := -2) C dX9_taken_24 (by decide) ?_
      exact hret 26 _ _ (-2 : Int32) () rfl h dX9_taken_26
  · have h := h.2 c2
    refine z_iconst (pc := 8) (v := -1) C dX9_taken_8 (by decide) ?_
    exact hret 9 _ _ (-1 : Int32) () rfl h dX9_taken_9

def pX9_recorded (vNcr : Lf) (x1 : Int32) (x2 : Int32) (Q : Int32 → Prop) : Prop := (pX9_within x2 (0 : Int32) (2 : Int32) (fun r1 => ((¬ r1 = 0 → (pX9_within x1 (0 : Int32) ((vNcr 0 0) - (1 : Int32)) (fun r3 => ((r3 = 0 → (Q (-2 : Int32) )) ∧ (¬ r3 = 0 → (pX4_at 72 vNcr (((vNcr 0 0) - (1 : Int32)) - x1) x2 (fun r5 => (Q r5 )))))))) ∧ (r1 = 0 → (Q (-1 : Int32) )))))
abbrev rmX9_recorded : Room := { frames := 1, cells := 0, slots := 0, locals := 22 }
abbrev wdX9_recorded : List Cond := Cond.code yX9_recorded cX9_recorded 4 (some .int) :: TB
theorem hdSX9_recorded : (yX9_recorded).cls ≠ "java/lang/invoke/MethodHandle" ∧ (yX9_recorded).cls ≠ "java/lang/invoke/VarHandle" ∧ (parseMethodDescriptor (yX9_recorded).desc).map (fun d => d.parameters.length) = some 2 := by decide +kernel
theorem hdX9_recorded : (yX9_recorded).cls = RX9 ∧ (yX9_recorded).cls ≠ "java/lang/invoke/MethodHandle" ∧ (yX9_recorded).cls ≠ "java/lang/invoke/VarHandle" ∧ (parseMethodDescriptor (yX9_recorded).desc).map (fun d => d.parameters.length) = some 2 := ⟨rfl, hdSX9_recorded⟩
set_option maxHeartbeats 4000000 in
set_option maxRecDepth 100000 in
theorem kX9_recorded {l : Launch} {D : va_G} {cI cJ cT : ClassId} (d : Nat → Nat) (dN : Nat → Nat) (dI : Nat → Nat) (dT : Nat → Nat) (dNc : Nat → Nat) (dNcj : Nat → Nat) (dNcs : Nat → Nat) (dNcp : Nat → Nat) (dNw : Nat → Nat) (dx : Nat → Nat) (dtt : Nat) (dNcr : Nat → Nat)  (v : Lf) (vNc : Lf) (vNcr : Lf) (x1 : Int32) (x2 : Int32) {Q : Int32 → Prop} (sz : Nat) (h : pX9_recorded vNcr x1 x2 Q) : Met l yX9_recorded wdX9_recorded rmX9_recorded (Pz D (tyL cI cJ cT) [.ref (d 0), .int x1, .int x2] ((wX9 d (dN 0) (dI 0) (dT 0) (dNc 0) (dNcj 0) (dNcs 0) (dNcp 0) (dNw 0) (dx 0) dtt v) ++ ((wX0 dNc (dNcj 0) (dNcs 0) (dNcp 0) (dNcr 0) vNc) ++ (wX4 cI 72 dNcr vNcr))) sz) (va_Qi (fun (r : Int32) (u : Unit) => Q r) (Bz D (tyL cI cJ cT) ((wX9 d (dN 0) (dI 0) (dT 0) (dNc 0) (dNcj 0) (dNcs 0) (dNcp 0) (dNw 0) (dx 0) dtt v) ++ ((wX0 dNc (dNcj 0) (dNcs 0) (dNcp 0) (dNcr 0) vNc) ++ (wX4 cI 72 dNcr vNcr))) sz (fun (u : Unit) => ((wX9 d (dN 0) (dI 0) (dT 0) (dNc 0) (dNcj 0) (dNcs 0) (dNcp 0) (dNw 0) (dx 0) dtt v) ++ ((wX0 dNc (dNcj 0) (dNcs 0) (dNcp 0) (dNcr 0) vNc) ++ (wX4 cI 72 dNcr vNcr))))) (va_A ((wX9 d (dN 0) (dI 0) (dT 0) (dNc 0) (dNcj 0) (dNcs 0) (dNcp 0) (dNw 0) (dx 0) dtt v) ++ ((wX0 dNc (dNcj 0) (dNcs 0) (dNcp 0) (dNcr 0) vNc) ++ (wX4 cI 72 dNcr vNcr))) sz)) 0 0 (va_A ((wX9 d (dN 0) (dI 0) (dT 0) (dNc 0) (dNcj 0) (dNcs 0) (dNcp 0) (dNw 0) (dx 0) dtt v) ++ ((wX0 dNc (dNcj 0) (dNcs 0) (dNcp 0) (dNcr 0) vNc) ++ (wX4 cI 72 dNcr vNcr))) sz) := by
  refine z_meti (cc := cX9_recorded) (maxL := 4) (own := RX9) (lv0 := [(0, .ref (d 0)), (1, .int x1), (2, .int x2)]) (by decide) rfl rfl (Nat.le_of_ble_eq_true rfl) rfl ?_
  intro p e s m args below meth c A QQ C hin hret
  refine z_iload_n (pc := 0) C 2 dX9_recorded_0 rfl ?_
  refine z_iconst (pc := 1) (v := 0) C dX9_recorded_1 (by decide) ?_
  refine z_iconst (pc := 2) (v := 2) C dX9_recorded_2 (by decide) ?_
  refine z_call0i (pc := 3) C (z_runS (pc := 3) (wc := ([] : va_W)) (As := [.int x2, .int (0 : Int32), .int (2 : Int32)]) C (fun sz => kX9_within x2 (0 : Int32) (2 : Int32) sz h) [] rfl (by decide) (gdS wq366 wq553 wq373 wq112) rfl rfl rfl hdSX9_within ⟨Nat.le_of_ble_eq_true rfl, Nat.le_of_ble_eq_true rfl⟩ rfl (Nat.le_of_ble_eq_true rfl) ⟨Nat.zero_le _, Nat.zero_le _⟩ dX9_recorded_3) (fun r1 u1 h => ?_)
  refine z_if_ne (pc := 6) (tgt := 11) C dX9_recorded_6 (by decide) (fun c2 => ?_) (fun c2 => ?_)
  · have h := h.1 c2
    refine z_aload_n (pc := 11) C 0 dX9_recorded_11 rfl ?_
    refine z_get (pc := 12) C uw9 0 rfl rfl 3 (by decide) wq531 rfl dX9_recorded_12 ?_
    refine z_get (pc := 15) C uw0 1 rfl rfl 3 (by decide) wq675 rfl dX9_recorded_15 ?_
    refine z_astore_n (pc := 18) (lv' := [(3, .ref (dNcr 0)), (0, .ref (d 0)), (1, .int x1), (2, .int x2)]) C dX9_recorded_18 (by decide) rfl ?_
    refine z_iload_n (pc := 19) C 2 dX9_recorded_19 rfl ?_
    refine z_iconst (pc := 20) (v := 0) C dX9_recorded_20 (by decide) ?_
    refine z_aload_n (pc := 21) C 0 dX9_recorded_21 rfl ?_
    refine z_get (pc := 22) C uw4 2 rfl rfl 0 (by decide) wq676 rfl dX9_recorded_22 ?_
    refine z_iconst (pc := 25) (v := 1) C dX9_recorded_25 (by decide) ?_
    refine z_isub (pc := 26) C dX9_recorded_26 ?_
    refine z_call0i (pc := 27) C (z_runS (pc := 27) (wc := ([] : va_W)) (As := [.int x1, .int (0 : Int32), .int ((vNcr 0 0) - (1 : Int32))]) C (fun sz => kX9_within x1 (0 : Int32) ((vNcr 0 0) - (1 : Int32)) sz h) [] rfl (by decide) (gdS wq366 wq553 wq373 wq112) rfl rfl rfl hdSX9_within ⟨Nat.le_of_ble_eq_true rfl, Nat.le_of_ble_eq_true rfl⟩ rfl (Nat.le_of_ble_eq_true rfl) ⟨Nat.zero_le _, Nat.zero_le _⟩ dX9_recorded_27) (fun r3 u3 h => ?_)
    refine z_if_eq (pc := 30) (tgt := 49) C dX9_recorded_30 (by decide) (fun c4 => ?_) (fun c4 => ?_)
    · have h := h.1 c4
      refine z_bipush (pc := 49) (v := -2) C dX9_recorded_49 (by decide) ?_
      exact hret 51 _ _ (-2 : Int32) () rfl h dX9_recorded_51
    · have h := h.2 c4
      refine z_aload_n (pc := 33) C 0 dX9_recorded_33 rfl ?_
      refine z_aload_n (pc := 34) C 0 dX9_recorded_34 rfl ?_
      refine z_get (pc := 35) C uw4 2 rfl rfl 0 (by decide) wq676 rfl dX9_recorded_35 ?_
      refine z_iconst (pc := 38) (v := 1) C dX9_recorded_38 (by decide) ?_
      refine z_isub (pc := 39) C dX9_recorded_39 ?_
      refine z_iload_n (pc := 40) C 2 dX9_recorded_40 rfl ?_
      refine z_isub (pc := 41) C dX9_recorded_41 ?_
      refine z_iload_n (pc := 42) C 3 dX9_recorded_42 rfl ?_
      refine z_callRi (pc := 43) C (z_runV (pc := 43) (wc := (wX4 cI 72 dNcr vNcr)) (As := [.int (((vNcr 0 0) - (1 : Int32)) - x1), .int x2]) C (fun sz => kX4_at dNcr 72 vNcr (((vNcr 0 0) - (1 : Int32)) - x1) x2 sz h) [2, 3] rfl (by decide) (gdV wq288 wq677 wq292 wq293 wq48) rfl rfl rfl hdX4_at 2 rfl rfl rfl ⟨Nat.le_of_ble_eq_true rfl, Nat.le_of_ble_eq_true rfl⟩ rfl (Nat.le_of_ble_eq_true rfl) ⟨Nat.zero_le _, Nat.zero_le _⟩ dX9_recorded_43) [2, 3] rfl (by decide) (fun r5 u5 h => ?_)
      refine z_goto (pc := 46) (tgt := 51) C dX9_recorded_46 (by decide) ?_
      exact hret 51 _ _ r5 () rfl h dX9_recorded_51
  · have h := h.2 c2
    refine z_iconst (pc := 9) (v := -1) C dX9_recorded_9 (by decide) ?_
    exact hret 10 _ _ (-1 : Int32) () rfl h dX9_recorded_10

def pX9_greens (vNcj : Lf) (vNcr : Lf) (x1 : Int32) (x2 : Int32) (Q : Int32 → Prop) : Prop := (pX9_isSignal vNcj x1 (fun r1 => ((¬ r1 = 0 → ((x2 = 0 → (pX0_recordedGreens vNcr x1 (fun r4 => (Q r4 )))) ∧ (¬ x2 = 0 → ((x2 = 1 → (pX0_recordedTime vNcr x1 (fun r5 => (Q r5 )))) ∧ (¬ x2 = 1 → ((x2 = 2 → (pX0_shortestGreen vNcr x1 (fun r6 => (Q r6 )))) ∧ (¬ x2 = 2 → ((x2 = 3 → (pX0_longestGreen vNcr x1 (fun r7 => (Q r7 )))) ∧ (¬ x2 = 3 → (Q (-1 : Int32) )))))))))) ∧ (r1 = 0 → (Q (-1 : Int32) )))))
abbrev rmX9_greens : Room := { frames := 3, cells := 0, slots := 0, locals := 66 }
abbrev wdX9_greens : List Cond := Cond.code yX9_greens cX9_greens 3 (some .int) :: TB
theorem hdSX9_greens : (yX9_greens).cls ≠ "java/lang/invoke/MethodHandle" ∧ (yX9_greens).cls ≠ "java/lang/invoke/VarHandle" ∧ (parseMethodDescriptor (yX9_greens).desc).map (fun d => d.parameters.length) = some 2 := by decide +kernel
theorem hdX9_greens : (yX9_greens).cls = RX9 ∧ (yX9_greens).cls ≠ "java/lang/invoke/MethodHandle" ∧ (yX9_greens).cls ≠ "java/lang/invoke/VarHandle" ∧ (parseMethodDescriptor (yX9_greens).desc).map (fun d => d.parameters.length) = some 2 := ⟨rfl, hdSX9_greens⟩
set_option maxHeartbeats 4000000 in
set_option maxRecDepth 100000 in
theorem kX9_greens {l : Launch} {D : va_G} {cI cJ cT : ClassId} (d : Nat → Nat) (dN : Nat → Nat) (dI : Nat → Nat) (dT : Nat → Nat) (dNc : Nat → Nat) (dNcj : Nat → Nat) (dNcs : Nat → Nat) (dNcp : Nat → Nat) (dNw : Nat → Nat) (dx : Nat → Nat) (dtt : Nat) (dNcr : Nat → Nat)  (v : Lf) (vNc : Lf) (vNcj : Lf) (vNcr : Lf) (x1 : Int32) (x2 : Int32) {Q : Int32 → Prop} (sz : Nat) (h : pX9_greens vNcj vNcr x1 x2 Q) : Met l yX9_greens wdX9_greens rmX9_greens (Pz D (tyL cI cJ cT) [.ref (d 0), .int x1, .int x2] ((wX9 d (dN 0) (dI 0) (dT 0) (dNc 0) (dNcj 0) (dNcs 0) (dNcp 0) (dNw 0) (dx 0) dtt v) ++ ((wX0 dNc (dNcj 0) (dNcs 0) (dNcp 0) (dNcr 0) vNc) ++ ((wX1 cI dNcj vNcj) ++ (wX4 cI 72 dNcr vNcr)))) sz) (va_Qi (fun (r : Int32) (u : Unit) => Q r) (Bz D (tyL cI cJ cT) ((wX9 d (dN 0) (dI 0) (dT 0) (dNc 0) (dNcj 0) (dNcs 0) (dNcp 0) (dNw 0) (dx 0) dtt v) ++ ((wX0 dNc (dNcj 0) (dNcs 0) (dNcp 0) (dNcr 0) vNc) ++ ((wX1 cI dNcj vNcj) ++ (wX4 cI 72 dNcr vNcr)))) sz (fun (u : Unit) => ((wX9 d (dN 0) (dI 0) (dT 0) (dNc 0) (dNcj 0) (dNcs 0) (dNcp 0) (dNw 0) (dx 0) dtt v) ++ ((wX0 dNc (dNcj 0) (dNcs 0) (dNcp 0) (dNcr 0) vNc) ++ ((wX1 cI dNcj vNcj) ++ (wX4 cI 72 dNcr vNcr)))))) (va_A ((wX9 d (dN 0) (dI 0) (dT 0) (dNc 0) (dNcj 0) (dNcs 0) (dNcp 0) (dNw 0) (dx 0) dtt v) ++ ((wX0 dNc (dNcj 0) (dNcs 0) (dNcp 0) (dNcr 0) vNc) ++ ((wX1 cI dNcj vNcj) ++ (wX4 cI 72 dNcr vNcr)))) sz)) 0 0 (va_A ((wX9 d (dN 0) (dI 0) (dT 0) (dNc 0) (dNcj 0) (dNcs 0) (dNcp 0) (dNw 0) (dx 0) dtt v) ++ ((wX0 dNc (dNcj 0) (dNcs 0) (dNcp 0) (dNcr 0) vNc) ++ ((wX1 cI dNcj vNcj) ++ (wX4 cI 72 dNcr vNcr)))) sz) := by
  refine z_meti (cc := cX9_greens) (maxL := 3) (own := RX9) (lv0 := [(0, .ref (d 0)), (1, .int x1), (2, .int x2)]) (by decide) rfl rfl (Nat.le_of_ble_eq_true rfl) rfl ?_
  intro p e s m args below meth c A QQ C hin hret
  refine z_aload_n (pc := 0) C 0 dX9_greens_0 rfl ?_
  refine z_iload_n (pc := 1) C 1 dX9_greens_1 rfl ?_
  refine z_callRi (pc := 2) C (z_runV (pc := 2) (wc := ((wX9 d (dN 0) (dI 0) (dT 0) (dNc 0) (dNcj 0) (dNcs 0) (dNcp 0) (dNw 0) (dx 0) dtt v) ++ (wX1 cI dNcj vNcj))) (As := [.int x1]) C (fun sz => kX9_isSignal d dN dI dT dNc dNcj dNcs dNcp dNw dx dtt v vNcj x1 sz h) [0, 2, 3, 4, 5, 6, 7] rfl (by decide) (gdV wq558 wq561 wq562 wq563 wq112) rfl rfl rfl hdX9_isSignal 0 rfl rfl rfl ⟨Nat.le_of_ble_eq_true rfl, Nat.le_of_ble_eq_true rfl⟩ rfl (Nat.le_of_ble_eq_true rfl) ⟨Nat.zero_le _, Nat.zero_le _⟩ dX9_greens_2) [0, 2, 3, 4, 5, 6, 7] rfl (by decide) (fun r1 u1 h => ?_)
  refine z_if_ne (pc := 5) (tgt := 10) C dX9_greens_5 (by decide) (fun c2 => ?_) (fun c2 => ?_)
  · have h := h.1 c2
    refine z_iload_n (pc := 10) C 2 dX9_greens_10 rfl ?_
    by_cases c3_0 : x2 = 0
    · have h := h.1 c3_0
      refine z_tbl (pc := 11) (tgt := 40) C dX9_greens_11 0 c3_0 (by decide) (by decide) rfl (by decide) ?_
      refine z_aload_n (pc := 40) C 0 dX9_greens_40 rfl ?_
      refine z_get (pc := 41) C uw9 0 rfl rfl 3 (by decide) wq531 rfl dX9_greens_41 ?_
      refine z_iload_n (pc := 44) C 1 dX9_greens_44 rfl ?_
      refine z_callRi (pc := 45) C (z_runV (pc := 45) (wc := ((wX0 dNc (dNcj 0) (dNcs 0) (dNcp 0) (dNcr 0) vNc) ++ (wX4 cI 72 dNcr vNcr))) (As := [.int x1]) C (fun sz => kX0_recordedGreens dNc dNcj dNcs dNcp dNcr vNc vNcr x1 sz h) [1, 8, 9] rfl (by decide) (gdV wq289 wq678 wq679 wq680 wq108) rfl rfl rfl hdX0_recordedGreens 1 rfl rfl rfl ⟨Nat.le_of_ble_eq_true rfl, Nat.le_of_ble_eq_true rfl⟩ rfl (Nat.le_of_ble_eq_true rfl) ⟨Nat.zero_le _, Nat.zero_le _⟩ dX9_greens_45) [1, 8, 9] rfl (by decide) (fun r4 u4 h => ?_)
      exact hret 48 _ _ r4 () rfl h dX9_greens_48
    · have h := h.2 c3_0
      by_cases c3_1 : x2 = 1
      · have h := h.1 c3_1
        refine z_tbl (pc := 11) (tgt := 49) C dX9_greens_11 1 c3_1 (by decide) (by decide) rfl (by decide) ?_
        refine z_aload_n (pc := 49) C 0 dX9_greens_49 rfl ?_
        refine z_get (pc := 50) C uw9 0 rfl rfl 3 (by decide) wq531 rfl dX9_greens_50 ?_
        refine z_iload_n (pc := 53) C 1 dX9_greens_53 rfl ?_
        refine z_callRi (pc := 54) C (z_runV (pc := 54) (wc := ((wX0 dNc (dNcj 0) (dNcs 0) (dNcp 0) (dNcr 0) vNc) ++ (wX4 cI 72 dNcr vNcr))) (As := [.int x1]) C (fun sz => kX0_recordedTime dNc dNcj dNcs dNcp dNcr vNc vNcr x1 sz h) [1, 8, 9] rfl (by decide) (gdV wq295 wq681 wq682 wq683 wq108) rfl rfl rfl hdX0_recordedTime 1 rfl rfl rfl ⟨Nat.le_of_ble_eq_true rfl, Nat.le_of_ble_eq_true rfl⟩ rfl (Nat.le_of_ble_eq_true rfl) ⟨Nat.zero_le _, Nat.zero_le _⟩ dX9_greens_54) [1, 8, 9] rfl (by decide) (fun r5 u5 h => ?_)
        exact hret 57 _ _ r5 () rfl h dX9_greens_57
      · have h := h.2 c3_1
        by_cases c3_2 : x2 = 2
        · have h := h.1 c3_2
          refine z_tbl (pc := 11) (tgt := 58) C dX9_greens_11 2 c3_2 (by decide) (by decide) rfl (by decide) ?_
          refine z_aload_n (pc := 58) C 0 dX9_greens_58 rfl ?_
          refine z_get (pc := 59) C uw9 0 rfl rfl 3 (by decide) wq531 rfl dX9_greens_59 ?_
          refine z_iload_n (pc := 62) C 1 dX9_greens_62 rfl ?_
          refine z_callRi (pc := 63) C (z_runV (pc := 63) (wc := ((wX0 dNc (dNcj 0) (dNcs 0) (dNcp 0) (dNcr 0) vNc) ++ (wX4 cI 72 dNcr vNcr))) (As := [.int x1]) C (fun sz => kX0_shortestGreen dNc dNcj dNcs dNcp dNcr vNc vNcr x1 sz h) [1, 8, 9] rfl (by decide) (gdV wq299 wq684 wq685 wq686 wq108) rfl rfl rfl hdX0_shortestGreen 1 rfl rfl rfl ⟨Nat.le_of_ble_eq_true rfl, Nat.le_of_ble_eq_true rfl⟩ rfl (Nat.le_of_ble_eq_true rfl) ⟨Nat.zero_le _, Nat.zero_le _⟩ dX9_greens_63) [1, 8, 9] rfl (by decide) (fun r6 u6 h => ?_)
          exact hret 66 _ _ r6 () rfl h dX9_greens_66
        · have h := h.2 c3_2
          by_cases c3_3 : x2 = 3
          · have h := h.1 c3_3
            refine z_tbl (pc := 11) (tgt := 67) C dX9_greens_11 3 c3_3 (by decide) (by decide) rfl (by decide) ?_
            refine z_aload_n (pc := 67) C 0 dX9_greens_67 rfl ?_
            refine z_get (pc := 68) C uw9 0 rfl rfl 3 (by decide) wq531 rfl dX9_greens_68 ?_
            refine z_iload_n (pc := 71) C 1 dX9_greens_71 rfl ?_
            refine z_callRi (pc := 72) C (z_runV (pc := 72) (wc := ((wX0 dNc (dNcj 0) (dNcs 0) (dNcp 0) (dNcr 0) vNc) ++ (wX4 cI 72 dNcr vNcr))) (As := [.int x1]) C (fun sz => kX0_longestGreen dNc dNcj dNcs dNcp dNcr vNc vNcr x1 sz h) [1, 8, 9] rfl (by decide) (gdV wq300 wq687 wq688 wq689 wq108) rfl rfl rfl hdX0_longestGreen 1 rfl rfl rfl ⟨Nat.le_of_ble_eq_true rfl, Nat.le_of_ble_eq_true rfl⟩ rfl (Nat.le_of_ble_eq_true rfl) ⟨Nat.zero_le _, Nat.zero_le _⟩ dX9_greens_72) [1, 8, 9] rfl (by decide) (fun r7 u7 h => ?_)
            exact hret 75 _ _ r7 () rfl h dX9_greens_75
          · have h := h.2 c3_3
            refine z_tblo (pc := 11) (tgt := 76) C dX9_greens_11 (z_out0_3 c3_0 c3_1 c3_2 c3_3) (by decide) ?_
            refine z_iconst (pc := 76) (v := -1) C dX9_greens_76 (by decide) ?_
            exact hret 77 _ _ (-1 : Int32) () rfl h dX9_greens_77
  · have h := h.2 c2
    refine z_iconst (pc := 8) (v := -1) C dX9_greens_8 (by decide) ?_
    exact hret 9 _ _ (-1 : Int32) () rfl h dX9_greens_9

def pX9_could (vNcj : Lf) (vNcs : Lf) (vNcr : Lf) (vNg : Lf) (x1 : Int32) (x2 : Int32) (x3 : Int32) (Q : Int32 → Prop) : Prop := (pX9_within x3 (0 : Int32) (1 : Int32) (fun r1 => ((¬ r1 = 0 → (pX9_within x1 (0 : Int32) (63 : Int32) (fun r3 => ((r3 = 0 → (Q (-2 : Int32) )) ∧ (¬ r3 = 0 → (pX9_within x2 (0 : Int32) (9999 : Int32) (fun r5 => ((¬ r5 = 0 → (pX8_takersOf vNcj vNcs vNcr vNg x1 x2 x3 (fun r7 => (Q r7 )))) ∧ (r5 = 0 → (Q (-2 : Int32) )))))))))) ∧ (r1 = 0 → (Q (-1 : Int32) )))))
abbrev rmX9_could : Room := { frames := 4, cells := 0, slots := 0, locals := 96 }
abbrev wdX9_could : List Cond := Cond.code yX9_could cX9_could 4 (some .int) :: TB
theorem hdSX9_could : (yX9_could).cls ≠ "java/lang/invoke/MethodHandle" ∧ (yX9_could).cls ≠ "java/lang/invoke/VarHandle" ∧ (parseMethodDescriptor (yX9_could).desc).map (fun d => d.parameters.length) = some 3 := by decide +kernel
theorem hdX9_could : (yX9_could).cls = RX9 ∧ (yX9_could).cls ≠ "java/lang/invoke/MethodHandle" ∧ (yX9_could).cls ≠ "java/lang/invoke/VarHandle" ∧ (parseMethodDescriptor (yX9_could).desc).map (fun d => d.parameters.length) = some 3 := ⟨rfl, hdSX9_could⟩
set_option maxHeartbeats 4000000 in
set_option maxRecDepth 100000 in
theorem kX9_could {l : Launch} {D : va_G} {cI cJ cT : ClassId} (d : Nat → Nat) (dN : Nat → Nat) (dI : Nat → Nat) (dT : Nat → Nat) (dNc : Nat → Nat) (dNcj : Nat → Nat) (dNcs : Nat → Nat) (dNcp : Nat → Nat) (dNw : Nat → Nat) (dx : Nat → Nat) (dtt : Nat) (dNg : Nat → Nat) (dNn : Nat → Nat) (dNq : Nat → Nat) (dNcr : Nat → Nat)  (v : Lf) (vNc : Lf) (vNcj : Lf) (vNcs : Lf) (vNcr : Lf) (vNg : Lf) (x1 : Int32) (x2 : Int32) (x3 : Int32) {Q : Int32 → Prop} (sz : Nat) (h : pX9_could vNcj vNcs vNcr vNg x1 x2 x3 Q) : Met l yX9_could wdX9_could rmX9_could (Pz D (tyL cI cJ cT) [.ref (d 0), .int x1, .int x2, .int x3] ((wX9 d (dN 0) (dI 0) (dT 0) (dNc 0) (dNcj 0) (dNcs 0) (dNcp 0) (dNw 0) (dx 0) dtt v) ++ ((wX8 dN (dNc 0) (dNw 0) (dNg 0) (dNn 0) (dNq 0)) ++ ((wX0 dNc (dNcj 0) (dNcs 0) (dNcp 0) (dNcr 0) vNc) ++ ((wX1 cI dNcj vNcj) ++ ((wX5 cI dNcs vNcs) ++ ((wX4 cI 72 dNcr vNcr) ++ (wX4 cI 24 dNg vNg))))))) sz) (va_Qi (fun (r : Int32) (u : Unit) => Q r) (Bz D (tyL cI cJ cT) ((wX9 d (dN 0) (dI 0) (dT 0) (dNc 0) (dNcj 0) (dNcs 0) (dNcp 0) (dNw 0) (dx 0) dtt v) ++ ((wX8 dN (dNc 0) (dNw 0) (dNg 0) (dNn 0) (dNq 0)) ++ ((wX0 dNc (dNcj 0) (dNcs 0) (dNcp 0) (dNcr 0) vNc) ++ ((wX1 cI dNcj vNcj) ++ ((wX5 cI dNcs vNcs) ++ ((wX4 cI 72 dNcr vNcr) ++ (wX4 cI 24 dNg vNg))))))) sz (fun (u : Unit) => ((wX9 d (dN 0) (dI 0) (dT 0) (dNc 0) (dNcj 0) (dNcs 0) (dNcp 0) (dNw 0) (dx 0) dtt v) ++ ((wX8 dN (dNc 0) (dNw 0) (dNg 0) (dNn 0) (dNq 0)) ++ ((wX0 dNc (dNcj 0) (dNcs 0) (dNcp 0) (dNcr 0) vNc) ++ ((wX1 cI dNcj vNcj) ++ ((wX5 cI dNcs vNcs) ++ ((wX4 cI 72 dNcr vNcr) ++ (wX4 cI 24 dNg vNg))))))))) (va_A ((wX9 d (dN 0) (dI 0) (dT 0) (dNc 0) (dNcj 0) (dNcs 0) (dNcp 0) (dNw 0) (dx 0) dtt v) ++ ((wX8 dN (dNc 0) (dNw 0) (dNg 0) (dNn 0) (dNq 0)) ++ ((wX0 dNc (dNcj 0) (dNcs 0) (dNcp 0) (dNcr 0) vNc) ++ ((wX1 cI dNcj vNcj) ++ ((wX5 cI dNcs vNcs) ++ ((wX4 cI 72 dNcr vNcr) ++ (wX4 cI 24 dNg vNg))))))) sz)) 0 0 (va_A ((wX9 d (dN 0) (dI 0) (dT 0) (dNc 0) (dNcj 0) (dNcs 0) (dNcp 0) (dNw 0) (dx 0) dtt v) ++ ((wX8 dN (dNc 0) (dNw 0) (dNg 0) (dNn 0) (dNq 0)) ++ ((wX0 dNc (dNcj 0) (dNcs 0) (dNcp 0) (dNcr 0) vNc) ++ ((wX1 cI dNcj vNcj) ++ ((wX5 cI dNcs vNcs) ++ ((wX4 cI 72 dNcr vNcr) ++ (wX4 cI 24 dNg vNg))))))) sz) := by
  refine z_meti (cc := cX9_could) (maxL := 4) (own := RX9) (lv0 := [(0, .ref (d 0)), (1, .int x1), (2, .int x2), (3, .int x3)]) (by decide) rfl rfl (Nat.le_of_ble_eq_true rfl) rfl ?_
  intro p e s m args below meth c A QQ C hin hret
  refine z_iload_n (pc := 0) C 3 dX9_could_0 rfl ?_
  refine z_iconst (pc := 1) (v := 0) C dX9_could_1 (by decide) ?_
  refine z_iconst (pc := 2) (v := 1) C dX9_could_2 (by decide) ?_
  refine z_call0i (pc := 3) C (z_runS (pc := 3) (wc := ([] : va_W)) (As := [.int x3, .int (0 : Int32), .int (1 : Int32)]) C (fun sz => kX9_within x3 (0 : Int32) (1 : Int32) sz h) [] rfl (by decide) (gdS wq366 wq553 wq373 wq112) rfl rfl rfl hdSX9_within ⟨Nat.le_of_ble_eq_true rfl, Nat.le_of_ble_eq_true rfl⟩ rfl (Nat.le_of_ble_eq_true rfl) ⟨Nat.zero_le _, Nat.zero_le _⟩ dX9_could_3) (fun r1 u1 h => ?_)
  refine z_if_ne (pc := 6) (tgt := 11) C dX9_could_6 (by decide) (fun c2 => ?_) (fun c2 => ?_)
  · have h := h.1 c2
    refine z_iload_n (pc := 11) C 1 dX9_could_11 rfl ?_
    refine z_iconst (pc := 12) (v := 0) C dX9_could_12 (by decide) ?_
    refine z_bipush (pc := 13) (v := 63) C dX9_could_13 (by decide) ?_
    refine z_call0i (pc := 15) C (z_runS (pc := 15) (wc := ([] : va_W)) (As := [.int x1, .int (0 : Int32), .int (63 : Int32)]) C (fun sz => kX9_within x1 (0 : Int32) (63 : Int32) sz h) [] rfl (by decide) (gdS wq366 wq553 wq373 wq112) rfl rfl rfl hdSX9_within ⟨Nat.le_of_ble_eq_true rfl, Nat.le_of_ble_eq_true rfl⟩ rfl (Nat.le_of_ble_eq_true rfl) ⟨Nat.zero_le _, Nat.zero_le _⟩ dX9_could_15) (fun r3 u3 h => ?_)
    refine z_if_eq (pc := 18) (tgt := 32) C dX9_could_18 (by decide) (fun c4 => ?_) (fun c4 => ?_)
    · have h := h.1 c4
      refine z_bipush (pc := 32) (v := -2) C dX9_could_32 (by decide) ?_
      exact hret 34 _ _ (-2 : Int32) () rfl h dX9_could_34
    · have h := h.2 c4
      refine z_iload_n (pc := 21) C 2 dX9_could_21 rfl ?_
      refine z_iconst (pc := 22) (v := 0) C dX9_could_22 (by decide) ?_
      refine z_sipush (pc := 23) (v := 9999) C dX9_could_23 (by decide) ?_
      refine z_call0i (pc := 26) C (z_runS (pc := 26) (wc := ([] : va_W)) (As := [.int x2, .int (0 : Int32), .int (9999 : Int32)]) C (fun sz => kX9_within x2 (0 : Int32) (9999 : Int32) sz h) [] rfl (by decide) (gdS wq366 wq553 wq373 wq112) rfl rfl rfl hdSX9_within ⟨Nat.le_of_ble_eq_true rfl, Nat.le_of_ble_eq_true rfl⟩ rfl (Nat.le_of_ble_eq_true rfl) ⟨Nat.zero_le _, Nat.zero_le _⟩ dX9_could_26) (fun r5 u5 h => ?_)
      refine z_if_ne (pc := 29) (tgt := 35) C dX9_could_29 (by decide) (fun c6 => ?_) (fun c6 => ?_)
      · have h := h.1 c6
        refine z_aload_n (pc := 35) C 0 dX9_could_35 rfl ?_
        refine z_get (pc := 36) C uw9 0 rfl rfl 0 (by decide) wq526 rfl dX9_could_36 ?_
        refine z_iload_n (pc := 39) C 1 dX9_could_39 rfl ?_
        refine z_iload_n (pc := 40) C 2 dX9_could_40 rfl ?_
        refine z_iload_n (pc := 41) C 3 dX9_could_41 rfl ?_
        refine z_callRi (pc := 42) C (z_runV (pc := 42) (wc := ((wX8 dN (dNc 0) (dNw 0) (dNg 0) (dNn 0) (dNq 0)) ++ ((wX0 dNc (dNcj 0) (dNcs 0) (dNcp 0) (dNcr 0) vNc) ++ ((wX1 cI dNcj vNcj) ++ ((wX5 cI dNcs vNcs) ++ ((wX4 cI 72 dNcr vNcr) ++ (wX4 cI 24 dNg vNg))))))) (As := [.int x1, .int x2, .int x3]) C (fun sz => kX8_takersOf dN dNc dNw dNg dNn dNq dNcj dNcs dNcp dNcr vNc vNcj vNcs vNcr vNg x1 x2 x3 sz h) [1, 2, 3, 4, 5, 6, 7, 8, 9, 10, 11, 12, 13, 14, 15, 16, 17, 18, 19, 20] rfl (by decide) (gdV wq509 wq691 wq692 wq693 wq505) rfl rfl rfl hdX8_takersOf 1 rfl rfl rfl ⟨Nat.le_of_ble_eq_true rfl, Nat.le_of_ble_eq_true rfl⟩ rfl (Nat.le_of_ble_eq_true rfl) ⟨Nat.zero_le _, Nat.zero_le _⟩ dX9_could_42) [1, 2, 3, 4, 5, 6, 7, 8, 9, 10, 11, 12, 13, 14, 15, 16, 17, 18, 19, 20] rfl (by decide) (fun r7 u7 h => ?_)
        exact hret 45 _ _ r7 () rfl h dX9_could_45
      · have h := h.2 c6
        refine z_bipush (pc := 32) (v := -2) C dX9_could_32 (by decide) ?_
        exact hret 34 _ _ (-2 : Int32) () rfl h dX9_could_34
  · have h := h.2 c2
    refine z_iconst (pc := 9) (v := -1) C dX9_could_9 (by decide) ?_
    exact hret 10 _ _ (-1 : Int32) () rfl h dX9_could_10

def pX9_crowded_L27 (vNcj : Lf) (vNcs : Lf) (vNcr : Lf) (vNg : Lf) (x1 : Int32) (x2 : Int32) (Q : Int32 → Prop) : Nat → Int32 → Prop
  | 0, _ => False
  | n27 + 1, x3 => (((64 : Int32) ≤ x3 → (Q (-5 : Int32) )) ∧ (¬ (64 : Int32) ≤ x3 → (pX8_takersOf vNcj vNcs vNcr vNg x3 x1 x2 (fun r6 => (pJ6_bitCount_0f7a4 r6 (fun r7 => ((r7 ≤ (1 : Int32) → (pX9_crowded_L27 vNcj vNcs vNcr vNg x1 x2 Q n27 (x3 + 1))) ∧ (¬ r7 ≤ (1 : Int32) → (Q x3 )))))))))
def pX9_crowded (vNcj : Lf) (vNcs : Lf) (vNcr : Lf) (vNg : Lf) (x1 : Int32) (x2 : Int32) (Q : Int32 → Prop) : Prop := (pX9_within x2 (0 : Int32) (1 : Int32) (fun r1 => ((¬ r1 = 0 → (pX9_within x1 (0 : Int32) (9999 : Int32) (fun r3 => ((¬ r3 = 0 → (∃ n27, pX9_crowded_L27 vNcj vNcs vNcr vNg x1 x2 Q  n27 (0 : Int32))) ∧ (r3 = 0 → (Q (-2 : Int32) )))))) ∧ (r1 = 0 → (Q (-1 : Int32) )))))
abbrev rmX9_crowded : Room := { frames := 4, cells := 0, slots := 0, locals := 96 }
abbrev wdX9_crowded : List Cond := Cond.code yX9_crowded cX9_crowded 4 (some .int) :: TB
theorem hdSX9_crowded : (yX9_crowded).cls ≠ "java/lang/invoke/MethodHandle" ∧ (yX9_crowded).cls ≠ "java/lang/invoke/VarHandle" ∧ (parseMethodDescriptor (yX9_crowded).desc).map (fun d => d.parameters.length) = some 2 := by decide +kernel
theorem hdX9_crowded : (yX9_crowded).cls = RX9 ∧ (yX9_crowded).cls ≠ "java/lang/invoke/MethodHandle" ∧ (yX9_crowded).cls ≠ "java/lang/invoke/VarHandle" ∧ (parseMethodDescriptor (yX9_crowded).desc).map (fun d => d.parameters.length) = some 2 := ⟨rfl, hdSX9_crowded⟩
set_option maxHeartbeats 4000000 in
set_option maxRecDepth 100000 in
theorem kX9_crowded {l : Launch} {D : va_G} {cI cJ cT : ClassId} (d : Nat → Nat) (dN : Nat → Nat) (dI : Nat → Nat) (dT : Nat → Nat) (dNc : Nat → Nat) (dNcj : Nat → Nat) (dNcs : Nat → Nat) (dNcp : Nat → Nat) (dNw : Nat → Nat) (dx : Nat → Nat) (dtt : Nat) (dNg : Nat → Nat) (dNn : Nat → Nat) (dNq : Nat → Nat) (dNcr : Nat → Nat)  (v : Lf) (vNc : Lf) (vNcj : Lf) (vNcs : Lf) (vNcr : Lf) (vNg : Lf) (x1 : Int32) (x2 : Int32) {Q : Int32 → Prop} (sz : Nat) (h : pX9_crowded vNcj vNcs vNcr vNg x1 x2 Q) : Met l yX9_crowded wdX9_crowded rmX9_crowded (Pz D (tyL cI cJ cT) [.ref (d 0), .int x1, .int x2] ((wX9 d (dN 0) (dI 0) (dT 0) (dNc 0) (dNcj 0) (dNcs 0) (dNcp 0) (dNw 0) (dx 0) dtt v) ++ ((wX8 dN (dNc 0) (dNw 0) (dNg 0) (dNn 0) (dNq 0)) ++ ((wX0 dNc (dNcj 0) (dNcs 0) (dNcp 0) (dNcr 0) vNc) ++ ((wX1 cI dNcj vNcj) ++ ((wX5 cI dNcs vNcs) ++ ((wX4 cI 72 dNcr vNcr) ++ (wX4 cI 24 dNg vNg))))))) sz) (va_Qi (fun (r : Int32) (u : Unit) => Q r) (Bz D (tyL cI cJ cT) ((wX9 d (dN 0) (dI 0) (dT 0) (dNc 0) (dNcj 0) (dNcs 0) (dNcp 0) (dNw 0) (dx 0) dtt v) ++ ((wX8 dN (dNc 0) (dNw 0) (dNg 0) (dNn 0) (dNq 0)) ++ ((wX0 dNc (dNcj 0) (dNcs 0) (dNcp 0) (dNcr 0) vNc) ++ ((wX1 cI dNcj vNcj) ++ ((wX5 cI dNcs vNcs) ++ ((wX4 cI 72 dNcr vNcr) ++ (wX4 cI 24 dNg vNg))))))) sz (fun (u : Unit) => ((wX9 d (dN 0) (dI 0) (dT 0) (dNc 0) (dNcj 0) (dNcs 0) (dNcp 0) (dNw 0) (dx 0) dtt v) ++ ((wX8 dN (dNc 0) (dNw 0) (dNg 0) (dNn 0) (dNq 0)) ++ ((wX0 dNc (dNcj 0) (dNcs 0) (dNcp 0) (dNcr 0) vNc) ++ ((wX1 cI dNcj vNcj) ++ ((wX5 cI dNcs vNcs) ++ ((wX4 cI 72 dNcr vNcr) ++ (wX4 cI 24 dNg vNg))))))))) (va_A ((wX9 d (dN 0) (dI 0) (dT 0) (dNc 0) (dNcj 0) (dNcs 0) (dNcp 0) (dNw 0) (dx 0) dtt v) ++ ((wX8 dN (dNc 0) (dNw 0) (dNg 0) (dNn 0) (dNq 0)) ++ ((wX0 dNc (dNcj 0) (dNcs 0) (dNcp 0) (dNcr 0) vNc) ++ ((wX1 cI dNcj vNcj) ++ ((wX5 cI dNcs vNcs) ++ ((wX4 cI 72 dNcr vNcr) ++ (wX4 cI 24 dNg vNg))))))) sz)) 0 0 (va_A ((wX9 d (dN 0) (dI 0) (dT 0) (dNc 0) (dNcj 0) (dNcs 0) (dNcp 0) (dNw 0) (dx 0) dtt v) ++ ((wX8 dN (dNc 0) (dNw 0) (dNg 0) (dNn 0) (dNq 0)) ++ ((wX0 dNc (dNcj 0) (dNcs 0) (dNcp 0) (dNcr 0) vNc) ++ ((wX1 cI dNcj vNcj) ++ ((wX5 cI dNcs vNcs) ++ ((wX4 cI 72 dNcr vNcr) ++ (wX4 cI 24 dNg vNg))))))) sz) := by
  refine z_meti (cc := cX9_crowded) (maxL := 4) (own := RX9) (lv0 := [(0, .ref (d 0)), (1, .int x1), (2, .int x2)]) (by decide) rfl rfl (Nat.le_of_ble_eq_true rfl) rfl ?_
  intro p e s m args below meth c A QQ C hin hret
  have L27 : ∀ (n27 : Nat) (x3 : Int32), pX9_crowded_L27 vNcj vNcs vNcr vNg x1 x2 Q n27 x3 → ZZ p l e rmX9_crowded s m args below meth c D A 4 0 0 QQ 27 ((wX9 d (dN 0) (dI 0) (dT 0) (dNc 0) (dNcj 0) (dNcs 0) (dNcp 0) (dNw 0) (dx 0) dtt v) ++ ((wX8 dN (dNc 0) (dNw 0) (dNg 0) (dNn 0) (dNq 0)) ++ ((wX0 dNc (dNcj 0) (dNcs 0) (dNcp 0) (dNcr 0) vNc) ++ ((wX1 cI dNcj vNcj) ++ ((wX5 cI dNcs vNcs) ++ ((wX4 cI 72 dNcr vNcr) ++ (wX4 cI 24 dNg vNg))))))) [(0, .ref (d 0)), (1, .int x1), (2, .int x2), (3, .int x3)] [] := by
    intro n27
    induction n27 with
    | zero => intro x3 h; exact False.elim h
    | succ n27 ih27 =>
      intro x3 h
      refine z_iload_n (pc := 27) C 3 dX9_crowded_27 rfl ?_
      refine z_bipush (pc := 28) (v := 64) C dX9_crowded_28 (by decide) ?_
      refine z_icmp_ge (pc := 30) (tgt := 58) C dX9_crowded_30 (by decide) (fun c5 => ?_) (fun c5 => ?_)
      · have h := h.1 c5
        refine z_bipush (pc := 58) (v := -5) C dX9_crowded_58 (by decide) ?_
        exact hret 60 _ _ (-5 : Int32) () rfl h dX9_crowded_60
      · have h := h.2 c5
        refine z_aload_n (pc := 33) C 0 dX9_crowded_33 rfl ?_
        refine z_get (pc := 34) C uw9 0 rfl rfl 0 (by decide) wq526 rfl dX9_crowded_34 ?_
        refine z_iload_n (pc := 37) C 3 dX9_crowded_37 rfl ?_
        refine z_iload_n (pc := 38) C 1 dX9_crowded_38 rfl ?_
        refine z_iload_n (pc := 39) C 2 dX9_crowded_39 rfl ?_
        refine z_callRi (pc := 40) C (z_runV (pc := 40) (wc := ((wX8 dN (dNc 0) (dNw 0) (dNg 0) (dNn 0) (dNq 0)) ++ ((wX0 dNc (dNcj 0) (dNcs 0) (dNcp 0) (dNcr 0) vNc) ++ ((wX1 cI dNcj vNcj) ++ ((wX5 cI dNcs vNcs) ++ ((wX4 cI 72 dNcr vNcr) ++ (wX4 cI 24 dNg vNg))))))) (As := [.int x3, .int x1, .int x2]) C (fun sz => kX8_takersOf dN dNc dNw dNg dNn dNq dNcj dNcs dNcp dNcr vNc vNcj vNcs vNcr vNg x3 x1 x2 sz h) [1, 2, 3, 4, 5, 6, 7, 8, 9, 10, 11, 12, 13, 14, 15, 16, 17, 18, 19, 20] rfl (by decide) (gdV wq509 wq691 wq692 wq693 wq505) rfl rfl rfl hdX8_takersOf 1 rfl rfl rfl ⟨Nat.le_of_ble_eq_true rfl, Nat.le_of_ble_eq_true rfl⟩ rfl (Nat.le_of_ble_eq_true rfl) ⟨Nat.zero_le _, Nat.zero_le _⟩ dX9_crowded_40) [1, 2, 3, 4, 5, 6, 7, 8, 9, 10, 11, 12, 13, 14, 15, 16, 17, 18, 19, 20] rfl (by decide) (fun r6 u6 h => ?_)
        refine z_call0i (pc := 43) C (z_runS (pc := 43) (wc := ([] : va_W)) (As := [.int r6]) C (fun sz => kJ6_bitCount_0f7a4 r6 sz h) [] rfl (by decide) (gdS wq340 wq695 wq346 wq347) rfl rfl rfl hdSJ6_bitCount_0f7a4 ⟨Nat.le_of_ble_eq_true rfl, Nat.le_of_ble_eq_true rfl⟩ rfl (Nat.le_of_ble_eq_true rfl) ⟨Nat.zero_le _, Nat.zero_le _⟩ dX9_crowded_43) (fun r7 u7 h => ?_)
        refine z_iconst (pc := 46) (v := 1) C dX9_crowded_46 (by decide) ?_
        refine z_icmp_le (pc := 47) (tgt := 52) C dX9_crowded_47 (by decide) (fun c8 => ?_) (fun c8 => ?_)
        · have h := h.1 c8
          refine z_iinc (pc := 52) (v := (x3 + 1)) (lv' := [(3, .int (x3 + 1)), (0, .ref (d 0)), (1, .int x1), (2, .int x2)]) C 3 dX9_crowded_52 rfl rfl (by decide) rfl ?_
          refine z_goto (pc := 55) (tgt := 27) C dX9_crowded_55 (by decide) ?_
          refine z_sub (lv' := [(0, .ref (d 0)), (1, .int x1), (2, .int x2), (3, .int (x3 + 1))]) [1, 2, 3, 0] rfl ?_
          exact ih27 (x3 + 1) h
        · have h := h.2 c8
          refine z_iload_n (pc := 50) C 3 dX9_crowded_50 rfl ?_
          exact hret 51 _ _ x3 () rfl h dX9_crowded_51
  refine z_iload_n (pc := 0) C 2 dX9_crowded_0 rfl ?_
  refine z_iconst (pc := 1) (v := 0) C dX9_crowded_1 (by decide) ?_
  refine z_iconst (pc := 2) (v := 1) C dX9_crowded_2 (by decide) ?_
  refine z_call0i (pc := 3) C (z_runS (pc := 3) (wc := ([] : va_W)) (As := [.int x2, .int (0 : Int32), .int (1 : Int32)]) C (fun sz => kX9_within x2 (0 : Int32) (1 : Int32) sz h) [] rfl (by decide) (gdS wq366 wq553 wq373 wq112) rfl rfl rfl hdSX9_within ⟨Nat.le_of_ble_eq_true rfl, Nat.le_of_ble_eq_true rfl⟩ rfl (Nat.le_of_ble_eq_true rfl) ⟨Nat.zero_le _, Nat.zero_le _⟩ dX9_crowded_3) (fun r1 u1 h => ?_)
  refine z_if_ne (pc := 6) (tgt := 11) C dX9_crowded_6 (by decide) (fun c2 => ?_) (fun c2 => ?_)
  · have h := h.1 c2
    refine z_iload_n (pc := 11) C 1 dX9_crowded_11 rfl ?_
    refine z_iconst (pc := 12) (v := 0) C dX9_crowded_12 (by decide) ?_
    refine z_sipush (pc := 13) (v := 9999) C dX9_crowded_13 (by decide) ?_
    refine z_call0i (pc := 16) C (z_runS (pc := 16) (wc := ([] : va_W)) (As := [.int x1, .int (0 : Int32), .int (9999 : Int32)]) C (fun sz => kX9_within x1 (0 : Int32) (9999 : Int32) sz h) [] rfl (by decide) (gdS wq366 wq553 wq373 wq112) rfl rfl rfl hdSX9_within ⟨Nat.le_of_ble_eq_true rfl, Nat.le_of_ble_eq_true rfl⟩ rfl (Nat.le_of_ble_eq_true rfl) ⟨Nat.zero_le _, Nat.zero_le _⟩ dX9_crowded_16) (fun r3 u3 h => ?_)
    refine z_if_ne (pc := 19) (tgt := 25) C dX9_crowded_19 (by decide) (fun c4 => ?_) (fun c4 => ?_)
    · have h := h.1 c4
      refine z_iconst (pc := 25) (v := 0) C dX9_crowded_25 (by decide) ?_
      refine z_istore_n (pc := 26) (lv' := [(3, .int (0 : Int32)), (0, .ref (d 0)), (1, .int x1), (2, .int x2)]) C dX9_crowded_26 (by decide) rfl ?_
      obtain ⟨n27, h⟩ := h
      refine z_sub (lv' := [(0, .ref (d 0)), (1, .int x1), (2, .int x2), (3, .int (0 : Int32))]) [1, 2, 3, 0] rfl ?_
      exact L27  n27 (0 : Int32) h
    · have h := h.2 c4
      refine z_bipush (pc := 22) (v := -2) C dX9_crowded_22 (by decide) ?_
      exact hret 24 _ _ (-2 : Int32) () rfl h dX9_crowded_24
  · have h := h.2 c2
    refine z_iconst (pc := 9) (v := -1) C dX9_crowded_9 (by decide) ?_
    exact hret 10 _ _ (-1 : Int32) () rfl h dX9_crowded_10

def pX9_green (vNcj : Lf) (vNg : Lf) (x1 : Int32) (x2 : Int32) (x3 : Int32) (Q : Int32 → Lf → Prop) : Prop := ((¬ x1 = (-1 : Int32) → (pX9_isSignal vNcj x1 (fun r2 => ((¬ r2 = 0 → (pX9_within x2 (0 : Int32) (9998 : Int32) (fun r4 => ((r4 = 0 → (Q (-2 : Int32) vNg)) ∧ (¬ r4 = 0 → (pX9_within x3 (x2 + (1 : Int32)) (9999 : Int32) (fun r6 => ((¬ r6 = 0 → (pX4_add 24 vNg x1 x2 x3 (fun r8 vNg_8 => ((r8 = 0 → (Q (-4 : Int32) vNg_8)) ∧ (¬ r8 = 0 → (Q (vNg_8 0 0) vNg_8)))))) ∧ (r6 = 0 → (Q (-2 : Int32) vNg)))))))))) ∧ (r2 = 0 → (Q (-1 : Int32) vNg)))))) ∧ (x1 = (-1 : Int32) → (Q (0 : Int32) (st vNg 0 0 (0 : Int32)))))
abbrev rmX9_green : Room := { frames := 2, cells := 0, slots := 0, locals := 43 }
abbrev wdX9_green : List Cond := Cond.code yX9_green cX9_green 5 (some .int) :: TB
theorem hdSX9_green : (yX9_green).cls ≠ "java/lang/invoke/MethodHandle" ∧ (yX9_green).cls ≠ "java/lang/invoke/VarHandle" ∧ (parseMethodDescriptor (yX9_green).desc).map (fun d => d.parameters.length) = some 3 := by decide +kernel
theorem hdX9_green : (yX9_green).cls = RX9 ∧ (yX9_green).cls ≠ "java/lang/invoke/MethodHandle" ∧ (yX9_green).cls ≠ "java/lang/invoke/VarHandle" ∧ (parseMethodDescriptor (yX9_green).desc).map (fun d => d.parameters.length) = some 3 := ⟨rfl, hdSX9_green⟩
set_option maxHeartbeats 4000000 in
set_option maxRecDepth 100000 in
theorem kX9_green {l : Launch} {D : va_G} {cI cJ cT : ClassId} (d : Nat → Nat) (dN : Nat → Nat) (dI : Nat → Nat) (dT : Nat → Nat) (dNc : Nat → Nat) (dNcj : Nat → Nat) (dNcs : Nat → Nat) (dNcp : Nat → Nat) (dNw : Nat → Nat) (dx : Nat → Nat) (dtt : Nat) (dNg : Nat → Nat) (dNn : Nat → Nat) (dNq : Nat → Nat)  (v : Lf) (vNcj : Lf) (vNg : Lf) (x1 : Int32) (x2 : Int32) (x3 : Int32) {Q : Int32 → Lf → Prop} (sz : Nat) (h : pX9_green vNcj vNg x1 x2 x3 Q) : Met l yX9_green wdX9_green rmX9_green (Pz D (tyL cI cJ cT) [.ref (d 0), .int x1, .int x2, .int x3] ((wX9 d (dN 0) (dI 0) (dT 0) (dNc 0) (dNcj 0) (dNcs 0) (dNcp 0) (dNw 0) (dx 0) dtt v) ++ ((wX8 dN (dNc 0) (dNw 0) (dNg 0) (dNn 0) (dNq 0)) ++ ((wX1 cI dNcj vNcj) ++ (wX4 cI 24 dNg vNg)))) sz) (va_Qi (fun (r : Int32) (u : Lf) => Q r u) (Bz D (tyL cI cJ cT) ((wX9 d (dN 0) (dI 0) (dT 0) (dNc 0) (dNcj 0) (dNcs 0) (dNcp 0) (dNw 0) (dx 0) dtt v) ++ ((wX8 dN (dNc 0) (dNw 0) (dNg 0) (dNn 0) (dNq 0)) ++ ((wX1 cI dNcj vNcj) ++ (wX4 cI 24 dNg vNg)))) sz (fun (u : Lf) => ((wX9 d (dN 0) (dI 0) (dT 0) (dNc 0) (dNcj 0) (dNcs 0) (dNcp 0) (dNw 0) (dx 0) dtt v) ++ ((wX8 dN (dNc 0) (dNw 0) (dNg 0) (dNn 0) (dNq 0)) ++ ((wX1 cI dNcj vNcj) ++ (wX4 cI 24 dNg u)))))) (va_A ((wX9 d (dN 0) (dI 0) (dT 0) (dNc 0) (dNcj 0) (dNcs 0) (dNcp 0) (dNw 0) (dx 0) dtt v) ++ ((wX8 dN (dNc 0) (dNw 0) (dNg 0) (dNn 0) (dNq 0)) ++ ((wX1 cI dNcj vNcj) ++ (wX4 cI 24 dNg vNg)))) sz)) 0 0 (va_A ((wX9 d (dN 0) (dI 0) (dT 0) (dNc 0) (dNcj 0) (dNcs 0) (dNcp 0) (dNw 0) (dx 0) dtt v) ++ ((wX8 dN (dNc 0) (dNw 0) (dNg 0) (dNn 0) (dNq 0)) ++ ((wX1 cI dNcj vNcj) ++ (wX4 cI 24 dNg vNg)))) sz) := by
  refine z_meti (cc := cX9_green) (maxL := 5) (own := RX9) (lv0 := [(0, .ref (d 0)), (1, .int x1), (2, .int x2), (3, .int x3)]) (by decide) rfl rfl (Nat.le_of_ble_eq_true rfl) rfl ?_
  intro p e s m args below meth c A QQ C hin hret
  refine z_aload_n (pc := 0) C 0 dX9_green_0 rfl ?_
  refine z_get (pc := 1) C uw9 0 rfl rfl 0 (by decide) wq526 rfl dX9_green_1 ?_
  refine z_get (pc := 4) C uw8 1 rfl rfl 2 (by decide) wq698 rfl dX9_green_4 ?_
  refine z_astore (pc := 7) (lv' := [(4, .ref (dNg 0)), (0, .ref (d 0)), (1, .int x1), (2, .int x2), (3, .int x3)]) C dX9_green_7 (by decide) rfl ?_
  refine z_iload_n (pc := 9) C 2 dX9_green_9 rfl ?_
  refine z_iconst (pc := 10) (v := -1) C dX9_green_10 (by decide) ?_
  refine z_icmp_ne (pc := 11) (tgt := 22) C dX9_green_11 (by decide) (fun c1 => ?_) (fun c1 => ?_)
  · have h := h.1 c1
    refine z_aload_n (pc := 22) C 1 dX9_green_22 rfl ?_
    refine z_iload_n (pc := 23) C 2 dX9_green_23 rfl ?_
    refine z_callRi (pc := 24) C (z_runV (pc := 24) (wc := ((wX9 d (dN 0) (dI 0) (dT 0) (dNc 0) (dNcj 0) (dNcs 0) (dNcp 0) (dNw 0) (dx 0) dtt v) ++ (wX1 cI dNcj vNcj))) (As := [.int x1]) C (fun sz => kX9_isSignal d dN dI dT dNc dNcj dNcs dNcp dNw dx dtt v vNcj x1 sz h) [0, 2, 3, 4, 5, 6, 7] rfl (by decide) (gdV wq558 wq561 wq562 wq563 wq112) rfl rfl rfl hdX9_isSignal 0 rfl rfl rfl ⟨Nat.le_of_ble_eq_true rfl, Nat.le_of_ble_eq_true rfl⟩ rfl (Nat.le_of_ble_eq_true rfl) ⟨Nat.zero_le _, Nat.zero_le _⟩ dX9_green_24) [0, 2, 3, 4, 5, 6, 7] rfl (by decide) (fun r2 u2 h => ?_)
    refine z_if_ne (pc := 27) (tgt := 32) C dX9_green_27 (by decide) (fun c3 => ?_) (fun c3 => ?_)
    · have h := h.1 c3
      refine z_iload_n (pc := 32) C 3 dX9_green_32 rfl ?_
      refine z_iconst (pc := 33) (v := 0) C dX9_green_33 (by decide) ?_
      refine z_sipush (pc := 34) (v := 9998) C dX9_green_34 (by decide) ?_
      refine z_call0i (pc := 37) C (z_runS (pc := 37) (wc := ([] : va_W)) (As := [.int x2, .int (0 : Int32), .int (9998 : Int32)]) C (fun sz => kX9_within x2 (0 : Int32) (9998 : Int32) sz h) [] rfl (by decide) (gdS wq366 wq553 wq373 wq112) rfl rfl rfl hdSX9_within ⟨Nat.le_of_ble_eq_true rfl, Nat.le_of_ble_eq_true rfl⟩ rfl (Nat.le_of_ble_eq_true rfl) ⟨Nat.zero_le _, Nat.zero_le _⟩ dX9_green_37) (fun r4 u4 h => ?_)
      refine z_if_eq (pc := 40) (tgt := 56) C dX9_green_40 (by decide) (fun c5 => ?_) (fun c5 => ?_)
      · have h := h.1 c5
        refine z_bipush (pc := 56) (v := -2) C dX9_green_56 (by decide) ?_
        exact hret 58 _ _ (-2 : Int32) vNg rfl h dX9_green_58
      · have h := h.2 c5
        refine z_iload_n (pc := 43) C 4 dX9_green_43 rfl ?_
        refine z_iload_n (pc := 44) C 3 dX9_green_44 rfl ?_
        refine z_iconst (pc := 45) (v := 1) C dX9_green_45 (by decide) ?_
        refine z_iadd (pc := 46) C dX9_green_46 ?_
        refine z_sipush (pc := 47) (v := 9999) C dX9_green_47 (by decide) ?_
        refine z_call0i (pc := 50) C (z_runS (pc := 50) (wc := ([] : va_W)) (As := [.int x3, .int (x2 + (1 : Int32)), .int (9999 : Int32)]) C (fun sz => kX9_within x3 (x2 + (1 : Int32)) (9999 : Int32) sz h) [] rfl (by decide) (gdS wq366 wq553 wq373 wq112) rfl rfl rfl hdSX9_within ⟨Nat.le_of_ble_eq_true rfl, Nat.le_of_ble_eq_true rfl⟩ rfl (Nat.le_of_ble_eq_true rfl) ⟨Nat.zero_le _, Nat.zero_le _⟩ dX9_green_50) (fun r6 u6 h => ?_)
        refine z_if_ne (pc := 53) (tgt := 59) C dX9_green_53 (by decide) (fun c7 => ?_) (fun c7 => ?_)
        · have h := h.1 c7
          refine z_aload (pc := 59) C 0 dX9_green_59 rfl ?_
          refine z_iload_n (pc := 61) C 2 dX9_green_61 rfl ?_
          refine z_iload_n (pc := 62) C 3 dX9_green_62 rfl ?_
          refine z_iload_n (pc := 63) C 4 dX9_green_63 rfl ?_
          refine z_calli (pc := 64) (wr := ((wX9 d (dN 0) (dI 0) (dT 0) (dNc 0) (dNcj 0) (dNcs 0) (dNcp 0) (dNw 0) (dx 0) dtt v) ++ ((wX8 dN (dNc 0) (dNw 0) (dNg 0) (dNn 0) (dNq 0)) ++ (wX1 cI dNcj vNcj)))) (w1 := fun (u : Lf) => (wX4 cI 24 dNg u)) (w2 := fun (u : Lf) => ((wX9 d (dN 0) (dI 0) (dT 0) (dNc 0) (dNcj 0) (dNcs 0) (dNcp 0) (dNw 0) (dx 0) dtt v) ++ ((wX8 dN (dNc 0) (dNw 0) (dNg 0) (dNn 0) (dNq 0)) ++ ((wX1 cI dNcj vNcj) ++ (wX4 cI 24 dNg u))))) C (z_runV (pc := 64) (wc := (wX4 cI 24 dNg vNg)) (As := [.int x1, .int x2, .int x3]) C (fun sz => kX4_add dNg 24 vNg x1 x2 x3 sz h) [8, 9] rfl (by decide) (gdV wq142 wq699 wq145 wq146 wq48) rfl rfl rfl hdX4_add 8 rfl rfl rfl ⟨Nat.le_of_ble_eq_true rfl, Nat.le_of_ble_eq_true rfl⟩ rfl (Nat.le_of_ble_eq_true rfl) ⟨Nat.zero_le _, Nat.zero_le _⟩ dX9_green_64) [8, 9] [0, 1, 2, 3, 4, 5, 6, 7] [0, 1, 2, 3, 4, 5, 6, 7, 8, 9] rfl rfl (by decide) (by decide) (fun _ => rfl) (by decide) (fun r8 u8 h => ?_)
          obtain ⟨vNg_8, hu8⟩ : ∃ z, z = u8 := ⟨_, rfl⟩
          subst hu8
          refine z_if_eq (pc := 67) (tgt := 78) C dX9_green_67 (by decide) (fun c9 => ?_) (fun c9 => ?_)
          · have h := h.1 c9
            refine z_bipush (pc := 78) (v := -4) C dX9_green_78 (by decide) ?_
            exact hret 80 _ _ (-4 : Int32) vNg_8 rfl h dX9_green_80
          · have h := h.2 c9
            refine z_aload (pc := 70) C 0 dX9_green_70 rfl ?_
            refine z_get (pc := 72) C uw4 8 rfl rfl 0 (by decide) wq676 rfl dX9_green_72 ?_
            refine z_goto (pc := 75) (tgt := 80) C dX9_green_75 (by decide) ?_
            exact hret 80 _ _ (vNg_8 0 0) vNg_8 rfl h dX9_green_80
        · have h := h.2 c7
          refine z_bipush (pc := 56) (v := -2) C dX9_green_56 (by decide) ?_
          exact hret 58 _ _ (-2 : Int32) vNg rfl h dX9_green_58
    · have h := h.2 c3
      refine z_iconst (pc := 30) (v := -1) C dX9_green_30 (by decide) ?_
      exact hret 31 _ _ (-1 : Int32) vNg rfl h dX9_green_31
  · have h := h.2 c1
    refine z_aload (pc := 14) C 0 dX9_green_14 rfl ?_
    refine z_iconst (pc := 16) (v := 0) C dX9_green_16 (by decide) ?_
    refine z_put (pc := 17) (ws' := ((wX9 d (dN 0) (dI 0) (dT 0) (dNc 0) (dNcj 0) (dNcs 0) (dNcp 0) (dNw 0) (dx 0) dtt v) ++ ((wX8 dN (dNc 0) (dNw 0) (dNg 0) (dNn 0) (dNq 0)) ++ ((wX1 cI dNcj vNcj) ++ (wX4 cI 24 dNg (st vNg 0 0 (0 : Int32))))))) C uw4 tyX4 tyX4_ok nmX4 8 rfl rfl 0 (by decide) wq676 rfl rfl rfl (Nat.le_of_ble_eq_true rfl) dX9_green_17 (set_r (k := 1) (i := 7) rfl (set_r (k := 1) (i := 6) rfl (set_r (k := 6) (i := 0) rfl sX4_f0))) ?_
    refine z_iconst (pc := 20) (v := 0) C dX9_green_20 (by decide) ?_
    exact hret 21 _ _ (0 : Int32) (st vNg 0 0 (0 : Int32)) rfl h dX9_green_21

def pX9_proved (vNcj : Lf) (vNg : Lf)  (Q : Int32 → Prop) : Prop := (pX8_firstUnproved vNcj vNg (fun r1 => (Q r1 )))
abbrev rmX9_proved : Room := { frames := 4, cells := 0, slots := 0, locals := 90 }
abbrev wdX9_proved : List Cond := Cond.code yX9_proved cX9_proved 1 (some .int) :: TB
theorem hdSX9_proved : (yX9_proved).cls ≠ "java/lang/invoke/MethodHandle" ∧ (yX9_proved).cls ≠ "java/lang/invoke/VarHandle" ∧ (parseMethodDescriptor (yX9_proved).desc).map (fun d => d.parameters.length) = some 0 := by decide +kernel
theorem hdX9_proved : (yX9_proved).cls = RX9 ∧ (yX9_proved).cls ≠ "java/lang/invoke/MethodHandle" ∧ (yX9_proved).cls ≠ "java/lang/invoke/VarHandle" ∧ (parseMethodDescriptor (yX9_proved).desc).map (fun d => d.parameters.length) = some 0 := ⟨rfl, hdSX9_proved⟩
set_option maxHeartbeats 4000000 in
set_option maxRecDepth 100000 in
theorem kX9_proved {l : Launch} {D : va_G} {cI cJ cT : ClassId} (d : Nat → Nat) (dN : Nat → Nat) (dI : Nat → Nat) (dT : Nat → Nat) (dNc : Nat → Nat) (dNcj : Nat → Nat) (dNcs : Nat → Nat) (dNcp : Nat → Nat) (dNw : Nat → Nat) (dx : Nat → Nat) (dtt : Nat) (dNg : Nat → Nat) (dNn : Nat → Nat) (dNq : Nat → Nat) (dNcr : Nat → Nat)  (v : Lf) (vNc : Lf) (vNcj : Lf) (vNg : Lf)  {Q : Int32 → Prop} (sz : Nat) (h : pX9_proved vNcj vNg Q) : Met l yX9_proved wdX9_proved rmX9_proved (Pz D (tyL cI cJ cT) [.ref (d 0)] ((wX9 d (dN 0) (dI 0) (dT 0) (dNc 0) (dNcj 0) (dNcs 0) (dNcp 0) (dNw 0) (dx 0) dtt v) ++ ((wX8 dN (dNc 0) (dNw 0) (dNg 0) (dNn 0) (dNq 0)) ++ ((wX0 dNc (dNcj 0) (dNcs 0) (dNcp 0) (dNcr 0) vNc) ++ ((wX1 cI dNcj vNcj) ++ (wX4 cI 24 dNg vNg))))) sz) (va_Qi (fun (r : Int32) (u : Unit) => Q r) (Bz D (tyL cI cJ cT) ((wX9 d (dN 0) (dI 0) (dT 0) (dNc 0) (dNcj 0) (dNcs 0) (dNcp 0) (dNw 0) (dx 0) dtt v) ++ ((wX8 dN (dNc 0) (dNw 0) (dNg 0) (dNn 0) (dNq 0)) ++ ((wX0 dNc (dNcj 0) (dNcs 0) (dNcp 0) (dNcr 0) vNc) ++ ((wX1 cI dNcj vNcj) ++ (wX4 cI 24 dNg vNg))))) sz (fun (u : Unit) => ((wX9 d (dN 0) (dI 0) (dT 0) (dNc 0) (dNcj 0) (dNcs 0) (dNcp 0) (dNw 0) (dx 0) dtt v) ++ ((wX8 dN (dNc 0) (dNw 0) (dNg 0) (dNn 0) (dNq 0)) ++ ((wX0 dNc (dNcj 0) (dNcs 0) (dNcp 0) (dNcr 0) vNc) ++ ((wX1 cI dNcj vNcj) ++ (wX4 cI 24 dNg vNg))))))) (va_A ((wX9 d (dN 0) (dI 0) (dT 0) (dNc 0) (dNcj 0) (dNcs 0) (dNcp 0) (dNw 0) (dx 0) dtt v) ++ ((wX8 dN (dNc 0) (dNw 0) (dNg 0) (dNn 0) (dNq 0)) ++ ((wX0 dNc (dNcj 0) (dNcs 0) (dNcp 0) (dNcr 0) vNc) ++ ((wX1 cI dNcj vNcj) ++ (wX4 cI 24 dNg vNg))))) sz)) 0 0 (va_A ((wX9 d (dN 0) (dI 0) (dT 0) (dNc 0) (dNcj 0) (dNcs 0) (dNcp 0) (dNw 0) (dx 0) dtt v) ++ ((wX8 dN (dNc 0) (dNw 0) (dNg 0) (dNn 0) (dNq 0)) ++ ((wX0 dNc (dNcj 0) (dNcs 0) (dNcp 0) (dNcr 0) vNc) ++ ((wX1 cI dNcj vNcj) ++ (wX4 cI 24 dNg vNg))))) sz) := by
  refine z_meti (cc := cX9_proved) (maxL := 1) (own := RX9) (lv0 := [(0, .ref (d 0))]) (by decide) rfl rfl (Nat.le_of_ble_eq_true rfl) rfl ?_
  intro p e s m args below meth c A QQ C hin hret
  refine z_aload_n (pc := 0) C 0 dX9_proved_0 rfl ?_
  refine z_get (pc := 1) C uw9 0 rfl rfl 0 (by decide) wq526 rfl dX9_proved_1 ?_
  refine z_callRi (pc := 4) C (z_runV (pc := 4) (wc := ((wX8 dN (dNc 0) (dNw 0) (dNg 0) (dNn 0) (dNq 0)) ++ ((wX0 dNc (dNcj 0) (dNcs 0) (dNcp 0) (dNcr 0) vNc) ++ ((wX1 cI dNcj vNcj) ++ (wX4 cI 24 dNg vNg))))) (As := []) C (fun sz => kX8_firstUnproved dN dNc dNw dNg dNn dNq dNcj dNcs dNcp dNcr vNc vNcj vNg sz h) [1, 2, 3, 4, 5, 6, 7, 8, 9, 10] rfl (by decide) (gdV wq520 wq700 wq701 wq702 wq505) rfl rfl rfl hdX8_firstUnproved 1 rfl rfl rfl ⟨Nat.le_of_ble_eq_true rfl, Nat.le_of_ble_eq_true rfl⟩ rfl (Nat.le_of_ble_eq_true rfl) ⟨Nat.zero_le _, Nat.zero_le _⟩ dX9_proved_4) [1, 2, 3, 4, 5, 6, 7, 8, 9, 10] rfl (by decide) (fun r1 u1 h => ?_)
  exact hret 7 _ _ r1 () rfl h dX9_proved_7

def pX9_wave (vNw : Lf) (x1 : Int32) (Q : Int32 → Lf → Prop) : Prop := (pX9_within x1 (20 : Int32) (60 : Int32) (fun r1 => ((¬ r1 = 0 → (Q (vNw 0 0) (st (st vNw 0 0 x1) 0 1 (0 : Int32)))) ∧ (r1 = 0 → (Q (-2 : Int32) vNw)))))
abbrev rmX9_wave : Room := { frames := 1, cells := 0, slots := 0, locals := 22 }
abbrev wdX9_wave : List Cond := Cond.code yX9_wave cX9_wave 3 (some .int) :: TB
theorem hdSX9_wave : (yX9_wave).cls ≠ "java/lang/invoke/MethodHandle" ∧ (yX9_wave).cls ≠ "java/lang/invoke/VarHandle" ∧ (parseMethodDescriptor (yX9_wave).desc).map (fun d => d.parameters.length) = some 1 := by decide +kernel
theorem hdX9_wave : (yX9_wave).cls = RX9 ∧ (yX9_wave).cls ≠ "java/lang/invoke/MethodHandle" ∧ (yX9_wave).cls ≠ "java/lang/invoke/VarHandle" ∧ (parseMethodDescriptor (yX9_wave).desc).map (fun d => d.parameters.length) = some 1 := ⟨rfl, hdSX9_wave⟩
set_option maxHeartbeats 4000000 in
set_option maxRecDepth 100000 in
theorem kX9_wave {l : Launch} {D : va_G} {cI cJ cT : ClassId} (d : Nat → Nat) (dN : Nat → Nat) (dI : Nat → Nat) (dT : Nat → Nat) (dNc : Nat → Nat) (dNcj : Nat → Nat) (dNcs : Nat → Nat) (dNcp : Nat → Nat) (dNw : Nat → Nat) (dx : Nat → Nat) (dtt : Nat)  (v : Lf) (vNw : Lf) (x1 : Int32) {Q : Int32 → Lf → Prop} (sz : Nat) (h : pX9_wave vNw x1 Q) : Met l yX9_wave wdX9_wave rmX9_wave (Pz D (tyL cI cJ cT) [.ref (d 0), .int x1] ((wX9 d (dN 0) (dI 0) (dT 0) (dNc 0) (dNcj 0) (dNcs 0) (dNcp 0) (dNw 0) (dx 0) dtt v) ++ (wX7 cI dNw vNw)) sz) (va_Qi (fun (r : Int32) (u : Lf) => Q r u) (Bz D (tyL cI cJ cT) ((wX9 d (dN 0) (dI 0) (dT 0) (dNc 0) (dNcj 0) (dNcs 0) (dNcp 0) (dNw 0) (dx 0) dtt v) ++ (wX7 cI dNw vNw)) sz (fun (u : Lf) => ((wX9 d (dN 0) (dI 0) (dT 0) (dNc 0) (dNcj 0) (dNcs 0) (dNcp 0) (dNw 0) (dx 0) dtt v) ++ (wX7 cI dNw u)))) (va_A ((wX9 d (dN 0) (dI 0) (dT 0) (dNc 0) (dNcj 0) (dNcs 0) (dNcp 0) (dNw 0) (dx 0) dtt v) ++ (wX7 cI dNw vNw)) sz)) 0 0 (va_A ((wX9 d (dN 0) (dI 0) (dT 0) (dNc 0) (dNcj 0) (dNcs 0) (dNcp 0) (dNw 0) (dx 0) dtt v) ++ (wX7 cI dNw vNw)) sz) := by
  refine z_meti (cc := cX9_wave) (maxL := 3) (own := RX9) (lv0 := [(0, .ref (d 0)), (1, .int x1)]) (by decide) rfl rfl (Nat.le_of_ble_eq_true rfl) rfl ?_
  intro p e s m args below meth c A QQ C hin hret
  refine z_iload_n (pc := 0) C 1 dX9_wave_0 rfl ?_
  refine z_bipush (pc := 1) (v := 20) C dX9_wave_1 (by decide) ?_
  refine z_bipush (pc := 3) (v := 60) C dX9_wave_3 (by decide) ?_
  refine z_call0i (pc := 5) C (z_runS (pc := 5) (wc := ([] : va_W)) (As := [.int x1, .int (20 : Int32), .int (60 : Int32)]) C (fun sz => kX9_within x1 (20 : Int32) (60 : Int32) sz h) [] rfl (by decide) (gdS wq366 wq553 wq373 wq112) rfl rfl rfl hdSX9_within ⟨Nat.le_of_ble_eq_true rfl, Nat.le_of_ble_eq_true rfl⟩ rfl (Nat.le_of_ble_eq_true rfl) ⟨Nat.zero_le _, Nat.zero_le _⟩ dX9_wave_5) (fun r1 u1 h => ?_)
  refine z_if_ne (pc := 8) (tgt := 14) C dX9_wave_8 (by decide) (fun c2 => ?_) (fun c2 => ?_)
  · have h := h.1 c2
    refine z_aload_n (pc := 14) C 0 dX9_wave_14 rfl ?_
    refine z_get (pc := 15) C uw9 0 rfl rfl 7 (by decide) wq539 rfl dX9_wave_15 ?_
    refine z_get (pc := 18) C uw7 1 rfl rfl 0 (by decide) wq705 rfl dX9_wave_18 ?_
    refine z_istore_n (pc := 21) (lv' := [(2, .int (vNw 0 0)), (0, .ref (d 0)), (1, .int x1)]) C dX9_wave_21 (by decide) rfl ?_
    refine z_aload_n (pc := 22) C 1 dX9_wave_22 rfl ?_
    refine z_get (pc := 23) C uw9 0 rfl rfl 7 (by decide) wq539 rfl dX9_wave_23 ?_
    refine z_iload_n (pc := 26) C 2 dX9_wave_26 rfl ?_
    refine z_put (pc := 27) (ws' := ((wX9 d (dN 0) (dI 0) (dT 0) (dNc 0) (dNcj 0) (dNcs 0) (dNcp 0) (dNw 0) (dx 0) dtt v) ++ (wX7 cI dNw (st vNw 0 0 x1)))) C uw7 tyX7 tyX7_ok nmX7 1 rfl rfl 0 (by decide) wq705 rfl rfl rfl (Nat.le_of_ble_eq_true rfl) dX9_wave_27 (set_r (k := 1) (i := 0) rfl sX7_f0) ?_
    refine z_aload_n (pc := 30) C 1 dX9_wave_30 rfl ?_
    refine z_get (pc := 31) C uw9 0 rfl rfl 7 (by decide) wq539 rfl dX9_wave_31 ?_
    refine z_iconst (pc := 34) (v := 0) C dX9_wave_34 (by decide) ?_
    refine z_put (pc := 35) (ws' := ((wX9 d (dN 0) (dI 0) (dT 0) (dNc 0) (dNcj 0) (dNcs 0) (dNcp 0) (dNw 0) (dx 0) dtt v) ++ (wX7 cI dNw (st (st vNw 0 0 x1) 0 1 (0 : Int32))))) C uw7 tyX7 tyX7_ok nmX7 1 rfl rfl 1 (by decide) wq706 rfl rfl rfl (Nat.le_of_ble_eq_true rfl) dX9_wave_35 (set_r (k := 1) (i := 0) rfl sX7_f1) ?_
    refine z_iload_n (pc := 38) C 0 dX9_wave_38 rfl ?_
    exact hret 39 _ _ (vNw 0 0) (st (st vNw 0 0 x1) 0 1 (0 : Int32)) rfl h dX9_wave_39
  · have h := h.2 c2
    refine z_bipush (pc := 11) (v := -2) C dX9_wave_11 (by decide) ?_
    exact hret 13 _ _ (-2 : Int32) vNw rfl h dX9_wave_13

def pX9_node (vNw : Lf) (x1 : Int32) (x2 : Int32) (x3 : Int32) (Q : Int32 → Lf → Prop) : Prop := (pX7_allows vNw (0 : Int32) x1 (fun r1 => ((r1 = 0 → (Q (-2 : Int32) vNw)) ∧ (¬ r1 = 0 → (pX7_allows vNw (1 : Int32) x2 (fun r3 => ((r3 = 0 → (Q (-2 : Int32) vNw)) ∧ (¬ r3 = 0 → (pX7_allows vNw (2 : Int32) x3 (fun r5 => ((¬ r5 = 0 → (((vNw 0 1) < (5 : Int32) → (pX7_add vNw x1 x2 x3 (fun r8 vNw_8 => (Q r8 vNw_8)))) ∧ (¬ (vNw 0 1) < (5 : Int32) → (Q (-4 : Int32) vNw)))) ∧ (r5 = 0 → (Q (-2 : Int32) vNw)))))))))))))
abbrev rmX9_node : Room := { frames := 2, cells := 0, slots := 0, locals := 47 }
abbrev wdX9_node : List Cond := Cond.code yX9_node cX9_node 4 (some .int) :: TB
theorem hdSX9_node : (yX9_node).cls ≠ "java/lang/invoke/MethodHandle" ∧ (yX9_node).cls ≠ "java/lang/invoke/VarHandle" ∧ (parseMethodDescriptor (yX9_node).desc).map (fun d => d.parameters.length) = some 3 := by decide +kernel
theorem hdX9_node : (yX9_node).cls = RX9 ∧ (yX9_node).cls ≠ "java/lang/invoke/MethodHandle" ∧ (yX9_node).cls ≠ "java/lang/invoke/VarHandle" ∧ (parseMethodDescriptor (yX9_node).desc).map (fun d => d.parameters.length) = some 3 := ⟨rfl, hdSX9_node⟩
set_option maxHeartbeats 4000000 in
set_option maxRecDepth 100000 in
theorem kX9_node {l : Launch} {D : va_G} {cI cJ cT : ClassId} (d : Nat → Nat) (dN : Nat → Nat) (dI : Nat → Nat) (dT : Nat → Nat) (dNc : Nat → Nat) (dNcj : Nat → Nat) (dNcs : Nat → Nat) (dNcp : Nat → Nat) (dNw : Nat → Nat) (dx : Nat → Nat) (dtt : Nat)  (v : Lf) (vNw : Lf) (x1 : Int32) (x2 : Int32) (x3 : Int32) {Q : Int32 → Lf → Prop} (sz : Nat) (h : pX9_node vNw x1 x2 x3 Q) : Met l yX9_node wdX9_node rmX9_node (Pz D (tyL cI cJ cT) [.ref (d 0), .int x1, .int x2, .int x3] ((wX9 d (dN 0) (dI 0) (dT 0) (dNc 0) (dNcj 0) (dNcs 0) (dNcp 0) (dNw 0) (dx 0) dtt v) ++ (wX7 cI dNw vNw)) sz) (va_Qi (fun (r : Int32) (u : Lf) => Q r u) (Bz D (tyL cI cJ cT) ((wX9 d (dN 0) (dI 0) (dT 0) (dNc 0) (dNcj 0) (dNcs 0) (dNcp 0) (dNw 0) (dx 0) dtt v) ++ (wX7 cI dNw vNw)) sz (fun (u : Lf) => ((wX9 d (dN 0) (dI 0) (dT 0) (dNc 0) (dNcj 0) (dNcs 0) (dNcp 0) (dNw 0) (dx 0) dtt v) ++ (wX7 cI dNw u)))) (va_A ((wX9 d (dN 0) (dI 0) (dT 0) (dNc 0) (dNcj 0) (dNcs 0) (dNcp 0) (dNw 0) (dx 0) dtt v) ++ (wX7 cI dNw vNw)) sz)) 0 0 (va_A ((wX9 d (dN 0) (dI 0) (dT 0) (dNc 0) (dNcj 0) (dNcs 0) (dNcp 0) (dNw 0) (dx 0) dtt v) ++ (wX7 cI dNw vNw)) sz) := by
  refine z_meti (cc := cX9_node) (maxL := 4) (own := RX9) (lv0 := [(0, .ref (d 0)), (1, .int x1), (2, .int x2), (3, .int x3)]) (by decide) rfl rfl (Nat.le_of_ble_eq_true rfl) rfl ?_
  intro p e s m args below meth c A QQ C hin hret
  refine z_aload_n (pc := 0) C 0 dX9_node_0 rfl ?_
  refine z_get (pc := 1) C uw9 0 rfl rfl 7 (by decide) wq539 rfl dX9_node_1 ?_
  refine z_iconst (pc := 4) (v := 0) C dX9_node_4 (by decide) ?_
  refine z_iload_n (pc := 5) C 1 dX9_node_5 rfl ?_
  refine z_callRi (pc := 6) C (z_runV (pc := 6) (wc := (wX7 cI dNw vNw)) (As := [.int (0 : Int32), .int x1]) C (fun sz => kX7_allows dNw vNw (0 : Int32) x1 sz h) [1, 2] rfl (by decide) (gdV wq423 wq708 wq709 wq710 wq430) rfl rfl rfl hdX7_allows 1 rfl rfl rfl ⟨Nat.le_of_ble_eq_true rfl, Nat.le_of_ble_eq_true rfl⟩ rfl (Nat.le_of_ble_eq_true rfl) ⟨Nat.zero_le _, Nat.zero_le _⟩ dX9_node_6) [1, 2] rfl (by decide) (fun r1 u1 h => ?_)
  refine z_if_eq (pc := 9) (tgt := 36) C dX9_node_9 (by decide) (fun c2 => ?_) (fun c2 => ?_)
  · have h := h.1 c2
    refine z_bipush (pc := 36) (v := -2) C dX9_node_36 (by decide) ?_
    exact hret 38 _ _ (-2 : Int32) vNw rfl h dX9_node_38
  · have h := h.2 c2
    refine z_aload_n (pc := 12) C 0 dX9_node_12 rfl ?_
    refine z_get (pc := 13) C uw9 0 rfl rfl 7 (by decide) wq539 rfl dX9_node_13 ?_
    refine z_iconst (pc := 16) (v := 1) C dX9_node_16 (by decide) ?_
    refine z_iload_n (pc := 17) C 2 dX9_node_17 rfl ?_
    refine z_callRi (pc := 18) C (z_runV (pc := 18) (wc := (wX7 cI dNw vNw)) (As := [.int (1 : Int32), .int x2]) C (fun sz => kX7_allows dNw vNw (1 : Int32) x2 sz h) [1, 2] rfl (by decide) (gdV wq423 wq708 wq709 wq710 wq430) rfl rfl rfl hdX7_allows 1 rfl rfl rfl ⟨Nat.le_of_ble_eq_true rfl, Nat.le_of_ble_eq_true rfl⟩ rfl (Nat.le_of_ble_eq_true rfl) ⟨Nat.zero_le _, Nat.zero_le _⟩ dX9_node_18) [1, 2] rfl (by decide) (fun r3 u3 h => ?_)
    refine z_if_eq (pc := 21) (tgt := 36) C dX9_node_21 (by decide) (fun c4 => ?_) (fun c4 => ?_)
    · have h := h.1 c4
      refine z_bipush (pc := 36) (v := -2) C dX9_node_36 (by decide) ?_
      exact hret 38 _ _ (-2 : Int32) vNw rfl h dX9_node_38
    · have h := h.2 c4
      refine z_aload_n (pc := 24) C 0 dX9_node_24 rfl ?_
      refine z_get (pc := 25) C uw9 0 rfl rfl 7 (by decide) wq539 rfl dX9_node_25 ?_
      refine z_iconst (pc := 28) (v := 2) C dX9_node_28 (by decide) ?_
      refine z_iload_n (pc := 29) C 3 dX9_node_29 rfl ?_
      refine z_callRi (pc := 30) C (z_runV (pc := 30) (wc := (wX7 cI dNw vNw)) (As := [.int (2 : Int32), .int x3]) C (fun sz => kX7_allows dNw vNw (2 : Int32) x3 sz h) [1, 2] rfl (by decide) (gdV wq423 wq708 wq709 wq710 wq430) rfl rfl rfl hdX7_allows 1 rfl rfl rfl ⟨Nat.le_of_ble_eq_true rfl, Nat.le_of_ble_eq_true rfl⟩ rfl (Nat.le_of_ble_eq_true rfl) ⟨Nat.zero_le _, Nat.zero_le _⟩ dX9_node_30) [1, 2] rfl (by decide) (fun r5 u5 h => ?_)
      refine z_if_ne (pc := 33) (tgt := 39) C dX9_node_33 (by decide) (fun c6 => ?_) (fun c6 => ?_)
      · have h := h.1 c6
        refine z_aload_n (pc := 39) C 0 dX9_node_39 rfl ?_
        refine z_get (pc := 40) C uw9 0 rfl rfl 7 (by decide) wq539 rfl dX9_node_40 ?_
        refine z_get (pc := 43) C uw7 1 rfl rfl 1 (by decide) wq706 rfl dX9_node_43 ?_
        refine z_iconst (pc := 46) (v := 5) C dX9_node_46 (by decide) ?_
        refine z_icmp_lt (pc := 47) (tgt := 53) C dX9_node_47 (by decide) (fun c7 => ?_) (fun c7 => ?_)
        · have h := h.1 c7
          refine z_aload_n (pc := 53) C 0 dX9_node_53 rfl ?_
          refine z_get (pc := 54) C uw9 0 rfl rfl 7 (by decide) wq539 rfl dX9_node_54 ?_
          refine z_iload_n (pc := 57) C 1 dX9_node_57 rfl ?_
          refine z_iload_n (pc := 58) C 2 dX9_node_58 rfl ?_
          refine z_iload_n (pc := 59) C 3 dX9_node_59 rfl ?_
          refine z_calli (pc := 60) (wr := (wX9 d (dN 0) (dI 0) (dT 0) (dNc 0) (dNcj 0) (dNcs 0) (dNcp 0) (dNw 0) (dx 0) dtt v)) (w1 := fun (u : Lf) => (wX7 cI dNw u)) (w2 := fun (u : Lf) => ((wX9 d (dN 0) (dI 0) (dT 0) (dNc 0) (dNcj 0) (dNcs 0) (dNcp 0) (dNw 0) (dx 0) dtt v) ++ (wX7 cI dNw u))) C (z_runV (pc := 60) (wc := (wX7 cI dNw vNw)) (As := [.int x1, .int x2, .int x3]) C (fun sz => kX7_add dNw vNw x1 x2 x3 sz h) [1, 2] rfl (by decide) (gdV wq426 wq711 wq712 wq713 wq430) rfl rfl rfl hdX7_add 1 rfl rfl rfl ⟨Nat.le_of_ble_eq_true rfl, Nat.le_of_ble_eq_true rfl⟩ rfl (Nat.le_of_ble_eq_true rfl) ⟨Nat.zero_le _, Nat.zero_le _⟩ dX9_node_60) [1, 2] [0] [0, 1, 2] rfl rfl (by decide) (by decide) (fun _ => rfl) (by decide) (fun r8 u8 h => ?_)
          obtain ⟨vNw_8, hu8⟩ : ∃ z, z = u8 := ⟨_, rfl⟩
          subst hu8
          exact hret 63 _ _ r8 vNw_8 rfl h dX9_node_63
        · have h := h.2 c7
          refine z_bipush (pc := 50) (v := -4) C dX9_node_50 (by decide) ?_
          exact hret 52 _ _ (-4 : Int32) vNw rfl h dX9_node_52
      · have h := h.2 c6
        refine z_bipush (pc := 36) (v := -2) C dX9_node_36 (by decide) ?_
        exact hret 38 _ _ (-2 : Int32) vNw rfl h dX9_node_38

def pX9_change (vNw : Lf) (x1 : Int32) (x2 : Int32) (x3 : Int32) (Q : Int32 → Lf → Prop) : Prop := (pX9_within x1 (0 : Int32) ((vNw 0 1) - (1 : Int32)) (fun r1 => ((r1 = 0 → (Q (-1 : Int32) vNw)) ∧ (¬ r1 = 0 → (pX9_within x2 (0 : Int32) (2 : Int32) (fun r3 => ((¬ r3 = 0 → (pX7_allows vNw x2 x3 (fun r5 => ((¬ r5 = 0 → (pX7_at vNw x1 x2 (fun r7 => (pX7_put vNw x1 x2 x3 (fun vNw_8 => (Q r7 vNw_8)))))) ∧ (r5 = 0 → (Q (-2 : Int32) vNw)))))) ∧ (r3 = 0 → (Q (-1 : Int32) vNw)))))))))
abbrev rmX9_change : Room := { frames := 2, cells := 0, slots := 0, locals := 44 }
abbrev wdX9_change : List Cond := Cond.code yX9_change cX9_change 5 (some .int) :: TB
theorem hdSX9_change : (yX9_change).cls ≠ "java/lang/invoke/MethodHandle" ∧ (yX9_change).cls ≠ "java/lang/invoke/VarHandle" ∧ (parseMethodDescriptor (yX9_change).desc).map (fun d => d.parameters.length) = some 3 := by decide +kernel
theorem hdX9_change : (yX9_change).cls = RX9 ∧ (yX9_change).cls ≠ "java/lang/invoke/MethodHandle" ∧ (yX9_change).cls ≠ "java/lang/invoke/VarHandle" ∧ (parseMethodDescriptor (yX9_change).desc).map (fun d => d.parameters.length) = some 3 := ⟨rfl, hdSX9_change⟩
set_option maxHeartbeats 4000000 in
set_option maxRecDepth 100000 in
theorem kX9_change {l : Launch} {D : va_G} {cI cJ cT : ClassId} (d : Nat → Nat) (dN : Nat → Nat) (dI : Nat → Nat) (dT : Nat → Nat) (dNc : Nat → Nat) (dNcj : Nat → Nat) (dNcs : Nat → Nat) (dNcp : Nat → Nat) (dNw : Nat → Nat) (dx : Nat → Nat) (dtt : Nat)  (v : Lf) (vNw : Lf) (x1 : Int32) (x2 : Int32) (x3 : Int32) {Q : Int32 → Lf → Prop} (sz : Nat) (h : pX9_change vNw x1 x2 x3 Q) : Met l yX9_change wdX9_change rmX9_change (Pz D (tyL cI cJ cT) [.ref (d 0), .int x1, .int x2, .int x3] ((wX9 d (dN 0) (dI 0) (dT 0) (dNc 0) (dNcj 0) (dNcs 0) (dNcp 0) (dNw 0) (dx 0) dtt v) ++ (wX7 cI dNw vNw)) sz) (va_Qi (fun (r : Int32) (u : Lf) => Q r u) (Bz D (tyL cI cJ cT) ((wX9 d (dN 0) (dI 0) (dT 0) (dNc 0) (dNcj 0) (dNcs 0) (dNcp 0) (dNw 0) (dx 0) dtt v) ++ (wX7 cI dNw vNw)) sz (fun (u : Lf) => ((wX9 d (dN 0) (dI 0) (dT 0) (dNc 0) (dNcj 0) (dNcs 0) (dNcp 0) (dNw 0) (dx 0) dtt v) ++ (wX7 cI dNw u)))) (va_A ((wX9 d (dN 0) (dI 0) (dT 0) (dNc 0) (dNcj 0) (dNcs 0) (dNcp 0) (dNw 0) (dx 0) dtt v) ++ (wX7 cI dNw vNw)) sz)) 0 0 (va_A ((wX9 d (dN 0) (dI 0) (dT 0) (dNc 0) (dNcj 0) (dNcs 0) (dNcp 0) (dNw 0) (dx 0) dtt v) ++ (wX7 cI dNw vNw)) sz) := by
  refine z_meti (cc := cX9_change) (maxL := 5) (own := RX9) (lv0 := [(0, .ref (d 0)), (1, .int x1), (2, .int x2), (3, .int x3)]) (by decide) rfl rfl (Nat.le_of_ble_eq_true rfl) rfl ?_
  intro p e s m args below meth c A QQ C hin hret
  refine z_iload_n (pc := 0) C 1 dX9_change_0 rfl ?_
  refine z_iconst (pc := 1) (v := 0) C dX9_change_1 (by decide) ?_
  refine z_aload_n (pc := 2) C 0 dX9_change_2 rfl ?_
  refine z_get (pc := 3) C uw9 0 rfl rfl 7 (by decide) wq539 rfl dX9_change_3 ?_
  refine z_get (pc := 6) C uw7 1 rfl rfl 1 (by decide) wq706 rfl dX9_change_6 ?_
  refine z_iconst (pc := 9) (v := 1) C dX9_change_9 (by decide) ?_
  refine z_isub (pc := 10) C dX9_change_10 ?_
  refine z_call0i (pc := 11) C (z_runS (pc := 11) (wc := ([] : va_W)) (As := [.int x1, .int (0 : Int32), .int ((vNw 0 1) - (1 : Int32))]) C (fun sz => kX9_within x1 (0 : Int32) ((vNw 0 1) - (1 : Int32)) sz h) [] rfl (by decide) (gdS wq366 wq553 wq373 wq112) rfl rfl rfl hdSX9_within ⟨Nat.le_of_ble_eq_true rfl, Nat.le_of_ble_eq_true rfl⟩ rfl (Nat.le_of_ble_eq_true rfl) ⟨Nat.zero_le _, Nat.zero_le _⟩ dX9_change_11) (fun r1 u1 h => ?_)
  refine z_if_eq (pc := 14) (tgt := 26) C dX9_change_14 (by decide) (fun c2 => ?_) (fun c2 => ?_)
  · have h := h.1 c2
    refine z_iconst (pc := 26) (v := -1) C dX9_change_26 (by decide) ?_
    exact hret 27 _ _ (-1 : Int32) vNw rfl h dX9_change_27
  · have h := h.2 c2
    refine z_iload_n (pc := 17) C 2 dX9_change_17 rfl ?_
    refine z_iconst (pc := 18) (v := 0) C dX9_change_18 (by decide) ?_
    refine z_iconst (pc := 19) (v := 2) C dX9_change_19 (by decide) ?_
    refine z_call0i (pc := 20) C (z_runS (pc := 20) (wc := ([] : va_W)) (As := [.int x2, .int (0 : Int32), .int (2 : Int32)]) C (fun sz => kX9_within x2 (0 : Int32) (2 : Int32) sz h) [] rfl (by decide) (gdS wq366 wq553 wq373 wq112) rfl rfl rfl hdSX9_within ⟨Nat.le_of_ble_eq_true rfl, Nat.le_of_ble_eq_true rfl⟩ rfl (Nat.le_of_ble_eq_true rfl) ⟨Nat.zero_le _, Nat.zero_le _⟩ dX9_change_20) (fun r3 u3 h => ?_)
    refine z_if_ne (pc := 23) (tgt := 28) C dX9_change_23 (by decide) (fun c4 => ?_) (fun c4 => ?_)
    · have h := h.1 c4
      refine z_aload_n (pc := 28) C 0 dX9_change_28 rfl ?_
      refine z_get (pc := 29) C uw9 0 rfl rfl 7 (by decide) wq539 rfl dX9_change_29 ?_
      refine z_iload_n (pc := 32) C 2 dX9_change_32 rfl ?_
      refine z_iload_n (pc := 33) C 3 dX9_change_33 rfl ?_
      refine z_callRi (pc := 34) C (z_runV (pc := 34) (wc := (wX7 cI dNw vNw)) (As := [.int x2, .int x3]) C (fun sz => kX7_allows dNw vNw x2 x3 sz h) [1, 2] rfl (by decide) (gdV wq423 wq708 wq709 wq710 wq430) rfl rfl rfl hdX7_allows 1 rfl rfl rfl ⟨Nat.le_of_ble_eq_true rfl, Nat.le_of_ble_eq_true rfl⟩ rfl (Nat.le_of_ble_eq_true rfl) ⟨Nat.zero_le _, Nat.zero_le _⟩ dX9_change_34) [1, 2] rfl (by decide) (fun r5 u5 h => ?_)
      refine z_if_ne (pc := 37) (tgt := 43) C dX9_change_37 (by decide) (fun c6 => ?_) (fun c6 => ?_)
      · have h := h.1 c6
        refine z_aload_n (pc := 43) C 0 dX9_change_43 rfl ?_
        refine z_get (pc := 44) C uw9 0 rfl rfl 7 (by decide) wq539 rfl dX9_change_44 ?_
        refine z_iload_n (pc := 47) C 1 dX9_change_47 rfl ?_
        refine z_iload_n (pc := 48) C 2 dX9_change_48 rfl ?_
        refine z_callRi (pc := 49) C (z_runV (pc := 49) (wc := (wX7 cI dNw vNw)) (As := [.int x1, .int x2]) C (fun sz => kX7_at dNw vNw x1 x2 sz h) [1, 2] rfl (by decide) (gdV wq424 wq715 wq434 wq435 wq430) rfl rfl rfl hdX7_at 1 rfl rfl rfl ⟨Nat.le_of_ble_eq_true rfl, Nat.le_of_ble_eq_true rfl⟩ rfl (Nat.le_of_ble_eq_true rfl) ⟨Nat.zero_le _, Nat.zero_le _⟩ dX9_change_49) [1, 2] rfl (by decide) (fun r7 u7 h => ?_)
        refine z_istore (pc := 52) (lv' := [(4, .int r7), (0, .ref (d 0)), (1, .int x1), (2, .int x2), (3, .int x3)]) C dX9_change_52 (by decide) rfl ?_
        refine z_aload_n (pc := 54) C 1 dX9_change_54 rfl ?_
        refine z_get (pc := 55) C uw9 0 rfl rfl 7 (by decide) wq539 rfl dX9_change_55 ?_
        refine z_iload_n (pc := 58) C 2 dX9_change_58 rfl ?_
        refine z_iload_n (pc := 59) C 3 dX9_change_59 rfl ?_
        refine z_iload_n (pc := 60) C 4 dX9_change_60 rfl ?_
        refine z_callv (pc := 61) (wr := (wX9 d (dN 0) (dI 0) (dT 0) (dNc 0) (dNcj 0) (dNcs 0) (dNcp 0) (dNw 0) (dx 0) dtt v)) (w1 := fun (u : Lf) => (wX7 cI dNw u)) (w2 := fun (u : Lf) => ((wX9 d (dN 0) (dI 0) (dT 0) (dNc 0) (dNcj 0) (dNcs 0) (dNcp 0) (dNw 0) (dx 0) dtt v) ++ (wX7 cI dNw u))) C (z_runV (pc := 61) (wc := (wX7 cI dNw vNw)) (As := [.int x1, .int x2, .int x3]) C (fun sz => kX7_put dNw vNw x1 x2 x3 sz h) [1, 2] rfl (by decide) (gdV wq425 wq716 wq428 wq429 wq430) rfl rfl rfl hdX7_put 1 rfl rfl rfl ⟨Nat.le_of_ble_eq_true rfl, Nat.le_of_ble_eq_true rfl⟩ rfl (Nat.le_of_ble_eq_true rfl) ⟨Nat.zero_le _, Nat.zero_le _⟩ dX9_change_61) [1, 2] [0] [0, 1, 2] rfl rfl (by decide) (by decide) (fun _ => rfl) (by decide) (fun u8 h => ?_)
        obtain ⟨vNw_8, hu8⟩ : ∃ z, z = u8 := ⟨_, rfl⟩
        subst hu8
        refine z_iload (pc := 64) C 0 dX9_change_64 rfl ?_
        exact hret 66 _ _ r7 vNw_8 rfl h dX9_change_66
      · have h := h.2 c6
        refine z_bipush (pc := 40) (v := -2) C dX9_change_40 (by decide) ?_
        exact hret 42 _ _ (-2 : Int32) vNw rfl h dX9_change_42
    · have h := h.2 c4
      refine z_iconst (pc := 26) (v := -1) C dX9_change_26 (by decide) ?_
      exact hret 27 _ _ (-1 : Int32) vNw rfl h dX9_change_27

def pX9_band (vNw : Lf) (x1 : Int32) (Q : Int32 → Prop) : Prop := ((x1 = 0 → (pX7_bandOn vNw (fun r2 => (Q r2 )))) ∧ (¬ x1 = 0 → ((x1 = 1 → (pX7_bandBack vNw (fun r3 => (Q r3 )))) ∧ (¬ x1 = 1 → ((x1 = 2 → (pX7_bothBands vNw (fun r4 => (Q r4 )))) ∧ (¬ x1 = 2 → (Q (-1 : Int32) )))))))
abbrev rmX9_band : Room := { frames := 4, cells := 0, slots := 0, locals := 91 }
abbrev wdX9_band : List Cond := Cond.code yX9_band cX9_band 2 (some .int) :: TB
theorem hdSX9_band : (yX9_band).cls ≠ "java/lang/invoke/MethodHandle" ∧ (yX9_band).cls ≠ "java/lang/invoke/VarHandle" ∧ (parseMethodDescriptor (yX9_band).desc).map (fun d => d.parameters.length) = some 1 := by decide +kernel
theorem hdX9_band : (yX9_band).cls = RX9 ∧ (yX9_band).cls ≠ "java/lang/invoke/MethodHandle" ∧ (yX9_band).cls ≠ "java/lang/invoke/VarHandle" ∧ (parseMethodDescriptor (yX9_band).desc).map (fun d => d.parameters.length) = some 1 := ⟨rfl, hdSX9_band⟩
set_option maxHeartbeats 4000000 in
set_option maxRecDepth 100000 in
theorem kX9_band {l : Launch} {D : va_G} {cI cJ cT : ClassId} (d : Nat → Nat) (dN : Nat → Nat) (dI : Nat → Nat) (dT : Nat → Nat) (dNc : Nat → Nat) (dNcj : Nat → Nat) (dNcs : Nat → Nat) (dNcp : Nat → Nat) (dNw : Nat → Nat) (dx : Nat → Nat) (dtt : Nat)  (v : Lf) (vNw : Lf) (x1 : Int32) {Q : Int32 → Prop} (sz : Nat) (h : pX9_band vNw x1 Q) : Met l yX9_band wdX9_band rmX9_band (Pz D (tyL cI cJ cT) [.ref (d 0), .int x1] ((wX9 d (dN 0) (dI 0) (dT 0) (dNc 0) (dNcj 0) (dNcs 0) (dNcp 0) (dNw 0) (dx 0) dtt v) ++ (wX7 cI dNw vNw)) sz) (va_Qi (fun (r : Int32) (u : Unit) => Q r) (Bz D (tyL cI cJ cT) ((wX9 d (dN 0) (dI 0) (dT 0) (dNc 0) (dNcj 0) (dNcs 0) (dNcp 0) (dNw 0) (dx 0) dtt v) ++ (wX7 cI dNw vNw)) sz (fun (u : Unit) => ((wX9 d (dN 0) (dI 0) (dT 0) (dNc 0) (dNcj 0) (dNcs 0) (dNcp 0) (dNw 0) (dx 0) dtt v) ++ (wX7 cI dNw vNw)))) (va_A ((wX9 d (dN 0) (dI 0) (dT 0) (dNc 0) (dNcj 0) (dNcs 0) (dNcp 0) (dNw 0) (dx 0) dtt v) ++ (wX7 cI dNw vNw)) sz)) 0 0 (va_A ((wX9 d (dN 0) (dI 0) (dT 0) (dNc 0) (dNcj 0) (dNcs 0) (dNcp 0) (dNw 0) (dx 0) dtt v) ++ (wX7 cI dNw vNw)) sz) := by
  refine z_meti (cc := cX9_band) (maxL := 2) (own := RX9) (lv0 := [(0, .ref (d 0)), (1, .int x1)]) (by decide) rfl rfl (Nat.le_of_ble_eq_true rfl) rfl ?_
  intro p e s m args below meth c A QQ C hin hret
  refine z_iload_n (pc := 0) C 1 dX9_band_0 rfl ?_
  by_cases c1_0 : x1 = 0
  · have h := h.1 c1_0
    refine z_tbl (pc := 1) (tgt := 28) C dX9_band_1 0 c1_0 (by decide) (by decide) rfl (by decide) ?_
    refine z_aload_n (pc := 28) C 0 dX9_band_28 rfl ?_
    refine z_get (pc := 29) C uw9 0 rfl rfl 7 (by decide) wq539 rfl dX9_band_29 ?_
    refine z_callRi (pc := 32) C (z_runV (pc := 32) (wc := (wX7 cI dNw vNw)) (As := []) C (fun sz => kX7_bandOn dNw vNw sz h) [1, 2] rfl (by decide) (gdV wq450 wq717 wq453 wq454 wq430) rfl rfl rfl hdX7_bandOn 1 rfl rfl rfl ⟨Nat.le_of_ble_eq_true rfl, Nat.le_of_ble_eq_true rfl⟩ rfl (Nat.le_of_ble_eq_true rfl) ⟨Nat.zero_le _, Nat.zero_le _⟩ dX9_band_32) [1, 2] rfl (by decide) (fun r2 u2 h => ?_)
    exact hret 35 _ _ r2 () rfl h dX9_band_35
  · have h := h.2 c1_0
    by_cases c1_1 : x1 = 1
    · have h := h.1 c1_1
      refine z_tbl (pc := 1) (tgt := 36) C dX9_band_1 1 c1_1 (by decide) (by decide) rfl (by decide) ?_
      refine z_aload_n (pc := 36) C 0 dX9_band_36 rfl ?_
      refine z_get (pc := 37) C uw9 0 rfl rfl 7 (by decide) wq539 rfl dX9_band_37 ?_
      refine z_callRi (pc := 40) C (z_runV (pc := 40) (wc := (wX7 cI dNw vNw)) (As := []) C (fun sz => kX7_bandBack dNw vNw sz h) [1, 2] rfl (by decide) (gdV wq451 wq718 wq456 wq457 wq430) rfl rfl rfl hdX7_bandBack 1 rfl rfl rfl ⟨Nat.le_of_ble_eq_true rfl, Nat.le_of_ble_eq_true rfl⟩ rfl (Nat.le_of_ble_eq_true rfl) ⟨Nat.zero_le _, Nat.zero_le _⟩ dX9_band_40) [1, 2] rfl (by decide) (fun r3 u3 h => ?_)
      exact hret 43 _ _ r3 () rfl h dX9_band_43
    · have h := h.2 c1_1
      by_cases c1_2 : x1 = 2
      · have h := h.1 c1_2
        refine z_tbl (pc := 1) (tgt := 44) C dX9_band_1 2 c1_2 (by decide) (by decide) rfl (by decide) ?_
        refine z_aload_n (pc := 44) C 0 dX9_band_44 rfl ?_
        refine z_get (pc := 45) C uw9 0 rfl rfl 7 (by decide) wq539 rfl dX9_band_45 ?_
        refine z_callRi (pc := 48) C (z_runV (pc := 48) (wc := (wX7 cI dNw vNw)) (As := []) C (fun sz => kX7_bothBands dNw vNw sz h) [1, 2] rfl (by decide) (gdV wq458 wq719 wq468 wq469 wq430) rfl rfl rfl hdX7_bothBands 1 rfl rfl rfl ⟨Nat.le_of_ble_eq_true rfl, Nat.le_of_ble_eq_true rfl⟩ rfl (Nat.le_of_ble_eq_true rfl) ⟨Nat.zero_le _, Nat.zero_le _⟩ dX9_band_48) [1, 2] rfl (by decide) (fun r4 u4 h => ?_)
        exact hret 51 _ _ r4 () rfl h dX9_band_51
      · have h := h.2 c1_2
        refine z_tblo (pc := 1) (tgt := 52) C dX9_band_1 (z_out0_2 c1_0 c1_1 c1_2) (by decide) ?_
        refine z_iconst (pc := 52) (v := -1) C dX9_band_52 (by decide) ?_
        exact hret 53 _ _ (-1 : Int32) () rfl h dX9_band_53

def pX9_nodeBest (v : Lf) (vNw : Lf) (x1 : Int32) (x2 : Int32) (Q : Int32 → Lf → Lf → Prop) : Prop := (pX9_within x1 (0 : Int32) ((vNw 0 1) - (1 : Int32)) (fun r1 => ((r1 = 0 → (Q (-1 : Int32) v vNw)) ∧ (¬ r1 = 0 → (pX9_within x2 (0 : Int32) (1 : Int32) (fun r3 => ((¬ r3 = 0 → (pX9_takeSeconds v (10 : Int32) (fun r5 v_5 => ((¬ r5 = 0 → (pX7_bestOffset vNw x1 (fun r7 vNw_7 => ((¬ x2 = 0 → (pX7_bandsWith vNw_7 x1 r7 (fun r9 vNw_9 => (Q r9 v_5 vNw_9)))) ∧ (x2 = 0 → (Q r7 v_5 vNw_7)))))) ∧ (r5 = 0 → (Q (-4 : Int32) v_5 vNw)))))) ∧ (r3 = 0 → (Q (-1 : Int32) v vNw)))))))))
abbrev rmX9_nodeBest : Room := { frames := 5, cells := 0, slots := 0, locals := 120 }
abbrev wdX9_nodeBest : List Cond := Cond.code yX9_nodeBest cX9_nodeBest 4 (some .int) :: TB
theorem hdSX9_nodeBest : (yX9_nodeBest).cls ≠ "java/lang/invoke/MethodHandle" ∧ (yX9_nodeBest).cls ≠ "java/lang/invoke/VarHandle" ∧ (parseMethodDescriptor (yX9_nodeBest).desc).map (fun d => d.parameters.length) = some 2 := by decide +kernel
theorem hdX9_nodeBest : (yX9_nodeBest).cls = RX9 ∧ (yX9_nodeBest).cls ≠ "java/lang/invoke/MethodHandle" ∧ (yX9_nodeBest).cls ≠ "java/lang/invoke/VarHandle" ∧ (parseMethodDescriptor (yX9_nodeBest).desc).map (fun d => d.parameters.length) = some 2 := ⟨rfl, hdSX9_nodeBest⟩
set_option maxHeartbeats 4000000 in
set_option maxRecDepth 100000 in
theorem kX9_nodeBest {l : Launch} {D : va_G} {cI cJ cT : ClassId} (d : Nat → Nat) (dN : Nat → Nat) (dI : Nat → Nat) (dT : Nat → Nat) (dNc : Nat → Nat) (dNcj : Nat → Nat) (dNcs : Nat → Nat) (dNcp : Nat → Nat) (dNw : Nat → Nat) (dx : Nat → Nat) (dtt : Nat)  (v : Lf) (vNw : Lf) (x1 : Int32) (x2 : Int32) {Q : Int32 → Lf → Lf → Prop} (sz : Nat) (h : pX9_nodeBest v vNw x1 x2 Q) : Met l yX9_nodeBest wdX9_nodeBest rmX9_nodeBest (Pz D (tyL cI cJ cT) [.ref (d 0), .int x1, .int x2] ((wX9 d (dN 0) (dI 0) (dT 0) (dNc 0) (dNcj 0) (dNcs 0) (dNcp 0) (dNw 0) (dx 0) dtt v) ++ (wX7 cI dNw vNw)) sz) (va_Qi (fun (r : Int32) (u : Lf × Lf) => Q r u.1 u.2) (Bz D (tyL cI cJ cT) ((wX9 d (dN 0) (dI 0) (dT 0) (dNc 0) (dNcj 0) (dNcs 0) (dNcp 0) (dNw 0) (dx 0) dtt v) ++ (wX7 cI dNw vNw)) sz (fun (u : Lf × Lf) => ((wX9 d (dN 0) (dI 0) (dT 0) (dNc 0) (dNcj 0) (dNcs 0) (dNcp 0) (dNw 0) (dx 0) dtt u.1) ++ (wX7 cI dNw u.2)))) (va_A ((wX9 d (dN 0) (dI 0) (dT 0) (dNc 0) (dNcj 0) (dNcs 0) (dNcp 0) (dNw 0) (dx 0) dtt v) ++ (wX7 cI dNw vNw)) sz)) 0 0 (va_A ((wX9 d (dN 0) (dI 0) (dT 0) (dNc 0) (dNcj 0) (dNcs 0) (dNcp 0) (dNw 0) (dx 0) dtt v) ++ (wX7 cI dNw vNw)) sz) := by
  refine z_meti (cc := cX9_nodeBest) (maxL := 4) (own := RX9) (lv0 := [(0, .ref (d 0)), (1, .int x1), (2, .int x2)]) (by decide) rfl rfl (Nat.le_of_ble_eq_true rfl) rfl ?_
  intro p e s m args below meth c A QQ C hin hret
  refine z_iload_n (pc := 0) C 1 dX9_nodeBest_0 rfl ?_
  refine z_iconst (pc := 1) (v := 0) C dX9_nodeBest_1 (by decide) ?_
  refine z_aload_n (pc := 2) C 0 dX9_nodeBest_2 rfl ?_
  refine z_get (pc := 3) C uw9 0 rfl rfl 7 (by decide) wq539 rfl dX9_nodeBest_3 ?_
  refine z_get (pc := 6) C uw7 1 rfl rfl 1 (by decide) wq706 rfl dX9_nodeBest_6 ?_
  refine z_iconst (pc := 9) (v := 1) C dX9_nodeBest_9 (by decide) ?_
  refine z_isub (pc := 10) C dX9_nodeBest_10 ?_
  refine z_call0i (pc := 11) C (z_runS (pc := 11) (wc := ([] : va_W)) (As := [.int x1, .int (0 : Int32), .int ((vNw 0 1) - (1 : Int32))]) C (fun sz => kX9_within x1 (0 : Int32) ((vNw 0 1) - (1 : Int32)) sz h) [] rfl (by decide) (gdS wq366 wq553 wq373 wq112) rfl rfl rfl hdSX9_within ⟨Nat.le_of_ble_eq_true rfl, Nat.le_of_ble_eq_true rfl⟩ rfl (Nat.le_of_ble_eq_true rfl) ⟨Nat.zero_le _, Nat.zero_le _⟩ dX9_nodeBest_11) (fun r1 u1 h => ?_)
  refine z_if_eq (pc := 14) (tgt := 26) C dX9_nodeBest_14 (by decide) (fun c2 => ?_) (fun c2 => ?_)
  · have h := h.1 c2
    refine z_iconst (pc := 26) (v := -1) C dX9_nodeBest_26 (by decide) ?_
    exact hret 27 _ _ (-1 : Int32) (v, vNw) rfl h dX9_nodeBest_27
  · have h := h.2 c2
    refine z_iload_n (pc := 17) C 2 dX9_nodeBest_17 rfl ?_
    refine z_iconst (pc := 18) (v := 0) C dX9_nodeBest_18 (by decide) ?_
    refine z_iconst (pc := 19) (v := 1) C dX9_nodeBest_19 (by decide) ?_
    refine z_call0i (pc := 20) C (z_runS (pc := 20) (wc := ([] : va_W)) (As := [.int x2, .int (0 : Int32), .int (1 : Int32)]) C (fun sz => kX9_within x2 (0 : Int32) (1 : Int32) sz h) [] rfl (by decide) (gdS wq366 wq553 wq373 wq112) rfl rfl rfl hdSX9_within ⟨Nat.le_of_ble_eq_true rfl, Nat.le_of_ble_eq_true rfl⟩ rfl (Nat.le_of_ble_eq_true rfl) ⟨Nat.zero_le _, Nat.zero_le _⟩ dX9_nodeBest_20) (fun r3 u3 h => ?_)
    refine z_if_ne (pc := 23) (tgt := 28) C dX9_nodeBest_23 (by decide) (fun c4 => ?_) (fun c4 => ?_)
    · have h := h.1 c4
      refine z_aload_n (pc := 28) C 0 dX9_nodeBest_28 rfl ?_
      refine z_bipush (pc := 29) (v := 10) C dX9_nodeBest_29 (by decide) ?_
      refine z_calli (pc := 31) (wr := (wX7 cI dNw vNw)) (w1 := fun (u : Lf) => (wX9 d (dN 0) (dI 0) (dT 0) (dNc 0) (dNcj 0) (dNcs 0) (dNcp 0) (dNw 0) (dx 0) dtt u)) (w2 := fun (u : Lf) => ((wX9 d (dN 0) (dI 0) (dT 0) (dNc 0) (dNcj 0) (dNcs 0) (dNcp 0) (dNw 0) (dx 0) dtt u) ++ (wX7 cI dNw vNw))) C (z_runV (pc := 31) (wc := (wX9 d (dN 0) (dI 0) (dT 0) (dNc 0) (dNcj 0) (dNcs 0) (dNcp 0) (dNw 0) (dx 0) dtt v)) (As := [.int (10 : Int32)]) C (fun sz => kX9_takeSeconds d dN dI dT dNc dNcj dNcs dNcp dNw dx dtt v (10 : Int32) sz h) [0] rfl (by decide) (gdV wq623 wq626 wq627 wq628 wq112) rfl rfl rfl hdX9_takeSeconds 0 rfl rfl rfl ⟨Nat.le_of_ble_eq_true rfl, Nat.le_of_ble_eq_true rfl⟩ rfl (Nat.le_of_ble_eq_true rfl) ⟨Nat.zero_le _, Nat.zero_le _⟩ dX9_nodeBest_31) [0] [1, 2] [2, 0, 1] rfl rfl (by decide) (by decide) (fun _ => rfl) (by decide) (fun r5 u5 h => ?_)
      obtain ⟨v_5, hu5⟩ : ∃ z, z = u5 := ⟨_, rfl⟩
      subst hu5
      refine z_if_ne (pc := 34) (tgt := 40) C dX9_nodeBest_34 (by decide) (fun c6 => ?_) (fun c6 => ?_)
      · have h := h.1 c6
        refine z_aload_n (pc := 40) C 0 dX9_nodeBest_40 rfl ?_
        refine z_get (pc := 41) C uw9 0 rfl rfl 7 (by decide) wq539 rfl dX9_nodeBest_41 ?_
        refine z_iload_n (pc := 44) C 1 dX9_nodeBest_44 rfl ?_
        refine z_calli (pc := 45) (wr := (wX9 d (dN 0) (dI 0) (dT 0) (dNc 0) (dNcj 0) (dNcs 0) (dNcp 0) (dNw 0) (dx 0) dtt v_5)) (w1 := fun (u : Lf) => (wX7 cI dNw u)) (w2 := fun (u : Lf) => ((wX9 d (dN 0) (dI 0) (dT 0) (dNc 0) (dNcj 0) (dNcs 0) (dNcp 0) (dNw 0) (dx 0) dtt v_5) ++ (wX7 cI dNw u))) C (z_runV (pc := 45) (wc := (wX7 cI dNw vNw)) (As := [.int x1]) C (fun sz => kX7_bestOffset dNw vNw x1 sz h) [1, 2] rfl (by decide) (gdV wq463 wq721 wq465 wq466 wq430) rfl rfl rfl hdX7_bestOffset 1 rfl rfl rfl ⟨Nat.le_of_ble_eq_true rfl, Nat.le_of_ble_eq_true rfl⟩ rfl (Nat.le_of_ble_eq_true rfl) ⟨Nat.zero_le _, Nat.zero_le _⟩ dX9_nodeBest_45) [1, 2] [0] [0, 1, 2] rfl rfl (by decide) (by decide) (fun _ => rfl) (by decide) (fun r7 u7 h => ?_)
        obtain ⟨vNw_7, hu7⟩ : ∃ z, z = u7 := ⟨_, rfl⟩
        subst hu7
        refine z_istore_n (pc := 48) (lv' := [(3, .int r7), (0, .ref (d 0)), (1, .int x1), (2, .int x2)]) C dX9_nodeBest_48 (by decide) rfl ?_
        refine z_iload_n (pc := 49) C 3 dX9_nodeBest_49 rfl ?_
        refine z_if_ne (pc := 50) (tgt := 57) C dX9_nodeBest_50 (by decide) (fun c8 => ?_) (fun c8 => ?_)
        · have h := h.1 c8
          refine z_aload_n (pc := 57) C 1 dX9_nodeBest_57 rfl ?_
          refine z_get (pc := 58) C uw9 0 rfl rfl 7 (by decide) wq539 rfl dX9_nodeBest_58 ?_
          refine z_iload_n (pc := 61) C 2 dX9_nodeBest_61 rfl ?_
          refine z_iload_n (pc := 62) C 0 dX9_nodeBest_62 rfl ?_
          refine z_calli (pc := 63) (wr := (wX9 d (dN 0) (dI 0) (dT 0) (dNc 0) (dNcj 0) (dNcs 0) (dNcp 0) (dNw 0) (dx 0) dtt v_5)) (w1 := fun (u : Lf) => (wX7 cI dNw u)) (w2 := fun (u : Lf) => ((wX9 d (dN 0) (dI 0) (dT 0) (dNc 0) (dNcj 0) (dNcs 0) (dNcp 0) (dNw 0) (dx 0) dtt v_5) ++ (wX7 cI dNw u))) C (z_runV (pc := 63) (wc := (wX7 cI dNw vNw_7)) (As := [.int x1, .int r7]) C (fun sz => kX7_bandsWith dNw vNw_7 x1 r7 sz h) [1, 2] rfl (by decide) (gdV wq459 wq722 wq461 wq462 wq430) rfl rfl rfl hdX7_bandsWith 1 rfl rfl rfl ⟨Nat.le_of_ble_eq_true rfl, Nat.le_of_ble_eq_true rfl⟩ rfl (Nat.le_of_ble_eq_true rfl) ⟨Nat.zero_le _, Nat.zero_le _⟩ dX9_nodeBest_63) [1, 2] [0] [0, 1, 2] rfl rfl (by decide) (by decide) (fun _ => rfl) (by decide) (fun r9 u9 h => ?_)
          obtain ⟨vNw_9, hu9⟩ : ∃ z, z = u9 := ⟨_, rfl⟩
          subst hu9
          exact hret 66 _ _ r9 (v_5, vNw_9) rfl h dX9_nodeBest_66
        · have h := h.2 c8
          refine z_iload_n (pc := 53) C 0 dX9_nodeBest_53 rfl ?_
          refine z_goto (pc := 54) (tgt := 66) C dX9_nodeBest_54 (by decide) ?_
          exact hret 66 _ _ r7 (v_5, vNw_7) rfl h dX9_nodeBest_66
      · have h := h.2 c6
        refine z_bipush (pc := 37) (v := -4) C dX9_nodeBest_37 (by decide) ?_
        exact hret 39 _ _ (-4 : Int32) (v_5, vNw) rfl h dX9_nodeBest_39
    · have h := h.2 c4
      refine z_iconst (pc := 26) (v := -1) C dX9_nodeBest_26 (by decide) ?_
      exact hret 27 _ _ (-1 : Int32) (v, vNw) rfl h dX9_nodeBest_27

def pX9_tune (v : Lf) (vNw : Lf)  (Q : Int32 → Lf → Lf → Prop) : Prop := (pX9_takeSeconds v (200 : Int32) (fun r1 v_1 => ((¬ r1 = 0 → (pX7_tuneAll vNw (fun vNw_3 => (pX7_bothBands vNw_3 (fun r4 => (Q r4 v_1 vNw_3)))))) ∧ (r1 = 0 → (Q (-4 : Int32) v_1 vNw)))))
abbrev rmX9_tune : Room := { frames := 6, cells := 0, slots := 0, locals := 143 }
abbrev wdX9_tune : List Cond := Cond.code yX9_tune cX9_tune 1 (some .int) :: TB
theorem hdSX9_tune : (yX9_tune).cls ≠ "java/lang/invoke/MethodHandle" ∧ (yX9_tune).cls ≠ "java/lang/invoke/VarHandle" ∧ (parseMethodDescriptor (yX9_tune).desc).map (fun d => d.parameters.length) = some 0 := by decide +kernel
theorem hdX9_tune : (yX9_tune).cls = RX9 ∧ (yX9_tune).cls ≠ "java/lang/invoke/MethodHandle" ∧ (yX9_tune).cls ≠ "java/lang/invoke/VarHandle" ∧ (parseMethodDescriptor (yX9_tune).desc).map (fun d => d.parameters.length) = some 0 := ⟨rfl, hdSX9_tune⟩
set_option maxHeartbeats 4000000 in
set_option maxRecDepth 100000 in
theorem kX9_tune {l : Launch} {D : va_G} {cI cJ cT : ClassId} (d : Nat → Nat) (dN : Nat → Nat) (dI : Nat → Nat) (dT : Nat → Nat) (dNc : Nat → Nat) (dNcj : Nat → Nat) (dNcs : Nat → Nat) (dNcp : Nat → Nat) (dNw : Nat → Nat) (dx : Nat → Nat) (dtt : Nat)  (v : Lf) (vNw : Lf)  {Q : Int32 → Lf → Lf → Prop} (sz : Nat) (h : pX9_tune v vNw Q) : Met l yX9_tune wdX9_tune rmX9_tune (Pz D (tyL cI cJ cT) [.ref (d 0)] ((wX9 d (dN 0) (dI 0) (dT 0) (dNc 0) (dNcj 0) (dNcs 0) (dNcp 0) (dNw 0) (dx 0) dtt v) ++ (wX7 cI dNw vNw)) sz) (va_Qi (fun (r : Int32) (u : Lf × Lf) => Q r u.1 u.2) (Bz D (tyL cI cJ cT) ((wX9 d (dN 0) (dI 0) (dT 0) (dNc 0) (dNcj 0) (dNcs 0) (dNcp 0) (dNw 0) (dx 0) dtt v) ++ (wX7 cI dNw vNw)) sz (fun (u : Lf × Lf) => ((wX9 d (dN 0) (dI 0) (dT 0) (dNc 0) (dNcj 0) (dNcs 0) (dNcp 0) (dNw 0) (dx 0) dtt u.1) ++ (wX7 cI dNw u.2)))) (va_A ((wX9 d (dN 0) (dI 0) (dT 0) (dNc 0) (dNcj 0) (dNcs 0) (dNcp 0) (dNw 0) (dx 0) dtt v) ++ (wX7 cI dNw vNw)) sz)) 0 0 (va_A ((wX9 d (dN 0) (dI 0) (dT 0) (dNc 0) (dNcj 0) (dNcs 0) (dNcp 0) (dNw 0) (dx 0) dtt v) ++ (wX7 cI dNw vNw)) sz) := by
  refine z_meti (cc := cX9_tune) (maxL := 1) (own := RX9) (lv0 := [(0, .ref (d 0))]) (by decide) rfl rfl (Nat.le_of_ble_eq_true rfl) rfl ?_
  intro p e s m args below meth c A QQ C hin hret
  refine z_aload_n (pc := 0) C 0 dX9_tune_0 rfl ?_
  refine z_sipush (pc := 1) (v := 200) C dX9_tune_1 (by decide) ?_
  refine z_calli (pc := 4) (wr := (wX7 cI dNw vNw)) (w1 := fun (u : Lf) => (wX9 d (dN 0) (dI 0) (dT 0) (dNc 0) (dNcj 0) (dNcs 0) (dNcp 0) (dNw 0) (dx 0) dtt u)) (w2 := fun (u : Lf) => ((wX9 d (dN 0) (dI 0) (dT 0) (dNc 0) (dNcj 0) (dNcs 0) (dNcp 0) (dNw 0) (dx 0) dtt u) ++ (wX7 cI dNw vNw))) C (z_runV (pc := 4) (wc := (wX9 d (dN 0) (dI 0) (dT 0) (dNc 0) (dNcj 0) (dNcs 0) (dNcp 0) (dNw 0) (dx 0) dtt v)) (As := [.int (200 : Int32)]) C (fun sz => kX9_takeSeconds d dN dI dT dNc dNcj dNcs dNcp dNw dx dtt v (200 : Int32) sz h) [0] rfl (by decide) (gdV wq623 wq626 wq627 wq628 wq112) rfl rfl rfl hdX9_takeSeconds 0 rfl rfl rfl ⟨Nat.le_of_ble_eq_true rfl, Nat.le_of_ble_eq_true rfl⟩ rfl (Nat.le_of_ble_eq_true rfl) ⟨Nat.zero_le _, Nat.zero_le _⟩ dX9_tune_4) [0] [1, 2] [2, 0, 1] rfl rfl (by decide) (by decide) (fun _ => rfl) (by decide) (fun r1 u1 h => ?_)
  obtain ⟨v_1, hu1⟩ : ∃ z, z = u1 := ⟨_, rfl⟩
  subst hu1
  refine z_if_ne (pc := 7) (tgt := 13) C dX9_tune_7 (by decide) (fun c2 => ?_) (fun c2 => ?_)
  · have h := h.1 c2
    refine z_aload_n (pc := 13) C 0 dX9_tune_13 rfl ?_
    refine z_get (pc := 14) C uw9 0 rfl rfl 7 (by decide) wq539 rfl dX9_tune_14 ?_
    refine z_callv (pc := 17) (wr := (wX9 d (dN 0) (dI 0) (dT 0) (dNc 0) (dNcj 0) (dNcs 0) (dNcp 0) (dNw 0) (dx 0) dtt v_1)) (w1 := fun (u : Lf) => (wX7 cI dNw u)) (w2 := fun (u : Lf) => ((wX9 d (dN 0) (dI 0) (dT 0) (dNc 0) (dNcj 0) (dNcs 0) (dNcp 0) (dNw 0) (dx 0) dtt v_1) ++ (wX7 cI dNw u))) C (z_runV (pc := 17) (wc := (wX7 cI dNw vNw)) (As := []) C (fun sz => kX7_tuneAll dNw vNw sz h) [1, 2] rfl (by decide) (gdV wq470 wq724 wq725 wq726 wq430) rfl rfl rfl hdX7_tuneAll 1 rfl rfl rfl ⟨Nat.le_of_ble_eq_true rfl, Nat.le_of_ble_eq_true rfl⟩ rfl (Nat.le_of_ble_eq_true rfl) ⟨Nat.zero_le _, Nat.zero_le _⟩ dX9_tune_17) [1, 2] [0] [0, 1, 2] rfl rfl (by decide) (by decide) (fun _ => rfl) (by decide) (fun u3 h => ?_)
    obtain ⟨vNw_3, hu3⟩ : ∃ z, z = u3 := ⟨_, rfl⟩
    subst hu3
    refine z_aload_n (pc := 20) C 0 dX9_tune_20 rfl ?_
    refine z_get (pc := 21) C uw9 0 rfl rfl 7 (by decide) wq539 rfl dX9_tune_21 ?_
    refine z_callRi (pc := 24) C (z_runV (pc := 24) (wc := (wX7 cI dNw vNw_3)) (As := []) C (fun sz => kX7_bothBands dNw vNw_3 sz h) [1, 2] rfl (by decide) (gdV wq458 wq719 wq468 wq469 wq430) rfl rfl rfl hdX7_bothBands 1 rfl rfl rfl ⟨Nat.le_of_ble_eq_true rfl, Nat.le_of_ble_eq_true rfl⟩ rfl (Nat.le_of_ble_eq_true rfl) ⟨Nat.zero_le _, Nat.zero_le _⟩ dX9_tune_24) [1, 2] rfl (by decide) (fun r4 u4 h => ?_)
    exact hret 27 _ _ r4 (v_1, vNw_3) rfl h dX9_tune_27
  · have h := h.2 c2
    refine z_bipush (pc := 10) (v := -4) C dX9_tune_10 (by decide) ?_
    exact hret 12 _ _ (-4 : Int32) (v_1, vNw) rfl h dX9_tune_12

def pX9_would (v : Lf) (vNc : Lf) (vNcj : Lf) (vNcs : Lf) (vNcp : Lf) (vNcr : Lf) (vT : Lf) (vTj : Lf) (vTs : Lf) (vTp : Lf) (vTr : Lf) (x1 : Int32) (x2 : Int32) (Q : Int32 → Lf → Lf → Lf → Lf → Lf → Lf → Prop) : Prop := (pX9_within x2 (0 : Int32) (18 : Int32) (fun r1 => ((¬ r1 = 0 → (pX9_refusalOf v vNc x1 (99 : Int32) (1 : Int32) (fun r3 v_3 => ((r3 = 0 → (pX0_copyFrom vT vNc vNcj vNcs vNcp vNcr vTj vTs vTp vTr (fun vT_5 vTj_5 vTs_5 vTp_5 vTr_5 => (pX0_passSeconds vT_5 vTj_5 vTs_5 vTp_5 vTr_5 x1 (fun vT_6 vTs_6 vTp_6 vTr_6 => (pX0_fact vT_6 vTj_5 vTs_6 vTp_6 x2 (fun r7 => (Q r7 v_3 vT_6 vTj_5 vTs_6 vTp_6 vTr_6)))))))) ∧ (¬ r3 = 0 → (Q r3 v_3 vT vTj vTs vTp vTr)))))) ∧ (r1 = 0 → (Q (-1 : Int32) v vT vTj vTs vTp vTr)))))
abbrev rmX9_would : Room := { frames := 5, cells := 0, slots := 0, locals := 189 }
abbrev wdX9_would : List Cond := Cond.code yX9_would cX9_would 4 (some .int) :: TB
theorem hdSX9_would : (yX9_would).cls ≠ "java/lang/invoke/MethodHandle" ∧ (yX9_would).cls ≠ "java/lang/invoke/VarHandle" ∧ (parseMethodDescriptor (yX9_would).desc).map (fun d => d.parameters.length) = some 2 := by decide +kernel
theorem hdX9_would : (yX9_would).cls = RX9 ∧ (yX9_would).cls ≠ "java/lang/invoke/MethodHandle" ∧ (yX9_would).cls ≠ "java/lang/invoke/VarHandle" ∧ (parseMethodDescriptor (yX9_would).desc).map (fun d => d.parameters.length) = some 2 := ⟨rfl, hdSX9_would⟩
set_option maxHeartbeats 4000000 in
set_option maxRecDepth 100000 in
theorem kX9_would {l : Launch} {D : va_G} {cI cJ cT : ClassId} (d : Nat → Nat) (dN : Nat → Nat) (dI : Nat → Nat) (dT : Nat → Nat) (dNc : Nat → Nat) (dNcj : Nat → Nat) (dNcs : Nat → Nat) (dNcp : Nat → Nat) (dNw : Nat → Nat) (dx : Nat → Nat) (dtt : Nat) (dNcr : Nat → Nat) (dTj : Nat → Nat) (dTs : Nat → Nat) (dTp : Nat → Nat) (dTr : Nat → Nat)  (v : Lf) (vNc : Lf) (vNcj : Lf) (vNcs : Lf) (vNcp : Lf) (vNcr : Lf) (vT : Lf) (vTj : Lf) (vTs : Lf) (vTp : Lf) (vTr : Lf) (x1 : Int32) (x2 : Int32) {Q : Int32 → Lf → Lf → Lf → Lf → Lf → Lf → Prop} (sz : Nat) (h : pX9_would v vNc vNcj vNcs vNcp vNcr vT vTj vTs vTp vTr x1 x2 Q) : Met l yX9_would wdX9_would rmX9_would (Pz D (tyL cI cJ cT) [.ref (d 0), .int x1, .int x2] ((wX9 d (dN 0) (dI 0) (dT 0) (dNc 0) (dNcj 0) (dNcs 0) (dNcp 0) (dNw 0) (dx 0) dtt v) ++ ((wX0 dNc (dNcj 0) (dNcs 0) (dNcp 0) (dNcr 0) vNc) ++ ((wX1 cI dNcj vNcj) ++ ((wX5 cI dNcs vNcs) ++ ((wX2 cI dNcp vNcp) ++ ((wX4 cI 72 dNcr vNcr) ++ ((wX0 dT (dTj 0) (dTs 0) (dTp 0) (dTr 0) vT) ++ ((wX1 cI dTj vTj) ++ ((wX5 cI dTs vTs) ++ ((wX2 cI dTp vTp) ++ (wX4 cI 72 dTr vTr))))))))))) sz) (va_Qi (fun (r : Int32) (u : Lf × Lf × Lf × Lf × Lf × Lf) => Q r u.1 u.2.1 u.2.2.1 u.2.2.2.1 u.2.2.2.2.1 u.2.2.2.2.2) (Bz D (tyL cI cJ cT) ((wX9 d (dN 0) (dI 0) (dT 0) (dNc 0) (dNcj 0) (dNcs 0) (dNcp 0) (dNw 0) (dx 0) dtt v) ++ ((wX0 dNc (dNcj 0) (dNcs 0) (dNcp 0) (dNcr 0) vNc) ++ ((wX1 cI dNcj vNcj) ++ ((wX5 cI dNcs vNcs) ++ ((wX2 cI dNcp vNcp) ++ ((wX4 cI 72 dNcr vNcr) ++ ((wX0 dT (dTj 0) (dTs 0) (dTp 0) (dTr 0) vT) ++ ((wX1 cI dTj vTj) ++ ((wX5 cI dTs vTs) ++ ((wX2 cI dTp vTp) ++ (wX4 cI 72 dTr vTr))))))))))) sz (fun (u : Lf × Lf × Lf × Lf × Lf × Lf) => ((wX9 d (dN 0) (dI 0) (dT 0) (dNc 0) (dNcj 0) (dNcs 0) (dNcp 0) (dNw 0) (dx 0) dtt u.1) ++ ((wX0 dNc (dNcj 0) (dNcs 0) (dNcp 0) (dNcr 0) vNc) ++ ((wX1 cI dNcj vNcj) ++ ((wX5 cI dNcs vNcs) ++ ((wX2 cI dNcp vNcp) ++ ((wX4 cI 72 dNcr vNcr) ++ ((wX0 dT (dTj 0) (dTs 0) (dTp 0) (dTr 0) u.2.1) ++ ((wX1 cI dTj u.2.2.1) ++ ((wX5 cI dTs u.2.2.2.1) ++ ((wX2 cI dTp u.2.2.2.2.1) ++ (wX4 cI 72 dTr u.2.2.2.2.2))))))))))))) (va_A ((wX9 d (dN 0) (dI 0) (dT 0) (dNc 0) (dNcj 0) (dNcs 0) (dNcp 0) (dNw 0) (dx 0) dtt v) ++ ((wX0 dNc (dNcj 0) (dNcs 0) (dNcp 0) (dNcr 0) vNc) ++ ((wX1 cI dNcj vNcj) ++ ((wX5 cI dNcs vNcs) ++ ((wX2 cI dNcp vNcp) ++ ((wX4 cI 72 dNcr vNcr) ++ ((wX0 dT (dTj 0) (dTs 0) (dTp 0) (dTr 0) vT) ++ ((wX1 cI dTj vTj) ++ ((wX5 cI dTs vTs) ++ ((wX2 cI dTp vTp) ++ (wX4 cI 72 dTr vTr))))))))))) sz)) 0 0 (va_A ((wX9 d (dN 0) (dI 0) (dT 0) (dNc 0) (dNcj 0) (dNcs 0) (dNcp 0) (dNw 0) (dx 0) dtt v) ++ ((wX0 dNc (dNcj 0) (dNcs 0) (dNcp 0) (dNcr 0) vNc) ++ ((wX1 cI dNcj vNcj) ++ ((wX5 cI dNcs vNcs) ++ ((wX2 cI dNcp vNcp) ++ ((wX4 cI 72 dNcr vNcr) ++ ((wX0 dT (dTj 0) (dTs 0) (dTp 0) (dTr 0) vT) ++ ((wX1 cI dTj vTj) ++ ((wX5 cI dTs vTs) ++ ((wX2 cI dTp vTp) ++ (wX4 cI 72 dTr vTr))))))))))) sz) := by
  refine z_meti (cc := cX9_would) (maxL := 4) (own := RX9) (lv0 := [(0, .ref (d 0)), (1, .int x1), (2, .int x2)]) (by decide) rfl rfl (Nat.le_of_ble_eq_true rfl) rfl ?_
  intro p e s m args below meth c A QQ C hin hret
  refine z_iload_n (pc := 0) C 2 dX9_would_0 rfl ?_
  refine z_iconst (pc := 1) (v := 0) C dX9_would_1 (by decide) ?_
  refine z_bipush (pc := 2) (v := 18) C dX9_would_2 (by decide) ?_
  refine z_call0i (pc := 4) C (z_runS (pc := 4) (wc := ([] : va_W)) (As := [.int x2, .int (0 : Int32), .int (18 : Int32)]) C (fun sz => kX9_within x2 (0 : Int32) (18 : Int32) sz h) [] rfl (by decide) (gdS wq366 wq553 wq373 wq112) rfl rfl rfl hdSX9_within ⟨Nat.le_of_ble_eq_true rfl, Nat.le_of_ble_eq_true rfl⟩ rfl (Nat.le_of_ble_eq_true rfl) ⟨Nat.zero_le _, Nat.zero_le _⟩ dX9_would_4) (fun r1 u1 h => ?_)
  refine z_if_ne (pc := 7) (tgt := 12) C dX9_would_7 (by decide) (fun c2 => ?_) (fun c2 => ?_)
  · have h := h.1 c2
    refine z_aload_n (pc := 12) C 0 dX9_would_12 rfl ?_
    refine z_iload_n (pc := 13) C 1 dX9_would_13 rfl ?_
    refine z_bipush (pc := 14) (v := 99) C dX9_would_14 (by decide) ?_
    refine z_iconst (pc := 16) (v := 1) C dX9_would_16 (by decide) ?_
    refine z_calli (pc := 17) (wr := ((wX1 cI dNcj vNcj) ++ ((wX5 cI dNcs vNcs) ++ ((wX2 cI dNcp vNcp) ++ ((wX4 cI 72 dNcr vNcr) ++ ((wX0 dT (dTj 0) (dTs 0) (dTp 0) (dTr 0) vT) ++ ((wX1 cI dTj vTj) ++ ((wX5 cI dTs vTs) ++ ((wX2 cI dTp vTp) ++ (wX4 cI 72 dTr vTr)))))))))) (w1 := fun (u : Lf) => ((wX9 d (dN 0) (dI 0) (dT 0) (dNc 0) (dNcj 0) (dNcs 0) (dNcp 0) (dNw 0) (dx 0) dtt u) ++ (wX0 dNc (dNcj 0) (dNcs 0) (dNcp 0) (dNcr 0) vNc))) (w2 := fun (u : Lf) => ((wX9 d (dN 0) (dI 0) (dT 0) (dNc 0) (dNcj 0) (dNcs 0) (dNcp 0) (dNw 0) (dx 0) dtt u) ++ ((wX0 dNc (dNcj 0) (dNcs 0) (dNcp 0) (dNcr 0) vNc) ++ ((wX1 cI dNcj vNcj) ++ ((wX5 cI dNcs vNcs) ++ ((wX2 cI dNcp vNcp) ++ ((wX4 cI 72 dNcr vNcr) ++ ((wX0 dT (dTj 0) (dTs 0) (dTp 0) (dTr 0) vT) ++ ((wX1 cI dTj vTj) ++ ((wX5 cI dTs vTs) ++ ((wX2 cI dTp vTp) ++ (wX4 cI 72 dTr vTr)))))))))))) C (z_runV (pc := 17) (wc := ((wX9 d (dN 0) (dI 0) (dT 0) (dNc 0) (dNcj 0) (dNcs 0) (dNcp 0) (dNw 0) (dx 0) dtt v) ++ (wX0 dNc (dNcj 0) (dNcs 0) (dNcp 0) (dNcr 0) vNc))) (As := [.int x1, .int (99 : Int32), .int (1 : Int32)]) C (fun sz => kX9_refusalOf d dN dI dT dNc dNcj dNcs dNcp dNw dx dtt dNcr v vNc x1 (99 : Int32) (1 : Int32) sz h) [0, 1] rfl (by decide) (gdV wq625 wq630 wq631 wq632 wq112) rfl rfl rfl hdX9_refusalOf 0 rfl rfl rfl ⟨Nat.le_of_ble_eq_true rfl, Nat.le_of_ble_eq_true rfl⟩ rfl (Nat.le_of_ble_eq_true rfl) ⟨Nat.zero_le _, Nat.zero_le _⟩ dX9_would_17) [0, 1] [2, 3, 4, 5, 6, 7, 8, 9, 10, 11, 12, 13, 14, 15, 16, 17, 18, 19, 20, 21, 22, 23, 24, 25, 26, 27, 28, 29, 30, 31, 32, 33, 34, 35, 36, 37, 38, 39, 40, 41, 42] [41, 42, 0, 1, 2, 3, 4, 5, 6, 7, 8, 9, 10, 11, 12, 13, 14, 15, 16, 17, 18, 19, 20, 21, 22, 23, 24, 25, 26, 27, 28, 29, 30, 31, 32, 33, 34, 35, 36, 37, 38, 39, 40] rfl rfl (by decide) (by decide) (fun _ => rfl) (by decide) (fun r3 u3 h => ?_)
    obtain ⟨v_3, hu3⟩ : ∃ z, z = u3 := ⟨_, rfl⟩
    subst hu3
    refine z_istore_n (pc := 20) (lv' := [(3, .int r3), (0, .ref (d 0)), (1, .int x1), (2, .int x2)]) C dX9_would_20 (by decide) rfl ?_
    refine z_iload_n (pc := 21) C 0 dX9_would_21 rfl ?_
    refine z_if_eq (pc := 22) (tgt := 27) C dX9_would_22 (by decide) (fun c4 => ?_) (fun c4 => ?_)
    · have h := h.1 c4
      refine z_aload_n (pc := 27) C 1 dX9_would_27 rfl ?_
      refine z_get (pc := 28) C uw9 0 rfl rfl 2 (by decide) wq529 rfl dX9_would_28 ?_
      refine z_aload_n (pc := 31) C 1 dX9_would_31 rfl ?_
      refine z_get (pc := 32) C uw9 0 rfl rfl 3 (by decide) wq531 rfl dX9_would_32 ?_
      refine z_callv (pc := 35) (wr := (wX9 d (dN 0) (dI 0) (dT 0) (dNc 0) (dNcj 0) (dNcs 0) (dNcp 0) (dNw 0) (dx 0) dtt v_3)) (w1 := fun (u : Lf × Lf × Lf × Lf × Lf) => ((wX0 dT (dTj 0) (dTs 0) (dTp 0) (dTr 0) u.1) ++ ((wX0 dNc (dNcj 0) (dNcs 0) (dNcp 0) (dNcr 0) vNc) ++ ((wX1 cI dNcj vNcj) ++ ((wX5 cI dNcs vNcs) ++ ((wX2 cI dNcp vNcp) ++ ((wX4 cI 72 dNcr vNcr) ++ ((wX1 cI dTj u.2.1) ++ ((wX5 cI dTs u.2.2.1) ++ ((wX2 cI dTp u.2.2.2.1) ++ (wX4 cI 72 dTr u.2.2.2.2))))))))))) (w2 := fun (u : Lf × Lf × Lf × Lf × Lf) => ((wX9 d (dN 0) (dI 0) (dT 0) (dNc 0) (dNcj 0) (dNcs 0) (dNcp 0) (dNw 0) (dx 0) dtt v_3) ++ ((wX0 dNc (dNcj 0) (dNcs 0) (dNcp 0) (dNcr 0) vNc) ++ ((wX1 cI dNcj vNcj) ++ ((wX5 cI dNcs vNcs) ++ ((wX2 cI dNcp vNcp) ++ ((wX4 cI 72 dNcr vNcr) ++ ((wX0 dT (dTj 0) (dTs 0) (dTp 0) (dTr 0) u.1) ++ ((wX1 cI dTj u.2.1) ++ ((wX5 cI dTs u.2.2.1) ++ ((wX2 cI dTp u.2.2.2.1) ++ (wX4 cI 72 dTr u.2.2.2.2)))))))))))) C (z_runV (pc := 35) (wc := ((wX0 dT (dTj 0) (dTs 0) (dTp 0) (dTr 0) vT) ++ ((wX0 dNc (dNcj 0) (dNcs 0) (dNcp 0) (dNcr 0) vNc) ++ ((wX1 cI dNcj vNcj) ++ ((wX5 cI dNcs vNcs) ++ ((wX2 cI dNcp vNcp) ++ ((wX4 cI 72 dNcr vNcr) ++ ((wX1 cI dTj vTj) ++ ((wX5 cI dTs vTs) ++ ((wX2 cI dTp vTp) ++ (wX4 cI 72 dTr vTr))))))))))) (As := [.ref (dNc 0)]) C (fun sz => kX0_copyFrom dT dTj dTs dTp dTr dNc dNcj dNcs dNcp dNcr vT vNc vNcj vNcs vNcp vNcr vTj vTs vTp vTr sz h) [22, 1, 2, 3, 4, 5, 6, 7, 8, 9, 10, 11, 12, 13, 14, 15, 16, 17, 18, 19, 20, 21, 23, 24, 25, 26, 27, 28, 29, 30, 31, 32, 33, 34, 35, 36, 37, 38, 39, 40, 41, 42] rfl (by decide) (gdV wq101 wq728 wq487 wq488 wq108) rfl rfl rfl hdX0_copyFrom 22 rfl rfl rfl ⟨Nat.le_of_ble_eq_true rfl, Nat.le_of_ble_eq_true rfl⟩ rfl (Nat.le_of_ble_eq_true rfl) ⟨Nat.zero_le _, Nat.zero_le _⟩ dX9_would_35) [22, 1, 2, 3, 4, 5, 6, 7, 8, 9, 10, 11, 12, 13, 14, 15, 16, 17, 18, 19, 20, 21, 23, 24, 25, 26, 27, 28, 29, 30, 31, 32, 33, 34, 35, 36, 37, 38, 39, 40, 41, 42] [0] [0, 2, 3, 4, 5, 6, 7, 8, 9, 10, 11, 12, 13, 14, 15, 16, 17, 18, 19, 20, 21, 22, 1, 23, 24, 25, 26, 27, 28, 29, 30, 31, 32, 33, 34, 35, 36, 37, 38, 39, 40, 41, 42] rfl rfl (by decide) (by decide) (fun _ => rfl) (by decide) (fun u5 h => ?_)
      obtain ⟨vT_5, vTj_5, vTs_5, vTp_5, vTr_5⟩ := u5
      dsimp only at h
      refine z_aload_n (pc := 38) C 1 dX9_would_38 rfl ?_
      refine z_get (pc := 39) C uw9 0 rfl rfl 2 (by decide) wq529 rfl dX9_would_39 ?_
      refine z_iload_n (pc := 42) C 2 dX9_would_42 rfl ?_
      refine z_callv (pc := 43) (wr := ((wX9 d (dN 0) (dI 0) (dT 0) (dNc 0) (dNcj 0) (dNcs 0) (dNcp 0) (dNw 0) (dx 0) dtt v_3) ++ ((wX0 dNc (dNcj 0) (dNcs 0) (dNcp 0) (dNcr 0) vNc) ++ ((wX1 cI dNcj vNcj) ++ ((wX5 cI dNcs vNcs) ++ ((wX2 cI dNcp vNcp) ++ (wX4 cI 72 dNcr vNcr))))))) (w1 := fun (u : Lf × Lf × Lf × Lf) => ((wX0 dT (dTj 0) (dTs 0) (dTp 0) (dTr 0) u.1) ++ ((wX1 cI dTj vTj_5) ++ ((wX5 cI dTs u.2.1) ++ ((wX2 cI dTp u.2.2.1) ++ (wX4 cI 72 dTr u.2.2.2)))))) (w2 := fun (u : Lf × Lf × Lf × Lf) => ((wX9 d (dN 0) (dI 0) (dT 0) (dNc 0) (dNcj 0) (dNcs 0) (dNcp 0) (dNw 0) (dx 0) dtt v_3) ++ ((wX0 dNc (dNcj 0) (dNcs 0) (dNcp 0) (dNcr 0) vNc) ++ ((wX1 cI dNcj vNcj) ++ ((wX5 cI dNcs vNcs) ++ ((wX2 cI dNcp vNcp) ++ ((wX4 cI 72 dNcr vNcr) ++ ((wX0 dT (dTj 0) (dTs 0) (dTp 0) (dTr 0) u.1) ++ ((wX1 cI dTj vTj_5) ++ ((wX5 cI dTs u.2.1) ++ ((wX2 cI dTp u.2.2.1) ++ (wX4 cI 72 dTr u.2.2.2)))))))))))) C (z_runV (pc := 43) (wc := ((wX0 dT (dTj 0) (dTs 0) (dTp 0) (dTr 0) vT_5) ++ ((wX1 cI dTj vTj_5) ++ ((wX5 cI dTs vTs_5) ++ ((wX2 cI dTp vTp_5) ++ (wX4 cI 72 dTr vTr_5)))))) (As := [.int x1]) C (fun sz => kX0_passSeconds dT dTj dTs dTp dTr vT_5 vTj_5 vTs_5 vTp_5 vTr_5 x1 sz h) [22, 23, 24, 25, 26, 27, 28, 29, 30, 31, 32, 33, 34, 35, 36, 37, 38, 39, 40, 41, 42] rfl (by decide) (gdV wq257 wq633 wq259 wq260 wq108) rfl rfl rfl hdX0_passSeconds 22 rfl rfl rfl ⟨Nat.le_of_ble_eq_true rfl, Nat.le_of_ble_eq_true rfl⟩ rfl (Nat.le_of_ble_eq_true rfl) ⟨Nat.zero_le _, Nat.zero_le _⟩ dX9_would_43) [22, 23, 24, 25, 26, 27, 28, 29, 30, 31, 32, 33, 34, 35, 36, 37, 38, 39, 40, 41, 42] [0, 1, 2, 3, 4, 5, 6, 7, 8, 9, 10, 11, 12, 13, 14, 15, 16, 17, 18, 19, 20, 21] [0, 1, 2, 3, 4, 5, 6, 7, 8, 9, 10, 11, 12, 13, 14, 15, 16, 17, 18, 19, 20, 21, 22, 23, 24, 25, 26, 27, 28, 29, 30, 31, 32, 33, 34, 35, 36, 37, 38, 39, 40, 41, 42] rfl rfl (by decide) (by decide) (fun _ => rfl) (by decide) (fun u6 h => ?_)
      obtain ⟨vT_6, vTs_6, vTp_6, vTr_6⟩ := u6
      dsimp only at h
      refine z_aload_n (pc := 46) C 1 dX9_would_46 rfl ?_
      refine z_get (pc := 47) C uw9 0 rfl rfl 2 (by decide) wq529 rfl dX9_would_47 ?_
      refine z_iload_n (pc := 50) C 3 dX9_would_50 rfl ?_
      refine z_callRi (pc := 51) C (z_runV (pc := 51) (wc := ((wX0 dT (dTj 0) (dTs 0) (dTp 0) (dTr 0) vT_6) ++ ((wX1 cI dTj vTj_5) ++ ((wX5 cI dTs vTs_6) ++ (wX2 cI dTp vTp_6))))) (As := [.int x2]) C (fun sz => kX0_fact dT dTj dTs dTp dTr vT_6 vTj_5 vTs_6 vTp_6 x2 sz h) [22, 23, 24, 25, 26, 27, 28, 29, 30, 31, 32, 33, 34, 35, 36, 37, 38, 39, 40] rfl (by decide) (gdV wq279 wq635 wq636 wq637 wq108) rfl rfl rfl hdX0_fact 22 rfl rfl rfl ⟨Nat.le_of_ble_eq_true rfl, Nat.le_of_ble_eq_true rfl⟩ rfl (Nat.le_of_ble_eq_true rfl) ⟨Nat.zero_le _, Nat.zero_le _⟩ dX9_would_51) [22, 23, 24, 25, 26, 27, 28, 29, 30, 31, 32, 33, 34, 35, 36, 37, 38, 39, 40] rfl (by decide) (fun r7 u7 h => ?_)
      exact hret 54 _ _ r7 (v_3, vT_6, vTj_5, vTs_6, vTp_6, vTr_6) rfl h dX9_would_54
    · have h := h.2 c4
      refine z_iload_n (pc := 25) C 0 dX9_would_25 rfl ?_
      exact hret 26 _ _ r3 (v_3, vT, vTj, vTs, vTp, vTr) rfl h dX9_would_26
  · have h := h.2 c2
    refine z_iconst (pc := 10) (v := -1) C dX9_would_10 (by decide) ?_
    exact hret 11 _ _ (-1 : Int32) (v, vT, vTj, vTs, vTp, vTr) rfl h dX9_would_11

def pX9_turns_L39 (vNc : Lf) (vNcj : Lf) (vNcs : Lf) (vNcp : Lf) (vNcr : Lf) (x1 : Int32) (x2 : Int32) (Q : Int32 → Lf → Lf → Lf → Lf → Lf → Lf → Prop) : Nat → Lf → Lf → Lf → Lf → Lf → Lf → Int32 → Prop
  | 0, _, _, _, _, _, _, _ => False
  | n39 + 1, v, vT, vTj, vTs, vTp, vTr, x4 => ((x2 ≤ x4 → (Q (-5 : Int32) v vT vTj vTs vTp vTr)) ∧ (¬ x2 ≤ x4 → (pX0_passSeconds vT vTj vTs vTp vTr (1 : Int32) (fun vT_7 vTs_7 vTp_7 vTr_7 => (pX5_isGreen vTs_7 x1 (fun r8 => ((r8 = 0 → (pX9_turns_L39 vNc vNcj vNcs vNcp vNcr x1 x2 Q n39 v vT_7 vTj vTs_7 vTp_7 vTr_7 (x4 + 1))) ∧ (¬ r8 = 0 → (Q ((vT_7 0 5) - (1 : Int32)) v vT_7 vTj vTs_7 vTp_7 vTr_7)))))))))
def pX9_turns (v : Lf) (vNc : Lf) (vNcj : Lf) (vNcs : Lf) (vNcp : Lf) (vNcr : Lf) (vT : Lf) (vTj : Lf) (vTs : Lf) (vTp : Lf) (vTr : Lf) (x1 : Int32) (x2 : Int32) (Q : Int32 → Lf → Lf → Lf → Lf → Lf → Lf → Prop) : Prop := (pX9_isSignal vNcj x1 (fun r1 => ((¬ r1 = 0 → (pX9_refusalOf v vNc x2 (99 : Int32) (1 : Int32) (fun r3 v_3 => ((r3 = 0 → (pX0_copyFrom vT vNc vNcj vNcs vNcp vNcr vTj vTs vTp vTr (fun vT_5 vTj_5 vTs_5 vTp_5 vTr_5 => (∃ n39, pX9_turns_L39 vNc vNcj vNcs vNcp vNcr x1 x2 Q  n39 v_3 vT_5 vTj_5 vTs_5 vTp_5 vTr_5 (0 : Int32))))) ∧ (¬ r3 = 0 → (Q r3 v_3 vT vTj vTs vTp vTr)))))) ∧ (r1 = 0 → (Q (-1 : Int32) v vT vTj vTs vTp vTr)))))
abbrev rmX9_turns : Room := { frames := 5, cells := 0, slots := 0, locals := 189 }
abbrev wdX9_turns : List Cond := Cond.code yX9_turns cX9_turns 5 (some .int) :: TB
theorem hdSX9_turns : (yX9_turns).cls ≠ "java/lang/invoke/MethodHandle" ∧ (yX9_turns).cls ≠ "java/lang/invoke/VarHandle" ∧ (parseMethodDescriptor (yX9_turns).desc).map (fun d => d.parameters.length) = some 2 := by decide +kernel
theorem hdX9_turns : (yX9_turns).cls = RX9 ∧ (yX9_turns).cls ≠ "java/lang/invoke/MethodHandle" ∧ (yX9_turns).cls ≠ "java/lang/invoke/VarHandle" ∧ (parseMethodDescriptor (yX9_turns).desc).map (fun d => d.parameters.length) = some 2 := ⟨rfl, hdSX9_turns⟩
set_option maxHeartbeats 4000000 in
set_option maxRecDepth 100000 in
theorem kX9_turns {l : Launch} {D : va_G} {cI cJ cT : ClassId} (d : Nat → Nat) (dN : Nat → Nat) (dI : Nat → Nat) (dT : Nat → Nat) (dNc : Nat → Nat) (dNcj : Nat → Nat) (dNcs : Nat → Nat) (dNcp : Nat → Nat) (dNw : Nat → Nat) (dx : Nat → Nat) (dtt : Nat) (dNcr : Nat → Nat) (dTj : Nat → Nat) (dTs : Nat → Nat) (dTp : Nat → Nat) (dTr : Nat → Nat)  (v : Lf) (vNc : Lf) (vNcj : Lf) (vNcs : Lf) (vNcp : Lf) (vNcr : Lf) (vT : Lf) (vTj : Lf) (vTs : Lf) (vTp : Lf) (vTr : Lf) (x1 : Int32) (x2 : Int32) {Q : Int32 → Lf → Lf → Lf → Lf → Lf → Lf → Prop} (sz : Nat) (h : pX9_turns v vNc vNcj vNcs vNcp vNcr vT vTj vTs vTp vTr x1 x2 Q) : Met l yX9_turns wdX9_turns rmX9_turns (Pz D (tyL cI cJ cT) [.ref (d 0), .int x1, .int x2] ((wX9 d (dN 0) (dI 0) (dT 0) (dNc 0) (dNcj 0) (dNcs 0) (dNcp 0) (dNw 0) (dx 0) dtt v) ++ ((wX0 dNc (dNcj 0) (dNcs 0) (dNcp 0) (dNcr 0) vNc) ++ ((wX1 cI dNcj vNcj) ++ ((wX5 cI dNcs vNcs) ++ ((wX2 cI dNcp vNcp) ++ ((wX4 cI 72 dNcr vNcr) ++ ((wX0 dT (dTj 0) (dTs 0) (dTp 0) (dTr 0) vT) ++ ((wX1 cI dTj vTj) ++ ((wX5 cI dTs vTs) ++ ((wX2 cI dTp vTp) ++ (wX4 cI 72 dTr vTr))))))))))) sz) (va_Qi (fun (r : Int32) (u : Lf × Lf × Lf × Lf × Lf × Lf) => Q r u.1 u.2.1 u.2.2.1 u.2.2.2.1 u.2.2.2.2.1 u.2.2.2.2.2) (Bz D (tyL cI cJ cT) ((wX9 d (dN 0) (dI 0) (dT 0) (dNc 0) (dNcj 0) (dNcs 0) (dNcp 0) (dNw 0) (dx 0) dtt v) ++ ((wX0 dNc (dNcj 0) (dNcs 0) (dNcp 0) (dNcr 0) vNc) ++ ((wX1 cI dNcj vNcj) ++ ((wX5 cI dNcs vNcs) ++ ((wX2 cI dNcp vNcp) ++ ((wX4 cI 72 dNcr vNcr) ++ ((wX0 dT (dTj 0) (dTs 0) (dTp 0) (dTr 0) vT) ++ ((wX1 cI dTj vTj) ++ ((wX5 cI dTs vTs) ++ ((wX2 cI dTp vTp) ++ (wX4 cI 72 dTr vTr))))))))))) sz (fun (u : Lf × Lf × Lf × Lf × Lf × Lf) => ((wX9 d (dN 0) (dI 0) (dT 0) (dNc 0) (dNcj 0) (dNcs 0) (dNcp 0) (dNw 0) (dx 0) dtt u.1) ++ ((wX0 dNc (dNcj 0) (dNcs 0) (dNcp 0) (dNcr 0) vNc) ++ ((wX1 cI dNcj vNcj) ++ ((wX5 cI dNcs vNcs) ++ ((wX2 cI dNcp vNcp) ++ ((wX4 cI 72 dNcr vNcr) ++ ((wX0 dT (dTj 0) (dTs 0) (dTp 0) (dTr 0) u.2.1) ++ ((wX1 cI dTj u.2.2.1) ++ ((wX5 cI dTs u.2.2.2.1) ++ ((wX2 cI dTp u.2.2.2.2.1) ++ (wX4 cI 72 dTr u.2.2.2.2.2))))))))))))) (va_A ((wX9 d (dN 0) (dI 0) (dT 0) (dNc 0) (dNcj 0) (dNcs 0) (dNcp 0) (dNw 0) (dx 0) dtt v) ++ ((wX0 dNc (dNcj 0) (dNcs 0) (dNcp 0) (dNcr 0) vNc) ++ ((wX1 cI dNcj vNcj) ++ ((wX5 cI dNcs vNcs) ++ ((wX2 cI dNcp vNcp) ++ ((wX4 cI 72 dNcr vNcr) ++ ((wX0 dT (dTj 0) (dTs 0) (dTp 0) (dTr 0) vT) ++ ((wX1 cI dTj vTj) ++ ((wX5 cI dTs vTs) ++ ((wX2 cI dTp vTp) ++ (wX4 cI 72 dTr vTr))))))))))) sz)) 0 0 (va_A ((wX9 d (dN 0) (dI 0) (dT 0) (dNc 0) (dNcj 0) (dNcs 0) (dNcp 0) (dNw 0) (dx 0) dtt v) ++ ((wX0 dNc (dNcj 0) (dNcs 0) (dNcp 0) (dNcr 0) vNc) ++ ((wX1 cI dNcj vNcj) ++ ((wX5 cI dNcs vNcs) ++ ((wX2 cI dNcp vNcp) ++ ((wX4 cI 72 dNcr vNcr) ++ ((wX0 dT (dTj 0) (dTs 0) (dTp 0) (dTr 0) vT) ++ ((wX1 cI dTj vTj) ++ ((wX5 cI dTs vTs) ++ ((wX2 cI dTp vTp) ++ (wX4 cI 72 dTr vTr))))))))))) sz) := by
  refine z_meti (cc := cX9_turns) (maxL := 5) (own := RX9) (lv0 := [(0, .ref (d 0)), (1, .int x1), (2, .int x2)]) (by decide) rfl rfl (Nat.le_of_ble_eq_true rfl) rfl ?_
  intro p e s m args below meth c A QQ C hin hret
  have L39 : ∀ (n39 : Nat) (v : Lf) (vT : Lf) (vTj : Lf) (vTs : Lf) (vTp : Lf) (vTr : Lf) (x4 : Int32), pX9_turns_L39 vNc vNcj vNcs vNcp vNcr x1 x2 Q n39 v vT vTj vTs vTp vTr x4 → ZZ p l e rmX9_turns s m args below meth c D A 5 0 0 QQ 39 ((wX9 d (dN 0) (dI 0) (dT 0) (dNc 0) (dNcj 0) (dNcs 0) (dNcp 0) (dNw 0) (dx 0) dtt v) ++ ((wX0 dNc (dNcj 0) (dNcs 0) (dNcp 0) (dNcr 0) vNc) ++ ((wX1 cI dNcj vNcj) ++ ((wX5 cI dNcs vNcs) ++ ((wX2 cI dNcp vNcp) ++ ((wX4 cI 72 dNcr vNcr) ++ ((wX0 dT (dTj 0) (dTs 0) (dTp 0) (dTr 0) vT) ++ ((wX1 cI dTj vTj) ++ ((wX5 cI dTs vTs) ++ ((wX2 cI dTp vTp) ++ (wX4 cI 72 dTr vTr))))))))))) [(0, .ref (d 0)), (1, .int x1), (2, .int x2), (4, .int x4)] [] := by
    intro n39
    induction n39 with
    | zero => intro v vT vTj vTs vTp vTr x4 h; exact False.elim h
    | succ n39 ih39 =>
      intro v vT vTj vTs vTp vTr x4 h
      refine z_iload (pc := 39) C 3 dX9_turns_39 rfl ?_
      refine z_iload_n (pc := 41) C 2 dX9_turns_41 rfl ?_
      refine z_icmp_ge (pc := 42) (tgt := 83) C dX9_turns_42 (by decide) (fun c6 => ?_) (fun c6 => ?_)
      · have h := h.1 c6
        refine z_bipush (pc := 83) (v := -5) C dX9_turns_83 (by decide) ?_
        exact hret 85 _ _ (-5 : Int32) (v, vT, vTj, vTs, vTp, vTr) rfl h dX9_turns_85
      · have h := h.2 c6
        refine z_aload_n (pc := 45) C 0 dX9_turns_45 rfl ?_
        refine z_get (pc := 46) C uw9 0 rfl rfl 2 (by decide) wq529 rfl dX9_turns_46 ?_
        refine z_iconst (pc := 49) (v := 1) C dX9_turns_49 (by decide) ?_
        refine z_callv (pc := 50) (wr := ((wX9 d (dN 0) (dI 0) (dT 0) (dNc 0) (dNcj 0) (dNcs 0) (dNcp 0) (dNw 0) (dx 0) dtt v) ++ ((wX0 dNc (dNcj 0) (dNcs 0) (dNcp 0) (dNcr 0) vNc) ++ ((wX1 cI dNcj vNcj) ++ ((wX5 cI dNcs vNcs) ++ ((wX2 cI dNcp vNcp) ++ (wX4 cI 72 dNcr vNcr))))))) (w1 := fun (u : Lf × Lf × Lf × Lf) => ((wX0 dT (dTj 0) (dTs 0) (dTp 0) (dTr 0) u.1) ++ ((wX1 cI dTj vTj) ++ ((wX5 cI dTs u.2.1) ++ ((wX2 cI dTp u.2.2.1) ++ (wX4 cI 72 dTr u.2.2.2)))))) (w2 := fun (u : Lf × Lf × Lf × Lf) => ((wX9 d (dN 0) (dI 0) (dT 0) (dNc 0) (dNcj 0) (dNcs 0) (dNcp 0) (dNw 0) (dx 0) dtt v) ++ ((wX0 dNc (dNcj 0) (dNcs 0) (dNcp 0) (dNcr 0) vNc) ++ ((wX1 cI dNcj vNcj) ++ ((wX5 cI dNcs vNcs) ++ ((wX2 cI dNcp vNcp) ++ ((wX4 cI 72 dNcr vNcr) ++ ((wX0 dT (dTj 0) (dTs 0) (dTp 0) (dTr 0) u.1) ++ ((wX1 cI dTj vTj) ++ ((wX5 cI dTs u.2.1) ++ ((wX2 cI dTp u.2.2.1) ++ (wX4 cI 72 dTr u.2.2.2)))))))))))) C (z_runV (pc := 50) (wc := ((wX0 dT (dTj 0) (dTs 0) (dTp 0) (dTr 0) vT) ++ ((wX1 cI dTj vTj) ++ ((wX5 cI dTs vTs) ++ ((wX2 cI dTp vTp) ++ (wX4 cI 72 dTr vTr)))))) (As := [.int (1 : Int32)]) C (fun sz => kX0_passSeconds dT dTj dTs dTp dTr vT vTj vTs vTp vTr (1 : Int32) sz h) [22, 23, 24, 25, 26, 27, 28, 29, 30, 31, 32, 33, 34, 35, 36, 37, 38, 39, 40, 41, 42] rfl (by decide) (gdV wq257 wq633 wq259 wq260 wq108) rfl rfl rfl hdX0_passSeconds 22 rfl rfl rfl ⟨Nat.le_of_ble_eq_true rfl, Nat.le_of_ble_eq_true rfl⟩ rfl (Nat.le_of_ble_eq_true rfl) ⟨Nat.zero_le _, Nat.zero_le _⟩ dX9_turns_50) [22, 23, 24, 25, 26, 27, 28, 29, 30, 31, 32, 33, 34, 35, 36, 37, 38, 39, 40, 41, 42] [0, 1, 2, 3, 4, 5, 6, 7, 8, 9, 10, 11, 12, 13, 14, 15, 16, 17, 18, 19, 20, 21] [0, 1, 2, 3, 4, 5, 6, 7, 8, 9, 10, 11, 12, 13, 14, 15, 16, 17, 18, 19, 20, 21, 22, 23, 24, 25, 26, 27, 28, 29, 30, 31, 32, 33, 34, 35, 36, 37, 38, 39, 40, 41, 42] rfl rfl (by decide) (by decide) (fun _ => rfl) (by decide) (fun u7 h => ?_)
        obtain ⟨vT_7, vTs_7, vTp_7, vTr_7⟩ := u7
        dsimp only at h
        refine z_aload_n (pc := 53) C 0 dX9_turns_53 rfl ?_
        refine z_get (pc := 54) C uw9 0 rfl rfl 2 (by decide) wq529 rfl dX9_turns_54 ?_
        refine z_get (pc := 57) C uw0 22 rfl rfl 1 (by decide) wq534 rfl dX9_turns_57 ?_
        refine z_iload_n (pc := 60) C 1 dX9_turns_60 rfl ?_
        refine z_callRi (pc := 61) C (z_runV (pc := 61) (wc := (wX5 cI dTs vTs_7)) (As := [.int x1]) C (fun sz => kX5_isGreen dTs vTs_7 x1 sz h) [29, 30, 31, 32, 33, 34, 35, 36] rfl (by decide) (gdV wq135 wq731 wq139 wq140 wq40) rfl rfl rfl hdX5_isGreen 29 rfl rfl rfl ⟨Nat.le_of_ble_eq_true rfl, Nat.le_of_ble_eq_true rfl⟩ rfl (Nat.le_of_ble_eq_true rfl) ⟨Nat.zero_le _, Nat.zero_le _⟩ dX9_turns_61) [29, 30, 31, 32, 33, 34, 35, 36] rfl (by decide) (fun r8 u8 h => ?_)
        refine z_if_eq (pc := 64) (tgt := 77) C dX9_turns_64 (by decide) (fun c9 => ?_) (fun c9 => ?_)
        · have h := h.1 c9
          refine z_iinc (pc := 77) (v := (x4 + 1)) (lv' := [(4, .int (x4 + 1)), (0, .ref (d 0)), (1, .int x1), (2, .int x2)]) C 3 dX9_turns_77 rfl rfl (by decide) rfl ?_
          refine z_goto (pc := 80) (tgt := 39) C dX9_turns_80 (by decide) ?_
          refine z_sub (lv' := [(0, .ref (d 0)), (1, .int x1), (2, .int x2), (4, .int (x4 + 1))]) [1, 2, 3, 0] rfl ?_
          exact ih39 v vT_7 vTj vTs_7 vTp_7 vTr_7 (x4 + 1) h
        · have h := h.2 c9
          refine z_aload_n (pc := 67) C 0 dX9_turns_67 rfl ?_
          refine z_get (pc := 68) C uw9 0 rfl rfl 2 (by decide) wq529 rfl dX9_turns_68 ?_
          refine z_get (pc := 71) C uw0 22 rfl rfl 5 (by decide) wq730 rfl dX9_turns_71 ?_
          refine z_iconst (pc := 74) (v := 1) C dX9_turns_74 (by decide) ?_
          refine z_isub (pc := 75) C dX9_turns_75 ?_
          exact hret 76 _ _ ((vT_7 0 5) - (1 : Int32)) (v, vT_7, vTj, vTs_7, vTp_7, vTr_7) rfl h dX9_turns_76
  refine z_aload_n (pc := 0) C 0 dX9_turns_0 rfl ?_
  refine z_iload_n (pc := 1) C 1 dX9_turns_1 rfl ?_
  refine z_callRi (pc := 2) C (z_runV (pc := 2) (wc := ((wX9 d (dN 0) (dI 0) (dT 0) (dNc 0) (dNcj 0) (dNcs 0) (dNcp 0) (dNw 0) (dx 0) dtt v) ++ (wX1 cI dNcj vNcj))) (As := [.int x1]) C (fun sz => kX9_isSignal d dN dI dT dNc dNcj dNcs dNcp dNw dx dtt v vNcj x1 sz h) [0, 2, 3, 4, 5, 6, 7] rfl (by decide) (gdV wq558 wq561 wq562 wq563 wq112) rfl rfl rfl hdX9_isSignal 0 rfl rfl rfl ⟨Nat.le_of_ble_eq_true rfl, Nat.le_of_ble_eq_true rfl⟩ rfl (Nat.le_of_ble_eq_true rfl) ⟨Nat.zero_le _, Nat.zero_le _⟩ dX9_turns_2) [0, 2, 3, 4, 5, 6, 7] rfl (by decide) (fun r1 u1 h => ?_)
  refine z_if_ne (pc := 5) (tgt := 10) C dX9_turns_5 (by decide) (fun c2 => ?_) (fun c2 => ?_)
  · have h := h.1 c2
    refine z_aload_n (pc := 10) C 0 dX9_turns_10 rfl ?_
    refine z_iload_n (pc := 11) C 2 dX9_turns_11 rfl ?_
    refine z_bipush (pc := 12) (v := 99) C dX9_turns_12 (by decide) ?_
    refine z_iconst (pc := 14) (v := 1) C dX9_turns_14 (by decide) ?_
    refine z_calli (pc := 15) (wr := ((wX1 cI dNcj vNcj) ++ ((wX5 cI dNcs vNcs) ++ ((wX2 cI dNcp vNcp) ++ ((wX4 cI 72 dNcr vNcr) ++ ((wX0 dT (dTj 0) (dTs 0) (dTp 0) (dTr 0) vT) ++ ((wX1 cI dTj vTj) ++ ((wX5 cI dTs vTs) ++ ((wX2 cI dTp vTp) ++ (wX4 cI 72 dTr vTr)))))))))) (w1 := fun (u : Lf) => ((wX9 d (dN 0) (dI 0) (dT 0) (dNc 0) (dNcj 0) (dNcs 0) (dNcp 0) (dNw 0) (dx 0) dtt u) ++ (wX0 dNc (dNcj 0) (dNcs 0) (dNcp 0) (dNcr 0) vNc))) (w2 := fun (u : Lf) => ((wX9 d (dN 0) (dI 0) (dT 0) (dNc 0) (dNcj 0) (dNcs 0) (dNcp 0) (dNw 0) (dx 0) dtt u) ++ ((wX0 dNc (dNcj 0) (dNcs 0) (dNcp 0) (dNcr 0) vNc) ++ ((wX1 cI dNcj vNcj) ++ ((wX5 cI dNcs vNcs) ++ ((wX2 cI dNcp vNcp) ++ ((wX4 cI 72 dNcr vNcr) ++ ((wX0 dT (dTj 0) (dTs 0) (dTp 0) (dTr 0) vT) ++ ((wX1 cI dTj vTj) ++ ((wX5 cI dTs vTs) ++ ((wX2 cI dTp vTp) ++ (wX4 cI 72 dTr vTr)))))))))))) C (z_runV (pc := 15) (wc := ((wX9 d (dN 0) (dI 0) (dT 0) (dNc 0) (dNcj 0) (dNcs 0) (dNcp 0) (dNw 0) (dx 0) dtt v) ++ (wX0 dNc (dNcj 0) (dNcs 0) (dNcp 0) (dNcr 0) vNc))) (As := [.int x2, .int (99 : Int32), .int (1 : Int32)]) C (fun sz => kX9_refusalOf d dN dI dT dNc dNcj dNcs dNcp dNw dx dtt dNcr v vNc x2 (99 : Int32) (1 : Int32) sz h) [0, 1] rfl (by decide) (gdV wq625 wq630 wq631 wq632 wq112) rfl rfl rfl hdX9_refusalOf 0 rfl rfl rfl ⟨Nat.le_of_ble_eq_true rfl, Nat.le_of_ble_eq_true rfl⟩ rfl (Nat.le_of_ble_eq_true rfl) ⟨Nat.zero_le _, Nat.zero_le _⟩ dX9_turns_15) [0, 1] [2, 3, 4, 5, 6, 7, 8, 9, 10, 11, 12, 13, 14, 15, 16, 17, 18, 19, 20, 21, 22, 23, 24, 25, 26, 27, 28, 29, 30, 31, 32, 33, 34, 35, 36, 37, 38, 39, 40, 41, 42] [41, 42, 0, 1, 2, 3, 4, 5, 6, 7, 8, 9, 10, 11, 12, 13, 14, 15, 16, 17, 18, 19, 20, 21, 22, 23, 24, 25, 26, 27, 28, 29, 30, 31, 32, 33, 34, 35, 36, 37, 38, 39, 40] rfl rfl (by decide) (by decide) (fun _ => rfl) (by decide) (fun r3 u3 h => ?_)
    obtain ⟨v_3, hu3⟩ : ∃ z, z = u3 := ⟨_, rfl⟩
    subst hu3
    refine z_istore_n (pc := 18) (lv' := [(3, .int r3), (0, .ref (d 0)), (1, .int x1), (2, .int x2)]) C dX9_turns_18 (by decide) rfl ?_
    refine z_iload_n (pc := 19) C 0 dX9_turns_19 rfl ?_
    refine z_if_eq (pc := 20) (tgt := 25) C dX9_turns_20 (by decide) (fun c4 => ?_) (fun c4 => ?_)
    · have h := h.1 c4
      refine z_aload_n (pc := 25) C 1 dX9_turns_25 rfl ?_
      refine z_get (pc := 26) C uw9 0 rfl rfl 2 (by decide) wq529 rfl dX9_turns_26 ?_
      refine z_aload_n (pc := 29) C 1 dX9_turns_29 rfl ?_
      refine z_get (pc := 30) C uw9 0 rfl rfl 3 (by decide) wq531 rfl dX9_turns_30 ?_
      refine z_callv (pc := 33) (wr := (wX9 d (dN 0) (dI 0) (dT 0) (dNc 0) (dNcj 0) (dNcs 0) (dNcp 0) (dNw 0) (dx 0) dtt v_3)) (w1 := fun (u : Lf × Lf × Lf × Lf × Lf) => ((wX0 dT (dTj 0) (dTs 0) (dTp 0) (dTr 0) u.1) ++ ((wX0 dNc (dNcj 0) (dNcs 0) (dNcp 0) (dNcr 0) vNc) ++ ((wX1 cI dNcj vNcj) ++ ((wX5 cI dNcs vNcs) ++ ((wX2 cI dNcp vNcp) ++ ((wX4 cI 72 dNcr vNcr) ++ ((wX1 cI dTj u.2.1) ++ ((wX5 cI dTs u.2.2.1) ++ ((wX2 cI dTp u.2.2.2.1) ++ (wX4 cI 72 dTr u.2.2.2.2))))))))))) (w2 := fun (u : Lf × Lf × Lf × Lf × Lf) => ((wX9 d (dN 0) (dI 0) (dT 0) (dNc 0) (dNcj 0) (dNcs 0) (dNcp 0) (dNw 0) (dx 0) dtt v_3) ++ ((wX0 dNc (dNcj 0) (dNcs 0) (dNcp 0) (dNcr 0) vNc) ++ ((wX1 cI dNcj vNcj) ++ ((wX5 cI dNcs vNcs) ++ ((wX2 cI dNcp vNcp) ++ ((wX4 cI 72 dNcr vNcr) ++ ((wX0 dT (dTj 0) (dTs 0) (dTp 0) (dTr 0) u.1) ++ ((wX1 cI dTj u.2.1) ++ ((wX5 cI dTs u.2.2.1) ++ ((wX2 cI dTp u.2.2.2.1) ++ (wX4 cI 72 dTr u.2.2.2.2)))))))))))) C (z_runV (pc := 33) (wc := ((wX0 dT (dTj 0) (dTs 0) (dTp 0) (dTr 0) vT) ++ ((wX0 dNc (dNcj 0) (dNcs 0) (dNcp 0) (dNcr 0) vNc) ++ ((wX1 cI dNcj vNcj) ++ ((wX5 cI dNcs vNcs) ++ ((wX2 cI dNcp vNcp) ++ ((wX4 cI 72 dNcr vNcr) ++ ((wX1 cI dTj vTj) ++ ((wX5 cI dTs vTs) ++ ((wX2 cI dTp vTp) ++ (wX4 cI 72 dTr vTr))))))))))) (As := [.ref (dNc 0)]) C (fun sz => kX0_copyFrom dT dTj dTs dTp dTr dNc dNcj dNcs dNcp dNcr vT vNc vNcj vNcs vNcp vNcr vTj vTs vTp vTr sz h) [22, 1, 2, 3, 4, 5, 6, 7, 8, 9, 10, 11, 12, 13, 14, 15, 16, 17, 18, 19, 20, 21, 23, 24, 25, 26, 27, 28, 29, 30, 31, 32, 33, 34, 35, 36, 37, 38, 39, 40, 41, 42] rfl (by decide) (gdV wq101 wq728 wq487 wq488 wq108) rfl rfl rfl hdX0_copyFrom 22 rfl rfl rfl ⟨Nat.le_of_ble_eq_true rfl, Nat.le_of_ble_eq_true rfl⟩ rfl (Nat.le_of_ble_eq_true rfl) ⟨Nat.zero_le _, Nat.zero_le _⟩ dX9_turns_33) [22, 1, 2, 3, 4, 5, 6, 7, 8, 9, 10, 11, 12, 13, 14, 15, 16, 17, 18, 19, 20, 21, 23, 24, 25, 26, 27, 28, 29, 30, 31, 32, 33, 34, 35, 36, 37, 38, 39, 40, 41, 42] [0] [0, 2, 3, 4, 5, 6, 7, 8, 9, 10, 11, 12, 13, 14, 15, 16, 17, 18, 19, 20, 21, 22, 1, 23, 24, 25, 26, 27, 28, 29, 30, 31, 32, 33, 34, 35, 36, 37, 38, 39, 40, 41, 42] rfl rfl (by decide) (by decide) (fun _ => rfl) (by decide) (fun u5 h => ?_)
      obtain ⟨vT_5, vTj_5, vTs_5, vTp_5, vTr_5⟩ := u5
      dsimp only at h
      refine z_iconst (pc := 36) (v := 0) C dX9_turns_36 (by decide) ?_
      refine z_istore (pc := 37) (lv' := [(4, .int (0 : Int32)), (3, .int r3), (0, .ref (d 0)), (1, .int x1), (2, .int x2)]) C dX9_turns_37 (by decide) rfl ?_
      obtain ⟨n39, h⟩ := h
      refine z_sub (lv' := [(0, .ref (d 0)), (1, .int x1), (2, .int x2), (4, .int (0 : Int32))]) [2, 3, 4, 0] rfl ?_
      exact L39  n39 v_3 vT_5 vTj_5 vTs_5 vTp_5 vTr_5 (0 : Int32) h
    · have h := h.2 c4
      refine z_iload_n (pc := 23) C 0 dX9_turns_23 rfl ?_
      exact hret 24 _ _ r3 (v_3, vT, vTj, vTs, vTp, vTr) rfl h dX9_turns_24
  · have h := h.2 c2
    refine z_iconst (pc := 8) (v := -1) C dX9_turns_8 (by decide) ?_
    exact hret 9 _ _ (-1 : Int32) (v, vT, vTj, vTs, vTp, vTr) rfl h dX9_turns_9

def pX9_waitedWithGap (vNc : Lf) (vNcj : Lf) (vNcs : Lf) (vNcp : Lf) (vNcr : Lf) (vT : Lf) (vTj : Lf) (vTs : Lf) (vTp : Lf) (vTr : Lf) (x1 : Int32) (x2 : Int32) (Q : Int32 → Lf → Lf → Lf → Lf → Lf → Prop) : Prop := (pX0_copyFrom vT vNc vNcj vNcs vNcp vNcr vTj vTs vTp vTr (fun vT_1 vTj_1 vTs_1 vTp_1 vTr_1 => (pX5_setGaps vTs_1 x1 (fun vTs_2 => (pX0_passSeconds vT_1 vTj_1 vTs_2 vTp_1 vTr_1 x2 (fun vT_3 vTs_3 vTp_3 vTr_3 => (Q (vT_3 0 9) vT_3 vTj_1 vTs_3 vTp_3 vTr_3)))))))
abbrev rmX9_waitedWithGap : Room := { frames := 5, cells := 0, slots := 0, locals := 189 }
abbrev wdX9_waitedWithGap : List Cond := Cond.code yX9_waitedWithGap cX9_waitedWithGap 3 (some .int) :: TB
theorem hdSX9_waitedWithGap : (yX9_waitedWithGap).cls ≠ "java/lang/invoke/MethodHandle" ∧ (yX9_waitedWithGap).cls ≠ "java/lang/invoke/VarHandle" ∧ (parseMethodDescriptor (yX9_waitedWithGap).desc).map (fun d => d.parameters.length) = some 2 := by decide +kernel
theorem hdX9_waitedWithGap : (yX9_waitedWithGap).cls = RX9 ∧ (yX9_waitedWithGap).cls ≠ "java/lang/invoke/MethodHandle" ∧ (yX9_waitedWithGap).cls ≠ "java/lang/invoke/VarHandle" ∧ (parseMethodDescriptor (yX9_waitedWithGap).desc).map (fun d => d.parameters.length) = some 2 := ⟨rfl, hdSX9_waitedWithGap⟩
set_option maxHeartbeats 4000000 in
set_option maxRecDepth 100000 in
theorem kX9_waitedWithGap {l : Launch} {D : va_G} {cI cJ cT : ClassId} (d : Nat → Nat) (dN : Nat → Nat) (dI : Nat → Nat) (dT : Nat → Nat) (dNc : Nat → Nat) (dNcj : Nat → Nat) (dNcs : Nat → Nat) (dNcp : Nat → Nat) (dNw : Nat → Nat) (dx : Nat → Nat) (dtt : Nat) (dNcr : Nat → Nat) (dTj : Nat → Nat) (dTs : Nat → Nat) (dTp : Nat → Nat) (dTr : Nat → Nat)  (v : Lf) (vNc : Lf) (vNcj : Lf) (vNcs : Lf) (vNcp : Lf) (vNcr : Lf) (vT : Lf) (vTj : Lf) (vTs : Lf) (vTp : Lf) (vTr : Lf) (x1 : Int32) (x2 : Int32) {Q : Int32 → Lf → Lf → Lf → Lf → Lf → Prop} (sz : Nat) (h : pX9_waitedWithGap vNc vNcj vNcs vNcp vNcr vT vTj vTs vTp vTr x1 x2 Q) : Met l yX9_waitedWithGap wdX9_waitedWithGap rmX9_waitedWithGap (Pz D (tyL cI cJ cT) [.ref (d 0), .int x1, .int x2] ((wX9 d (dN 0) (dI 0) (dT 0) (dNc 0) (dNcj 0) (dNcs 0) (dNcp 0) (dNw 0) (dx 0) dtt v) ++ ((wX0 dNc (dNcj 0) (dNcs 0) (dNcp 0) (dNcr 0) vNc) ++ ((wX1 cI dNcj vNcj) ++ ((wX5 cI dNcs vNcs) ++ ((wX2 cI dNcp vNcp) ++ ((wX4 cI 72 dNcr vNcr) ++ ((wX0 dT (dTj 0) (dTs 0) (dTp 0) (dTr 0) vT) ++ ((wX1 cI dTj vTj) ++ ((wX5 cI dTs vTs) ++ ((wX2 cI dTp vTp) ++ (wX4 cI 72 dTr vTr))))))))))) sz) (va_Qi (fun (r : Int32) (u : Lf × Lf × Lf × Lf × Lf) => Q r u.1 u.2.1 u.2.2.1 u.2.2.2.1 u.2.2.2.2) (Bz D (tyL cI cJ cT) ((wX9 d (dN 0) (dI 0) (dT 0) (dNc 0) (dNcj 0) (dNcs 0) (dNcp 0) (dNw 0) (dx 0) dtt v) ++ ((wX0 dNc (dNcj 0) (dNcs 0) (dNcp 0) (dNcr 0) vNc) ++ ((wX1 cI dNcj vNcj) ++ ((wX5 cI dNcs vNcs) ++ ((wX2 cI dNcp vNcp) ++ ((wX4 cI 72 dNcr vNcr) ++ ((wX0 dT (dTj 0) (dTs 0) (dTp 0) (dTr 0) vT) ++ ((wX1 cI dTj vTj) ++ ((wX5 cI dTs vTs) ++ ((wX2 cI dTp vTp) ++ (wX4 cI 72 dTr vTr))))))))))) sz (fun (u : Lf × Lf × Lf × Lf × Lf) => ((wX9 d (dN 0) (dI 0) (dT 0) (dNc 0) (dNcj 0) (dNcs 0) (dNcp 0) (dNw 0) (dx 0) dtt v) ++ ((wX0 dNc (dNcj 0) (dNcs 0) (dNcp 0) (dNcr 0) vNc) ++ ((wX1 cI dNcj vNcj) ++ ((wX5 cI dNcs vNcs) ++ ((wX2 cI dNcp vNcp) ++ ((wX4 cI 72 dNcr vNcr) ++ ((wX0 dT (dTj 0) (dTs 0) (dTp 0) (dTr 0) u.1) ++ ((wX1 cI dTj u.2.1) ++ ((wX5 cI dTs u.2.2.1) ++ ((wX2 cI dTp u.2.2.2.1) ++ (wX4 cI 72 dTr u.2.2.2.2))))))))))))) (va_A ((wX9 d (dN 0) (dI 0) (dT 0) (dNc 0) (dNcj 0) (dNcs 0) (dNcp 0) (dNw 0) (dx 0) dtt v) ++ ((wX0 dNc (dNcj 0) (dNcs 0) (dNcp 0) (dNcr 0) vNc) ++ ((wX1 cI dNcj vNcj) ++ ((wX5 cI dNcs vNcs) ++ ((wX2 cI dNcp vNcp) ++ ((wX4 cI 72 dNcr vNcr) ++ ((wX0 dT (dTj 0) (dTs 0) (dTp 0) (dTr 0) vT) ++ ((wX1 cI dTj vTj) ++ ((wX5 cI dTs vTs) ++ ((wX2 cI dTp vTp) ++ (wX4 cI 72 dTr vTr))))))))))) sz)) 0 0 (va_A ((wX9 d (dN 0) (dI 0) (dT 0) (dNc 0) (dNcj 0) (dNcs 0) (dNcp 0) (dNw 0) (dx 0) dtt v) ++ ((wX0 dNc (dNcj 0) (dNcs 0) (dNcp 0) (dNcr 0) vNc) ++ ((wX1 cI dNcj vNcj) ++ ((wX5 cI dNcs vNcs) ++ ((wX2 cI dNcp vNcp) ++ ((wX4 cI 72 dNcr vNcr) ++ ((wX0 dT (dTj 0) (dTs 0) (dTp 0) (dTr 0) vT) ++ ((wX1 cI dTj vTj) ++ ((wX5 cI dTs vTs) ++ ((wX2 cI dTp vTp) ++ (wX4 cI 72 dTr vTr))))))))))) sz) := by
  refine z_meti (cc := cX9_waitedWithGap) (maxL := 3) (own := RX9) (lv0 := [(0, .ref (d 0)), (1, .int x1), (2, .int x2)]) (by decide) rfl rfl (Nat.le_of_ble_eq_true rfl) rfl ?_
  intro p e s m args below meth c A QQ C hin hret
  refine z_aload_n (pc := 0) C 0 dX9_waitedWithGap_0 rfl ?_
  refine z_get (pc := 1) C uw9 0 rfl rfl 2 (by decide) wq529 rfl dX9_waitedWithGap_1 ?_
  refine z_aload_n (pc := 4) C 0 dX9_waitedWithGap_4 rfl ?_
  refine z_get (pc := 5) C uw9 0 rfl rfl 3 (by decide) wq531 rfl dX9_waitedWithGap_5 ?_
  refine z_callv (pc := 8) (wr := (wX9 d (dN 0) (dI 0) (dT 0) (dNc 0) (dNcj 0) (dNcs 0) (dNcp 0) (dNw 0) (dx 0) dtt v)) (w1 := fun (u : Lf × Lf × Lf × Lf × Lf) => ((wX0 dT (dTj 0) (dTs 0) (dTp 0) (dTr 0) u.1) ++ ((wX0 dNc (dNcj 0) (dNcs 0) (dNcp 0) (dNcr 0) vNc) ++ ((wX1 cI dNcj vNcj) ++ ((wX5 cI dNcs vNcs) ++ ((wX2 cI dNcp vNcp) ++ ((wX4 cI 72 dNcr vNcr) ++ ((wX1 cI dTj u.2.1) ++ ((wX5 cI dTs u.2.2.1) ++ ((wX2 cI dTp u.2.2.2.1) ++ (wX4 cI 72 dTr u.2.2.2.2))))))))))) (w2 := fun (u : Lf × Lf × Lf × Lf × Lf) => ((wX9 d (dN 0) (dI 0) (dT 0) (dNc 0) (dNcj 0) (dNcs 0) (dNcp 0) (dNw 0) (dx 0) dtt v) ++ ((wX0 dNc (dNcj 0) (dNcs 0) (dNcp 0) (dNcr 0) vNc) ++ ((wX1 cI dNcj vNcj) ++ ((wX5 cI dNcs vNcs) ++ ((wX2 cI dNcp vNcp) ++ ((wX4 cI 72 dNcr vNcr) ++ ((wX0 dT (dTj 0) (dTs 0) (dTp 0) (dTr 0) u.1) ++ ((wX1 cI dTj u.2.1) ++ ((wX5 cI dTs u.2.2.1) ++ ((wX2 cI dTp u.2.2.2.1) ++ (wX4 cI 72 dTr u.2.2.2.2)))))))))))) C (z_runV (pc := 8) (wc := ((wX0 dT (dTj 0) (dTs 0) (dTp 0) (dTr 0) vT) ++ ((wX0 dNc (dNcj 0) (dNcs 0) (dNcp 0) (dNcr 0) vNc) ++ ((wX1 cI dNcj vNcj) ++ ((wX5 cI dNcs vNcs) ++ ((wX2 cI dNcp vNcp) ++ ((wX4 cI 72 dNcr vNcr) ++ ((wX1 cI dTj vTj) ++ ((wX5 cI dTs vTs) ++ ((wX2 cI dTp vTp) ++ (wX4 cI 72 dTr vTr))))))))))) (As := [.ref (dNc 0)]) C (fun sz => kX0_copyFrom dT dTj dTs dTp dTr dNc dNcj dNcs dNcp dNcr vT vNc vNcj vNcs vNcp vNcr vTj vTs vTp vTr sz h) [22, 1, 2, 3, 4, 5, 6, 7, 8, 9, 10, 11, 12, 13, 14, 15, 16, 17, 18, 19, 20, 21, 23, 24, 25, 26, 27, 28, 29, 30, 31, 32, 33, 34, 35, 36, 37, 38, 39, 40, 41, 42] rfl (by decide) (gdV wq101 wq728 wq487 wq488 wq108) rfl rfl rfl hdX0_copyFrom 22 rfl rfl rfl ⟨Nat.le_of_ble_eq_true rfl, Nat.le_of_ble_eq_true rfl⟩ rfl (Nat.le_of_ble_eq_true rfl) ⟨Nat.zero_le _, Nat.zero_le _⟩ dX9_waitedWithGap_8) [22, 1, 2, 3, 4, 5, 6, 7, 8, 9, 10, 11, 12, 13, 14, 15, 16, 17, 18, 19, 20, 21, 23, 24, 25, 26, 27, 28, 29, 30, 31, 32, 33, 34, 35, 36, 37, 38, 39, 40, 41, 42] [0] [0, 2, 3, 4, 5, 6, 7, 8, 9, 10, 11, 12, 13, 14, 15, 16, 17, 18, 19, 20, 21, 22, 1, 23, 24, 25, 26, 27, 28, 29, 30, 31, 32, 33, 34, 35, 36, 37, 38, 39, 40, 41, 42] rfl rfl (by decide) (by decide) (fun _ => rfl) (by decide) (fun u1 h => ?_)
  obtain ⟨vT_1, vTj_1, vTs_1, vTp_1, vTr_1⟩ := u1
  dsimp only at h
  refine z_aload_n (pc := 11) C 0 dX9_waitedWithGap_11 rfl ?_
  refine z_get (pc := 12) C uw9 0 rfl rfl 2 (by decide) wq529 rfl dX9_waitedWithGap_12 ?_
  refine z_get (pc := 15) C uw0 22 rfl rfl 1 (by decide) wq534 rfl dX9_waitedWithGap_15 ?_
  refine z_iload_n (pc := 18) C 1 dX9_waitedWithGap_18 rfl ?_
  refine z_callv (pc := 19) (wr := ((wX9 d (dN 0) (dI 0) (dT 0) (dNc 0) (dNcj 0) (dNcs 0) (dNcp 0) (dNw 0) (dx 0) dtt v) ++ ((wX0 dNc (dNcj 0) (dNcs 0) (dNcp 0) (dNcr 0) vNc) ++ ((wX1 cI dNcj vNcj) ++ ((wX5 cI dNcs vNcs) ++ ((wX2 cI dNcp vNcp) ++ ((wX4 cI 72 dNcr vNcr) ++ ((wX0 dT (dTj 0) (dTs 0) (dTp 0) (dTr 0) vT_1) ++ ((wX1 cI dTj vTj_1) ++ ((wX2 cI dTp vTp_1) ++ (wX4 cI 72 dTr vTr_1))))))))))) (w1 := fun (u : Lf) => (wX5 cI dTs u)) (w2 := fun (u : Lf) => ((wX9 d (dN 0) (dI 0) (dT 0) (dNc 0) (dNcj 0) (dNcs 0) (dNcp 0) (dNw 0) (dx 0) dtt v) ++ ((wX0 dNc (dNcj 0) (dNcs 0) (dNcp 0) (dNcr 0) vNc) ++ ((wX1 cI dNcj vNcj) ++ ((wX5 cI dNcs vNcs) ++ ((wX2 cI dNcp vNcp) ++ ((wX4 cI 72 dNcr vNcr) ++ ((wX0 dT (dTj 0) (dTs 0) (dTp 0) (dTr 0) vT_1) ++ ((wX1 cI dTj vTj_1) ++ ((wX5 cI dTs u) ++ ((wX2 cI dTp vTp_1) ++ (wX4 cI 72 dTr vTr_1)))))))))))) C (z_runV (pc := 19) (wc := (wX5 cI dTs vTs_1)) (As := [.int x1]) C (fun sz => kX5_setGaps dTs vTs_1 x1 sz h) [29, 30, 31, 32, 33, 34, 35, 36] rfl (by decide) (gdV wq402 wq734 wq735 wq736 wq40) rfl rfl rfl hdX5_setGaps 29 rfl rfl rfl ⟨Nat.le_of_ble_eq_true rfl, Nat.le_of_ble_eq_true rfl⟩ rfl (Nat.le_of_ble_eq_true rfl) ⟨Nat.zero_le _, Nat.zero_le _⟩ dX9_waitedWithGap_19) [29, 30, 31, 32, 33, 34, 35, 36] [0, 1, 2, 3, 4, 5, 6, 7, 8, 9, 10, 11, 12, 13, 14, 15, 16, 17, 18, 19, 20, 21, 22, 23, 24, 25, 26, 27, 28, 37, 38, 39, 40, 41, 42] [0, 1, 2, 3, 4, 5, 6, 7, 8, 9, 10, 11, 12, 13, 14, 15, 16, 17, 18, 19, 20, 21, 22, 23, 24, 25, 26, 27, 28, 35, 36, 37, 38, 39, 40, 41, 42, 29, 30, 31, 32, 33, 34] rfl rfl (by decide) (by decide) (fun _ => rfl) (by decide) (fun u2 h => ?_)
  obtain ⟨vTs_2, hu2⟩ : ∃ z, z = u2 := ⟨_, rfl⟩
  subst hu2
  refine z_aload_n (pc := 22) C 0 dX9_waitedWithGap_22 rfl ?_
  refine z_get (pc := 23) C uw9 0 rfl rfl 2 (by decide) wq529 rfl dX9_waitedWithGap_23 ?_
  refine z_iload_n (pc := 26) C 2 dX9_waitedWithGap_26 rfl ?_
  refine z_callv (pc := 27) (wr := ((wX9 d (dN 0) (dI 0) (dT 0) (dNc 0) (dNcj 0) (dNcs 0) (dNcp 0) (dNw 0) (dx 0) dtt v) ++ ((wX0 dNc (dNcj 0) (dNcs 0) (dNcp 0) (dNcr 0) vNc) ++ ((wX1 cI dNcj vNcj) ++ ((wX5 cI dNcs vNcs) ++ ((wX2 cI dNcp vNcp) ++ (wX4 cI 72 dNcr vNcr))))))) (w1 := fun (u : Lf × Lf × Lf × Lf) => ((wX0 dT (dTj 0) (dTs 0) (dTp 0) (dTr 0) u.1) ++ ((wX1 cI dTj vTj_1) ++ ((wX5 cI dTs u.2.1) ++ ((wX2 cI dTp u.2.2.1) ++ (wX4 cI 72 dTr u.2.2.2)))))) (w2 := fun (u : Lf × Lf × Lf × Lf) => ((wX9 d (dN 0) (dI 0) (dT 0) (dNc 0) (dNcj 0) (dNcs 0) (dNcp 0) (dNw 0) (dx 0) dtt v) ++ ((wX0 dNc (dNcj 0) (dNcs 0) (dNcp 0) (dNcr 0) vNc) ++ ((wX1 cI dNcj vNcj) ++ ((wX5 cI dNcs vNcs) ++ ((wX2 cI dNcp vNcp) ++ ((wX4 cI 72 dNcr vNcr) ++ ((wX0 dT (dTj 0) (dTs 0) (dTp 0) (dTr 0) u.1) ++ ((wX1 cI dTj vTj_1) ++ ((wX5 cI dTs u.2.1) ++ ((wX2 cI dTp u.2.2.1) ++ (wX4 cI 72 dTr u.2.2.2)))))))))))) C (z_runV (pc := 27) (wc := ((wX0 dT (dTj 0) (dTs 0) (dTp 0) (dTr 0) vT_1) ++ ((wX1 cI dTj vTj_1) ++ ((wX5 cI dTs vTs_2) ++ ((wX2 cI dTp vTp_1) ++ (wX4 cI 72 dTr vTr_1)))))) (As := [.int x2]) C (fun sz => kX0_passSeconds dT dTj dTs dTp dTr vT_1 vTj_1 vTs_2 vTp_1 vTr_1 x2 sz h) [22, 23, 24, 25, 26, 27, 28, 29, 30, 31, 32, 33, 34, 35, 36, 37, 38, 39, 40, 41, 42] rfl (by decide) (gdV wq257 wq633 wq259 wq260 wq108) rfl rfl rfl hdX0_passSeconds 22 rfl rfl rfl ⟨Nat.le_of_ble_eq_true rfl, Nat.le_of_ble_eq_true rfl⟩ rfl (Nat.le_of_ble_eq_true rfl) ⟨Nat.zero_le _, Nat.zero_le _⟩ dX9_waitedWithGap_27) [22, 23, 24, 25, 26, 27, 28, 29, 30, 31, 32, 33, 34, 35, 36, 37, 38, 39, 40, 41, 42] [0, 1, 2, 3, 4, 5, 6, 7, 8, 9, 10, 11, 12, 13, 14, 15, 16, 17, 18, 19, 20, 21] [0, 1, 2, 3, 4, 5, 6, 7, 8, 9, 10, 11, 12, 13, 14, 15, 16, 17, 18, 19, 20, 21, 22, 23, 24, 25, 26, 27, 28, 29, 30, 31, 32, 33, 34, 35, 36, 37, 38, 39, 40, 41, 42] rfl rfl (by decide) (by decide) (fun _ => rfl) (by decide) (fun u3 h => ?_)
  obtain ⟨vT_3, vTs_3, vTp_3, vTr_3⟩ := u3
  dsimp only at h
  refine z_aload_n (pc := 30) C 0 dX9_waitedWithGap_30 rfl ?_
  refine z_get (pc := 31) C uw9 0 rfl rfl 2 (by decide) wq529 rfl dX9_waitedWithGap_31 ?_
  refine z_get (pc := 34) C uw0 22 rfl rfl 9 (by decide) wq733 rfl dX9_waitedWithGap_34 ?_
  exact hret 37 _ _ (vT_3 0 9) (vT_3, vTj_1, vTs_3, vTp_3, vTr_3) rfl h dX9_waitedWithGap_37

def pX9_best_J72 (vNc : Lf) (vNcj : Lf) (vNcs : Lf) (vNcp : Lf) (vNcr : Lf) (x1 : Int32) (x2 : Int32) (Q : Int32 → Lf → Lf → Lf → Lf → Lf → Lf → Prop) (K41 : Lf → Lf → Lf → Lf → Lf → Lf → Int32 → Int32 → Int32 → Prop) (v : Lf) (vT : Lf) (vTj : Lf) (vTs : Lf) (vTp : Lf) (vTr : Lf) (x4 : Int32) (x5 : Int32) (x6 : Int32) : Prop := (K41 v vT vTj vTs vTp vTr x4 x5 (x6 + 1))
def pX9_best_L41 (vNc : Lf) (vNcj : Lf) (vNcs : Lf) (vNcp : Lf) (vNcr : Lf) (x1 : Int32) (x2 : Int32) (Q : Int32 → Lf → Lf → Lf → Lf → Lf → Lf → Prop) : Nat → Lf → Lf → Lf → Lf → Lf → Lf → Int32 → Int32 → Int32 → Prop
  | 0, _, _, _, _, _, _, _, _, _ => False
  | n41 + 1, v, vT, vTj, vTs, vTp, vTr, x4, x5, x6 => (((9 : Int32) < x6 → ((¬ x2 = 0 → (Q x5 v vT vTj vTs vTp vTr)) ∧ (x2 = 0 → (Q x4 v vT vTj vTs vTp vTr)))) ∧ (¬ (9 : Int32) < x6 → (pX9_waitedWithGap vNc vNcj vNcs vNcp vNcr vT vTj vTs vTp vTr x6 x1 (fun r8 vT_8 vTj_8 vTs_8 vTp_8 vTr_8 => ((x5 ≤ r8 → (pX9_best_J72 vNc vNcj vNcs vNcp vNcr x1 x2 Q (fun v vT vTj vTs vTp vTr x4 x5 x6 => pX9_best_L41 vNc vNcj vNcs vNcp vNcr x1 x2 Q n41 v vT vTj vTs vTp vTr x4 x5 x6) v vT_8 vTj_8 vTs_8 vTp_8 vTr_8 x4 x5 x6)) ∧ (¬ x5 ≤ r8 → (pX9_best_J72 vNc vNcj vNcs vNcp vNcr x1 x2 Q (fun v vT vTj vTs vTp vTr x4 x5 x6 => pX9_best_L41 vNc vNcj vNcs vNcp vNcr x1 x2 Q n41 v vT vTj vTs vTp vTr x4 x5 x6) v vT_8 vTj_8 vTs_8 vTp_8 vTr_8 x6 r8 x6)))))))
def pX9_best (v : Lf) (vNc : Lf) (vNcj : Lf) (vNcs : Lf) (vNcp : Lf) (vNcr : Lf) (vT : Lf) (vTj : Lf) (vTs : Lf) (vTp : Lf) (vTr : Lf) (x1 : Int32) (x2 : Int32) (Q : Int32 → Lf → Lf → Lf → Lf → Lf → Lf → Prop) : Prop := (pX9_within x2 (0 : Int32) (1 : Int32) (fun r1 => ((¬ r1 = 0 → (pX9_refusalOf v vNc x1 (60 : Int32) (9 : Int32) (fun r3 v_3 => ((r3 = 0 → (pX9_waitedWithGap vNc vNcj vNcs vNcp vNcr vT vTj vTs vTp vTr (1 : Int32) x1 (fun r5 vT_5 vTj_5 vTs_5 vTp_5 vTr_5 => (∃ n41, pX9_best_L41 vNc vNcj vNcs vNcp vNcr x1 x2 Q  n41 v_3 vT_5 vTj_5 vTs_5 vTp_5 vTr_5 (1 : Int32) r5 (2 : Int32))))) ∧ (¬ r3 = 0 → (Q r3 v_3 vT vTj vTs vTp vTr)))))) ∧ (r1 = 0 → (Q (-1 : Int32) v vT vTj vTs vTp vTr)))))
abbrev rmX9_best : Room := { frames := 6, cells := 0, slots := 0, locals := 211 }
abbrev wdX9_best : List Cond := Cond.code yX9_best cX9_best 8 (some .int) :: TB
theorem hdSX9_best : (yX9_best).cls ≠ "java/lang/invoke/MethodHandle" ∧ (yX9_best).cls ≠ "java/lang/invoke/VarHandle" ∧ (parseMethodDescriptor (yX9_best).desc).map (fun d => d.parameters.length) = some 2 := by decide +kernel
theorem hdX9_best : (yX9_best).cls = RX9 ∧ (yX9_best).cls ≠ "java/lang/invoke/MethodHandle" ∧ (yX9_best).cls ≠ "java/lang/invoke/VarHandle" ∧ (parseMethodDescriptor (yX9_best).desc).map (fun d => d.parameters.length) = some 2 := ⟨rfl, hdSX9_best⟩
set_option maxHeartbeats 4000000 in
set_option maxRecDepth 100000 in
theorem kX9_best {l : Launch} {D : va_G} {cI cJ cT : ClassId} (d : Nat → Nat) (dN : Nat → Nat) (dI : Nat → Nat) (dT : Nat → Nat) (dNc : Nat → Nat) (dNcj : Nat → Nat) (dNcs : Nat → Nat) (dNcp : Nat → Nat) (dNw : Nat → Nat) (dx : Nat → Nat) (dtt : Nat) (dNcr : Nat → Nat) (dTj : Nat → Nat) (dTs : Nat → Nat) (dTp : Nat → Nat) (dTr : Nat → Nat)  (v : Lf) (vNc : Lf) (vNcj : Lf) (vNcs : Lf) (vNcp : Lf) (vNcr : Lf) (vT : Lf) (vTj : Lf) (vTs : Lf) (vTp : Lf) (vTr : Lf) (x1 : Int32) (x2 : Int32) {Q : Int32 → Lf → Lf → Lf → Lf → Lf → Lf → Prop} (sz : Nat) (h : pX9_best v vNc vNcj vNcs vNcp vNcr vT vTj vTs vTp vTr x1 x2 Q) : Met l yX9_best wdX9_best rmX9_best (Pz D (tyL cI cJ cT) [.ref (d 0), .int x1, .int x2] ((wX9 d (dN 0) (dI 0) (dT 0) (dNc 0) (dNcj 0) (dNcs 0) (dNcp 0) (dNw 0) (dx 0) dtt v) ++ ((wX0 dNc (dNcj 0) (dNcs 0) (dNcp 0) (dNcr 0) vNc) ++ ((wX1 cI dNcj vNcj) ++ ((wX5 cI dNcs vNcs) ++ ((wX2 cI dNcp vNcp) ++ ((wX4 cI 72 dNcr vNcr) ++ ((wX0 dT (dTj 0) (dTs 0) (dTp 0) (dTr 0) vT) ++ ((wX1 cI dTj vTj) ++ ((wX5 cI dTs vTs) ++ ((wX2 cI dTp vTp) ++ (wX4 cI 72 dTr vTr))))))))))) sz) (va_Qi (fun (r : Int32) (u : Lf × Lf × Lf × Lf × Lf × Lf) => Q r u.1 u.2.1 u.2.2.1 u.2.2.2.1 u.2.2.2.2.1 u.2.2.2.2.2) (Bz D (tyL cI cJ cT) ((wX9 d (dN 0) (dI 0) (dT 0) (dNc 0) (dNcj 0) (dNcs 0) (dNcp 0) (dNw 0) (dx 0) dtt v) ++ ((wX0 dNc (dNcj 0) (dNcs 0) (dNcp 0) (dNcr 0) vNc) ++ ((wX1 cI dNcj vNcj) ++ ((wX5 cI dNcs vNcs) ++ ((wX2 cI dNcp vNcp) ++ ((wX4 cI 72 dNcr vNcr) ++ ((wX0 dT (dTj 0) (dTs 0) (dTp 0) (dTr 0) vT) ++ ((wX1 cI dTj vTj) ++ ((wX5 cI dTs vTs) ++ ((wX2 cI dTp vTp) ++ (wX4 cI 72 dTr vTr))))))))))) sz (fun (u : Lf × Lf × Lf × Lf × Lf × Lf) => ((wX9 d (dN 0) (dI 0) (dT 0) (dNc 0) (dNcj 0) (dNcs 0) (dNcp 0) (dNw 0) (dx 0) dtt u.1) ++ ((wX0 dNc (dNcj 0) (dNcs 0) (dNcp 0) (dNcr 0) vNc) ++ ((wX1 cI dNcj vNcj) ++ ((wX5 cI dNcs vNcs) ++ ((wX2 cI dNcp vNcp) ++ ((wX4 cI 72 dNcr vNcr) ++ ((wX0 dT (dTj 0) (dTs 0) (dTp 0) (dTr 0) u.2.1) ++ ((wX1 cI dTj u.2.2.1) ++ ((wX5 cI dTs u.2.2.2.1) ++ ((wX2 cI dTp u.2.2.2.2.1) ++ (wX4 cI 72 dTr u.2.2.2.2.2))))))))))))) (va_A ((wX9 d (dN 0) (dI 0) (dT 0) (dNc 0) (dNcj 0) (dNcs 0) (dNcp 0) (dNw 0) (dx 0) dtt v) ++ ((wX0 dNc (dNcj 0) (dNcs 0) (dNcp 0) (dNcr 0) vNc) ++ ((wX1 cI dNcj vNcj) ++ ((wX5 cI dNcs vNcs) ++ ((wX2 cI dNcp vNcp) ++ ((wX4 cI 72 dNcr vNcr) ++ ((wX0 dT (dTj 0) (dTs 0) (dTp 0) (dTr 0) vT) ++ ((wX1 cI dTj vTj) ++ ((wX5 cI dTs vTs) ++ ((wX2 cI dTp vTp) ++ (wX4 cI 72 dTr vTr))))))))))) sz)) 0 0 (va_A ((wX9 d (dN 0) (dI 0) (dT 0) (dNc 0) (dNcj 0) (dNcs 0) (dNcp 0) (dNw 0) (dx 0) dtt v) ++ ((wX0 dNc (dNcj 0) (dNcs 0) (dNcp 0) (dNcr 0) vNc) ++ ((wX1 cI dNcj vNcj) ++ ((wX5 cI dNcs vNcs) ++ ((wX2 cI dNcp vNcp) ++ ((wX4 cI 72 dNcr vNcr) ++ ((wX0 dT (dTj 0) (dTs 0) (dTp 0) (dTr 0) vT) ++ ((wX1 cI dTj vTj) ++ ((wX5 cI dTs vTs) ++ ((wX2 cI dTp vTp) ++ (wX4 cI 72 dTr vTr))))))))))) sz) := by
  refine z_meti (cc := cX9_best) (maxL := 8) (own := RX9) (lv0 := [(0, .ref (d 0)), (1, .int x1), (2, .int x2)]) (by decide) rfl rfl (Nat.le_of_ble_eq_true rfl) rfl ?_
  intro p e s m args below meth c A QQ C hin hret
  have J72 : ∀ (K41 : Lf → Lf → Lf → Lf → Lf → Lf → Int32 → Int32 → Int32 → Prop), (∀ (v : Lf) (vT : Lf) (vTj : Lf) (vTs : Lf) (vTp : Lf) (vTr : Lf) (x4 : Int32) (x5 : Int32) (x6 : Int32), K41 v vT vTj vTs vTp vTr x4 x5 x6 → ZZ p l e rmX9_best s m args below meth c D A 8 0 0 QQ 41 ((wX9 d (dN 0) (dI 0) (dT 0) (dNc 0) (dNcj 0) (dNcs 0) (dNcp 0) (dNw 0) (dx 0) dtt v) ++ ((wX0 dNc (dNcj 0) (dNcs 0) (dNcp 0) (dNcr 0) vNc) ++ ((wX1 cI dNcj vNcj) ++ ((wX5 cI dNcs vNcs) ++ ((wX2 cI dNcp vNcp) ++ ((wX4 cI 72 dNcr vNcr) ++ ((wX0 dT (dTj 0) (dTs 0) (dTp 0) (dTr 0) vT) ++ ((wX1 cI dTj vTj) ++ ((wX5 cI dTs vTs) ++ ((wX2 cI dTp vTp) ++ (wX4 cI 72 dTr vTr))))))))))) [(0, .ref (d 0)), (1, .int x1), (2, .int x2), (4, .int x4), (5, .int x5), (6, .int x6)] []) → ∀ (v : Lf) (vT : Lf) (vTj : Lf) (vTs : Lf) (vTp : Lf) (vTr : Lf) (x4 : Int32) (x5 : Int32) (x6 : Int32), pX9_best_J72 vNc vNcj vNcs vNcp vNcr x1 x2 Q K41 v vT vTj vTs vTp vTr x4 x5 x6 → ZZ p l e rmX9_best s m args below meth c D A 8 0 0 QQ 72 ((wX9 d (dN 0) (dI 0) (dT 0) (dNc 0) (dNcj 0) (dNcs 0) (dNcp 0) (dNw 0) (dx 0) dtt v) ++ ((wX0 dNc (dNcj 0) (dNcs 0) (dNcp 0) (dNcr 0) vNc) ++ ((wX1 cI dNcj vNcj) ++ ((wX5 cI dNcs vNcs) ++ ((wX2 cI dNcp vNcp) ++ ((wX4 cI 72 dNcr vNcr) ++ ((wX0 dT (dTj 0) (dTs 0) (dTp 0) (dTr 0) vT) ++ ((wX1 cI dTj vTj) ++ ((wX5 cI dTs vTs) ++ ((wX2 cI dTp vTp) ++ (wX4 cI 72 dTr vTr))))))))))) [(0, .ref (d 0)), (1, .int x1), (2, .int x2), (4, .int x4), (5, .int x5), (6, .int x6)] [] := by
    intro K41 hK41 v vT vTj vTs vTp vTr x4 x5 x6 h
    refine z_iinc (pc := 72) (v := (x6 + 1)) (lv' := [(6, .int (x6 + 1)), (0, .ref (d 0)), (1, .int x1), (2, .int x2), (4, .int x4), (5, .int x5)]) C 5 dX9_best_72 rfl rfl (by decide) rfl ?_
    refine z_goto (pc := 75) (tgt := 41) C dX9_best_75 (by decide) ?_
    refine z_sub (lv' := [(0, .ref (d 0)), (1, .int x1), (2, .int x2), (4, .int x4), (5, .int x5), (6, .int (x6 + 1))]) [1, 2, 3, 4, 5, 0] rfl ?_
    exact hK41 v vT vTj vTs vTp vTr x4 x5 (x6 + 1) h
  have L41 : ∀ (n41 : Nat) (v : Lf) (vT : Lf) (vTj : Lf) (vTs : Lf) (vTp : Lf) (vTr : Lf) (x4 : Int32) (x5 : Int32) (x6 : Int32), pX9_best_L41 vNc vNcj vNcs vNcp vNcr x1 x2 Q n41 v vT vTj vTs vTp vTr x4 x5 x6 → ZZ p l e rmX9_best s m args below meth c D A 8 0 0 QQ 41 ((wX9 d (dN 0) (dI 0) (dT 0) (dNc 0) (dNcj 0) (dNcs 0) (dNcp 0) (dNw 0) (dx 0) dtt v) ++ ((wX0 dNc (dNcj 0) (dNcs 0) (dNcp 0) (dNcr 0) vNc) ++ ((wX1 cI dNcj vNcj) ++ ((wX5 cI dNcs vNcs) ++ ((wX2 cI dNcp vNcp) ++ ((wX4 cI 72 dNcr vNcr) ++ ((wX0 dT (dTj 0) (dTs 0) (dTp 0) (dTr 0) vT) ++ ((wX1 cI dTj vTj) ++ ((wX5 cI dTs vTs) ++ ((wX2 cI dTp vTp) ++ (wX4 cI 72 dTr vTr))))))))))) [(0, .ref (d 0)), (1, .int x1), (2, .int x2), (4, .int x4), (5, .int x5), (6, .int x6)] [] := by
    intro n41
    induction n41 with
    | zero => intro v vT vTj vTs vTp vTr x4 x5 x6 h; exact False.elim h
    | succ n41 ih41 =>
      intro v vT vTj vTs vTp vTr x4 x5 x6 h
      refine z_iload (pc := 41) C 5 dX9_best_41 rfl ?_
      refine z_bipush (pc := 43) (v := 9) C dX9_best_43 (by decide) ?_
      refine z_icmp_gt (pc := 45) (tgt := 78) C dX9_best_45 (by decide) (fun c6 => ?_) (fun c6 => ?_)
      · have h := h.1 c6
        refine z_iload_n (pc := 78) C 2 dX9_best_78 rfl ?_
        refine z_if_ne (pc := 79) (tgt := 87) C dX9_best_79 (by decide) (fun c7 => ?_) (fun c7 => ?_)
        · have h := h.1 c7
          refine z_iload (pc := 87) C 4 dX9_best_87 rfl ?_
          exact hret 89 _ _ x5 (v, vT, vTj, vTs, vTp, vTr) rfl h dX9_best_89
        · have h := h.2 c7
          refine z_iload (pc := 82) C 3 dX9_best_82 rfl ?_
          refine z_goto (pc := 84) (tgt := 89) C dX9_best_84 (by decide) ?_
          exact hret 89 _ _ x4 (v, vT, vTj, vTs, vTp, vTr) rfl h dX9_best_89
      · have h := h.2 c6
        refine z_aload_n (pc := 48) C 0 dX9_best_48 rfl ?_
        refine z_iload (pc := 49) C 5 dX9_best_49 rfl ?_
        refine z_iload_n (pc := 51) C 1 dX9_best_51 rfl ?_
        refine z_calli (pc := 52) (wr := ([] : va_W)) (w1 := fun (u : Lf × Lf × Lf × Lf × Lf) => ((wX9 d (dN 0) (dI 0) (dT 0) (dNc 0) (dNcj 0) (dNcs 0) (dNcp 0) (dNw 0) (dx 0) dtt v) ++ ((wX0 dNc (dNcj 0) (dNcs 0) (dNcp 0) (dNcr 0) vNc) ++ ((wX1 cI dNcj vNcj) ++ ((wX5 cI dNcs vNcs) ++ ((wX2 cI dNcp vNcp) ++ ((wX4 cI 72 dNcr vNcr) ++ ((wX0 dT (dTj 0) (dTs 0) (dTp 0) (dTr 0) u.1) ++ ((wX1 cI dTj u.2.1) ++ ((wX5 cI dTs u.2.2.1) ++ ((wX2 cI dTp u.2.2.2.1) ++ (wX4 cI 72 dTr u.2.2.2.2)))))))))))) (w2 := fun (u : Lf × Lf × Lf × Lf × Lf) => ((wX9 d (dN 0) (dI 0) (dT 0) (dNc 0) (dNcj 0) (dNcs 0) (dNcp 0) (dNw 0) (dx 0) dtt v) ++ ((wX0 dNc (dNcj 0) (dNcs 0) (dNcp 0) (dNcr 0) vNc) ++ ((wX1 cI dNcj vNcj) ++ ((wX5 cI dNcs vNcs) ++ ((wX2 cI dNcp vNcp) ++ ((wX4 cI 72 dNcr vNcr) ++ ((wX0 dT (dTj 0) (dTs 0) (dTp 0) (dTr 0) u.1) ++ ((wX1 cI dTj u.2.1) ++ ((wX5 cI dTs u.2.2.1) ++ ((wX2 cI dTp u.2.2.2.1) ++ (wX4 cI 72 dTr u.2.2.2.2)))))))))))) C (z_runV (pc := 52) (wc := ((wX9 d (dN 0) (dI 0) (dT 0) (dNc 0) (dNcj 0) (dNcs 0) (dNcp 0) (dNw 0) (dx 0) dtt v) ++ ((wX0 dNc (dNcj 0) (dNcs 0) (dNcp 0) (dNcr 0) vNc) ++ ((wX1 cI dNcj vNcj) ++ ((wX5 cI dNcs vNcs) ++ ((wX2 cI dNcp vNcp) ++ ((wX4 cI 72 dNcr vNcr) ++ ((wX0 dT (dTj 0) (dTs 0) (dTp 0) (dTr 0) vT) ++ ((wX1 cI dTj vTj) ++ ((wX5 cI dTs vTs) ++ ((wX2 cI dTp vTp) ++ (wX4 cI 72 dTr vTr)))))))))))) (As := [.int x6, .int x1]) C (fun sz => kX9_waitedWithGap d dN dI dT dNc dNcj dNcs dNcp dNw dx dtt dNcr dTj dTs dTp dTr v vNc vNcj vNcs vNcp vNcr vT vTj vTs vTp vTr x6 x1 sz h) [0, 1, 2, 3, 4, 5, 6, 7, 8, 9, 10, 11, 12, 13, 14, 15, 16, 17, 18, 19, 20, 21, 22, 23, 24, 25, 26, 27, 28, 29, 30, 31, 32, 33, 34, 35, 36, 37, 38, 39, 40, 41, 42] rfl (by decide) (gdV wq737 wq738 wq739 wq740 wq112) rfl rfl rfl hdX9_waitedWithGap 0 rfl rfl rfl ⟨Nat.le_of_ble_eq_true rfl, Nat.le_of_ble_eq_true rfl⟩ rfl (Nat.le_of_ble_eq_true rfl) ⟨Nat.zero_le _, Nat.zero_le _⟩ dX9_best_52) [0, 1, 2, 3, 4, 5, 6, 7, 8, 9, 10, 11, 12, 13, 14, 15, 16, 17, 18, 19, 20, 21, 22, 23, 24, 25, 26, 27, 28, 29, 30, 31, 32, 33, 34, 35, 36, 37, 38, 39, 40, 41, 42] [] [0, 1, 2, 3, 4, 5, 6, 7, 8, 9, 10, 11, 12, 13, 14, 15, 16, 17, 18, 19, 20, 21, 22, 23, 24, 25, 26, 27, 28, 29, 30, 31, 32, 33, 34, 35, 36, 37, 38, 39, 40, 41, 42] rfl rfl (by decide) (by decide) (fun _ => rfl) (by decide) (fun r8 u8 h => ?_)
        obtain ⟨vT_8, vTj_8, vTs_8, vTp_8, vTr_8⟩ := u8
        dsimp only at h
        refine z_istore (pc := 55) (lv' := [(7, .int r8), (0, .ref (d 0)), (1, .int x1), (2, .int x2), (4, .int x4), (5, .int x5), (6, .int x6)]) C dX9_best_55 (by decide) rfl ?_
        refine z_iload (pc := 57) C 0 dX9_best_57 rfl ?_
        refine z_iload (pc := 59) C 5 dX9_best_59 rfl ?_
        refine z_icmp_ge (pc := 61) (tgt := 72) C dX9_best_61 (by decide) (fun c9 => ?_) (fun c9 => ?_)
        · have h := h.1 c9
          refine z_sub (lv' := [(0, .ref (d 0)), (1, .int x1), (2, .int x2), (4, .int x4), (5, .int x5), (6, .int x6)]) [1, 2, 3, 4, 5, 6] rfl ?_
          exact J72 (fun v vT vTj vTs vTp vTr x4 x5 x6 => pX9_best_L41 vNc vNcj vNcs vNcp vNcr x1 x2 Q n41 v vT vTj vTs vTp vTr x4 x5 x6) ih41 v vT_8 vTj_8 vTs_8 vTp_8 vTr_8 x4 x5 x6 h
        · have h := h.2 c9
          refine z_iload (pc := 64) C 6 dX9_best_64 rfl ?_
          refine z_istore (pc := 66) (lv' := [(4, .int x6), (7, .int r8), (0, .ref (d 0)), (1, .int x1), (2, .int x2), (5, .int x5), (6, .int x6)]) C dX9_best_66 (by decide) rfl ?_
          refine z_iload (pc := 68) C 1 dX9_best_68 rfl ?_
          refine z_istore (pc := 70) (lv' := [(5, .int r8), (4, .int x6), (7, .int r8), (0, .ref (d 0)), (1, .int x1), (2, .int x2), (6, .int x6)]) C dX9_best_70 (by decide) rfl ?_
          refine z_sub (lv' := [(0, .ref (d 0)), (1, .int x1), (2, .int x2), (4, .int x6), (5, .int r8), (6, .int x6)]) [3, 4, 5, 1, 0, 6] rfl ?_
          exact J72 (fun v vT vTj vTs vTp vTr x4 x5 x6 => pX9_best_L41 vNc vNcj vNcs vNcp vNcr x1 x2 Q n41 v vT vTj vTs vTp vTr x4 x5 x6) ih41 v vT_8 vTj_8 vTs_8 vTp_8 vTr_8 x6 r8 x6 h
  refine z_iload_n (pc := 0) C 2 dX9_best_0 rfl ?_
  refine z_iconst (pc := 1) (v := 0) C dX9_best_1 (by decide) ?_
  refine z_iconst (pc := 2) (v := 1) C dX9_best_2 (by decide) ?_
  refine z_call0i (pc := 3) C (z_runS (pc := 3) (wc := ([] : va_W)) (As := [.int x2, .int (0 : Int32), .int (1 : Int32)]) C (fun sz => kX9_within x2 (0 : Int32) (1 : Int32) sz h) [] rfl (by decide) (gdS wq366 wq553 wq373 wq112) rfl rfl rfl hdSX9_within ⟨Nat.le_of_ble_eq_true rfl, Nat.le_of_ble_eq_true rfl⟩ rfl (Nat.le_of_ble_eq_true rfl) ⟨Nat.zero_le _, Nat.zero_le _⟩ dX9_best_3) (fun r1 u1 h => ?_)
  refine z_if_ne (pc := 6) (tgt := 11) C dX9_best_6 (by decide) (fun c2 => ?_) (fun c2 => ?_)
  · have h := h.1 c2
    refine z_aload_n (pc := 11) C 0 dX9_best_11 rfl ?_
    refine z_iload_n (pc := 12) C 1 dX9_best_12 rfl ?_
    refine z_bipush (pc := 13) (v := 60) C dX9_best_13 (by decide) ?_
    refine z_bipush (pc := 15) (v := 9) C dX9_best_15 (by decide) ?_
    refine z_calli (pc := 17) (wr := ((wX1 cI dNcj vNcj) ++ ((wX5 cI dNcs vNcs) ++ ((wX2 cI dNcp vNcp) ++ ((wX4 cI 72 dNcr vNcr) ++ ((wX0 dT (dTj 0) (dTs 0) (dTp 0) (dTr 0) vT) ++ ((wX1 cI dTj vTj) ++ ((wX5 cI dTs vTs) ++ ((wX2 cI dTp vTp) ++ (wX4 cI 72 dTr vTr)))))))))) (w1 := fun (u : Lf) => ((wX9 d (dN 0) (dI 0) (dT 0) (dNc 0) (dNcj 0) (dNcs 0) (dNcp 0) (dNw 0) (dx 0) dtt u) ++ (wX0 dNc (dNcj 0) (dNcs 0) (dNcp 0) (dNcr 0) vNc))) (w2 := fun (u : Lf) => ((wX9 d (dN 0) (dI 0) (dT 0) (dNc 0) (dNcj 0) (dNcs 0) (dNcp 0) (dNw 0) (dx 0) dtt u) ++ ((wX0 dNc (dNcj 0) (dNcs 0) (dNcp 0) (dNcr 0) vNc) ++ ((wX1 cI dNcj vNcj) ++ ((wX5 cI dNcs vNcs) ++ ((wX2 cI dNcp vNcp) ++ ((wX4 cI 72 dNcr vNcr) ++ ((wX0 dT (dTj 0) (dTs 0) (dTp 0) (dTr 0) vT) ++ ((wX1 cI dTj vTj) ++ ((wX5 cI dTs vTs) ++ ((wX2 cI dTp vTp) ++ (wX4 cI 72 dTr vTr)))))))))))) C (z_runV (pc := 17) (wc := ((wX9 d (dN 0) (dI 0) (dT 0) (dNc 0) (dNcj 0) (dNcs 0) (dNcp 0) (dNw 0) (dx 0) dtt v) ++ (wX0 dNc (dNcj 0) (dNcs 0) (dNcp 0) (dNcr 0) vNc))) (As := [.int x1, .int (60 : Int32), .int (9 : Int32)]) C (fun sz => kX9_refusalOf d dN dI dT dNc dNcj dNcs dNcp dNw dx dtt dNcr v vNc x1 (60 : Int32) (9 : Int32) sz h) [0, 1] rfl (by decide) (gdV wq625 wq630 wq631 wq632 wq112) rfl rfl rfl hdX9_refusalOf 0 rfl rfl rfl ⟨Nat.le_of_ble_eq_true rfl, Nat.le_of_ble_eq_true rfl⟩ rfl (Nat.le_of_ble_eq_true rfl) ⟨Nat.zero_le _, Nat.zero_le _⟩ dX9_best_17) [0, 1] [2, 3, 4, 5, 6, 7, 8, 9, 10, 11, 12, 13, 14, 15, 16, 17, 18, 19, 20, 21, 22, 23, 24, 25, 26, 27, 28, 29, 30, 31, 32, 33, 34, 35, 36, 37, 38, 39, 40, 41, 42] [41, 42, 0, 1, 2, 3, 4, 5, 6, 7, 8, 9, 10, 11, 12, 13, 14, 15, 16, 17, 18, 19, 20, 21, 22, 23, 24, 25, 26, 27, 28, 29, 30, 31, 32, 33, 34, 35, 36, 37, 38, 39, 40] rfl rfl (by decide) (by decide) (fun _ => rfl) (by decide) (fun r3 u3 h => ?_)
    obtain ⟨v_3, hu3⟩ : ∃ z, z = u3 := ⟨_, rfl⟩
    subst hu3
    refine z_istore_n (pc := 20) (lv' := [(3, .int r3), (0, .ref (d 0)), (1, .int x1), (2, .int x2)]) C dX9_best_20 (by decide) rfl ?_
    refine z_iload_n (pc := 21) C 0 dX9_best_21 rfl ?_
    refine z_if_eq (pc := 22) (tgt := 27) C dX9_best_22 (by decide) (fun c4 => ?_) (fun c4 => ?_)
    · have h := h.1 c4
      refine z_iconst (pc := 27) (v := 1) C dX9_best_27 (by decide) ?_
      refine z_istore (pc := 28) (lv' := [(4, .int (1 : Int32)), (3, .int r3), (0, .ref (d 0)), (1, .int x1), (2, .int x2)]) C dX9_best_28 (by decide) rfl ?_
      refine z_aload_n (pc := 30) C 2 dX9_best_30 rfl ?_
      refine z_iconst (pc := 31) (v := 1) C dX9_best_31 (by decide) ?_
      refine z_iload_n (pc := 32) C 3 dX9_best_32 rfl ?_
      refine z_calli (pc := 33) (wr := ([] : va_W)) (w1 := fun (u : Lf × Lf × Lf × Lf × Lf) => ((wX9 d (dN 0) (dI 0) (dT 0) (dNc 0) (dNcj 0) (dNcs 0) (dNcp 0) (dNw 0) (dx 0) dtt v_3) ++ ((wX0 dNc (dNcj 0) (dNcs 0) (dNcp 0) (dNcr 0) vNc) ++ ((wX1 cI dNcj vNcj) ++ ((wX5 cI dNcs vNcs) ++ ((wX2 cI dNcp vNcp) ++ ((wX4 cI 72 dNcr vNcr) ++ ((wX0 dT (dTj 0) (dTs 0) (dTp 0) (dTr 0) u.1) ++ ((wX1 cI dTj u.2.1) ++ ((wX5 cI dTs u.2.2.1) ++ ((wX2 cI dTp u.2.2.2.1) ++ (wX4 cI 72 dTr u.2.2.2.2)))))))))))) (w2 := fun (u : Lf × Lf × Lf × Lf × Lf) => ((wX9 d (dN 0) (dI 0) (dT 0) (dNc 0) (dNcj 0) (dNcs 0) (dNcp 0) (dNw 0) (dx 0) dtt v_3) ++ ((wX0 dNc (dNcj 0) (dNcs 0) (dNcp 0) (dNcr 0) vNc) ++ ((wX1 cI dNcj vNcj) ++ ((wX5 cI dNcs vNcs) ++ ((wX2 cI dNcp vNcp) ++ ((wX4 cI 72 dNcr vNcr) ++ ((wX0 dT (dTj 0) (dTs 0) (dTp 0) (dTr 0) u.1) ++ ((wX1 cI dTj u.2.1) ++ ((wX5 cI dTs u.2.2.1) ++ ((wX2 cI dTp u.2.2.2.1) ++ (wX4 cI 72 dTr u.2.2.2.2)))))))))))) C (z_runV (pc := 33) (wc := ((wX9 d (dN 0) (dI 0) (dT 0) (dNc 0) (dNcj 0) (dNcs 0) (dNcp 0) (dNw 0) (dx 0) dtt v_3) ++ ((wX0 dNc (dNcj 0) (dNcs 0) (dNcp 0) (dNcr 0) vNc) ++ ((wX1 cI dNcj vNcj) ++ ((wX5 cI dNcs vNcs) ++ ((wX2 cI dNcp vNcp) ++ ((wX4 cI 72 dNcr vNcr) ++ ((wX0 dT (dTj 0) (dTs 0) (dTp 0) (dTr 0) vT) ++ ((wX1 cI dTj vTj) ++ ((wX5 cI dTs vTs) ++ ((wX2 cI dTp vTp) ++ (wX4 cI 72 dTr vTr)))))))))))) (As := [.int (1 : Int32), .int x1]) C (fun sz => kX9_waitedWithGap d dN dI dT dNc dNcj dNcs dNcp dNw dx dtt dNcr dTj dTs dTp dTr v_3 vNc vNcj vNcs vNcp vNcr vT vTj vTs vTp vTr (1 : Int32) x1 sz h) [0, 1, 2, 3, 4, 5, 6, 7, 8, 9, 10, 11, 12, 13, 14, 15, 16, 17, 18, 19, 20, 21, 22, 23, 24, 25, 26, 27, 28, 29, 30, 31, 32, 33, 34, 35, 36, 37, 38, 39, 40, 41, 42] rfl (by decide) (gdV wq737 wq738 wq739 wq740 wq112) rfl rfl rfl hdX9_waitedWithGap 0 rfl rfl rfl ⟨Nat.le_of_ble_eq_true rfl, Nat.le_of_ble_eq_true rfl⟩ rfl (Nat.le_of_ble_eq_true rfl) ⟨Nat.zero_le _, Nat.zero_le _⟩ dX9_best_33) [0, 1, 2, 3, 4, 5, 6, 7, 8, 9, 10, 11, 12, 13, 14, 15, 16, 17, 18, 19, 20, 21, 22, 23, 24, 25, 26, 27, 28, 29, 30, 31, 32, 33, 34, 35, 36, 37, 38, 39, 40, 41, 42] [] [0, 1, 2, 3, 4, 5, 6, 7, 8, 9, 10, 11, 12, 13, 14, 15, 16, 17, 18, 19, 20, 21, 22, 23, 24, 25, 26, 27, 28, 29, 30, 31, 32, 33, 34, 35, 36, 37, 38, 39, 40, 41, 42] rfl rfl (by decide) (by decide) (fun _ => rfl) (by decide) (fun r5 u5 h => ?_)
      obtain ⟨vT_5, vTj_5, vTs_5, vTp_5, vTr_5⟩ := u5
      dsimp only at h
      refine z_istore (pc := 36) (lv' := [(5, .int r5), (4, .int (1 : Int32)), (3, .int r3), (0, .ref (d 0)), (1, .int x1), (2, .int x2)]) C dX9_best_36 (by decide) rfl ?_
      refine z_iconst (pc := 38) (v := 2) C dX9_best_38 (by decide) ?_
      refine z_istore (pc := 39) (lv' := [(6, .int (2 : Int32)), (5, .int r5), (4, .int (1 : Int32)), (3, .int r3), (0, .ref (d 0)), (1, .int x1), (2, .int x2)]) C dX9_best_39 (by decide) rfl ?_
      obtain ⟨n41, h⟩ := h
      refine z_sub (lv' := [(0, .ref (d 0)), (1, .int x1), (2, .int x2), (4, .int (1 : Int32)), (5, .int r5), (6, .int (2 : Int32))]) [4, 5, 6, 2, 1, 0] rfl ?_
      exact L41  n41 v_3 vT_5 vTj_5 vTs_5 vTp_5 vTr_5 (1 : Int32) r5 (2 : Int32) h
    · have h := h.2 c4
      refine z_iload_n (pc := 25) C 0 dX9_best_25 rfl ?_
      exact hret 26 _ _ r3 (v_3, vT, vTj, vTs, vTp, vTr) rfl h dX9_best_26
  · have h := h.2 c2
    refine z_iconst (pc := 9) (v := -1) C dX9_best_9 (by decide) ?_
    exact hret 10 _ _ (-1 : Int32) (v, vT, vTj, vTs, vTp, vTr) rfl h dX9_best_10

def pX9_note (vNn : Lf) (x1 : Int32) (x2 : Int32) (Q : Int32 → Lf → Prop) : Prop := ((¬ x1 = (-1 : Int32) → (pX9_within x1 (0 : Int32) (99999 : Int32) (fun r2 => ((r2 = 0 → (Q (-2 : Int32) vNn)) ∧ (¬ r2 = 0 → (pX9_within x2 (0 : Int32) (255 : Int32) (fun r4 => ((¬ r4 = 0 → (pX4_add 15 vNn x1 x2 (0 : Int32) (fun r6 vNn_6 => ((r6 = 0 → (Q (-4 : Int32) vNn_6)) ∧ (¬ r6 = 0 → (Q (vNn_6 0 0) vNn_6)))))) ∧ (r4 = 0 → (Q (-2 : Int32) vNn)))))))))) ∧ (x1 = (-1 : Int32) → (Q (0 : Int32) (st vNn 0 0 (0 : Int32)))))
abbrev rmX9_note : Room := { frames := 1, cells := 0, slots := 0, locals := 24 }
abbrev wdX9_note : List Cond := Cond.code yX9_note cX9_note 4 (some .int) :: TB
theorem hdSX9_note : (yX9_note).cls ≠ "java/lang/invoke/MethodHandle" ∧ (yX9_note).cls ≠ "java/lang/invoke/VarHandle" ∧ (parseMethodDescriptor (yX9_note).desc).map (fun d => d.parameters.length) = some 2 := by decide +kernel
theorem hdX9_note : (yX9_note).cls = RX9 ∧ (yX9_note).cls ≠ "java/lang/invoke/MethodHandle" ∧ (yX9_note).cls ≠ "java/lang/invoke/VarHandle" ∧ (parseMethodDescriptor (yX9_note).desc).map (fun d => d.parameters.length) = some 2 := ⟨rfl, hdSX9_note⟩
set_option maxHeartbeats 4000000 in
set_option maxRecDepth 100000 in
theorem kX9_note {l : Launch} {D : va_G} {cI cJ cT : ClassId} (d : Nat → Nat) (dN : Nat → Nat) (dI : Nat → Nat) (dT : Nat → Nat) (dNc : Nat → Nat) (dNcj : Nat → Nat) (dNcs : Nat → Nat) (dNcp : Nat → Nat) (dNw : Nat → Nat) (dx : Nat → Nat) (dtt : Nat) (dNg : Nat → Nat) (dNn : Nat → Nat) (dNq : Nat → Nat)  (v : Lf) (vNn : Lf) (x1 : Int32) (x2 : Int32) {Q : Int32 → Lf → Prop} (sz : Nat) (h : pX9_note vNn x1 x2 Q) : Met l yX9_note wdX9_note rmX9_note (Pz D (tyL cI cJ cT) [.ref (d 0), .int x1, .int x2] ((wX9 d (dN 0) (dI 0) (dT 0) (dNc 0) (dNcj 0) (dNcs 0) (dNcp 0) (dNw 0) (dx 0) dtt v) ++ ((wX8 dN (dNc 0) (dNw 0) (dNg 0) (dNn 0) (dNq 0)) ++ (wX4 cI 15 dNn vNn))) sz) (va_Qi (fun (r : Int32) (u : Lf) => Q r u) (Bz D (tyL cI cJ cT) ((wX9 d (dN 0) (dI 0) (dT 0) (dNc 0) (dNcj 0) (dNcs 0) (dNcp 0) (dNw 0) (dx 0) dtt v) ++ ((wX8 dN (dNc 0) (dNw 0) (dNg 0) (dNn 0) (dNq 0)) ++ (wX4 cI 15 dNn vNn))) sz (fun (u : Lf) => ((wX9 d (dN 0) (dI 0) (dT 0) (dNc 0) (dNcj 0) (dNcs 0) (dNcp 0) (dNw 0) (dx 0) dtt v) ++ ((wX8 dN (dNc 0) (dNw 0) (dNg 0) (dNn 0) (dNq 0)) ++ (wX4 cI 15 dNn u))))) (va_A ((wX9 d (dN 0) (dI 0) (dT 0) (dNc 0) (dNcj 0) (dNcs 0) (dNcp 0) (dNw 0) (dx 0) dtt v) ++ ((wX8 dN (dNc 0) (dNw 0) (dNg 0) (dNn 0) (dNq 0)) ++ (wX4 cI 15 dNn vNn))) sz)) 0 0 (va_A ((wX9 d (dN 0) (dI 0) (dT 0) (dNc 0) (dNcj 0) (dNcs 0) (dNcp 0) (dNw 0) (dx 0) dtt v) ++ ((wX8 dN (dNc 0) (dNw 0) (dNg 0) (dNn 0) (dNq 0)) ++ (wX4 cI 15 dNn vNn))) sz) := by
  refine z_meti (cc := cX9_note) (maxL := 4) (own := RX9) (lv0 := [(0, .ref (d 0)), (1, .int x1), (2, .int x2)]) (by decide) rfl rfl (Nat.le_of_ble_eq_true rfl) rfl ?_
  intro p e s m args below meth c A QQ C hin hret
  refine z_aload_n (pc := 0) C 0 dX9_note_0 rfl ?_
  refine z_get (pc := 1) C uw9 0 rfl rfl 0 (by decide) wq526 rfl dX9_note_1 ?_
  refine z_get (pc := 4) C uw8 1 rfl rfl 3 (by decide) wq743 rfl dX9_note_4 ?_
  refine z_astore_n (pc := 7) (lv' := [(3, .ref (dNn 0)), (0, .ref (d 0)), (1, .int x1), (2, .int x2)]) C dX9_note_7 (by decide) rfl ?_
  refine z_iload_n (pc := 8) C 2 dX9_note_8 rfl ?_
  refine z_iconst (pc := 9) (v := -1) C dX9_note_9 (by decide) ?_
  refine z_icmp_ne (pc := 10) (tgt := 20) C dX9_note_10 (by decide) (fun c1 => ?_) (fun c1 => ?_)
  · have h := h.1 c1
    refine z_iload_n (pc := 20) C 2 dX9_note_20 rfl ?_
    refine z_iconst (pc := 21) (v := 0) C dX9_note_21 (by decide) ?_
    refine z_ldcw (pc := 22) C wq744 dX9_note_22 ?_
    refine z_call0i (pc := 25) C (z_runS (pc := 25) (wc := ([] : va_W)) (As := [.int x1, .int (0 : Int32), .int (99999 : Int32)]) C (fun sz => kX9_within x1 (0 : Int32) (99999 : Int32) sz h) [] rfl (by decide) (gdS wq366 wq553 wq373 wq112) rfl rfl rfl hdSX9_within ⟨Nat.le_of_ble_eq_true rfl, Nat.le_of_ble_eq_true rfl⟩ rfl (Nat.le_of_ble_eq_true rfl) ⟨Nat.zero_le _, Nat.zero_le _⟩ dX9_note_25) (fun r2 u2 h => ?_)
    refine z_if_eq (pc := 28) (tgt := 42) C dX9_note_28 (by decide) (fun c3 => ?_) (fun c3 => ?_)
    · have h := h.1 c3
      refine z_bipush (pc := 42) (v := -2) C dX9_note_42 (by decide) ?_
      exact hret 44 _ _ (-2 : Int32) vNn rfl h dX9_note_44
    · have h := h.2 c3
      refine z_iload_n (pc := 31) C 3 dX9_note_31 rfl ?_
      refine z_iconst (pc := 32) (v := 0) C dX9_note_32 (by decide) ?_
      refine z_sipush (pc := 33) (v := 255) C dX9_note_33 (by decide) ?_
      refine z_call0i (pc := 36) C (z_runS (pc := 36) (wc := ([] : va_W)) (As := [.int x2, .int (0 : Int32), .int (255 : Int32)]) C (fun sz => kX9_within x2 (0 : Int32) (255 : Int32) sz h) [] rfl (by decide) (gdS wq366 wq553 wq373 wq112) rfl rfl rfl hdSX9_within ⟨Nat.le_of_ble_eq_true rfl, Nat.le_of_ble_eq_true rfl⟩ rfl (Nat.le_of_ble_eq_true rfl) ⟨Nat.zero_le _, Nat.zero_le _⟩ dX9_note_36) (fun r4 u4 h => ?_)
      refine z_if_ne (pc := 39) (tgt := 45) C dX9_note_39 (by decide) (fun c5 => ?_) (fun c5 => ?_)
      · have h := h.1 c5
        refine z_aload_n (pc := 45) C 0 dX9_note_45 rfl ?_
        refine z_iload_n (pc := 46) C 2 dX9_note_46 rfl ?_
        refine z_iload_n (pc := 47) C 3 dX9_note_47 rfl ?_
        refine z_iconst (pc := 48) (v := 0) C dX9_note_48 (by decide) ?_
        refine z_calli (pc := 49) (wr := ((wX9 d (dN 0) (dI 0) (dT 0) (dNc 0) (dNcj 0) (dNcs 0) (dNcp 0) (dNw 0) (dx 0) dtt v) ++ (wX8 dN (dNc 0) (dNw 0) (dNg 0) (dNn 0) (dNq 0)))) (w1 := fun (u : Lf) => (wX4 cI 15 dNn u)) (w2 := fun (u : Lf) => ((wX9 d (dN 0) (dI 0) (dT 0) (dNc 0) (dNcj 0) (dNcs 0) (dNcp 0) (dNw 0) (dx 0) dtt v) ++ ((wX8 dN (dNc 0) (dNw 0) (dNg 0) (dNn 0) (dNq 0)) ++ (wX4 cI 15 dNn u)))) C (z_runV (pc := 49) (wc := (wX4 cI 15 dNn vNn)) (As := [.int x1, .int x2, .int (0 : Int32)]) C (fun sz => kX4_add dNn 15 vNn x1 x2 (0 : Int32) sz h) [2, 3] rfl (by decide) (gdV wq142 wq699 wq145 wq146 wq48) rfl rfl rfl hdX4_add 2 rfl rfl rfl ⟨Nat.le_of_ble_eq_true rfl, Nat.le_of_ble_eq_true rfl⟩ rfl (Nat.le_of_ble_eq_true rfl) ⟨Nat.zero_le _, Nat.zero_le _⟩ dX9_note_49) [2, 3] [0, 1] [0, 1, 2, 3] rfl rfl (by decide) (by decide) (fun _ => rfl) (by decide) (fun r6 u6 h => ?_)
        obtain ⟨vNn_6, hu6⟩ : ∃ z, z = u6 := ⟨_, rfl⟩
        subst hu6
        refine z_if_eq (pc := 52) (tgt := 62) C dX9_note_52 (by decide) (fun c7 => ?_) (fun c7 => ?_)
        · have h := h.1 c7
          refine z_bipush (pc := 62) (v := -4) C dX9_note_62 (by decide) ?_
          exact hret 64 _ _ (-4 : Int32) vNn_6 rfl h dX9_note_64
        · have h := h.2 c7
          refine z_aload_n (pc := 55) C 0 dX9_note_55 rfl ?_
          refine z_get (pc := 56) C uw4 2 rfl rfl 0 (by decide) wq676 rfl dX9_note_56 ?_
          refine z_goto (pc := 59) (tgt := 64) C dX9_note_59 (by decide) ?_
          exact hret 64 _ _ (vNn_6 0 0) vNn_6 rfl h dX9_note_64
      · have h := h.2 c5
        refine z_bipush (pc := 42) (v := -2) C dX9_note_42 (by decide) ?_
        exact hret 44 _ _ (-2 : Int32) vNn rfl h dX9_note_44
  · have h := h.2 c1
    refine z_aload_n (pc := 13) C 0 dX9_note_13 rfl ?_
    refine z_iconst (pc := 14) (v := 0) C dX9_note_14 (by decide) ?_
    refine z_put (pc := 15) (ws' := ((wX9 d (dN 0) (dI 0) (dT 0) (dNc 0) (dNcj 0) (dNcs 0) (dNcp 0) (dNw 0) (dx 0) dtt v) ++ ((wX8 dN (dNc 0) (dNw 0) (dNg 0) (dNn 0) (dNq 0)) ++ (wX4 cI 15 dNn (st vNn 0 0 (0 : Int32)))))) C uw4 tyX4 tyX4_ok nmX4 2 rfl rfl 0 (by decide) wq676 rfl rfl rfl (Nat.le_of_ble_eq_true rfl) dX9_note_15 (set_r (k := 1) (i := 1) rfl (set_r (k := 1) (i := 0) rfl sX4_f0)) ?_
    refine z_iconst (pc := 18) (v := 0) C dX9_note_18 (by decide) ?_
    exact hret 19 _ _ (0 : Int32) (st vNn 0 0 (0 : Int32)) rfl h dX9_note_19

def pX9_notesHoldWithGap_L26 (vNc : Lf) (vNcj : Lf) (vNcs : Lf) (vNcp : Lf) (vNcr : Lf) (vNn : Lf) (x1 : Int32) (Q : Int32 → Lf → Lf → Lf → Lf → Lf → Prop) : Nat → Lf → Lf → Lf → Lf → Lf → Int32 → Int32 → Prop
  | 0, _, _, _, _, _, _, _ => False
  | n26 + 1, vT, vTj, vTs, vTp, vTr, x2, x3 => (((60 : Int32) ≤ x3 → ((¬ x2 = (vNn 0 0) → (Q (0 : Int32) vT vTj vTs vTp vTr)) ∧ (x2 = (vNn 0 0) → (Q (1 : Int32) vT vTj vTs vTp vTr)))) ∧ (¬ (60 : Int32) ≤ x3 → (pX0_passSeconds vT vTj vTs vTp vTr (1 : Int32) (fun vT_5 vTs_5 vTp_5 vTr_5 => (pX8_notesThatHold vNn (vT 0 5) (vTs_5 0 0) (fun r6 => (pX9_notesHoldWithGap_L26 vNc vNcj vNcs vNcp vNcr vNn x1 Q n26 vT_5 vTj vTs_5 vTp_5 vTr_5 (x2 + r6) (x3 + 1))))))))
def pX9_notesHoldWithGap (vNc : Lf) (vNcj : Lf) (vNcs : Lf) (vNcp : Lf) (vNcr : Lf) (vNn : Lf) (vT : Lf) (vTj : Lf) (vTs : Lf) (vTp : Lf) (vTr : Lf) (x1 : Int32) (Q : Int32 → Lf → Lf → Lf → Lf → Lf → Prop) : Prop := (pX0_copyFrom vT vNc vNcj vNcs vNcp vNcr vTj vTs vTp vTr (fun vT_1 vTj_1 vTs_1 vTp_1 vTr_1 => (pX5_setGaps vTs_1 x1 (fun vTs_2 => (∃ n26, pX9_notesHoldWithGap_L26 vNc vNcj vNcs vNcp vNcr vNn x1 Q  n26 vT_1 vTj_1 vTs_2 vTp_1 vTr_1 (0 : Int32) (0 : Int32))))))
abbrev rmX9_notesHoldWithGap : Room := { frames := 5, cells := 0, slots := 0, locals := 189 }
abbrev wdX9_notesHoldWithGap : List Cond := Cond.code yX9_notesHoldWithGap cX9_notesHoldWithGap 5 (some .boolean) :: TB
theorem hdSX9_notesHoldWithGap : (yX9_notesHoldWithGap).cls ≠ "java/lang/invoke/MethodHandle" ∧ (yX9_notesHoldWithGap).cls ≠ "java/lang/invoke/VarHandle" ∧ (parseMethodDescriptor (yX9_notesHoldWithGap).desc).map (fun d => d.parameters.length) = some 1 := by decide +kernel
theorem hdX9_notesHoldWithGap : (yX9_notesHoldWithGap).cls = RX9 ∧ (yX9_notesHoldWithGap).cls ≠ "java/lang/invoke/MethodHandle" ∧ (yX9_notesHoldWithGap).cls ≠ "java/lang/invoke/VarHandle" ∧ (parseMethodDescriptor (yX9_notesHoldWithGap).desc).map (fun d => d.parameters.length) = some 1 := ⟨rfl, hdSX9_notesHoldWithGap⟩
set_option maxHeartbeats 4000000 in
set_option maxRecDepth 100000 in
theorem kX9_notesHoldWithGap {l : Launch} {D : va_G} {cI cJ cT : ClassId} (d : Nat → Nat) (dN : Nat → Nat) (dI : Nat → Nat) (dT : Nat → Nat) (dNc : Nat → Nat) (dNcj : Nat → Nat) (dNcs : Nat → Nat) (dNcp : Nat → Nat) (dNw : Nat → Nat) (dx : Nat → Nat) (dtt : Nat) (dNg : Nat → Nat) (dNn : Nat → Nat) (dNq : Nat → Nat) (dNcr : Nat → Nat) (dTj : Nat → Nat) (dTs : Nat → Nat) (dTp : Nat → Nat) (dTr : Nat → Nat)  (v : Lf) (vNc : Lf) (vNcj : Lf) (vNcs : Lf) (vNcp : Lf) (vNcr : Lf) (vNn : Lf) (vT : Lf) (vTj : Lf) (vTs : Lf) (vTp : Lf) (vTr : Lf) (x1 : Int32) {Q : Int32 → Lf → Lf → Lf → Lf → Lf → Prop} (sz : Nat) (h : pX9_notesHoldWithGap vNc vNcj vNcs vNcp vNcr vNn vT vTj vTs vTp vTr x1 Q) : Met l yX9_notesHoldWithGap wdX9_notesHoldWithGap rmX9_notesHoldWithGap (Pz D (tyL cI cJ cT) [.ref (d 0), .int x1] ((wX9 d (dN 0) (dI 0) (dT 0) (dNc 0) (dNcj 0) (dNcs 0) (dNcp 0) (dNw 0) (dx 0) dtt v) ++ ((wX8 dN (dNc 0) (dNw 0) (dNg 0) (dNn 0) (dNq 0)) ++ ((wX0 dNc (dNcj 0) (dNcs 0) (dNcp 0) (dNcr 0) vNc) ++ ((wX1 cI dNcj vNcj) ++ ((wX5 cI dNcs vNcs) ++ ((wX2 cI dNcp vNcp) ++ ((wX4 cI 72 dNcr vNcr) ++ ((wX4 cI 15 dNn vNn) ++ ((wX0 dT (dTj 0) (dTs 0) (dTp 0) (dTr 0) vT) ++ ((wX1 cI dTj vTj) ++ ((wX5 cI dTs vTs) ++ ((wX2 cI dTp vTp) ++ (wX4 cI 72 dTr vTr))))))))))))) sz) (va_Qi (fun (r : Int32) (u : Lf × Lf × Lf × Lf × Lf) => Q r u.1 u.2.1 u.2.2.1 u.2.2.2.1 u.2.2.2.2) (Bz D (tyL cI cJ cT) ((wX9 d (dN 0) (dI 0) (dT 0) (dNc 0) (dNcj 0) (dNcs 0) (dNcp 0) (dNw 0) (dx 0) dtt v) ++ ((wX8 dN (dNc 0) (dNw 0) (dNg 0) (dNn 0) (dNq 0)) ++ ((wX0 dNc (dNcj 0) (dNcs 0) (dNcp 0) (dNcr 0) vNc) ++ ((wX1 cI dNcj vNcj) ++ ((wX5 cI dNcs vNcs) ++ ((wX2 cI dNcp vNcp) ++ ((wX4 cI 72 dNcr vNcr) ++ ((wX4 cI 15 dNn vNn) ++ ((wX0 dT (dTj 0) (dTs 0) (dTp 0) (dTr 0) vT) ++ ((wX1 cI dTj vTj) ++ ((wX5 cI dTs vTs) ++ ((wX2 cI dTp vTp) ++ (wX4 cI 72 dTr vTr))))))))))))) sz (fun (u : Lf × Lf × Lf × Lf × Lf) => ((wX9 d (dN 0) (dI 0) (dT 0) (dNc 0) (dNcj 0) (dNcs 0) (dNcp 0) (dNw 0) (dx 0) dtt v) ++ ((wX8 dN (dNc 0) (dNw 0) (dNg 0) (dNn 0) (dNq 0)) ++ ((wX0 dNc (dNcj 0) (dNcs 0) (dNcp 0) (dNcr 0) vNc) ++ ((wX1 cI dNcj vNcj) ++ ((wX5 cI dNcs vNcs) ++ ((wX2 cI dNcp vNcp) ++ ((wX4 cI 72 dNcr vNcr) ++ ((wX4 cI 15 dNn vNn) ++ ((wX0 dT (dTj 0) (dTs 0) (dTp 0) (dTr 0) u.1) ++ ((wX1 cI dTj u.2.1) ++ ((wX5 cI dTs u.2.2.1) ++ ((wX2 cI dTp u.2.2.2.1) ++ (wX4 cI 72 dTr u.2.2.2.2))))))))))))))) (va_A ((wX9 d (dN 0) (dI 0) (dT 0) (dNc 0) (dNcj 0) (dNcs 0) (dNcp 0) (dNw 0) (dx 0) dtt v) ++ ((wX8 dN (dNc 0) (dNw 0) (dNg 0) (dNn 0) (dNq 0)) ++ ((wX0 dNc (dNcj 0) (dNcs 0) (dNcp 0) (dNcr 0) vNc) ++ ((wX1 cI dNcj vNcj) ++ ((wX5 cI dNcs vNcs) ++ ((wX2 cI dNcp vNcp) ++ ((wX4 cI 72 dNcr vNcr) ++ ((wX4 cI 15 dNn vNn) ++ ((wX0 dT (dTj 0) (dTs 0) (dTp 0) (dTr 0) vT) ++ ((wX1 cI dTj vTj) ++ ((wX5 cI dTs vTs) ++ ((wX2 cI dTp vTp) ++ (wX4 cI 72 dTr vTr))))))))))))) sz)) 0 0 (va_A ((wX9 d (dN 0) (dI 0) (dT 0) (dNc 0) (dNcj 0) (dNcs 0) (dNcp 0) (dNw 0) (dx 0) dtt v) ++ ((wX8 dN (dNc 0) (dNw 0) (dNg 0) (dNn 0) (dNq 0)) ++ ((wX0 dNc (dNcj 0) (dNcs 0) (dNcp 0) (dNcr 0) vNc) ++ ((wX1 cI dNcj vNcj) ++ ((wX5 cI dNcs vNcs) ++ ((wX2 cI dNcp vNcp) ++ ((wX4 cI 72 dNcr vNcr) ++ ((wX4 cI 15 dNn vNn) ++ ((wX0 dT (dTj 0) (dTs 0) (dTp 0) (dTr 0) vT) ++ ((wX1 cI dTj vTj) ++ ((wX5 cI dTs vTs) ++ ((wX2 cI dTp vTp) ++ (wX4 cI 72 dTr vTr))))))))))))) sz) := by
  refine z_metz (cc := cX9_notesHoldWithGap) (maxL := 5) (own := RX9) (lv0 := [(0, .ref (d 0)), (1, .int x1)]) (by decide) rfl rfl (Nat.le_of_ble_eq_true rfl) rfl ?_
  intro p e s m args below meth c A QQ C hin hret
  have L26 : ∀ (n26 : Nat) (vT : Lf) (vTj : Lf) (vTs : Lf) (vTp : Lf) (vTr : Lf) (x2 : Int32) (x3 : Int32), pX9_notesHoldWithGap_L26 vNc vNcj vNcs vNcp vNcr vNn x1 Q n26 vT vTj vTs vTp vTr x2 x3 → ZZ p l e rmX9_notesHoldWithGap s m args below meth c D A 5 0 0 QQ 26 ((wX9 d (dN 0) (dI 0) (dT 0) (dNc 0) (dNcj 0) (dNcs 0) (dNcp 0) (dNw 0) (dx 0) dtt v) ++ ((wX8 dN (dNc 0) (dNw 0) (dNg 0) (dNn 0) (dNq 0)) ++ ((wX0 dNc (dNcj 0) (dNcs 0) (dNcp 0) (dNcr 0) vNc) ++ ((wX1 cI dNcj vNcj) ++ ((wX5 cI dNcs vNcs) ++ ((wX2 cI dNcp vNcp) ++ ((wX4 cI 72 dNcr vNcr) ++ ((wX4 cI 15 dNn vNn) ++ ((wX0 dT (dTj 0) (dTs 0) (dTp 0) (dTr 0) vT) ++ ((wX1 cI dTj vTj) ++ ((wX5 cI dTs vTs) ++ ((wX2 cI dTp vTp) ++ (wX4 cI 72 dTr vTr))))))))))))) [(0, .ref (d 0)), (2, .int x2), (3, .int x3)] [] := by
    intro n26
    induction n26 with
    | zero => intro vT vTj vTs vTp vTr x2 x3 h; exact False.elim h
    | succ n26 ih26 =>
      intro vT vTj vTs vTp vTr x2 x3 h
      refine z_iload_n (pc := 26) C 2 dX9_notesHoldWithGap_26 rfl ?_
      refine z_bipush (pc := 27) (v := 60) C dX9_notesHoldWithGap_27 (by decide) ?_
      refine z_icmp_ge (pc := 29) (tgt := 77) C dX9_notesHoldWithGap_29 (by decide) (fun c3 => ?_) (fun c3 => ?_)
      · have h := h.1 c3
        refine z_iload_n (pc := 77) C 1 dX9_notesHoldWithGap_77 rfl ?_
        refine z_aload_n (pc := 78) C 0 dX9_notesHoldWithGap_78 rfl ?_
        refine z_get (pc := 79) C uw9 0 rfl rfl 0 (by decide) wq526 rfl dX9_notesHoldWithGap_79 ?_
        refine z_get (pc := 82) C uw8 1 rfl rfl 3 (by decide) wq743 rfl dX9_notesHoldWithGap_82 ?_
        refine z_get (pc := 85) C uw4 23 rfl rfl 0 (by decide) wq676 rfl dX9_notesHoldWithGap_85 ?_
        refine z_icmp_ne (pc := 88) (tgt := 95) C dX9_notesHoldWithGap_88 (by decide) (fun c4 => ?_) (fun c4 => ?_)
        · have h := h.1 c4
          refine z_iconst (pc := 95) (v := 0) C dX9_notesHoldWithGap_95 (by decide) ?_
          exact hret 96 _ _ (0 : Int32) rfl (vT, vTj, vTs, vTp, vTr) rfl h dX9_notesHoldWithGap_96
        · have h := h.2 c4
          refine z_iconst (pc := 91) (v := 1) C dX9_notesHoldWithGap_91 (by decide) ?_
          refine z_goto (pc := 92) (tgt := 96) C dX9_notesHoldWithGap_92 (by decide) ?_
          exact hret 96 _ _ (1 : Int32) rfl (vT, vTj, vTs, vTp, vTr) rfl h dX9_notesHoldWithGap_96
      · have h := h.2 c3
        refine z_aload_n (pc := 32) C 0 dX9_notesHoldWithGap_32 rfl ?_
        refine z_get (pc := 33) C uw9 0 rfl rfl 2 (by decide) wq529 rfl dX9_notesHoldWithGap_33 ?_
        refine z_get (pc := 36) C uw0 25 rfl rfl 5 (by decide) wq730 rfl dX9_notesHoldWithGap_36 ?_
        refine z_istore (pc := 39) (lv' := [(4, .int (vT 0 5)), (0, .ref (d 0)), (2, .int x2), (3, .int x3)]) C dX9_notesHoldWithGap_39 (by decide) rfl ?_
        refine z_aload_n (pc := 41) C 1 dX9_notesHoldWithGap_41 rfl ?_
        refine z_get (pc := 42) C uw9 0 rfl rfl 2 (by decide) wq529 rfl dX9_notesHoldWithGap_42 ?_
        refine z_iconst (pc := 45) (v := 1) C dX9_notesHoldWithGap_45 (by decide) ?_
        refine z_callv (pc := 46) (wr := ((wX9 d (dN 0) (dI 0) (dT 0) (dNc 0) (dNcj 0) (dNcs 0) (dNcp 0) (dNw 0) (dx 0) dtt v) ++ ((wX8 dN (dNc 0) (dNw 0) (dNg 0) (dNn 0) (dNq 0)) ++ ((wX0 dNc (dNcj 0) (dNcs 0) (dNcp 0) (dNcr 0) vNc) ++ ((wX1 cI dNcj vNcj) ++ ((wX5 cI dNcs vNcs) ++ ((wX2 cI dNcp vNcp) ++ ((wX4 cI 72 dNcr vNcr) ++ (wX4 cI 15 dNn vNn))))))))) (w1 := fun (u : Lf × Lf × Lf × Lf) => ((wX0 dT (dTj 0) (dTs 0) (dTp 0) (dTr 0) u.1) ++ ((wX1 cI dTj vTj) ++ ((wX5 cI dTs u.2.1) ++ ((wX2 cI dTp u.2.2.1) ++ (wX4 cI 72 dTr u.2.2.2)))))) (w2 := fun (u : Lf × Lf × Lf × Lf) => ((wX9 d (dN 0) (dI 0) (dT 0) (dNc 0) (dNcj 0) (dNcs 0) (dNcp 0) (dNw 0) (dx 0) dtt v) ++ ((wX8 dN (dNc 0) (dNw 0) (dNg 0) (dNn 0) (dNq 0)) ++ ((wX0 dNc (dNcj 0) (dNcs 0) (dNcp 0) (dNcr 0) vNc) ++ ((wX1 cI dNcj vNcj) ++ ((wX5 cI dNcs vNcs) ++ ((wX2 cI dNcp vNcp) ++ ((wX4 cI 72 dNcr vNcr) ++ ((wX4 cI 15 dNn vNn) ++ ((wX0 dT (dTj 0) (dTs 0) (dTp 0) (dTr 0) u.1) ++ ((wX1 cI dTj vTj) ++ ((wX5 cI dTs u.2.1) ++ ((wX2 cI dTp u.2.2.1) ++ (wX4 cI 72 dTr u.2.2.2)))))))))))))) C (z_runV (pc := 46) (wc := ((wX0 dT (dTj 0) (dTs 0) (dTp 0) (dTr 0) vT) ++ ((wX1 cI dTj vTj) ++ ((wX5 cI dTs vTs) ++ ((wX2 cI dTp vTp) ++ (wX4 cI 72 dTr vTr)))))) (As := [.int (1 : Int32)]) C (fun sz => kX0_passSeconds dT dTj dTs dTp dTr vT vTj vTs vTp vTr (1 : Int32) sz h) [25, 26, 27, 28, 29, 30, 31, 32, 33, 34, 35, 36, 37, 38, 39, 40, 41, 42, 43, 44, 45] rfl (by decide) (gdV wq257 wq633 wq259 wq260 wq108) rfl rfl rfl hdX0_passSeconds 25 rfl rfl rfl ⟨Nat.le_of_ble_eq_true rfl, Nat.le_of_ble_eq_true rfl⟩ rfl (Nat.le_of_ble_eq_true rfl) ⟨Nat.zero_le _, Nat.zero_le _⟩ dX9_notesHoldWithGap_46) [25, 26, 27, 28, 29, 30, 31, 32, 33, 34, 35, 36, 37, 38, 39, 40, 41, 42, 43, 44, 45] [0, 1, 2, 3, 4, 5, 6, 7, 8, 9, 10, 11, 12, 13, 14, 15, 16, 17, 18, 19, 20, 21, 22, 23, 24] [0, 1, 2, 3, 4, 5, 6, 7, 8, 9, 10, 11, 12, 13, 14, 15, 16, 17, 18, 19, 20, 21, 22, 23, 24, 25, 26, 27, 28, 29, 30, 31, 32, 33, 34, 35, 36, 37, 38, 39, 40, 41, 42, 43, 44, 45] rfl rfl (by decide) (by decide) (fun _ => rfl) (by decide) (fun u5 h => ?_)
        obtain ⟨vT_5, vTs_5, vTp_5, vTr_5⟩ := u5
        dsimp only at h
        refine z_iload_n (pc := 49) C 2 dX9_notesHoldWithGap_49 rfl ?_
        refine z_aload_n (pc := 50) C 1 dX9_notesHoldWithGap_50 rfl ?_
        refine z_get (pc := 51) C uw9 0 rfl rfl 0 (by decide) wq526 rfl dX9_notesHoldWithGap_51 ?_
        refine z_iload (pc := 54) C 0 dX9_notesHoldWithGap_54 rfl ?_
        refine z_aload_n (pc := 56) C 1 dX9_notesHoldWithGap_56 rfl ?_
        refine z_get (pc := 57) C uw9 0 rfl rfl 2 (by decide) wq529 rfl dX9_notesHoldWithGap_57 ?_
        refine z_get (pc := 60) C uw0 25 rfl rfl 1 (by decide) wq534 rfl dX9_notesHoldWithGap_60 ?_
        refine z_get (pc := 63) C uw5 32 rfl rfl 0 (by decide) wq745 rfl dX9_notesHoldWithGap_63 ?_
        refine z_callRi (pc := 66) C (z_runV (pc := 66) (wc := ((wX8 dN (dNc 0) (dNw 0) (dNg 0) (dNn 0) (dNq 0)) ++ (wX4 cI 15 dNn vNn))) (As := [.int (vT 0 5), .int (vTs_5 0 0)]) C (fun sz => kX8_notesThatHold dN dNc dNw dNg dNn dNq vNn (vT 0 5) (vTs_5 0 0) sz h) [1, 23, 24] rfl (by decide) (gdV wq521 wq746 wq747 wq748 wq505) rfl rfl rfl hdX8_notesThatHold 1 rfl rfl rfl ⟨Nat.le_of_ble_eq_true rfl, Nat.le_of_ble_eq_true rfl⟩ rfl (Nat.le_of_ble_eq_true rfl) ⟨Nat.zero_le _, Nat.zero_le _⟩ dX9_notesHoldWithGap_66) [1, 23, 24] rfl (by decide) (fun r6 u6 h => ?_)
        refine z_iadd (pc := 69) C dX9_notesHoldWithGap_69 ?_
        refine z_istore_n (pc := 70) (lv' := [(2, .int (x2 + r6)), (4, .int (vT 0 5)), (0, .ref (d 0)), (3, .int x3)]) C dX9_notesHoldWithGap_70 (by decide) rfl ?_
        refine z_iinc (pc := 71) (v := (x3 + 1)) (lv' := [(3, .int (x3 + 1)), (2, .int (x2 + r6)), (4, .int (vT 0 5)), (0, .ref (d 0))]) C 3 dX9_notesHoldWithGap_71 rfl rfl (by decide) rfl ?_
        refine z_goto (pc := 74) (tgt := 26) C dX9_notesHoldWithGap_74 (by decide) ?_
        refine z_sub (lv' := [(0, .ref (d 0)), (2, .int (x2 + r6)), (3, .int (x3 + 1))]) [3, 1, 0] rfl ?_
        exact ih26 vT_5 vTj vTs_5 vTp_5 vTr_5 (x2 + r6) (x3 + 1) h
  refine z_aload_n (pc := 0) C 0 dX9_notesHoldWithGap_0 rfl ?_
  refine z_get (pc := 1) C uw9 0 rfl rfl 2 (by decide) wq529 rfl dX9_notesHoldWithGap_1 ?_
  refine z_aload_n (pc := 4) C 0 dX9_notesHoldWithGap_4 rfl ?_
  refine z_get (pc := 5) C uw9 0 rfl rfl 3 (by decide) wq531 rfl dX9_notesHoldWithGap_5 ?_
  refine z_callv (pc := 8) (wr := ((wX9 d (dN 0) (dI 0) (dT 0) (dNc 0) (dNcj 0) (dNcs 0) (dNcp 0) (dNw 0) (dx 0) dtt v) ++ ((wX8 dN (dNc 0) (dNw 0) (dNg 0) (dNn 0) (dNq 0)) ++ (wX4 cI 15 dNn vNn)))) (w1 := fun (u : Lf × Lf × Lf × Lf × Lf) => ((wX0 dT (dTj 0) (dTs 0) (dTp 0) (dTr 0) u.1) ++ ((wX0 dNc (dNcj 0) (dNcs 0) (dNcp 0) (dNcr 0) vNc) ++ ((wX1 cI dNcj vNcj) ++ ((wX5 cI dNcs vNcs) ++ ((wX2 cI dNcp vNcp) ++ ((wX4 cI 72 dNcr vNcr) ++ ((wX1 cI dTj u.2.1) ++ ((wX5 cI dTs u.2.2.1) ++ ((wX2 cI dTp u.2.2.2.1) ++ (wX4 cI 72 dTr u.2.2.2.2))))))))))) (w2 := fun (u : Lf × Lf × Lf × Lf × Lf) => ((wX9 d (dN 0) (dI 0) (dT 0) (dNc 0) (dNcj 0) (dNcs 0) (dNcp 0) (dNw 0) (dx 0) dtt v) ++ ((wX8 dN (dNc 0) (dNw 0) (dNg 0) (dNn 0) (dNq 0)) ++ ((wX0 dNc (dNcj 0) (dNcs 0) (dNcp 0) (dNcr 0) vNc) ++ ((wX1 cI dNcj vNcj) ++ ((wX5 cI dNcs vNcs) ++ ((wX2 cI dNcp vNcp) ++ ((wX4 cI 72 dNcr vNcr) ++ ((wX4 cI 15 dNn vNn) ++ ((wX0 dT (dTj 0) (dTs 0) (dTp 0) (dTr 0) u.1) ++ ((wX1 cI dTj u.2.1) ++ ((wX5 cI dTs u.2.2.1) ++ ((wX2 cI dTp u.2.2.2.1) ++ (wX4 cI 72 dTr u.2.2.2.2)))))))))))))) C (z_runV (pc := 8) (wc := ((wX0 dT (dTj 0) (dTs 0) (dTp 0) (dTr 0) vT) ++ ((wX0 dNc (dNcj 0) (dNcs 0) (dNcp 0) (dNcr 0) vNc) ++ ((wX1 cI dNcj vNcj) ++ ((wX5 cI dNcs vNcs) ++ ((wX2 cI dNcp vNcp) ++ ((wX4 cI 72 dNcr vNcr) ++ ((wX1 cI dTj vTj) ++ ((wX5 cI dTs vTs) ++ ((wX2 cI dTp vTp) ++ (wX4 cI 72 dTr vTr))))))))))) (As := [.ref (dNc 0)]) C (fun sz => kX0_copyFrom dT dTj dTs dTp dTr dNc dNcj dNcs dNcp dNcr vT vNc vNcj vNcs vNcp vNcr vTj vTs vTp vTr sz h) [25, 2, 3, 4, 5, 6, 7, 8, 9, 10, 11, 12, 13, 14, 15, 16, 17, 18, 19, 20, 21, 22, 26, 27, 28, 29, 30, 31, 32, 33, 34, 35, 36, 37, 38, 39, 40, 41, 42, 43, 44, 45] rfl (by decide) (gdV wq101 wq728 wq487 wq488 wq108) rfl rfl rfl hdX0_copyFrom 25 rfl rfl rfl ⟨Nat.le_of_ble_eq_true rfl, Nat.le_of_ble_eq_true rfl⟩ rfl (Nat.le_of_ble_eq_true rfl) ⟨Nat.zero_le _, Nat.zero_le _⟩ dX9_notesHoldWithGap_8) [25, 2, 3, 4, 5, 6, 7, 8, 9, 10, 11, 12, 13, 14, 15, 16, 17, 18, 19, 20, 21, 22, 26, 27, 28, 29, 30, 31, 32, 33, 34, 35, 36, 37, 38, 39, 40, 41, 42, 43, 44, 45] [0, 1, 23, 24] [0, 1, 5, 6, 7, 8, 9, 10, 11, 12, 13, 14, 15, 16, 17, 18, 19, 20, 21, 22, 23, 24, 25, 2, 3, 4, 26, 27, 28, 29, 30, 31, 32, 33, 34, 35, 36, 37, 38, 39, 40, 41, 42, 43, 44, 45] rfl rfl (by decide) (by decide) (fun _ => rfl) (by decide) (fun u1 h => ?_)
  obtain ⟨vT_1, vTj_1, vTs_1, vTp_1, vTr_1⟩ := u1
  dsimp only at h
  refine z_aload_n (pc := 11) C 0 dX9_notesHoldWithGap_11 rfl ?_
  refine z_get (pc := 12) C uw9 0 rfl rfl 2 (by decide) wq529 rfl dX9_notesHoldWithGap_12 ?_
  refine z_get (pc := 15) C uw0 25 rfl rfl 1 (by decide) wq534 rfl dX9_notesHoldWithGap_15 ?_
  refine z_iload_n (pc := 18) C 1 dX9_notesHoldWithGap_18 rfl ?_
  refine z_callv (pc := 19) (wr := ((wX9 d (dN 0) (dI 0) (dT 0) (dNc 0) (dNcj 0) (dNcs 0) (dNcp 0) (dNw 0) (dx 0) dtt v) ++ ((wX8 dN (dNc 0) (dNw 0) (dNg 0) (dNn 0) (dNq 0)) ++ ((wX0 dNc (dNcj 0) (dNcs 0) (dNcp 0) (dNcr 0) vNc) ++ ((wX1 cI dNcj vNcj) ++ ((wX5 cI dNcs vNcs) ++ ((wX2 cI dNcp vNcp) ++ ((wX4 cI 72 dNcr vNcr) ++ ((wX4 cI 15 dNn vNn) ++ ((wX0 dT (dTj 0) (dTs 0) (dTp 0) (dTr 0) vT_1) ++ ((wX1 cI dTj vTj_1) ++ ((wX2 cI dTp vTp_1) ++ (wX4 cI 72 dTr vTr_1))))))))))))) (w1 := fun (u : Lf) => (wX5 cI dTs u)) (w2 := fun (u : Lf) => ((wX9 d (dN 0) (dI 0) (dT 0) (dNc 0) (dNcj 0) (dNcs 0) (dNcp 0) (dNw 0) (dx 0) dtt v) ++ ((wX8 dN (dNc 0) (dNw 0) (dNg 0) (dNn 0) (dNq 0)) ++ ((wX0 dNc (dNcj 0) (dNcs 0) (dNcp 0) (dNcr 0) vNc) ++ ((wX1 cI dNcj vNcj) ++ ((wX5 cI dNcs vNcs) ++ ((wX2 cI dNcp vNcp) ++ ((wX4 cI 72 dNcr vNcr) ++ ((wX4 cI 15 dNn vNn) ++ ((wX0 dT (dTj 0) (dTs 0) (dTp 0) (dTr 0) vT_1) ++ ((wX1 cI dTj vTj_1) ++ ((wX5 cI dTs u) ++ ((wX2 cI dTp vTp_1) ++ (wX4 cI 72 dTr vTr_1)))))))))))))) C (z_runV (pc := 19) (wc := (wX5 cI dTs vTs_1)) (As := [.int x1]) C (fun sz => kX5_setGaps dTs vTs_1 x1 sz h) [32, 33, 34, 35, 36, 37, 38, 39] rfl (by decide) (gdV wq402 wq734 wq735 wq736 wq40) rfl rfl rfl hdX5_setGaps 32 rfl rfl rfl ⟨Nat.le_of_ble_eq_true rfl, Nat.le_of_ble_eq_true rfl⟩ rfl (Nat.le_of_ble_eq_true rfl) ⟨Nat.zero_le _, Nat.zero_le _⟩ dX9_notesHoldWithGap_19) [32, 33, 34, 35, 36, 37, 38, 39] [0, 1, 2, 3, 4, 5, 6, 7, 8, 9, 10, 11, 12, 13, 14, 15, 16, 17, 18, 19, 20, 21, 22, 23, 24, 25, 26, 27, 28, 29, 30, 31, 40, 41, 42, 43, 44, 45] [0, 1, 2, 3, 4, 5, 6, 7, 8, 9, 10, 11, 12, 13, 14, 15, 16, 17, 18, 19, 20, 21, 22, 23, 24, 25, 26, 27, 28, 29, 30, 31, 38, 39, 40, 41, 42, 43, 44, 45, 32, 33, 34, 35, 36, 37] rfl rfl (by decide) (by decide) (fun _ => rfl) (by decide) (fun u2 h => ?_)
  obtain ⟨vTs_2, hu2⟩ : ∃ z, z = u2 := ⟨_, rfl⟩
  subst hu2
  refine z_iconst (pc := 22) (v := 0) C dX9_notesHoldWithGap_22 (by decide) ?_
  refine z_istore_n (pc := 23) (lv' := [(2, .int (0 : Int32)), (0, .ref (d 0)), (1, .int x1)]) C dX9_notesHoldWithGap_23 (by decide) rfl ?_
  refine z_iconst (pc := 24) (v := 0) C dX9_notesHoldWithGap_24 (by decide) ?_
  refine z_istore_n (pc := 25) (lv' := [(3, .int (0 : Int32)), (2, .int (0 : Int32)), (0, .ref (d 0)), (1, .int x1)]) C dX9_notesHoldWithGap_25 (by decide) rfl ?_
  obtain ⟨n26, h⟩ := h
  refine z_sub (lv' := [(0, .ref (d 0)), (2, .int (0 : Int32)), (3, .int (0 : Int32))]) [2, 1, 0] rfl ?_
  exact L26  n26 vT_1 vTj_1 vTs_2 vTp_1 vTr_1 (0 : Int32) (0 : Int32) h

def pX9_fits_J60 (vNc : Lf) (vNcj : Lf) (vNcs : Lf) (vNcp : Lf) (vNcr : Lf) (vNn : Lf) (x1 : Int32) (Q : Int32 → Lf → Lf → Lf → Lf → Lf → Lf → Prop) (K38 : Lf → Lf → Lf → Lf → Lf → Lf → Int32 → Int32 → Int32 → Prop) (v : Lf) (vT : Lf) (vTj : Lf) (vTs : Lf) (vTp : Lf) (vTr : Lf) (x3 : Int32) (x4 : Int32) (x5 : Int32) : Prop := (K38 v vT vTj vTs vTp vTr x3 x4 (x5 + (-1)))
def pX9_fits_L38 (vNc : Lf) (vNcj : Lf) (vNcs : Lf) (vNcp : Lf) (vNcr : Lf) (vNn : Lf) (x1 : Int32) (Q : Int32 → Lf → Lf → Lf → Lf → Lf → Lf → Prop) : Nat → Lf → Lf → Lf → Lf → Lf → Lf → Int32 → Int32 → Int32 → Prop
  | 0, _, _, _, _, _, _, _, _, _ => False
  | n38 + 1, v, vT, vTj, vTs, vTp, vTr, x3, x4, x5 => ((x5 < (1 : Int32) → ((¬ x1 = 0 → (Q x4 v vT vTj vTs vTp vTr)) ∧ (x1 = 0 → (Q x3 v vT vTj vTs vTp vTr)))) ∧ (¬ x5 < (1 : Int32) → (pX9_notesHoldWithGap vNc vNcj vNcs vNcp vNcr vNn vT vTj vTs vTp vTr x5 (fun r7 vT_7 vTj_7 vTs_7 vTp_7 vTr_7 => ((r7 = 0 → (pX9_fits_J60 vNc vNcj vNcs vNcp vNcr vNn x1 Q (fun v vT vTj vTs vTp vTr x3 x4 x5 => pX9_fits_L38 vNc vNcj vNcs vNcp vNcr vNn x1 Q n38 v vT vTj vTs vTp vTr x3 x4 x5) v vT_7 vTj_7 vTs_7 vTp_7 vTr_7 x3 x4 x5)) ∧ (¬ r7 = 0 → (pX9_fits_J60 vNc vNcj vNcs vNcp vNcr vNn x1 Q (fun v vT vTj vTs vTp vTr x3 x4 x5 => pX9_fits_L38 vNc vNcj vNcs vNcp vNcr vNn x1 Q n38 v vT vTj vTs vTp vTr x3 x4 x5) v vT_7 vTj_7 vTs_7 vTp_7 vTr_7 (x3 + 1) x5 x5)))))))
def pX9_fits (v : Lf) (vNc : Lf) (vNcj : Lf) (vNcs : Lf) (vNcp : Lf) (vNcr : Lf) (vNn : Lf) (vT : Lf) (vTj : Lf) (vTs : Lf) (vTp : Lf) (vTr : Lf) (x1 : Int32) (Q : Int32 → Lf → Lf → Lf → Lf → Lf → Lf → Prop) : Prop := (pX9_within x1 (0 : Int32) (1 : Int32) (fun r1 => ((¬ r1 = 0 → (pX9_refusalOf v vNc (60 : Int32) (60 : Int32) (9 : Int32) (fun r3 v_3 => ((r3 = 0 → (∃ n38, pX9_fits_L38 vNc vNcj vNcs vNcp vNcr vNn x1 Q  n38 v_3 vT vTj vTs vTp vTr (0 : Int32) (-5 : Int32) (9 : Int32))) ∧ (¬ r3 = 0 → (Q r3 v_3 vT vTj vTs vTp vTr)))))) ∧ (r1 = 0 → (Q (-1 : Int32) v vT vTj vTs vTp vTr)))))
abbrev rmX9_fits : Room := { frames := 6, cells := 0, slots := 0, locals := 213 }
abbrev wdX9_fits : List Cond := Cond.code yX9_fits cX9_fits 6 (some .int) :: TB
theorem hdSX9_fits : (yX9_fits).cls ≠ "java/lang/invoke/MethodHandle" ∧ (yX9_fits).cls ≠ "java/lang/invoke/VarHandle" ∧ (parseMethodDescriptor (yX9_fits).desc).map (fun d => d.parameters.length) = some 1 := by decide +kernel
theorem hdX9_fits : (yX9_fits).cls = RX9 ∧ (yX9_fits).cls ≠ "java/lang/invoke/MethodHandle" ∧ (yX9_fits).cls ≠ "java/lang/invoke/VarHandle" ∧ (parseMethodDescriptor (yX9_fits).desc).map (fun d => d.parameters.length) = some 1 := ⟨rfl, hdSX9_fits⟩
set_option maxHeartbeats 4000000 in
set_option maxRecDepth 100000 in
theorem kX9_fits {l : Launch} {D : va_G} {cI cJ cT : ClassId} (d : Nat → Nat) (dN : Nat → Nat) (dI : Nat → Nat) (dT : Nat → Nat) (dNc : Nat → Nat) (dNcj : Nat → Nat) (dNcs : Nat → Nat) (dNcp : Nat → Nat) (dNw : Nat → Nat) (dx : Nat → Nat) (dtt : Nat) (dNg : Nat → Nat) (dNn : Nat → Nat) (dNq : Nat → Nat) (dNcr : Nat → Nat) (dTj : Nat → Nat) (dTs : Nat → Nat) (dTp : Nat → Nat) (dTr : Nat → Nat)  (v : Lf) (vNc : Lf) (vNcj : Lf) (vNcs : Lf) (vNcp : Lf) (vNcr : Lf) (vNn : Lf) (vT : Lf) (vTj : Lf) (vTs : Lf) (vTp : Lf) (vTr : Lf) (x1 : Int32) {Q : Int32 → Lf → Lf → Lf → Lf → Lf → Lf → Prop} (sz : Nat) (h : pX9_fits v vNc vNcj vNcs vNcp vNcr vNn vT vTj vTs vTp vTr x1 Q) : Met l yX9_fits wdX9_fits rmX9_fits (Pz D (tyL cI cJ cT) [.ref (d 0), .int x1] ((wX9 d (dN 0) (dI 0) (dT 0) (dNc 0) (dNcj 0) (dNcs 0) (dNcp 0) (dNw 0) (dx 0) dtt v) ++ ((wX8 dN (dNc 0) (dNw 0) (dNg 0) (dNn 0) (dNq 0)) ++ ((wX0 dNc (dNcj 0) (dNcs 0) (dNcp 0) (dNcr 0) vNc) ++ ((wX1 cI dNcj vNcj) ++ ((wX5 cI dNcs vNcs) ++ ((wX2 cI dNcp vNcp) ++ ((wX4 cI 72 dNcr vNcr) ++ ((wX4 cI 15 dNn vNn) ++ ((wX0 dT (dTj 0) (dTs 0) (dTp 0) (dTr 0) vT) ++ ((wX1 cI dTj vTj) ++ ((wX5 cI dTs vTs) ++ ((wX2 cI dTp vTp) ++ (wX4 cI 72 dTr vTr))))))))))))) sz) (va_Qi (fun (r : Int32) (u : Lf × Lf × Lf × Lf × Lf × Lf) => Q r u.1 u.2.1 u.2.2.1 u.2.2.2.1 u.2.2.2.2.1 u.2.2.2.2.2) (Bz D (tyL cI cJ cT) ((wX9 d (dN 0) (dI 0) (dT 0) (dNc 0) (dNcj 0) (dNcs 0) (dNcp 0) (dNw 0) (dx 0) dtt v) ++ ((wX8 dN (dNc 0) (dNw 0) (dNg 0) (dNn 0) (dNq 0)) ++ ((wX0 dNc (dNcj 0) (dNcs 0) (dNcp 0) (dNcr 0) vNc) ++ ((wX1 cI dNcj vNcj) ++ ((wX5 cI dNcs vNcs) ++ ((wX2 cI dNcp vNcp) ++ ((wX4 cI 72 dNcr vNcr) ++ ((wX4 cI 15 dNn vNn) ++ ((wX0 dT (dTj 0) (dTs 0) (dTp 0) (dTr 0) vT) ++ ((wX1 cI dTj vTj) ++ ((wX5 cI dTs vTs) ++ ((wX2 cI dTp vTp) ++ (wX4 cI 72 dTr vTr))))))))))))) sz (fun (u : Lf × Lf × Lf × Lf × Lf × Lf) => ((wX9 d (dN 0) (dI 0) (dT 0) (dNc 0) (dNcj 0) (dNcs 0) (dNcp 0) (dNw 0) (dx 0) dtt u.1) ++ ((wX8 dN (dNc 0) (dNw 0) (dNg 0) (dNn 0) (dNq 0)) ++ ((wX0 dNc (dNcj 0) (dNcs 0) (dNcp 0) (dNcr 0) vNc) ++ ((wX1 cI dNcj vNcj) ++ ((wX5 cI dNcs vNcs) ++ ((wX2 cI dNcp vNcp) ++ ((wX4 cI 72 dNcr vNcr) ++ ((wX4 cI 15 dNn vNn) ++ ((wX0 dT (dTj 0) (dTs 0) (dTp 0) (dTr 0) u.2.1) ++ ((wX1 cI dTj u.2.2.1) ++ ((wX5 cI dTs u.2.2.2.1) ++ ((wX2 cI dTp u.2.2.2.2.1) ++ (wX4 cI 72 dTr u.2.2.2.2.2))))))))))))))) (va_A ((wX9 d (dN 0) (dI 0) (dT 0) (dNc 0) (dNcj 0) (dNcs 0) (dNcp 0) (dNw 0) (dx 0) dtt v) ++ ((wX8 dN (dNc 0) (dNw 0) (dNg 0) (dNn 0) (dNq 0)) ++ ((wX0 dNc (dNcj 0) (dNcs 0) (dNcp 0) (dNcr 0) vNc) ++ ((wX1 cI dNcj vNcj) ++ ((wX5 cI dNcs vNcs) ++ ((wX2 cI dNcp vNcp) ++ ((wX4 cI 72 dNcr vNcr) ++ ((wX4 cI 15 dNn vNn) ++ ((wX0 dT (dTj 0) (dTs 0) (dTp 0) (dTr 0) vT) ++ ((wX1 cI dTj vTj) ++ ((wX5 cI dTs vTs) ++ ((wX2 cI dTp vTp) ++ (wX4 cI 72 dTr vTr))))))))))))) sz)) 0 0 (va_A ((wX9 d (dN 0) (dI 0) (dT 0) (dNc 0) (dNcj 0) (dNcs 0) (dNcp 0) (dNw 0) (dx 0) dtt v) ++ ((wX8 dN (dNc 0) (dNw 0) (dNg 0) (dNn 0) (dNq 0)) ++ ((wX0 dNc (dNcj 0) (dNcs 0) (dNcp 0) (dNcr 0) vNc) ++ ((wX1 cI dNcj vNcj) ++ ((wX5 cI dNcs vNcs) ++ ((wX2 cI dNcp vNcp) ++ ((wX4 cI 72 dNcr vNcr) ++ ((wX4 cI 15 dNn vNn) ++ ((wX0 dT (dTj 0) (dTs 0) (dTp 0) (dTr 0) vT) ++ ((wX1 cI dTj vTj) ++ ((wX5 cI dTs vTs) ++ ((wX2 cI dTp vTp) ++ (wX4 cI 72 dTr vTr))))))))))))) sz) := by
  refine z_meti (cc := cX9_fits) (maxL := 6) (own := RX9) (lv0 := [(0, .ref (d 0)), (1, .int x1)]) (by decide) rfl rfl (Nat.le_of_ble_eq_true rfl) rfl ?_
  intro p e s m args below meth c A QQ C hin hret
  have J60 : ∀ (K38 : Lf → Lf → Lf → Lf → Lf → Lf → Int32 → Int32 → Int32 → Prop), (∀ (v : Lf) (vT : Lf) (vTj : Lf) (vTs : Lf) (vTp : Lf) (vTr : Lf) (x3 : Int32) (x4 : Int32) (x5 : Int32), K38 v vT vTj vTs vTp vTr x3 x4 x5 → ZZ p l e rmX9_fits s m args below meth c D A 6 0 0 QQ 38 ((wX9 d (dN 0) (dI 0) (dT 0) (dNc 0) (dNcj 0) (dNcs 0) (dNcp 0) (dNw 0) (dx 0) dtt v) ++ ((wX8 dN (dNc 0) (dNw 0) (dNg 0) (dNn 0) (dNq 0)) ++ ((wX0 dNc (dNcj 0) (dNcs 0) (dNcp 0) (dNcr 0) vNc) ++ ((wX1 cI dNcj vNcj) ++ ((wX5 cI dNcs vNcs) ++ ((wX2 cI dNcp vNcp) ++ ((wX4 cI 72 dNcr vNcr) ++ ((wX4 cI 15 dNn vNn) ++ ((wX0 dT (dTj 0) (dTs 0) (dTp 0) (dTr 0) vT) ++ ((wX1 cI dTj vTj) ++ ((wX5 cI dTs vTs) ++ ((wX2 cI dTp vTp) ++ (wX4 cI 72 dTr vTr))))))))))))) [(0, .ref (d 0)), (1, .int x1), (3, .int x3), (4, .int x4), (5, .int x5)] []) → ∀ (v : Lf) (vT : Lf) (vTj : Lf) (vTs : Lf) (vTp : Lf) (vTr : Lf) (x3 : Int32) (x4 : Int32) (x5 : Int32), pX9_fits_J60 vNc vNcj vNcs vNcp vNcr vNn x1 Q K38 v vT vTj vTs vTp vTr x3 x4 x5 → ZZ p l e rmX9_fits s m args below meth c D A 6 0 0 QQ 60 ((wX9 d (dN 0) (dI 0) (dT 0) (dNc 0) (dNcj 0) (dNcs 0) (dNcp 0) (dNw 0) (dx 0) dtt v) ++ ((wX8 dN (dNc 0) (dNw 0) (dNg 0) (dNn 0) (dNq 0)) ++ ((wX0 dNc (dNcj 0) (dNcs 0) (dNcp 0) (dNcr 0) vNc) ++ ((wX1 cI dNcj vNcj) ++ ((wX5 cI dNcs vNcs) ++ ((wX2 cI dNcp vNcp) ++ ((wX4 cI 72 dNcr vNcr) ++ ((wX4 cI 15 dNn vNn) ++ ((wX0 dT (dTj 0) (dTs 0) (dTp 0) (dTr 0) vT) ++ ((wX1 cI dTj vTj) ++ ((wX5 cI dTs vTs) ++ ((wX2 cI dTp vTp) ++ (wX4 cI 72 dTr vTr))))))))))))) [(0, .ref (d 0)), (1, .int x1), (3, .int x3), (4, .int x4), (5, .int x5)] [] := by
    intro K38 hK38 v vT vTj vTs vTp vTr x3 x4 x5 h
    refine z_iinc (pc := 60) (v := (x5 + (-1))) (lv' := [(5, .int (x5 + (-1))), (0, .ref (d 0)), (1, .int x1), (3, .int x3), (4, .int x4)]) C 4 dX9_fits_60 rfl rfl (by decide) rfl ?_
    refine z_goto (pc := 63) (tgt := 38) C dX9_fits_63 (by decide) ?_
    refine z_sub (lv' := [(0, .ref (d 0)), (1, .int x1), (3, .int x3), (4, .int x4), (5, .int (x5 + (-1)))]) [1, 2, 3, 4, 0] rfl ?_
    exact hK38 v vT vTj vTs vTp vTr x3 x4 (x5 + (-1)) h
  have L38 : ∀ (n38 : Nat) (v : Lf) (vT : Lf) (vTj : Lf) (vTs : Lf) (vTp : Lf) (vTr : Lf) (x3 : Int32) (x4 : Int32) (x5 : Int32), pX9_fits_L38 vNc vNcj vNcs vNcp vNcr vNn x1 Q n38 v vT vTj vTs vTp vTr x3 x4 x5 → ZZ p l e rmX9_fits s m args below meth c D A 6 0 0 QQ 38 ((wX9 d (dN 0) (dI 0) (dT 0) (dNc 0) (dNcj 0) (dNcs 0) (dNcp 0) (dNw 0) (dx 0) dtt v) ++ ((wX8 dN (dNc 0) (dNw 0) (dNg 0) (dNn 0) (dNq 0)) ++ ((wX0 dNc (dNcj 0) (dNcs 0) (dNcp 0) (dNcr 0) vNc) ++ ((wX1 cI dNcj vNcj) ++ ((wX5 cI dNcs vNcs) ++ ((wX2 cI dNcp vNcp) ++ ((wX4 cI 72 dNcr vNcr) ++ ((wX4 cI 15 dNn vNn) ++ ((wX0 dT (dTj 0) (dTs 0) (dTp 0) (dTr 0) vT) ++ ((wX1 cI dTj vTj) ++ ((wX5 cI dTs vTs) ++ ((wX2 cI dTp vTp) ++ (wX4 cI 72 dTr vTr))))))))))))) [(0, .ref (d 0)), (1, .int x1), (3, .int x3), (4, .int x4), (5, .int x5)] [] := by
    intro n38
    induction n38 with
    | zero => intro v vT vTj vTs vTp vTr x3 x4 x5 h; exact False.elim h
    | succ n38 ih38 =>
      intro v vT vTj vTs vTp vTr x3 x4 x5 h
      refine z_iload (pc := 38) C 4 dX9_fits_38 rfl ?_
      refine z_iconst (pc := 40) (v := 1) C dX9_fits_40 (by decide) ?_
      refine z_icmp_lt (pc := 41) (tgt := 66) C dX9_fits_41 (by decide) (fun c5 => ?_) (fun c5 => ?_)
      · have h := h.1 c5
        refine z_iload_n (pc := 66) C 1 dX9_fits_66 rfl ?_
        refine z_if_ne (pc := 67) (tgt := 74) C dX9_fits_67 (by decide) (fun c6 => ?_) (fun c6 => ?_)
        · have h := h.1 c6
          refine z_iload (pc := 74) C 3 dX9_fits_74 rfl ?_
          exact hret 76 _ _ x4 (v, vT, vTj, vTs, vTp, vTr) rfl h dX9_fits_76
        · have h := h.2 c6
          refine z_iload_n (pc := 70) C 2 dX9_fits_70 rfl ?_
          refine z_goto (pc := 71) (tgt := 76) C dX9_fits_71 (by decide) ?_
          exact hret 76 _ _ x3 (v, vT, vTj, vTs, vTp, vTr) rfl h dX9_fits_76
      · have h := h.2 c5
        refine z_aload_n (pc := 44) C 0 dX9_fits_44 rfl ?_
        refine z_iload (pc := 45) C 4 dX9_fits_45 rfl ?_
        refine z_calli (pc := 47) (wr := ([] : va_W)) (w1 := fun (u : Lf × Lf × Lf × Lf × Lf) => ((wX9 d (dN 0) (dI 0) (dT 0) (dNc 0) (dNcj 0) (dNcs 0) (dNcp 0) (dNw 0) (dx 0) dtt v) ++ ((wX8 dN (dNc 0) (dNw 0) (dNg 0) (dNn 0) (dNq 0)) ++ ((wX0 dNc (dNcj 0) (dNcs 0) (dNcp 0) (dNcr 0) vNc) ++ ((wX1 cI dNcj vNcj) ++ ((wX5 cI dNcs vNcs) ++ ((wX2 cI dNcp vNcp) ++ ((wX4 cI 72 dNcr vNcr) ++ ((wX4 cI 15 dNn vNn) ++ ((wX0 dT (dTj 0) (dTs 0) (dTp 0) (dTr 0) u.1) ++ ((wX1 cI dTj u.2.1) ++ ((wX5 cI dTs u.2.2.1) ++ ((wX2 cI dTp u.2.2.2.1) ++ (wX4 cI 72 dTr u.2.2.2.2)))))))))))))) (w2 := fun (u : Lf × Lf × Lf × Lf × Lf) => ((wX9 d (dN 0) (dI 0) (dT 0) (dNc 0) (dNcj 0) (dNcs 0) (dNcp 0) (dNw 0) (dx 0) dtt v) ++ ((wX8 dN (dNc 0) (dNw 0) (dNg 0) (dNn 0) (dNq 0)) ++ ((wX0 dNc (dNcj 0) (dNcs 0) (dNcp 0) (dNcr 0) vNc) ++ ((wX1 cI dNcj vNcj) ++ ((wX5 cI dNcs vNcs) ++ ((wX2 cI dNcp vNcp) ++ ((wX4 cI 72 dNcr vNcr) ++ ((wX4 cI 15 dNn vNn) ++ ((wX0 dT (dTj 0) (dTs 0) (dTp 0) (dTr 0) u.1) ++ ((wX1 cI dTj u.2.1) ++ ((wX5 cI dTs u.2.2.1) ++ ((wX2 cI dTp u.2.2.2.1) ++ (wX4 cI 72 dTr u.2.2.2.2)))))))))))))) C (z_runV (pc := 47) (wc := ((wX9 d (dN 0) (dI 0) (dT 0) (dNc 0) (dNcj 0) (dNcs 0) (dNcp 0) (dNw 0) (dx 0) dtt v) ++ ((wX8 dN (dNc 0) (dNw 0) (dNg 0) (dNn 0) (dNq 0)) ++ ((wX0 dNc (dNcj 0) (dNcs 0) (dNcp 0) (dNcr 0) vNc) ++ ((wX1 cI dNcj vNcj) ++ ((wX5 cI dNcs vNcs) ++ ((wX2 cI dNcp vNcp) ++ ((wX4 cI 72 dNcr vNcr) ++ ((wX4 cI 15 dNn vNn) ++ ((wX0 dT (dTj 0) (dTs 0) (dTp 0) (dTr 0) vT) ++ ((wX1 cI dTj vTj) ++ ((wX5 cI dTs vTs) ++ ((wX2 cI dTp vTp) ++ (wX4 cI 72 dTr vTr)))))))))))))) (As := [.int x5]) C (fun sz => kX9_notesHoldWithGap d dN dI dT dNc dNcj dNcs dNcp dNw dx dtt dNg dNn dNq dNcr dTj dTs dTp dTr v vNc vNcj vNcs vNcp vNcr vNn vT vTj vTs vTp vTr x5 sz h) [0, 1, 2, 3, 4, 5, 6, 7, 8, 9, 10, 11, 12, 13, 14, 15, 16, 17, 18, 19, 20, 21, 22, 23, 24, 25, 26, 27, 28, 29, 30, 31, 32, 33, 34, 35, 36, 37, 38, 39, 40, 41, 42, 43, 44, 45] rfl (by decide) (gdV wq749 wq750 wq751 wq752 wq112) rfl rfl rfl hdX9_notesHoldWithGap 0 rfl rfl rfl ⟨Nat.le_of_ble_eq_true rfl, Nat.le_of_ble_eq_true rfl⟩ rfl (Nat.le_of_ble_eq_true rfl) ⟨Nat.zero_le _, Nat.zero_le _⟩ dX9_fits_47) [0, 1, 2, 3, 4, 5, 6, 7, 8, 9, 10, 11, 12, 13, 14, 15, 16, 17, 18, 19, 20, 21, 22, 23, 24, 25, 26, 27, 28, 29, 30, 31, 32, 33, 34, 35, 36, 37, 38, 39, 40, 41, 42, 43, 44, 45] [] [0, 1, 2, 3, 4, 5, 6, 7, 8, 9, 10, 11, 12, 13, 14, 15, 16, 17, 18, 19, 20, 21, 22, 23, 24, 25, 26, 27, 28, 29, 30, 31, 32, 33, 34, 35, 36, 37, 38, 39, 40, 41, 42, 43, 44, 45] rfl rfl (by decide) (by decide) (fun _ => rfl) (by decide) (fun r7 u7 h => ?_)
        obtain ⟨vT_7, vTj_7, vTs_7, vTp_7, vTr_7⟩ := u7
        dsimp only at h
        refine z_if_eq (pc := 50) (tgt := 60) C dX9_fits_50 (by decide) (fun c8 => ?_) (fun c8 => ?_)
        · have h := h.1 c8
          exact J60 (fun v vT vTj vTs vTp vTr x3 x4 x5 => pX9_fits_L38 vNc vNcj vNcs vNcp vNcr vNn x1 Q n38 v vT vTj vTs vTp vTr x3 x4 x5) ih38 v vT_7 vTj_7 vTs_7 vTp_7 vTr_7 x3 x4 x5 h
        · have h := h.2 c8
          refine z_iinc (pc := 53) (v := (x3 + 1)) (lv' := [(3, .int (x3 + 1)), (0, .ref (d 0)), (1, .int x1), (4, .int x4), (5, .int x5)]) C 2 dX9_fits_53 rfl rfl (by decide) rfl ?_
          refine z_iload (pc := 56) C 4 dX9_fits_56 rfl ?_
          refine z_istore (pc := 58) (lv' := [(4, .int x5), (3, .int (x3 + 1)), (0, .ref (d 0)), (1, .int x1), (5, .int x5)]) C dX9_fits_58 (by decide) rfl ?_
          refine z_sub (lv' := [(0, .ref (d 0)), (1, .int x1), (3, .int (x3 + 1)), (4, .int x5), (5, .int x5)]) [2, 3, 1, 0, 4] rfl ?_
          exact J60 (fun v vT vTj vTs vTp vTr x3 x4 x5 => pX9_fits_L38 vNc vNcj vNcs vNcp vNcr vNn x1 Q n38 v vT vTj vTs vTp vTr x3 x4 x5) ih38 v vT_7 vTj_7 vTs_7 vTp_7 vTr_7 (x3 + 1) x5 x5 h
  refine z_iload_n (pc := 0) C 1 dX9_fits_0 rfl ?_
  refine z_iconst (pc := 1) (v := 0) C dX9_fits_1 (by decide) ?_
  refine z_iconst (pc := 2) (v := 1) C dX9_fits_2 (by decide) ?_
  refine z_call0i (pc := 3) C (z_runS (pc := 3) (wc := ([] : va_W)) (As := [.int x1, .int (0 : Int32), .int (1 : Int32)]) C (fun sz => kX9_within x1 (0 : Int32) (1 : Int32) sz h) [] rfl (by decide) (gdS wq366 wq553 wq373 wq112) rfl rfl rfl hdSX9_within ⟨Nat.le_of_ble_eq_true rfl, Nat.le_of_ble_eq_true rfl⟩ rfl (Nat.le_of_ble_eq_true rfl) ⟨Nat.zero_le _, Nat.zero_le _⟩ dX9_fits_3) (fun r1 u1 h => ?_)
  refine z_if_ne (pc := 6) (tgt := 11) C dX9_fits_6 (by decide) (fun c2 => ?_) (fun c2 => ?_)
  · have h := h.1 c2
    refine z_aload_n (pc := 11) C 0 dX9_fits_11 rfl ?_
    refine z_bipush (pc := 12) (v := 60) C dX9_fits_12 (by decide) ?_
    refine z_bipush (pc := 14) (v := 60) C dX9_fits_14 (by decide) ?_
    refine z_bipush (pc := 16) (v := 9) C dX9_fits_16 (by decide) ?_
    refine z_calli (pc := 18) (wr := ((wX8 dN (dNc 0) (dNw 0) (dNg 0) (dNn 0) (dNq 0)) ++ ((wX1 cI dNcj vNcj) ++ ((wX5 cI dNcs vNcs) ++ ((wX2 cI dNcp vNcp) ++ ((wX4 cI 72 dNcr vNcr) ++ ((wX4 cI 15 dNn vNn) ++ ((wX0 dT (dTj 0) (dTs 0) (dTp 0) (dTr 0) vT) ++ ((wX1 cI dTj vTj) ++ ((wX5 cI dTs vTs) ++ ((wX2 cI dTp vTp) ++ (wX4 cI 72 dTr vTr)))))))))))) (w1 := fun (u : Lf) => ((wX9 d (dN 0) (dI 0) (dT 0) (dNc 0) (dNcj 0) (dNcs 0) (dNcp 0) (dNw 0) (dx 0) dtt u) ++ (wX0 dNc (dNcj 0) (dNcs 0) (dNcp 0) (dNcr 0) vNc))) (w2 := fun (u : Lf) => ((wX9 d (dN 0) (dI 0) (dT 0) (dNc 0) (dNcj 0) (dNcs 0) (dNcp 0) (dNw 0) (dx 0) dtt u) ++ ((wX8 dN (dNc 0) (dNw 0) (dNg 0) (dNn 0) (dNq 0)) ++ ((wX0 dNc (dNcj 0) (dNcs 0) (dNcp 0) (dNcr 0) vNc) ++ ((wX1 cI dNcj vNcj) ++ ((wX5 cI dNcs vNcs) ++ ((wX2 cI dNcp vNcp) ++ ((wX4 cI 72 dNcr vNcr) ++ ((wX4 cI 15 dNn vNn) ++ ((wX0 dT (dTj 0) (dTs 0) (dTp 0) (dTr 0) vT) ++ ((wX1 cI dTj vTj) ++ ((wX5 cI dTs vTs) ++ ((wX2 cI dTp vTp) ++ (wX4 cI 72 dTr vTr)))))))))))))) C (z_runV (pc := 18) (wc := ((wX9 d (dN 0) (dI 0) (dT 0) (dNc 0) (dNcj 0) (dNcs 0) (dNcp 0) (dNw 0) (dx 0) dtt v) ++ (wX0 dNc (dNcj 0) (dNcs 0) (dNcp 0) (dNcr 0) vNc))) (As := [.int (60 : Int32), .int (60 : Int32), .int (9 : Int32)]) C (fun sz => kX9_refusalOf d dN dI dT dNc dNcj dNcs dNcp dNw dx dtt dNcr v vNc (60 : Int32) (60 : Int32) (9 : Int32) sz h) [0, 2] rfl (by decide) (gdV wq625 wq630 wq631 wq632 wq112) rfl rfl rfl hdX9_refusalOf 0 rfl rfl rfl ⟨Nat.le_of_ble_eq_true rfl, Nat.le_of_ble_eq_true rfl⟩ rfl (Nat.le_of_ble_eq_true rfl) ⟨Nat.zero_le _, Nat.zero_le _⟩ dX9_fits_18) [0, 2] [1, 3, 4, 5, 6, 7, 8, 9, 10, 11, 12, 13, 14, 15, 16, 17, 18, 19, 20, 21, 22, 23, 24, 25, 26, 27, 28, 29, 30, 31, 32, 33, 34, 35, 36, 37, 38, 39, 40, 41, 42, 43, 44, 45] [44, 0, 45, 1, 2, 3, 4, 5, 6, 7, 8, 9, 10, 11, 12, 13, 14, 15, 16, 17, 18, 19, 20, 21, 22, 23, 24, 25, 26, 27, 28, 29, 30, 31, 32, 33, 34, 35, 36, 37, 38, 39, 40, 41, 42, 43] rfl rfl (by decide) (by decide) (fun _ => rfl) (by decide) (fun r3 u3 h => ?_)
    obtain ⟨v_3, hu3⟩ : ∃ z, z = u3 := ⟨_, rfl⟩
    subst hu3
    refine z_istore_n (pc := 21) (lv' := [(2, .int r3), (0, .ref (d 0)), (1, .int x1)]) C dX9_fits_21 (by decide) rfl ?_
    refine z_iload_n (pc := 22) C 0 dX9_fits_22 rfl ?_
    refine z_if_eq (pc := 23) (tgt := 28) C dX9_fits_23 (by decide) (fun c4 => ?_) (fun c4 => ?_)
    · have h := h.1 c4
      refine z_iconst (pc := 28) (v := 0) C dX9_fits_28 (by decide) ?_
      refine z_istore_n (pc := 29) (lv' := [(3, .int (0 : Int32)), (2, .int r3), (0, .ref (d 0)), (1, .int x1)]) C dX9_fits_29 (by decide) rfl ?_
      refine z_bipush (pc := 30) (v := -5) C dX9_fits_30 (by decide) ?_
      refine z_istore (pc := 32) (lv' := [(4, .int (-5 : Int32)), (3, .int (0 : Int32)), (2, .int r3), (0, .ref (d 0)), (1, .int x1)]) C dX9_fits_32 (by decide) rfl ?_
      refine z_bipush (pc := 34) (v := 9) C dX9_fits_34 (by decide) ?_
      refine z_istore (pc := 36) (lv' := [(5, .int (9 : Int32)), (4, .int (-5 : Int32)), (3, .int (0 : Int32)), (2, .int r3), (0, .ref (d 0)), (1, .int x1)]) C dX9_fits_36 (by decide) rfl ?_
      obtain ⟨n38, h⟩ := h
      refine z_sub (lv' := [(0, .ref (d 0)), (1, .int x1), (3, .int (0 : Int32)), (4, .int (-5 : Int32)), (5, .int (9 : Int32))]) [4, 5, 2, 1, 0] rfl ?_
      exact L38  n38 v_3 vT vTj vTs vTp vTr (0 : Int32) (-5 : Int32) (9 : Int32) h
    · have h := h.2 c4
      refine z_iload_n (pc := 26) C 0 dX9_fits_26 rfl ?_
      exact hret 27 _ _ r3 (v_3, vT, vTj, vTs, vTp, vTr) rfl h dX9_fits_27
  · have h := h.2 c2
    refine z_iconst (pc := 9) (v := -1) C dX9_fits_9 (by decide) ?_
    exact hret 10 _ _ (-1 : Int32) (v, vT, vTj, vTs, vTp, vTr) rfl h dX9_fits_10

def pX9_waitedOnDay (vNc : Lf) (vNcj : Lf) (vNcs : Lf) (vNcp : Lf) (vNcr : Lf) (vT : Lf) (vTj : Lf) (vTs : Lf) (vTp : Lf) (vTr : Lf) (x1 : Int32) (x2 : Int32) (Q : Int32 → Lf → Lf → Lf → Lf → Lf → Prop) : Prop := (pX0_copyFrom vT vNc vNcj vNcs vNcp vNcr vTj vTs vTp vTr (fun vT_1 vTj_1 vTs_1 vTp_1 vTr_1 => (pX0_passSeconds (st vT_1 0 12 x1) vTj_1 vTs_1 vTp_1 vTr_1 x2 (fun vT_2 vTs_2 vTp_2 vTr_2 => (Q ((vT_2 0 9) - (vNc 0 9)) vT_2 vTj_1 vTs_2 vTp_2 vTr_2)))))
abbrev rmX9_waitedOnDay : Room := { frames := 5, cells := 0, slots := 0, locals := 189 }
abbrev wdX9_waitedOnDay : List Cond := Cond.code yX9_waitedOnDay cX9_waitedOnDay 3 (some .int) :: TB
theorem hdSX9_waitedOnDay : (yX9_waitedOnDay).cls ≠ "java/lang/invoke/MethodHandle" ∧ (yX9_waitedOnDay).cls ≠ "java/lang/invoke/VarHandle" ∧ (parseMethodDescriptor (yX9_waitedOnDay).desc).map (fun d => d.parameters.length) = some 2 := by decide +kernel
theorem hdX9_waitedOnDay : (yX9_waitedOnDay).cls = RX9 ∧ (yX9_waitedOnDay).cls ≠ "java/lang/invoke/MethodHandle" ∧ (yX9_waitedOnDay).cls ≠ "java/lang/invoke/VarHandle" ∧ (parseMethodDescriptor (yX9_waitedOnDay).desc).map (fun d => d.parameters.length) = some 2 := ⟨rfl, hdSX9_waitedOnDay⟩
set_option maxHeartbeats 4000000 in
set_option maxRecDepth 100000 in
theorem kX9_waitedOnDay {l : Launch} {D : va_G} {cI cJ cT : ClassId} (d : Nat → Nat) (dN : Nat → Nat) (dI : Nat → Nat) (dT : Nat → Nat) (dNc : Nat → Nat) (dNcj : Nat → Nat) (dNcs : Nat → Nat) (dNcp : Nat → Nat) (dNw : Nat → Nat) (dx : Nat → Nat) (dtt : Nat) (dNcr : Nat → Nat) (dTj : Nat → Nat) (dTs : Nat → Nat) (dTp : Nat → Nat) (dTr : Nat → Nat)  (v : Lf) (vNc : Lf) (vNcj : Lf) (vNcs : Lf) (vNcp : Lf) (vNcr : Lf) (vT : Lf) (vTj : Lf) (vTs : Lf) (vTp : Lf) (vTr : Lf) (x1 : Int32) (x2 : Int32) {Q : Int32 → Lf → Lf → Lf → Lf → Lf → Prop} (sz : Nat) (h : pX9_waitedOnDay vNc vNcj vNcs vNcp vNcr vT vTj vTs vTp vTr x1 x2 Q) : Met l yX9_waitedOnDay wdX9_waitedOnDay rmX9_waitedOnDay (Pz D (tyL cI cJ cT) [.ref (d 0), .int x1, .int x2] ((wX9 d (dN 0) (dI 0) (dT 0) (dNc 0) (dNcj 0) (dNcs 0) (dNcp 0) (dNw 0) (dx 0) dtt v) ++ ((wX0 dNc (dNcj 0) (dNcs 0) (dNcp 0) (dNcr 0) vNc) ++ ((wX1 cI dNcj vNcj) ++ ((wX5 cI dNcs vNcs) ++ ((wX2 cI dNcp vNcp) ++ ((wX4 cI 72 dNcr vNcr) ++ ((wX0 dT (dTj 0) (dTs 0) (dTp 0) (dTr 0) vT) ++ ((wX1 cI dTj vTj) ++ ((wX5 cI dTs vTs) ++ ((wX2 cI dTp vTp) ++ (wX4 cI 72 dTr vTr))))))))))) sz) (va_Qi (fun (r : Int32) (u : Lf × Lf × Lf × Lf × Lf) => Q r u.1 u.2.1 u.2.2.1 u.2.2.2.1 u.2.2.2.2) (Bz D (tyL cI cJ cT) ((wX9 d (dN 0) (dI 0) (dT 0) (dNc 0) (dNcj 0) (dNcs 0) (dNcp 0) (dNw 0) (dx 0) dtt v) ++ ((wX0 dNc (dNcj 0) (dNcs 0) (dNcp 0) (dNcr 0) vNc) ++ ((wX1 cI dNcj vNcj) ++ ((wX5 cI dNcs vNcs) ++ ((wX2 cI dNcp vNcp) ++ ((wX4 cI 72 dNcr vNcr) ++ ((wX0 dT (dTj 0) (dTs 0) (dTp 0) (dTr 0) vT) ++ ((wX1 cI dTj vTj) ++ ((wX5 cI dTs vTs) ++ ((wX2 cI dTp vTp) ++ (wX4 cI 72 dTr vTr))))))))))) sz (fun (u : Lf × Lf × Lf × Lf × Lf) => ((wX9 d (dN 0) (dI 0) (dT 0) (dNc 0) (dNcj 0) (dNcs 0) (dNcp 0) (dNw 0) (dx 0) dtt v) ++ ((wX0 dNc (dNcj 0) (dNcs 0) (dNcp 0) (dNcr 0) vNc) ++ ((wX1 cI dNcj vNcj) ++ ((wX5 cI dNcs vNcs) ++ ((wX2 cI dNcp vNcp) ++ ((wX4 cI 72 dNcr vNcr) ++ ((wX0 dT (dTj 0) (dTs 0) (dTp 0) (dTr 0) u.1) ++ ((wX1 cI dTj u.2.1) ++ ((wX5 cI dTs u.2.2.1) ++ ((wX2 cI dTp u.2.2.2.1) ++ (wX4 cI 72 dTr u.2.2.2.2))))))))))))) (va_A ((wX9 d (dN 0) (dI 0) (dT 0) (dNc 0) (dNcj 0) (dNcs 0) (dNcp 0) (dNw 0) (dx 0) dtt v) ++ ((wX0 dNc (dNcj 0) (dNcs 0) (dNcp 0) (dNcr 0) vNc) ++ ((wX1 cI dNcj vNcj) ++ ((wX5 cI dNcs vNcs) ++ ((wX2 cI dNcp vNcp) ++ ((wX4 cI 72 dNcr vNcr) ++ ((wX0 dT (dTj 0) (dTs 0) (dTp 0) (dTr 0) vT) ++ ((wX1 cI dTj vTj) ++ ((wX5 cI dTs vTs) ++ ((wX2 cI dTp vTp) ++ (wX4 cI 72 dTr vTr))))))))))) sz)) 0 0 (va_A ((wX9 d (dN 0) (dI 0) (dT 0) (dNc 0) (dNcj 0) (dNcs 0) (dNcp 0) (dNw 0) (dx 0) dtt v) ++ ((wX0 dNc (dNcj 0) (dNcs 0) (dNcp 0) (dNcr 0) vNc) ++ ((wX1 cI dNcj vNcj) ++ ((wX5 cI dNcs vNcs) ++ ((wX2 cI dNcp vNcp) ++ ((wX4 cI 72 dNcr vNcr) ++ ((wX0 dT (dTj 0) (dTs 0) (dTp 0) (dTr 0) vT) ++ ((wX1 cI dTj vTj) ++ ((wX5 cI dTs vTs) ++ ((wX2 cI dTp vTp) ++ (wX4 cI 72 dTr vTr))))))))))) sz) := by
  refine z_meti (cc := cX9_waitedOnDay) (maxL := 3) (own := RX9) (lv0 := [(0, .ref (d 0)), (1, .int x1), (2, .int x2)]) (by decide) rfl rfl (Nat.le_of_ble_eq_true rfl) rfl ?_
  intro p e s m args below meth c A QQ C hin hret
  refine z_aload_n (pc := 0) C 0 dX9_waitedOnDay_0 rfl ?_
  refine z_get (pc := 1) C uw9 0 rfl rfl 2 (by decide) wq529 rfl dX9_waitedOnDay_1 ?_
  refine z_aload_n (pc := 4) C 0 dX9_waitedOnDay_4 rfl ?_
  refine z_get (pc := 5) C uw9 0 rfl rfl 3 (by decide) wq531 rfl dX9_waitedOnDay_5 ?_
  refine z_callv (pc := 8) (wr := (wX9 d (dN 0) (dI 0) (dT 0) (dNc 0) (dNcj 0) (dNcs 0) (dNcp 0) (dNw 0) (dx 0) dtt v)) (w1 := fun (u : Lf × Lf × Lf × Lf × Lf) => ((wX0 dT (dTj 0) (dTs 0) (dTp 0) (dTr 0) u.1) ++ ((wX0 dNc (dNcj 0) (dNcs 0) (dNcp 0) (dNcr 0) vNc) ++ ((wX1 cI dNcj vNcj) ++ ((wX5 cI dNcs vNcs) ++ ((wX2 cI dNcp vNcp) ++ ((wX4 cI 72 dNcr vNcr) ++ ((wX1 cI dTj u.2.1) ++ ((wX5 cI dTs u.2.2.1) ++ ((wX2 cI dTp u.2.2.2.1) ++ (wX4 cI 72 dTr u.2.2.2.2))))))))))) (w2 := fun (u : Lf × Lf × Lf × Lf × Lf) => ((wX9 d (dN 0) (dI 0) (dT 0) (dNc 0) (dNcj 0) (dNcs 0) (dNcp 0) (dNw 0) (dx 0) dtt v) ++ ((wX0 dNc (dNcj 0) (dNcs 0) (dNcp 0) (dNcr 0) vNc) ++ ((wX1 cI dNcj vNcj) ++ ((wX5 cI dNcs vNcs) ++ ((wX2 cI dNcp vNcp) ++ ((wX4 cI 72 dNcr vNcr) ++ ((wX0 dT (dTj 0) (dTs 0) (dTp 0) (dTr 0) u.1) ++ ((wX1 cI dTj u.2.1) ++ ((wX5 cI dTs u.2.2.1) ++ ((wX2 cI dTp u.2.2.2.1) ++ (wX4 cI 72 dTr u.2.2.2.2)))))))))))) C (z_runV (pc := 8) (wc := ((wX0 dT (dTj 0) (dTs 0) (dTp 0) (dTr 0) vT) ++ ((wX0 dNc (dNcj 0) (dNcs 0) (dNcp 0) (dNcr 0) vNc) ++ ((wX1 cI dNcj vNcj) ++ ((wX5 cI dNcs vNcs) ++ ((wX2 cI dNcp vNcp) ++ ((wX4 cI 72 dNcr vNcr) ++ ((wX1 cI dTj vTj) ++ ((wX5 cI dTs vTs) ++ ((wX2 cI dTp vTp) ++ (wX4 cI 72 dTr vTr))))))))))) (As := [.ref (dNc 0)]) C (fun sz => kX0_copyFrom dT dTj dTs dTp dTr dNc dNcj dNcs dNcp dNcr vT vNc vNcj vNcs vNcp vNcr vTj vTs vTp vTr sz h) [22, 1, 2, 3, 4, 5, 6, 7, 8, 9, 10, 11, 12, 13, 14, 15, 16, 17, 18, 19, 20, 21, 23, 24, 25, 26, 27, 28, 29, 30, 31, 32, 33, 34, 35, 36, 37, 38, 39, 40, 41, 42] rfl (by decide) (gdV wq101 wq728 wq487 wq488 wq108) rfl rfl rfl hdX0_copyFrom 22 rfl rfl rfl ⟨Nat.le_of_ble_eq_true rfl, Nat.le_of_ble_eq_true rfl⟩ rfl (Nat.le_of_ble_eq_true rfl) ⟨Nat.zero_le _, Nat.zero_le _⟩ dX9_waitedOnDay_8) [22, 1, 2, 3, 4, 5, 6, 7, 8, 9, 10, 11, 12, 13, 14, 15, 16, 17, 18, 19, 20, 21, 23, 24, 25, 26, 27, 28, 29, 30, 31, 32, 33, 34, 35, 36, 37, 38, 39, 40, 41, 42] [0] [0, 2, 3, 4, 5, 6, 7, 8, 9, 10, 11, 12, 13, 14, 15, 16, 17, 18, 19, 20, 21, 22, 1, 23, 24, 25, 26, 27, 28, 29, 30, 31, 32, 33, 34, 35, 36, 37, 38, 39, 40, 41, 42] rfl rfl (by decide) (by decide) (fun _ => rfl) (by decide) (fun u1 h => ?_)
  obtain ⟨vT_1, vTj_1, vTs_1, vTp_1, vTr_1⟩ := u1
  dsimp only at h
  refine z_aload_n (pc := 11) C 0 dX9_waitedOnDay_11 rfl ?_
  refine z_get (pc := 12) C uw9 0 rfl rfl 2 (by decide) wq529 rfl dX9_waitedOnDay_12 ?_
  refine z_iload_n (pc := 15) C 1 dX9_waitedOnDay_15 rfl ?_
  refine z_put (pc := 16) (ws' := ((wX9 d (dN 0) (dI 0) (dT 0) (dNc 0) (dNcj 0) (dNcs 0) (dNcp 0) (dNw 0) (dx 0) dtt v) ++ ((wX0 dNc (dNcj 0) (dNcs 0) (dNcp 0) (dNcr 0) vNc) ++ ((wX1 cI dNcj vNcj) ++ ((wX5 cI dNcs vNcs) ++ ((wX2 cI dNcp vNcp) ++ ((wX4 cI 72 dNcr vNcr) ++ ((wX0 dT (dTj 0) (dTs 0) (dTp 0) (dTr 0) (st vT_1 0 12 x1)) ++ ((wX1 cI dTj vTj_1) ++ ((wX5 cI dTs vTs_1) ++ ((wX2 cI dTp vTp_1) ++ (wX4 cI 72 dTr vTr_1)))))))))))) C uw0 tyX0 tyX0_ok nmX0 22 rfl rfl 12 (by decide) wq617 rfl rfl rfl (Nat.le_of_ble_eq_true rfl) dX9_waitedOnDay_16 (set_r (k := 1) (i := 21) rfl (set_r (k := 1) (i := 20) rfl (set_r (k := 6) (i := 14) rfl (set_r (k := 8) (i := 6) rfl (set_r (k := 4) (i := 2) rfl (set_r (k := 2) (i := 0) rfl (set_l (Nat.le_of_ble_eq_true rfl) sX0_f12))))))) ?_
  refine z_aload_n (pc := 19) C 0 dX9_waitedOnDay_19 rfl ?_
  refine z_get (pc := 20) C uw9 0 rfl rfl 2 (by decide) wq529 rfl dX9_waitedOnDay_20 ?_
  refine z_iload_n (pc := 23) C 2 dX9_waitedOnDay_23 rfl ?_
  refine z_callv (pc := 24) (wr := ((wX9 d (dN 0) (dI 0) (dT 0) (dNc 0) (dNcj 0) (dNcs 0) (dNcp 0) (dNw 0) (dx 0) dtt v) ++ ((wX0 dNc (dNcj 0) (dNcs 0) (dNcp 0) (dNcr 0) vNc) ++ ((wX1 cI dNcj vNcj) ++ ((wX5 cI dNcs vNcs) ++ ((wX2 cI dNcp vNcp) ++ (wX4 cI 72 dNcr vNcr))))))) (w1 := fun (u : Lf × Lf × Lf × Lf) => ((wX0 dT (dTj 0) (dTs 0) (dTp 0) (dTr 0) u.1) ++ ((wX1 cI dTj vTj_1) ++ ((wX5 cI dTs u.2.1) ++ ((wX2 cI dTp u.2.2.1) ++ (wX4 cI 72 dTr u.2.2.2)))))) (w2 := fun (u : Lf × Lf × Lf × Lf) => ((wX9 d (dN 0) (dI 0) (dT 0) (dNc 0) (dNcj 0) (dNcs 0) (dNcp 0) (dNw 0) (dx 0) dtt v) ++ ((wX0 dNc (dNcj 0) (dNcs 0) (dNcp 0) (dNcr 0) vNc) ++ ((wX1 cI dNcj vNcj) ++ ((wX5 cI dNcs vNcs) ++ ((wX2 cI dNcp vNcp) ++ ((wX4 cI 72 dNcr vNcr) ++ ((wX0 dT (dTj 0) (dTs 0) (dTp 0) (dTr 0) u.1) ++ ((wX1 cI dTj vTj_1) ++ ((wX5 cI dTs u.2.1) ++ ((wX2 cI dTp u.2.2.1) ++ (wX4 cI 72 dTr u.2.2.2)))))))))))) C (z_runV (pc := 24) (wc := ((wX0 dT (dTj 0) (dTs 0) (dTp 0) (dTr 0) (st vT_1 0 12 x1)) ++ ((wX1 cI dTj vTj_1) ++ ((wX5 cI dTs vTs_1) ++ ((wX2 cI dTp vTp_1) ++ (wX4 cI 72 dTr vTr_1)))))) (As := [.int x2]) C (fun sz => kX0_passSeconds dT dTj dTs dTp dTr (st vT_1 0 12 x1) vTj_1 vTs_1 vTp_1 vTr_1 x2 sz h) [22, 23, 24, 25, 26, 27, 28, 29, 30, 31, 32, 33, 34, 35, 36, 37, 38, 39, 40, 41, 42] rfl (by decide) (gdV wq257 wq633 wq259 wq260 wq108) rfl rfl rfl hdX0_passSeconds 22 rfl rfl rfl ⟨Nat.le_of_ble_eq_true rfl, Nat.le_of_ble_eq_true rfl⟩ rfl (Nat.le_of_ble_eq_true rfl) ⟨Nat.zero_le _, Nat.zero_le _⟩ dX9_waitedOnDay_24) [22, 23, 24, 25, 26, 27, 28, 29, 30, 31, 32, 33, 34, 35, 36, 37, 38, 39, 40, 41, 42] [0, 1, 2, 3, 4, 5, 6, 7, 8, 9, 10, 11, 12, 13, 14, 15, 16, 17, 18, 19, 20, 21] [0, 1, 2, 3, 4, 5, 6, 7, 8, 9, 10, 11, 12, 13, 14, 15, 16, 17, 18, 19, 20, 21, 22, 23, 24, 25, 26, 27, 28, 29, 30, 31, 32, 33, 34, 35, 36, 37, 38, 39, 40, 41, 42] rfl rfl (by decide) (by decide) (fun _ => rfl) (by decide) (fun u2 h => ?_)
  obtain ⟨vT_2, vTs_2, vTp_2, vTr_2⟩ := u2
  dsimp only at h
  refine z_aload_n (pc := 27) C 0 dX9_waitedOnDay_27 rfl ?_
  refine z_get (pc := 28) C uw9 0 rfl rfl 2 (by decide) wq529 rfl dX9_waitedOnDay_28 ?_
  refine z_get (pc := 31) C uw0 22 rfl rfl 9 (by decide) wq733 rfl dX9_waitedOnDay_31 ?_
  refine z_aload_n (pc := 34) C 0 dX9_waitedOnDay_34 rfl ?_
  refine z_get (pc := 35) C uw9 0 rfl rfl 3 (by decide) wq531 rfl dX9_waitedOnDay_35 ?_
  refine z_get (pc := 38) C uw0 1 rfl rfl 9 (by decide) wq733 rfl dX9_waitedOnDay_38 ?_
  refine z_isub (pc := 41) C dX9_waitedOnDay_41 ?_
  exact hret 42 _ _ ((vT_2 0 9) - (vNc 0 9)) (vT_2, vTj_1, vTs_2, vTp_2, vTr_2) rfl h dX9_waitedOnDay_42

def pX9_day (v : Lf) (vNc : Lf) (vNcj : Lf) (vNcs : Lf) (vNcp : Lf) (vNcr : Lf) (vT : Lf) (vTj : Lf) (vTs : Lf) (vTp : Lf) (vTr : Lf) (x1 : Int32) (x2 : Int32) (Q : Int32 → Lf → Lf → Lf → Lf → Lf → Lf → Prop) : Prop := (pX9_refusalOf v vNc x2 (99 : Int32) (1 : Int32) (fun r1 v_1 => ((r1 = 0 → (pX9_waitedOnDay vNc vNcj vNcs vNcp vNcr vT vTj vTs vTp vTr x1 x2 (fun r3 vT_3 vTj_3 vTs_3 vTp_3 vTr_3 => (Q r3 v_1 vT_3 vTj_3 vTs_3 vTp_3 vTr_3)))) ∧ (¬ r1 = 0 → (Q r1 v_1 vT vTj vTs vTp vTr)))))
abbrev rmX9_day : Room := { frames := 6, cells := 0, slots := 0, locals := 211 }
abbrev wdX9_day : List Cond := Cond.code yX9_day cX9_day 4 (some .int) :: TB
theorem hdSX9_day : (yX9_day).cls ≠ "java/lang/invoke/MethodHandle" ∧ (yX9_day).cls ≠ "java/lang/invoke/VarHandle" ∧ (parseMethodDescriptor (yX9_day).desc).map (fun d => d.parameters.length) = some 2 := by decide +kernel
theorem hdX9_day : (yX9_day).cls = RX9 ∧ (yX9_day).cls ≠ "java/lang/invoke/MethodHandle" ∧ (yX9_day).cls ≠ "java/lang/invoke/VarHandle" ∧ (parseMethodDescriptor (yX9_day).desc).map (fun d => d.parameters.length) = some 2 := ⟨rfl, hdSX9_day⟩
set_option maxHeartbeats 4000000 in
set_option maxRecDepth 100000 in
theorem kX9_day {l : Launch} {D : va_G} {cI cJ cT : ClassId} (d : Nat → Nat) (dN : Nat → Nat) (dI : Nat → Nat) (dT : Nat → Nat) (dNc : Nat → Nat) (dNcj : Nat → Nat) (dNcs : Nat → Nat) (dNcp : Nat → Nat) (dNw : Nat → Nat) (dx : Nat → Nat) (dtt : Nat) (dNcr : Nat → Nat) (dTj : Nat → Nat) (dTs : Nat → Nat) (dTp : Nat → Nat) (dTr : Nat → Nat)  (v : Lf) (vNc : Lf) (vNcj : Lf) (vNcs : Lf) (vNcp : Lf) (vNcr : Lf) (vT : Lf) (vTj : Lf) (vTs : Lf) (vTp : Lf) (vTr : Lf) (x1 : Int32) (x2 : Int32) {Q : Int32 → Lf → Lf → Lf → Lf → Lf → Lf → Prop} (sz : Nat) (h : pX9_day v vNc vNcj vNcs vNcp vNcr vT vTj vTs vTp vTr x1 x2 Q) : Met l yX9_day wdX9_day rmX9_day (Pz D (tyL cI cJ cT) [.ref (d 0), .int x1, .int x2] ((wX9 d (dN 0) (dI 0) (dT 0) (dNc 0) (dNcj 0) (dNcs 0) (dNcp 0) (dNw 0) (dx 0) dtt v) ++ ((wX0 dNc (dNcj 0) (dNcs 0) (dNcp 0) (dNcr 0) vNc) ++ ((wX1 cI dNcj vNcj) ++ ((wX5 cI dNcs vNcs) ++ ((wX2 cI dNcp vNcp) ++ ((wX4 cI 72 dNcr vNcr) ++ ((wX0 dT (dTj 0) (dTs 0) (dTp 0) (dTr 0) vT) ++ ((wX1 cI dTj vTj) ++ ((wX5 cI dTs vTs) ++ ((wX2 cI dTp vTp) ++ (wX4 cI 72 dTr vTr))))))))))) sz) (va_Qi (fun (r : Int32) (u : Lf × Lf × Lf × Lf × Lf × Lf) => Q r u.1 u.2.1 u.2.2.1 u.2.2.2.1 u.2.2.2.2.1 u.2.2.2.2.2) (Bz D (tyL cI cJ cT) ((wX9 d (dN 0) (dI 0) (dT 0) (dNc 0) (dNcj 0) (dNcs 0) (dNcp 0) (dNw 0) (dx 0) dtt v) ++ ((wX0 dNc (dNcj 0) (dNcs 0) (dNcp 0) (dNcr 0) vNc) ++ ((wX1 cI dNcj vNcj) ++ ((wX5 cI dNcs vNcs) ++ ((wX2 cI dNcp vNcp) ++ ((wX4 cI 72 dNcr vNcr) ++ ((wX0 dT (dTj 0) (dTs 0) (dTp 0) (dTr 0) vT) ++ ((wX1 cI dTj vTj) ++ ((wX5 cI dTs vTs) ++ ((wX2 cI dTp vTp) ++ (wX4 cI 72 dTr vTr))))))))))) sz (fun (u : Lf × Lf × Lf × Lf × Lf × Lf) => ((wX9 d (dN 0) (dI 0) (dT 0) (dNc 0) (dNcj 0) (dNcs 0) (dNcp 0) (dNw 0) (dx 0) dtt u.1) ++ ((wX0 dNc (dNcj 0) (dNcs 0) (dNcp 0) (dNcr 0) vNc) ++ ((wX1 cI dNcj vNcj) ++ ((wX5 cI dNcs vNcs) ++ ((wX2 cI dNcp vNcp) ++ ((wX4 cI 72 dNcr vNcr) ++ ((wX0 dT (dTj 0) (dTs 0) (dTp 0) (dTr 0) u.2.1) ++ ((wX1 cI dTj u.2.2.1) ++ ((wX5 cI dTs u.2.2.2.1) ++ ((wX2 cI dTp u.2.2.2.2.1) ++ (wX4 cI 72 dTr u.2.2.2.2.2))))))))))))) (va_A ((wX9 d (dN 0) (dI 0) (dT 0) (dNc 0) (dNcj 0) (dNcs 0) (dNcp 0) (dNw 0) (dx 0) dtt v) ++ ((wX0 dNc (dNcj 0) (dNcs 0) (dNcp 0) (dNcr 0) vNc) ++ ((wX1 cI dNcj vNcj) ++ ((wX5 cI dNcs vNcs) ++ ((wX2 cI dNcp vNcp) ++ ((wX4 cI 72 dNcr vNcr) ++ ((wX0 dT (dTj 0) (dTs 0) (dTp 0) (dTr 0) vT) ++ ((wX1 cI dTj vTj) ++ ((wX5 cI dTs vTs) ++ ((wX2 cI dTp vTp) ++ (wX4 cI 72 dTr vTr))))))))))) sz)) 0 0 (va_A ((wX9 d (dN 0) (dI 0) (dT 0) (dNc 0) (dNcj 0) (dNcs 0) (dNcp 0) (dNw 0) (dx 0) dtt v) ++ ((wX0 dNc (dNcj 0) (dNcs 0) (dNcp 0) (dNcr 0) vNc) ++ ((wX1 cI dNcj vNcj) ++ ((wX5 cI dNcs vNcs) ++ ((wX2 cI dNcp vNcp) ++ ((wX4 cI 72 dNcr vNcr) ++ ((wX0 dT (dTj 0) (dTs 0) (dTp 0) (dTr 0) vT) ++ ((wX1 cI dTj vTj) ++ ((wX5 cI dTs vTs) ++ ((wX2 cI dTp vTp) ++ (wX4 cI 72 dTr vTr))))))))))) sz) := by
  refine z_meti (cc := cX9_day) (maxL := 4) (own := RX9) (lv0 := [(0, .ref (d 0)), (1, .int x1), (2, .int x2)]) (by decide) rfl rfl (Nat.le_of_ble_eq_true rfl) rfl ?_
  intro p e s m args below meth c A QQ C hin hret
  refine z_aload_n (pc := 0) C 0 dX9_day_0 rfl ?_
  refine z_iload_n (pc := 1) C 2 dX9_day_1 rfl ?_
  refine z_bipush (pc := 2) (v := 99) C dX9_day_2 (by decide) ?_
  refine z_iconst (pc := 4) (v := 1) C dX9_day_4 (by decide) ?_
  refine z_calli (pc := 5) (wr := ((wX1 cI dNcj vNcj) ++ ((wX5 cI dNcs vNcs) ++ ((wX2 cI dNcp vNcp) ++ ((wX4 cI 72 dNcr vNcr) ++ ((wX0 dT (dTj 0) (dTs 0) (dTp 0) (dTr 0) vT) ++ ((wX1 cI dTj vTj) ++ ((wX5 cI dTs vTs) ++ ((wX2 cI dTp vTp) ++ (wX4 cI 72 dTr vTr)))))))))) (w1 := fun (u : Lf) => ((wX9 d (dN 0) (dI 0) (dT 0) (dNc 0) (dNcj 0) (dNcs 0) (dNcp 0) (dNw 0) (dx 0) dtt u) ++ (wX0 dNc (dNcj 0) (dNcs 0) (dNcp 0) (dNcr 0) vNc))) (w2 := fun (u : Lf) => ((wX9 d (dN 0) (dI 0) (dT 0) (dNc 0) (dNcj 0) (dNcs 0) (dNcp 0) (dNw 0) (dx 0) dtt u) ++ ((wX0 dNc (dNcj 0) (dNcs 0) (dNcp 0) (dNcr 0) vNc) ++ ((wX1 cI dNcj vNcj) ++ ((wX5 cI dNcs vNcs) ++ ((wX2 cI dNcp vNcp) ++ ((wX4 cI 72 dNcr vNcr) ++ ((wX0 dT (dTj 0) (dTs 0) (dTp 0) (dTr 0) vT) ++ ((wX1 cI dTj vTj) ++ ((wX5 cI dTs vTs) ++ ((wX2 cI dTp vTp) ++ (wX4 cI 72 dTr vTr)))))))))))) C (z_runV (pc := 5) (wc := ((wX9 d (dN 0) (dI 0) (dT 0) (dNc 0) (dNcj 0) (dNcs 0) (dNcp 0) (dNw 0) (dx 0) dtt v) ++ (wX0 dNc (dNcj 0) (dNcs 0) (dNcp 0) (dNcr 0) vNc))) (As := [.int x2, .int (99 : Int32), .int (1 : Int32)]) C (fun sz => kX9_refusalOf d dN dI dT dNc dNcj dNcs dNcp dNw dx dtt dNcr v vNc x2 (99 : Int32) (1 : Int32) sz h) [0, 1] rfl (by decide) (gdV wq625 wq630 wq631 wq632 wq112) rfl rfl rfl hdX9_refusalOf 0 rfl rfl rfl ⟨Nat.le_of_ble_eq_true rfl, Nat.le_of_ble_eq_true rfl⟩ rfl (Nat.le_of_ble_eq_true rfl) ⟨Nat.zero_le _, Nat.zero_le _⟩ dX9_day_5) [0, 1] [2, 3, 4, 5, 6, 7, 8, 9, 10, 11, 12, 13, 14, 15, 16, 17, 18, 19, 20, 21, 22, 23, 24, 25, 26, 27, 28, 29, 30, 31, 32, 33, 34, 35, 36, 37, 38, 39, 40, 41, 42] [41, 42, 0, 1, 2, 3, 4, 5, 6, 7, 8, 9, 10, 11, 12, 13, 14, 15, 16, 17, 18, 19, 20, 21, 22, 23, 24, 25, 26, 27, 28, 29, 30, 31, 32, 33, 34, 35, 36, 37, 38, 39, 40] rfl rfl (by decide) (by decide) (fun _ => rfl) (by decide) (fun r1 u1 h => ?_)
  obtain ⟨v_1, hu1⟩ : ∃ z, z = u1 := ⟨_, rfl⟩
  subst hu1
  refine z_istore_n (pc := 8) (lv' := [(3, .int r1), (0, .ref (d 0)), (1, .int x1), (2, .int x2)]) C dX9_day_8 (by decide) rfl ?_
  refine z_iload_n (pc := 9) C 0 dX9_day_9 rfl ?_
  refine z_if_eq (pc := 10) (tgt := 17) C dX9_day_10 (by decide) (fun c2 => ?_) (fun c2 => ?_)
  · have h := h.1 c2
    refine z_aload_n (pc := 17) C 1 dX9_day_17 rfl ?_
    refine z_iload_n (pc := 18) C 2 dX9_day_18 rfl ?_
    refine z_iload_n (pc := 19) C 3 dX9_day_19 rfl ?_
    refine z_calli (pc := 20) (wr := ([] : va_W)) (w1 := fun (u : Lf × Lf × Lf × Lf × Lf) => ((wX9 d (dN 0) (dI 0) (dT 0) (dNc 0) (dNcj 0) (dNcs 0) (dNcp 0) (dNw 0) (dx 0) dtt v_1) ++ ((wX0 dNc (dNcj 0) (dNcs 0) (dNcp 0) (dNcr 0) vNc) ++ ((wX1 cI dNcj vNcj) ++ ((wX5 cI dNcs vNcs) ++ ((wX2 cI dNcp vNcp) ++ ((wX4 cI 72 dNcr vNcr) ++ ((wX0 dT (dTj 0) (dTs 0) (dTp 0) (dTr 0) u.1) ++ ((wX1 cI dTj u.2.1) ++ ((wX5 cI dTs u.2.2.1) ++ ((wX2 cI dTp u.2.2.2.1) ++ (wX4 cI 72 dTr u.2.2.2.2)))))))))))) (w2 := fun (u : Lf × Lf × Lf × Lf × Lf) => ((wX9 d (dN 0) (dI 0) (dT 0) (dNc 0) (dNcj 0) (dNcs 0) (dNcp 0) (dNw 0) (dx 0) dtt v_1) ++ ((wX0 dNc (dNcj 0) (dNcs 0) (dNcp 0) (dNcr 0) vNc) ++ ((wX1 cI dNcj vNcj) ++ ((wX5 cI dNcs vNcs) ++ ((wX2 cI dNcp vNcp) ++ ((wX4 cI 72 dNcr vNcr) ++ ((wX0 dT (dTj 0) (dTs 0) (dTp 0) (dTr 0) u.1) ++ ((wX1 cI dTj u.2.1) ++ ((wX5 cI dTs u.2.2.1) ++ ((wX2 cI dTp u.2.2.2.1) ++ (wX4 cI 72 dTr u.2.2.2.2)))))))))))) C (z_runV (pc := 20) (wc := ((wX9 d (dN 0) (dI 0) (dT 0) (dNc 0) (dNcj 0) (dNcs 0) (dNcp 0) (dNw 0) (dx 0) dtt v_1) ++ ((wX0 dNc (dNcj 0) (dNcs 0) (dNcp 0) (dNcr 0) vNc) ++ ((wX1 cI dNcj vNcj) ++ ((wX5 cI dNcs vNcs) ++ ((wX2 cI dNcp vNcp) ++ ((wX4 cI 72 dNcr vNcr) ++ ((wX0 dT (dTj 0) (dTs 0) (dTp 0) (dTr 0) vT) ++ ((wX1 cI dTj vTj) ++ ((wX5 cI dTs vTs) ++ ((wX2 cI dTp vTp) ++ (wX4 cI 72 dTr vTr)))))))))))) (As := [.int x1, .int x2]) C (fun sz => kX9_waitedOnDay d dN dI dT dNc dNcj dNcs dNcp dNw dx dtt dNcr dTj dTs dTp dTr v_1 vNc vNcj vNcs vNcp vNcr vT vTj vTs vTp vTr x1 x2 sz h) [0, 1, 2, 3, 4, 5, 6, 7, 8, 9, 10, 11, 12, 13, 14, 15, 16, 17, 18, 19, 20, 21, 22, 23, 24, 25, 26, 27, 28, 29, 30, 31, 32, 33, 34, 35, 36, 37, 38, 39, 40, 41, 42] rfl (by decide) (gdV wq754 wq755 wq756 wq757 wq112) rfl rfl rfl hdX9_waitedOnDay 0 rfl rfl rfl ⟨Nat.le_of_ble_eq_true rfl, Nat.le_of_ble_eq_true rfl⟩ rfl (Nat.le_of_ble_eq_true rfl) ⟨Nat.zero_le _, Nat.zero_le _⟩ dX9_day_20) [0, 1, 2, 3, 4, 5, 6, 7, 8, 9, 10, 11, 12, 13, 14, 15, 16, 17, 18, 19, 20, 21, 22, 23, 24, 25, 26, 27, 28, 29, 30, 31, 32, 33, 34, 35, 36, 37, 38, 39, 40, 41, 42] [] [0, 1, 2, 3, 4, 5, 6, 7, 8, 9, 10, 11, 12, 13, 14, 15, 16, 17, 18, 19, 20, 21, 22, 23, 24, 25, 26, 27, 28, 29, 30, 31, 32, 33, 34, 35, 36, 37, 38, 39, 40, 41, 42] rfl rfl (by decide) (by decide) (fun _ => rfl) (by decide) (fun r3 u3 h => ?_)
    obtain ⟨vT_3, vTj_3, vTs_3, vTp_3, vTr_3⟩ := u3
    dsimp only at h
    exact hret 23 _ _ r3 (v_1, vT_3, vTj_3, vTs_3, vTp_3, vTr_3) rfl h dX9_day_23
  · have h := h.2 c2
    refine z_iload_n (pc := 13) C 0 dX9_day_13 rfl ?_
    refine z_goto (pc := 14) (tgt := 23) C dX9_day_14 (by decide) ?_
    exact hret 23 _ _ r1 (v_1, vT, vTj, vTs, vTp, vTr) rfl h dX9_day_23

def pX9_greatestDivisor_L7 (x0 : Int32) (x1 : Int32) (Q : Int32 → Prop) : Nat → Int32 → Int32 → Int32 → Prop
  | 0, _, _, _ => False
  | n7 + 1, x2, x3, x4 => (((64 : Int32) ≤ x4 → (Q x2 )) ∧ (¬ (64 : Int32) ≤ x4 → ((x3 = 0 → (Q x2 )) ∧ (¬ x3 = 0 → (¬ x3 = 0 ∧ (pX9_greatestDivisor_L7 x0 x1 Q n7 x3 (x2 - x2 / x3 * x3) (x4 + 1)))))))
def pX9_greatestDivisor  (x0 : Int32) (x1 : Int32) (Q : Int32 → Prop) : Prop := (∃ n7, pX9_greatestDivisor_L7 x0 x1 Q  n7 x0 x1 (0 : Int32))
abbrev rmX9_greatestDivisor : Room := { frames := 0, cells := 0, slots := 0, locals := 0 }
abbrev wdX9_greatestDivisor : List Cond := Cond.code yX9_greatestDivisor cX9_greatestDivisor 6 (some .int) :: TB
theorem hdSX9_greatestDivisor : (yX9_greatestDivisor).cls ≠ "java/lang/invoke/MethodHandle" ∧ (yX9_greatestDivisor).cls ≠ "java/lang/invoke/VarHandle" ∧ (parseMethodDescriptor (yX9_greatestDivisor).desc).map (fun d => d.parameters.length) = some 2 := by decide +kernel
theorem hdX9_greatestDivisor : (yX9_greatestDivisor).cls = RX9 ∧ (yX9_greatestDivisor).cls ≠ "java/lang/invoke/MethodHandle" ∧ (yX9_greatestDivisor).cls ≠ "java/lang/invoke/VarHandle" ∧ (parseMethodDescriptor (yX9_greatestDivisor).desc).map (fun d => d.parameters.length) = some 2 := ⟨rfl, hdSX9_greatestDivisor⟩
set_option maxHeartbeats 4000000 in
set_option maxRecDepth 100000 in
theorem kX9_greatestDivisor {l : Launch} {D : va_G} {cI cJ cT : ClassId}    (x0 : Int32) (x1 : Int32) {Q : Int32 → Prop} (sz : Nat) (h : pX9_greatestDivisor x0 x1 Q) : Met l yX9_greatestDivisor wdX9_greatestDivisor rmX9_greatestDivisor (Pz D (tyL cI cJ cT) [.int x0, .int x1] ([] : va_W) sz) (va_Qi (fun (r : Int32) (u : Unit) => Q r) (Bz D (tyL cI cJ cT) ([] : va_W) sz (fun (u : Unit) => ([] : va_W))) (va_A ([] : va_W) sz)) 0 0 (va_A ([] : va_W) sz) := by
  refine z_meti (cc := cX9_greatestDivisor) (maxL := 6) (own := RX9) (lv0 := [(0, .int x0), (1, .int x1)]) (by decide) rfl rfl (Nat.le_of_ble_eq_true rfl) rfl ?_
  intro p e s m args below meth c A QQ C hin hret
  have L7 : ∀ (n7 : Nat) (x2 : Int32) (x3 : Int32) (x4 : Int32), pX9_greatestDivisor_L7 x0 x1 Q n7 x2 x3 x4 → ZZ p l e rmX9_greatestDivisor s m args below meth c D A 6 0 0 QQ 7 ([] : va_W) [(2, .int x2), (3, .int x3), (4, .int x4)] [] := by
    intro n7
    induction n7 with
    | zero => intro x2 x3 x4 h; exact False.elim h
    | succ n7 ih7 =>
      intro x2 x3 x4 h
      refine z_iload (pc := 7) C 2 dX9_greatestDivisor_7 rfl ?_
      refine z_bipush (pc := 9) (v := 64) C dX9_greatestDivisor_9 (by decide) ?_
      refine z_icmp_ge (pc := 11) (tgt := 34) C dX9_greatestDivisor_11 (by decide) (fun c1 => ?_) (fun c1 => ?_)
      · have h := h.1 c1
        refine z_iload_n (pc := 34) C 0 dX9_greatestDivisor_34 rfl ?_
        exact hret 35 _ _ x2 () rfl h dX9_greatestDivisor_35
      · have h := h.2 c1
        refine z_iload_n (pc := 14) C 1 dX9_greatestDivisor_14 rfl ?_
        refine z_if_eq (pc := 15) (tgt := 34) C dX9_greatestDivisor_15 (by decide) (fun c2 => ?_) (fun c2 => ?_)
        · have h := h.1 c2
          refine z_iload_n (pc := 34) C 0 dX9_greatestDivisor_34 rfl ?_
          exact hret 35 _ _ x2 () rfl h dX9_greatestDivisor_35
        · have h := h.2 c2
          refine z_iload_n (pc := 18) C 0 dX9_greatestDivisor_18 rfl ?_
          refine z_iload_n (pc := 19) C 1 dX9_greatestDivisor_19 rfl ?_
          obtain ⟨g3, h⟩ := h
          refine z_irem (pc := 20) C dX9_greatestDivisor_20 g3 ?_
          refine z_istore (pc := 21) (lv' := [(5, .int (x2 - x2 / x3 * x3)), (2, .int x2), (3, .int x3), (4, .int x4)]) C dX9_greatestDivisor_21 (by decide) rfl ?_
          refine z_iload_n (pc := 23) C 2 dX9_greatestDivisor_23 rfl ?_
          refine z_istore_n (pc := 24) (lv' := [(2, .int x3), (5, .int (x2 - x2 / x3 * x3)), (3, .int x3), (4, .int x4)]) C dX9_greatestDivisor_24 (by decide) rfl ?_
          refine z_iload (pc := 25) C 1 dX9_greatestDivisor_25 rfl ?_
          refine z_istore_n (pc := 27) (lv' := [(3, .int (x2 - x2 / x3 * x3)), (2, .int x3), (5, .int (x2 - x2 / x3 * x3)), (4, .int x4)]) C dX9_greatestDivisor_27 (by decide) rfl ?_
          refine z_iinc (pc := 28) (v := (x4 + 1)) (lv' := [(4, .int (x4 + 1)), (3, .int (x2 - x2 / x3 * x3)), (2, .int x3), (5, .int (x2 - x2 / x3 * x3))]) C 3 dX9_greatestDivisor_28 rfl rfl (by decide) rfl ?_
          refine z_goto (pc := 31) (tgt := 7) C dX9_greatestDivisor_31 (by decide) ?_
          refine z_sub (lv' := [(2, .int x3), (3, .int (x2 - x2 / x3 * x3)), (4, .int (x4 + 1))]) [2, 1, 0] rfl ?_
          exact ih7 x3 (x2 - x2 / x3 * x3) (x4 + 1) h
  refine z_iload_n (pc := 0) C 0 dX9_greatestDivisor_0 rfl ?_
  refine z_istore_n (pc := 1) (lv' := [(2, .int x0), (0, .int x0), (1, .int x1)]) C dX9_greatestDivisor_1 (by decide) rfl ?_
  refine z_iload_n (pc := 2) C 2 dX9_greatestDivisor_2 rfl ?_
  refine z_istore_n (pc := 3) (lv' := [(3, .int x1), (2, .int x0), (0, .int x0), (1, .int x1)]) C dX9_greatestDivisor_3 (by decide) rfl ?_
  refine z_iconst (pc := 4) (v := 0) C dX9_greatestDivisor_4 (by decide) ?_
  refine z_istore (pc := 5) (lv' := [(4, .int (0 : Int32)), (3, .int x1), (2, .int x0), (0, .int x0), (1, .int x1)]) C dX9_greatestDivisor_5 (by decide) rfl ?_
  obtain ⟨n7, h⟩ := h
  refine z_sub (lv' := [(2, .int x0), (3, .int x1), (4, .int (0 : Int32))]) [2, 1, 0] rfl ?_
  exact L7  n7 x0 x1 (0 : Int32) h

def pX9_partOfFraction_J23 (x0 : Int32) (x1 : Int32) (x2 : Int32) (Q : Int64 → Prop) (x3 : Int32) (t0 : Int32) : Prop := (¬ x3 = 0 ∧ (Q (((t0 / x3)).toInt64) ))
def pX9_partOfFraction  (x0 : Int32) (x1 : Int32) (x2 : Int32) (Q : Int64 → Prop) : Prop := (pX9_greatestDivisor x0 x1 (fun r1 => ((¬ r1 = 0 → ((¬ x2 = 0 → (pX9_partOfFraction_J23 x0 x1 x2 Q  r1 x1)) ∧ (x2 = 0 → (pX9_partOfFraction_J23 x0 x1 x2 Q  r1 x0)))) ∧ (r1 = 0 → (Q (-9223372036854775808 : Int64) )))))
abbrev rmX9_partOfFraction : Room := { frames := 1, cells := 0, slots := 0, locals := 25 }
abbrev wdX9_partOfFraction : List Cond := Cond.code yX9_partOfFraction cX9_partOfFraction 4 (some .long) :: TB
theorem hdSX9_partOfFraction : (yX9_partOfFraction).cls ≠ "java/lang/invoke/MethodHandle" ∧ (yX9_partOfFraction).cls ≠ "java/lang/invoke/VarHandle" ∧ (parseMethodDescriptor (yX9_partOfFraction).desc).map (fun d => d.parameters.length) = some 3 := by decide +kernel
theorem hdX9_partOfFraction : (yX9_partOfFraction).cls = RX9 ∧ (yX9_partOfFraction).cls ≠ "java/lang/invoke/MethodHandle" ∧ (yX9_partOfFraction).cls ≠ "java/lang/invoke/VarHandle" ∧ (parseMethodDescriptor (yX9_partOfFraction).desc).map (fun d => d.parameters.length) = some 3 := ⟨rfl, hdSX9_partOfFraction⟩
set_option maxHeartbeats 4000000 in
set_option maxRecDepth 100000 in
theorem kX9_partOfFraction {l : Launch} {D : va_G} {cI cJ cT : ClassId}    (x0 : Int32) (x1 : Int32) (x2 : Int32) {Q : Int64 → Prop} (sz : Nat) (h : pX9_partOfFraction x0 x1 x2 Q) : Met l yX9_partOfFraction wdX9_partOfFraction rmX9_partOfFraction (Pz D (tyL cI cJ cT) [.int x0, .int x1, .int x2] ([] : va_W) sz) (va_Ql (fun (r : Int64) (u : Unit) => Q r) (Bz D (tyL cI cJ cT) ([] : va_W) sz (fun (u : Unit) => ([] : va_W))) (va_A ([] : va_W) sz)) 0 0 (va_A ([] : va_W) sz) := by
  refine z_metl (cc := cX9_partOfFraction) (maxL := 4) (own := RX9) (lv0 := [(0, .int x0), (1, .int x1), (2, .int x2)]) (by decide) rfl rfl (Nat.le_of_ble_eq_true rfl) rfl ?_
  intro p e s m args below meth c A QQ C hin hret
  have J23 : ∀ (x3 : Int32) (t0 : Int32), pX9_partOfFraction_J23 x0 x1 x2 Q x3 t0 → ZZ p l e rmX9_partOfFraction s m args below meth c D A 4 0 0 QQ 23 ([] : va_W) [(3, .int x3)] [.int t0] := by
    intro  x3 t0 h
    refine z_iload_n (pc := 23) C 0 dX9_partOfFraction_23 rfl ?_
    obtain ⟨g4, h⟩ := h
    refine z_idiv (pc := 24) C dX9_partOfFraction_24 g4 ?_
    refine z_i2l (pc := 25) C dX9_partOfFraction_25 ?_
    exact hret 26 _ _ (((t0 / x3)).toInt64) () rfl h dX9_partOfFraction_26
  refine z_iload_n (pc := 0) C 0 dX9_partOfFraction_0 rfl ?_
  refine z_iload_n (pc := 1) C 1 dX9_partOfFraction_1 rfl ?_
  refine z_call0i (pc := 2) C (z_runS (pc := 2) (wc := ([] : va_W)) (As := [.int x0, .int x1]) C (fun sz => kX9_greatestDivisor x0 x1 sz h) [] rfl (by decide) (gdS wq759 wq762 wq763 wq112) rfl rfl rfl hdSX9_greatestDivisor ⟨Nat.le_of_ble_eq_true rfl, Nat.le_of_ble_eq_true rfl⟩ rfl (Nat.le_of_ble_eq_true rfl) ⟨Nat.zero_le _, Nat.zero_le _⟩ dX9_partOfFraction_2) (fun r1 u1 h => ?_)
  refine z_istore_n (pc := 5) (lv' := [(3, .int r1), (0, .int x0), (1, .int x1), (2, .int x2)]) C dX9_partOfFraction_5 (by decide) rfl ?_
  refine z_iload_n (pc := 6) C 0 dX9_partOfFraction_6 rfl ?_
  refine z_if_ne (pc := 7) (tgt := 14) C dX9_partOfFraction_7 (by decide) (fun c2 => ?_) (fun c2 => ?_)
  · have h := h.1 c2
    refine z_iload_n (pc := 14) C 3 dX9_partOfFraction_14 rfl ?_
    refine z_if_ne (pc := 15) (tgt := 22) C dX9_partOfFraction_15 (by decide) (fun c3 => ?_) (fun c3 => ?_)
    · have h := h.1 c3
      refine z_iload_n (pc := 22) C 2 dX9_partOfFraction_22 rfl ?_
      refine z_sub (lv' := [(3, .int r1)]) [0] rfl ?_
      exact J23  r1 x1 h
    · have h := h.2 c3
      refine z_iload_n (pc := 18) C 1 dX9_partOfFraction_18 rfl ?_
      refine z_goto (pc := 19) (tgt := 23) C dX9_partOfFraction_19 (by decide) ?_
      refine z_sub (lv' := [(3, .int r1)]) [0] rfl ?_
      exact J23  r1 x0 h
  · have h := h.2 c2
    refine z_ldc2 (pc := 10) C wq761 dX9_partOfFraction_10 ?_
    exact hret 13 _ _ (-9223372036854775808 : Int64) () rfl h dX9_partOfFraction_13

def pX9_chance_J79 (vNc : Lf) (vNcj : Lf) (vNcs : Lf) (vNcp : Lf) (vNcr : Lf) (x1 : Int32) (x2 : Int32) (x3 : Int32) (x4 : Int32) (x5 : Int32) (Q : Int64 → Lf → Lf → Lf → Lf → Lf → Lf → Prop) (K56 : Lf → Lf → Lf → Lf → Lf → Lf → Int32 → Int32 → Prop) (v : Lf) (vT : Lf) (vTj : Lf) (vTs : Lf) (vTp : Lf) (vTr : Lf) (x6 : Int32) (x7 : Int32) : Prop := (K56 v vT vTj vTs vTp vTr x6 (x7 + 1))
def pX9_chance_L56 (vNc : Lf) (vNcj : Lf) (vNcs : Lf) (vNcp : Lf) (vNcr : Lf) (x1 : Int32) (x2 : Int32) (x3 : Int32) (x4 : Int32) (x5 : Int32) (Q : Int64 → Lf → Lf → Lf → Lf → Lf → Lf → Prop) : Nat → Lf → Lf → Lf → Lf → Lf → Lf → Int32 → Int32 → Prop
  | 0, _, _, _, _, _, _, _, _ => False
  | n56 + 1, v, vT, vTj, vTs, vTp, vTr, x6, x7 => ((x3 ≤ x7 → (pX9_partOfFraction x6 x3 x5 (fun r10 => (Q r10 v vT vTj vTs vTp vTr)))) ∧ (¬ x3 ≤ x7 → (pX9_waitedOnDay vNc vNcj vNcs vNcp vNcr vT vTj vTs vTp vTr (x1 + x7) x2 (fun r11 vT_11 vTj_11 vTs_11 vTp_11 vTr_11 => ((x4 < r11 → (pX9_chance_J79 vNc vNcj vNcs vNcp vNcr x1 x2 x3 x4 x5 Q (fun v vT vTj vTs vTp vTr x6 x7 => pX9_chance_L56 vNc vNcj vNcs vNcp vNcr x1 x2 x3 x4 x5 Q n56 v vT vTj vTs vTp vTr x6 x7) v vT_11 vTj_11 vTs_11 vTp_11 vTr_11 x6 x7)) ∧ (¬ x4 < r11 → (pX9_chance_J79 vNc vNcj vNcs vNcp vNcr x1 x2 x3 x4 x5 Q (fun v vT vTj vTs vTp vTr x6 x7 => pX9_chance_L56 vNc vNcj vNcs vNcp vNcr x1 x2 x3 x4 x5 Q n56 v vT vTj vTs vTp vTr x6 x7) v vT_11 vTj_11 vTs_11 vTp_11 vTr_11 (x6 + 1) x7)))))))
def pX9_chance (v : Lf) (vNc : Lf) (vNcj : Lf) (vNcs : Lf) (vNcp : Lf) (vNcr : Lf) (vT : Lf) (vTj : Lf) (vTs : Lf) (vTp : Lf) (vTr : Lf) (x1 : Int32) (x2 : Int32) (x3 : Int32) (x4 : Int32) (x5 : Int32) (Q : Int64 → Lf → Lf → Lf → Lf → Lf → Lf → Prop) : Prop := (pX9_within x3 (1 : Int32) (4 : Int32) (fun r1 => ((r1 = 0 → (Q (-9223372036854775808 : Int64) v vT vTj vTs vTp vTr)) ∧ (¬ r1 = 0 → (pX9_within x4 (0 : Int32) (99999 : Int32) (fun r3 => ((r3 = 0 → (Q (-9223372036854775808 : Int64) v vT vTj vTs vTp vTr)) ∧ (¬ r3 = 0 → (pX9_within x5 (0 : Int32) (1 : Int32) (fun r5 => ((¬ r5 = 0 → (pX9_refusalOf v vNc x2 (99 : Int32) x3 (fun r7 v_7 => ((r7 = 0 → (∃ n56, pX9_chance_L56 vNc vNcj vNcs vNcp vNcr x1 x2 x3 x4 x5 Q  n56 v_7 vT vTj vTs vTp vTr (0 : Int32) (0 : Int32))) ∧ (¬ r7 = 0 → (Q (-9223372036854775808 : Int64) v_7 vT vTj vTs vTp vTr)))))) ∧ (r5 = 0 → (Q (-9223372036854775808 : Int64) v vT vTj vTs vTp vTr)))))))))))))
abbrev rmX9_chance : Room := { frames := 6, cells := 0, slots := 0, locals := 211 }
abbrev wdX9_chance : List Cond := Cond.code yX9_chance cX9_chance 8 (some .long) :: TB
theorem hdSX9_chance : (yX9_chance).cls ≠ "java/lang/invoke/MethodHandle" ∧ (yX9_chance).cls ≠ "java/lang/invoke/VarHandle" ∧ (parseMethodDescriptor (yX9_chance).desc).map (fun d => d.parameters.length) = some 5 := by decide +kernel
theorem hdX9_chance : (yX9_chance).cls = RX9 ∧ (yX9_chance).cls ≠ "java/lang/invoke/MethodHandle" ∧ (yX9_chance).cls ≠ "java/lang/invoke/VarHandle" ∧ (parseMethodDescriptor (yX9_chance).desc).map (fun d => d.parameters.length) = some 5 := ⟨rfl, hdSX9_chance⟩
set_option maxHeartbeats 4000000 in
set_option maxRecDepth 100000 in
theorem kX9_chance {l : Launch} {D : va_G} {cI cJ cT : ClassId} (d : Nat → Nat) (dN : Nat → Nat) (dI : Nat → Nat) (dT : Nat → Nat) (dNc : Nat → Nat) (dNcj : Nat → Nat) (dNcs : Nat → Nat) (dNcp : Nat → Nat) (dNw : Nat → Nat) (dx : Nat → Nat) (dtt : Nat) (dNcr : Nat → Nat) (dTj : Nat → Nat) (dTs : Nat → Nat) (dTp : Nat → Nat) (dTr : Nat → Nat)  (v : Lf) (vNc : Lf) (vNcj : Lf) (vNcs : Lf) (vNcp : Lf) (vNcr : Lf) (vT : Lf) (vTj : Lf) (vTs : Lf) (vTp : Lf) (vTr : Lf) (x1 : Int32) (x2 : Int32) (x3 : Int32) (x4 : Int32) (x5 : Int32) {Q : Int64 → Lf → Lf → Lf → Lf → Lf → Lf → Prop} (sz : Nat) (h : pX9_chance v vNc vNcj vNcs vNcp vNcr vT vTj vTs vTp vTr x1 x2 x3 x4 x5 Q) : Met l yX9_chance wdX9_chance rmX9_chance (Pz D (tyL cI cJ cT) [.ref (d 0), .int x1, .int x2, .int x3, .int x4, .int x5] ((wX9 d (dN 0) (dI 0) (dT 0) (dNc 0) (dNcj 0) (dNcs 0) (dNcp 0) (dNw 0) (dx 0) dtt v) ++ ((wX0 dNc (dNcj 0) (dNcs 0) (dNcp 0) (dNcr 0) vNc) ++ ((wX1 cI dNcj vNcj) ++ ((wX5 cI dNcs vNcs) ++ ((wX2 cI dNcp vNcp) ++ ((wX4 cI 72 dNcr vNcr) ++ ((wX0 dT (dTj 0) (dTs 0) (dTp 0) (dTr 0) vT) ++ ((wX1 cI dTj vTj) ++ ((wX5 cI dTs vTs) ++ ((wX2 cI dTp vTp) ++ (wX4 cI 72 dTr vTr))))))))))) sz) (va_Ql (fun (r : Int64) (u : Lf × Lf × Lf × Lf × Lf × Lf) => Q r u.1 u.2.1 u.2.2.1 u.2.2.2.1 u.2.2.2.2.1 u.2.2.2.2.2) (Bz D (tyL cI cJ cT) ((wX9 d (dN 0) (dI 0) (dT 0) (dNc 0) (dNcj 0) (dNcs 0) (dNcp 0) (dNw 0) (dx 0) dtt v) ++ ((wX0 dNc (dNcj 0) (dNcs 0) (dNcp 0) (dNcr 0) vNc) ++ ((wX1 cI dNcj vNcj) ++ ((wX5 cI dNcs vNcs) ++ ((wX2 cI dNcp vNcp) ++ ((wX4 cI 72 dNcr vNcr) ++ ((wX0 dT (dTj 0) (dTs 0) (dTp 0) (dTr 0) vT) ++ ((wX1 cI dTj vTj) ++ ((wX5 cI dTs vTs) ++ ((wX2 cI dTp vTp) ++ (wX4 cI 72 dTr vTr))))))))))) sz (fun (u : Lf × Lf × Lf × Lf × Lf × Lf) => ((wX9 d (dN 0) (dI 0) (dT 0) (dNc 0) (dNcj 0) (dNcs 0) (dNcp 0) (dNw 0) (dx 0) dtt u.1) ++ ((wX0 dNc (dNcj 0) (dNcs 0) (dNcp 0) (dNcr 0) vNc) ++ ((wX1 cI dNcj vNcj) ++ ((wX5 cI dNcs vNcs) ++ ((wX2 cI dNcp vNcp) ++ ((wX4 cI 72 dNcr vNcr) ++ ((wX0 dT (dTj 0) (dTs 0) (dTp 0) (dTr 0) u.2.1) ++ ((wX1 cI dTj u.2.2.1) ++ ((wX5 cI dTs u.2.2.2.1) ++ ((wX2 cI dTp u.2.2.2.2.1) ++ (wX4 cI 72 dTr u.2.2.2.2.2))))))))))))) (va_A ((wX9 d (dN 0) (dI 0) (dT 0) (dNc 0) (dNcj 0) (dNcs 0) (dNcp 0) (dNw 0) (dx 0) dtt v) ++ ((wX0 dNc (dNcj 0) (dNcs 0) (dNcp 0) (dNcr 0) vNc) ++ ((wX1 cI dNcj vNcj) ++ ((wX5 cI dNcs vNcs) ++ ((wX2 cI dNcp vNcp) ++ ((wX4 cI 72 dNcr vNcr) ++ ((wX0 dT (dTj 0) (dTs 0) (dTp 0) (dTr 0) vT) ++ ((wX1 cI dTj vTj) ++ ((wX5 cI dTs vTs) ++ ((wX2 cI dTp vTp) ++ (wX4 cI 72 dTr vTr))))))))))) sz)) 0 0 (va_A ((wX9 d (dN 0) (dI 0) (dT 0) (dNc 0) (dNcj 0) (dNcs 0) (dNcp 0) (dNw 0) (dx 0) dtt v) ++ ((wX0 dNc (dNcj 0) (dNcs 0) (dNcp 0) (dNcr 0) vNc) ++ ((wX1 cI dNcj vNcj) ++ ((wX5 cI dNcs vNcs) ++ ((wX2 cI dNcp vNcp) ++ ((wX4 cI 72 dNcr vNcr) ++ ((wX0 dT (dTj 0) (dTs 0) (dTp 0) (dTr 0) vT) ++ ((wX1 cI dTj vTj) ++ ((wX5 cI dTs vTs) ++ ((wX2 cI dTp vTp) ++ (wX4 cI 72 dTr vTr))))))))))) sz) := by
  refine z_metl (cc := cX9_chance) (maxL := 8) (own := RX9) (lv0 := [(0, .ref (d 0)), (1, .int x1), (2, .int x2), (3, .int x3), (4, .int x4), (5, .int x5)]) (by decide) rfl rfl (Nat.le_of_ble_eq_true rfl) rfl ?_
  intro p e s m args below meth c A QQ C hin hret
  have J79 : ∀ (K56 : Lf → Lf → Lf → Lf → Lf → Lf → Int32 → Int32 → Prop), (∀ (v : Lf) (vT : Lf) (vTj : Lf) (vTs : Lf) (vTp : Lf) (vTr : Lf) (x6 : Int32) (x7 : Int32), K56 v vT vTj vTs vTp vTr x6 x7 → ZZ p l e rmX9_chance s m args below meth c D A 8 0 0 QQ 56 ((wX9 d (dN 0) (dI 0) (dT 0) (dNc 0) (dNcj 0) (dNcs 0) (dNcp 0) (dNw 0) (dx 0) dtt v) ++ ((wX0 dNc (dNcj 0) (dNcs 0) (dNcp 0) (dNcr 0) vNc) ++ ((wX1 cI dNcj vNcj) ++ ((wX5 cI dNcs vNcs) ++ ((wX2 cI dNcp vNcp) ++ ((wX4 cI 72 dNcr vNcr) ++ ((wX0 dT (dTj 0) (dTs 0) (dTp 0) (dTr 0) vT) ++ ((wX1 cI dTj vTj) ++ ((wX5 cI dTs vTs) ++ ((wX2 cI dTp vTp) ++ (wX4 cI 72 dTr vTr))))))))))) [(0, .ref (d 0)), (1, .int x1), (2, .int x2), (3, .int x3), (4, .int x4), (5, .int x5), (6, .int x6), (7, .int x7)] []) → ∀ (v : Lf) (vT : Lf) (vTj : Lf) (vTs : Lf) (vTp : Lf) (vTr : Lf) (x6 : Int32) (x7 : Int32), pX9_chance_J79 vNc vNcj vNcs vNcp vNcr x1 x2 x3 x4 x5 Q K56 v vT vTj vTs vTp vTr x6 x7 → ZZ p l e rmX9_chance s m args below meth c D A 8 0 0 QQ 79 ((wX9 d (dN 0) (dI 0) (dT 0) (dNc 0) (dNcj 0) (dNcs 0) (dNcp 0) (dNw 0) (dx 0) dtt v) ++ ((wX0 dNc (dNcj 0) (dNcs 0) (dNcp 0) (dNcr 0) vNc) ++ ((wX1 cI dNcj vNcj) ++ ((wX5 cI dNcs vNcs) ++ ((wX2 cI dNcp vNcp) ++ ((wX4 cI 72 dNcr vNcr) ++ ((wX0 dT (dTj 0) (dTs 0) (dTp 0) (dTr 0) vT) ++ ((wX1 cI dTj vTj) ++ ((wX5 cI dTs vTs) ++ ((wX2 cI dTp vTp) ++ (wX4 cI 72 dTr vTr))))))))))) [(0, .ref (d 0)), (1, .int x1), (2, .int x2), (3, .int x3), (4, .int x4), (5, .int x5), (6, .int x6), (7, .int x7)] [] := by
    intro K56 hK56 v vT vTj vTs vTp vTr x6 x7 h
    refine z_iinc (pc := 79) (v := (x7 + 1)) (lv' := [(7, .int (x7 + 1)), (0, .ref (d 0)), (1, .int x1), (2, .int x2), (3, .int x3), (4, .int x4), (5, .int x5), (6, .int x6)]) C 7 dX9_chance_79 rfl rfl (by decide) rfl ?_
    refine z_goto (pc := 82) (tgt := 56) C dX9_chance_82 (by decide) ?_
    refine z_sub (lv' := [(0, .ref (d 0)), (1, .int x1), (2, .int x2), (3, .int x3), (4, .int x4), (5, .int x5), (6, .int x6), (7, .int (x7 + 1))]) [1, 2, 3, 4, 5, 6, 7, 0] rfl ?_
    exact hK56 v vT vTj vTs vTp vTr x6 (x7 + 1) h
  have L56 : ∀ (n56 : Nat) (v : Lf) (vT : Lf) (vTj : Lf) (vTs : Lf) (vTp : Lf) (vTr : Lf) (x6 : Int32) (x7 : Int32), pX9_chance_L56 vNc vNcj vNcs vNcp vNcr x1 x2 x3 x4 x5 Q n56 v vT vTj vTs vTp vTr x6 x7 → ZZ p l e rmX9_chance s m args below meth c D A 8 0 0 QQ 56 ((wX9 d (dN 0) (dI 0) (dT 0) (dNc 0) (dNcj 0) (dNcs 0) (dNcp 0) (dNw 0) (dx 0) dtt v) ++ ((wX0 dNc (dNcj 0) (dNcs 0) (dNcp 0) (dNcr 0) vNc) ++ ((wX1 cI dNcj vNcj) ++ ((wX5 cI dNcs vNcs) ++ ((wX2 cI dNcp vNcp) ++ ((wX4 cI 72 dNcr vNcr) ++ ((wX0 dT (dTj 0) (dTs 0) (dTp 0) (dTr 0) vT) ++ ((wX1 cI dTj vTj) ++ ((wX5 cI dTs vTs) ++ ((wX2 cI dTp vTp) ++ (wX4 cI 72 dTr vTr))))))))))) [(0, .ref (d 0)), (1, .int x1), (2, .int x2), (3, .int x3), (4, .int x4), (5, .int x5), (6, .int x6), (7, .int x7)] [] := by
    intro n56
    induction n56 with
    | zero => intro v vT vTj vTs vTp vTr x6 x7 h; exact False.elim h
    | succ n56 ih56 =>
      intro v vT vTj vTs vTp vTr x6 x7 h
      refine z_iload (pc := 56) C 7 dX9_chance_56 rfl ?_
      refine z_iload_n (pc := 58) C 3 dX9_chance_58 rfl ?_
      refine z_icmp_ge (pc := 59) (tgt := 85) C dX9_chance_59 (by decide) (fun c9 => ?_) (fun c9 => ?_)
      · have h := h.1 c9
        refine z_iload (pc := 85) C 6 dX9_chance_85 rfl ?_
        refine z_iload_n (pc := 87) C 3 dX9_chance_87 rfl ?_
        refine z_iload (pc := 88) C 5 dX9_chance_88 rfl ?_
        refine z_call0l (pc := 90) C (z_runS (pc := 90) (wc := ([] : va_W)) (As := [.int x6, .int x3, .int x5]) C (fun sz => kX9_partOfFraction x6 x3 x5 sz h) [] rfl (by decide) (gdS wq760 wq764 wq765 wq112) rfl rfl rfl hdSX9_partOfFraction ⟨Nat.le_of_ble_eq_true rfl, Nat.le_of_ble_eq_true rfl⟩ rfl (Nat.le_of_ble_eq_true rfl) ⟨Nat.zero_le _, Nat.zero_le _⟩ dX9_chance_90) (fun r10 u10 h => ?_)
        exact hret 93 _ _ r10 (v, vT, vTj, vTs, vTp, vTr) rfl h dX9_chance_93
      · have h := h.2 c9
        refine z_aload_n (pc := 62) C 0 dX9_chance_62 rfl ?_
        refine z_iload_n (pc := 63) C 1 dX9_chance_63 rfl ?_
        refine z_iload (pc := 64) C 7 dX9_chance_64 rfl ?_
        refine z_iadd (pc := 66) C dX9_chance_66 ?_
        refine z_iload_n (pc := 67) C 2 dX9_chance_67 rfl ?_
        refine z_calli (pc := 68) (wr := ([] : va_W)) (w1 := fun (u : Lf × Lf × Lf × Lf × Lf) => ((wX9 d (dN 0) (dI 0) (dT 0) (dNc 0) (dNcj 0) (dNcs 0) (dNcp 0) (dNw 0) (dx 0) dtt v) ++ ((wX0 dNc (dNcj 0) (dNcs 0) (dNcp 0) (dNcr 0) vNc) ++ ((wX1 cI dNcj vNcj) ++ ((wX5 cI dNcs vNcs) ++ ((wX2 cI dNcp vNcp) ++ ((wX4 cI 72 dNcr vNcr) ++ ((wX0 dT (dTj 0) (dTs 0) (dTp 0) (dTr 0) u.1) ++ ((wX1 cI dTj u.2.1) ++ ((wX5 cI dTs u.2.2.1) ++ ((wX2 cI dTp u.2.2.2.1) ++ (wX4 cI 72 dTr u.2.2.2.2)))))))))))) (w2 := fun (u : Lf × Lf × Lf × Lf × Lf) => ((wX9 d (dN 0) (dI 0) (dT 0) (dNc 0) (dNcj 0) (dNcs 0) (dNcp 0) (dNw 0) (dx 0) dtt v) ++ ((wX0 dNc (dNcj 0) (dNcs 0) (dNcp 0) (dNcr 0) vNc) ++ ((wX1 cI dNcj vNcj) ++ ((wX5 cI dNcs vNcs) ++ ((wX2 cI dNcp vNcp) ++ ((wX4 cI 72 dNcr vNcr) ++ ((wX0 dT (dTj 0) (dTs 0) (dTp 0) (dTr 0) u.1) ++ ((wX1 cI dTj u.2.1) ++ ((wX5 cI dTs u.2.2.1) ++ ((wX2 cI dTp u.2.2.2.1) ++ (wX4 cI 72 dTr u.2.2.2.2)))))))))))) C (z_runV (pc := 68) (wc := ((wX9 d (dN 0) (dI 0) (dT 0) (dNc 0) (dNcj 0) (dNcs 0) (dNcp 0) (dNw 0) (dx 0) dtt v) ++ ((wX0 dNc (dNcj 0) (dNcs 0) (dNcp 0) (dNcr 0) vNc) ++ ((wX1 cI dNcj vNcj) ++ ((wX5 cI dNcs vNcs) ++ ((wX2 cI dNcp vNcp) ++ ((wX4 cI 72 dNcr vNcr) ++ ((wX0 dT (dTj 0) (dTs 0) (dTp 0) (dTr 0) vT) ++ ((wX1 cI dTj vTj) ++ ((wX5 cI dTs vTs) ++ ((wX2 cI dTp vTp) ++ (wX4 cI 72 dTr vTr)))))))))))) (As := [.int (x1 + x7), .int x2]) C (fun sz => kX9_waitedOnDay d dN dI dT dNc dNcj dNcs dNcp dNw dx dtt dNcr dTj dTs dTp dTr v vNc vNcj vNcs vNcp vNcr vT vTj vTs vTp vTr (x1 + x7) x2 sz h) [0, 1, 2, 3, 4, 5, 6, 7, 8, 9, 10, 11, 12, 13, 14, 15, 16, 17, 18, 19, 20, 21, 22, 23, 24, 25, 26, 27, 28, 29, 30, 31, 32, 33, 34, 35, 36, 37, 38, 39, 40, 41, 42] rfl (by decide) (gdV wq754 wq755 wq756 wq757 wq112) rfl rfl rfl hdX9_waitedOnDay 0 rfl rfl rfl ⟨Nat.le_of_ble_eq_true rfl, Nat.le_of_ble_eq_true rfl⟩ rfl (Nat.le_of_ble_eq_true rfl) ⟨Nat.zero_le _, Nat.zero_le _⟩ dX9_chance_68) [0, 1, 2, 3, 4, 5, 6, 7, 8, 9, 10, 11, 12, 13, 14, 15, 16, 17, 18, 19, 20, 21, 22, 23, 24, 25, 26, 27, 28, 29, 30, 31, 32, 33, 34, 35, 36, 37, 38, 39, 40, 41, 42] [] [0, 1, 2, 3, 4, 5, 6, 7, 8, 9, 10, 11, 12, 13, 14, 15, 16, 17, 18, 19, 20, 21, 22, 23, 24, 25, 26, 27, 28, 29, 30, 31, 32, 33, 34, 35, 36, 37, 38, 39, 40, 41, 42] rfl rfl (by decide) (by decide) (fun _ => rfl) (by decide) (fun r11 u11 h => ?_)
        obtain ⟨vT_11, vTj_11, vTs_11, vTp_11, vTr_11⟩ := u11
        dsimp only at h
        refine z_iload (pc := 71) C 4 dX9_chance_71 rfl ?_
        refine z_icmp_gt (pc := 73) (tgt := 79) C dX9_chance_73 (by decide) (fun c12 => ?_) (fun c12 => ?_)
        · have h := h.1 c12
          exact J79 (fun v vT vTj vTs vTp vTr x6 x7 => pX9_chance_L56 vNc vNcj vNcs vNcp vNcr x1 x2 x3 x4 x5 Q n56 v vT vTj vTs vTp vTr x6 x7) ih56 v vT_11 vTj_11 vTs_11 vTp_11 vTr_11 x6 x7 h
        · have h := h.2 c12
          refine z_iinc (pc := 76) (v := (x6 + 1)) (lv' := [(6, .int (x6 + 1)), (0, .ref (d 0)), (1, .int x1), (2, .int x2), (3, .int x3), (4, .int x4), (5, .int x5), (7, .int x7)]) C 6 dX9_chance_76 rfl rfl (by decide) rfl ?_
          refine z_sub (lv' := [(0, .ref (d 0)), (1, .int x1), (2, .int x2), (3, .int x3), (4, .int x4), (5, .int x5), (6, .int (x6 + 1)), (7, .int x7)]) [1, 2, 3, 4, 5, 6, 0, 7] rfl ?_
          exact J79 (fun v vT vTj vTs vTp vTr x6 x7 => pX9_chance_L56 vNc vNcj vNcs vNcp vNcr x1 x2 x3 x4 x5 Q n56 v vT vTj vTs vTp vTr x6 x7) ih56 v vT_11 vTj_11 vTs_11 vTp_11 vTr_11 (x6 + 1) x7 h
  refine z_iload_n (pc := 0) C 3 dX9_chance_0 rfl ?_
  refine z_iconst (pc := 1) (v := 1) C dX9_chance_1 (by decide) ?_
  refine z_iconst (pc := 2) (v := 4) C dX9_chance_2 (by decide) ?_
  refine z_call0i (pc := 3) C (z_runS (pc := 3) (wc := ([] : va_W)) (As := [.int x3, .int (1 : Int32), .int (4 : Int32)]) C (fun sz => kX9_within x3 (1 : Int32) (4 : Int32) sz h) [] rfl (by decide) (gdS wq366 wq553 wq373 wq112) rfl rfl rfl hdSX9_within ⟨Nat.le_of_ble_eq_true rfl, Nat.le_of_ble_eq_true rfl⟩ rfl (Nat.le_of_ble_eq_true rfl) ⟨Nat.zero_le _, Nat.zero_le _⟩ dX9_chance_3) (fun r1 u1 h => ?_)
  refine z_if_eq (pc := 6) (tgt := 31) C dX9_chance_6 (by decide) (fun c2 => ?_) (fun c2 => ?_)
  · have h := h.1 c2
    refine z_ldc2 (pc := 31) C wq761 dX9_chance_31 ?_
    exact hret 34 _ _ (-9223372036854775808 : Int64) (v, vT, vTj, vTs, vTp, vTr) rfl h dX9_chance_34
  · have h := h.2 c2
    refine z_iload (pc := 9) C 4 dX9_chance_9 rfl ?_
    refine z_iconst (pc := 11) (v := 0) C dX9_chance_11 (by decide) ?_
    refine z_ldcw (pc := 12) C wq744 dX9_chance_12 ?_
    refine z_call0i (pc := 15) C (z_runS (pc := 15) (wc := ([] : va_W)) (As := [.int x4, .int (0 : Int32), .int (99999 : Int32)]) C (fun sz => kX9_within x4 (0 : Int32) (99999 : Int32) sz h) [] rfl (by decide) (gdS wq366 wq553 wq373 wq112) rfl rfl rfl hdSX9_within ⟨Nat.le_of_ble_eq_true rfl, Nat.le_of_ble_eq_true rfl⟩ rfl (Nat.le_of_ble_eq_true rfl) ⟨Nat.zero_le _, Nat.zero_le _⟩ dX9_chance_15) (fun r3 u3 h => ?_)
    refine z_if_eq (pc := 18) (tgt := 31) C dX9_chance_18 (by decide) (fun c4 => ?_) (fun c4 => ?_)
    · have h := h.1 c4
      refine z_ldc2 (pc := 31) C wq761 dX9_chance_31 ?_
      exact hret 34 _ _ (-9223372036854775808 : Int64) (v, vT, vTj, vTs, vTp, vTr) rfl h dX9_chance_34
    · have h := h.2 c4
      refine z_iload (pc := 21) C 5 dX9_chance_21 rfl ?_
      refine z_iconst (pc := 23) (v := 0) C dX9_chance_23 (by decide) ?_
      refine z_iconst (pc := 24) (v := 1) C dX9_chance_24 (by decide) ?_
      refine z_call0i (pc := 25) C (z_runS (pc := 25) (wc := ([] : va_W)) (As := [.int x5, .int (0 : Int32), .int (1 : Int32)]) C (fun sz => kX9_within x5 (0 : Int32) (1 : Int32) sz h) [] rfl (by decide) (gdS wq366 wq553 wq373 wq112) rfl rfl rfl hdSX9_within ⟨Nat.le_of_ble_eq_true rfl, Nat.le_of_ble_eq_true rfl⟩ rfl (Nat.le_of_ble_eq_true rfl) ⟨Nat.zero_le _, Nat.zero_le _⟩ dX9_chance_25) (fun r5 u5 h => ?_)
      refine z_if_ne (pc := 28) (tgt := 35) C dX9_chance_28 (by decide) (fun c6 => ?_) (fun c6 => ?_)
      · have h := h.1 c6
        refine z_aload_n (pc := 35) C 0 dX9_chance_35 rfl ?_
        refine z_iload_n (pc := 36) C 2 dX9_chance_36 rfl ?_
        refine z_bipush (pc := 37) (v := 99) C dX9_chance_37 (by decide) ?_
        refine z_iload_n (pc := 39) C 3 dX9_chance_39 rfl ?_
        refine z_calli (pc := 40) (wr := ((wX1 cI dNcj vNcj) ++ ((wX5 cI dNcs vNcs) ++ ((wX2 cI dNcp vNcp) ++ ((wX4 cI 72 dNcr vNcr) ++ ((wX0 dT (dTj 0) (dTs 0) (dTp 0) (dTr 0) vT) ++ ((wX1 cI dTj vTj) ++ ((wX5 cI dTs vTs) ++ ((wX2 cI dTp vTp) ++ (wX4 cI 72 dTr vTr)))))))))) (w1 := fun (u : Lf) => ((wX9 d (dN 0) (dI 0) (dT 0) (dNc 0) (dNcj 0) (dNcs 0) (dNcp 0) (dNw 0) (dx 0) dtt u) ++ (wX0 dNc (dNcj 0) (dNcs 0) (dNcp 0) (dNcr 0) vNc))) (w2 := fun (u : Lf) => ((wX9 d (dN 0) (dI 0) (dT 0) (dNc 0) (dNcj 0) (dNcs 0) (dNcp 0) (dNw 0) (dx 0) dtt u) ++ ((wX0 dNc (dNcj 0) (dNcs 0) (dNcp 0) (dNcr 0) vNc) ++ ((wX1 cI dNcj vNcj) ++ ((wX5 cI dNcs vNcs) ++ ((wX2 cI dNcp vNcp) ++ ((wX4 cI 72 dNcr vNcr) ++ ((wX0 dT (dTj 0) (dTs 0) (dTp 0) (dTr 0) vT) ++ ((wX1 cI dTj vTj) ++ ((wX5 cI dTs vTs) ++ ((wX2 cI dTp vTp) ++ (wX4 cI 72 dTr vTr)))))))))))) C (z_runV (pc := 40) (wc := ((wX9 d (dN 0) (dI 0) (dT 0) (dNc 0) (dNcj 0) (dNcs 0) (dNcp 0) (dNw 0) (dx 0) dtt v) ++ (wX0 dNc (dNcj 0) (dNcs 0) (dNcp 0) (dNcr 0) vNc))) (As := [.int x2, .int (99 : Int32), .int x3]) C (fun sz => kX9_refusalOf d dN dI dT dNc dNcj dNcs dNcp dNw dx dtt dNcr v vNc x2 (99 : Int32) x3 sz h) [0, 1] rfl (by decide) (gdV wq625 wq630 wq631 wq632 wq112) rfl rfl rfl hdX9_refusalOf 0 rfl rfl rfl ⟨Nat.le_of_ble_eq_true rfl, Nat.le_of_ble_eq_true rfl⟩ rfl (Nat.le_of_ble_eq_true rfl) ⟨Nat.zero_le _, Nat.zero_le _⟩ dX9_chance_40) [0, 1] [2, 3, 4, 5, 6, 7, 8, 9, 10, 11, 12, 13, 14, 15, 16, 17, 18, 19, 20, 21, 22, 23, 24, 25, 26, 27, 28, 29, 30, 31, 32, 33, 34, 35, 36, 37, 38, 39, 40, 41, 42] [41, 42, 0, 1, 2, 3, 4, 5, 6, 7, 8, 9, 10, 11, 12, 13, 14, 15, 16, 17, 18, 19, 20, 21, 22, 23, 24, 25, 26, 27, 28, 29, 30, 31, 32, 33, 34, 35, 36, 37, 38, 39, 40] rfl rfl (by decide) (by decide) (fun _ => rfl) (by decide) (fun r7 u7 h => ?_)
        obtain ⟨v_7, hu7⟩ : ∃ z, z = u7 := ⟨_, rfl⟩
        subst hu7
        refine z_if_eq (pc := 43) (tgt := 50) C dX9_chance_43 (by decide) (fun c8 => ?_) (fun c8 => ?_)
        · have h := h.1 c8
          refine z_iconst (pc := 50) (v := 0) C dX9_chance_50 (by decide) ?_
          refine z_istore (pc := 51) (lv' := [(6, .int (0 : Int32)), (0, .ref (d 0)), (1, .int x1), (2, .int x2), (3, .int x3), (4, .int x4), (5, .int x5)]) C dX9_chance_51 (by decide) rfl ?_
          refine z_iconst (pc := 53) (v := 0) C dX9_chance_53 (by decide) ?_
          refine z_istore (pc := 54) (lv' := [(7, .int (0 : Int32)), (6, .int (0 : Int32)), (0, .ref (d 0)), (1, .int x1), (2, .int x2), (3, .int x3), (4, .int x4), (5, .int x5)]) C dX9_chance_54 (by decide) rfl ?_
          obtain ⟨n56, h⟩ := h
          refine z_sub (lv' := [(0, .ref (d 0)), (1, .int x1), (2, .int x2), (3, .int x3), (4, .int x4), (5, .int x5), (6, .int (0 : Int32)), (7, .int (0 : Int32))]) [2, 3, 4, 5, 6, 7, 1, 0] rfl ?_
          exact L56  n56 v_7 vT vTj vTs vTp vTr (0 : Int32) (0 : Int32) h
        · have h := h.2 c8
          refine z_ldc2 (pc := 46) C wq761 dX9_chance_46 ?_
          exact hret 49 _ _ (-9223372036854775808 : Int64) (v_7, vT, vTj, vTs, vTp, vTr) rfl h dX9_chance_49
      · have h := h.2 c6
        refine z_ldc2 (pc := 31) C wq761 dX9_chance_31 ?_
        exact hret 34 _ _ (-9223372036854775808 : Int64) (v, vT, vTj, vTs, vTp, vTr) rfl h dX9_chance_34

def pX9_mean (vNc : Lf) (x1 : Int32) (Q : Int64 → Prop) : Prop := (pX9_within x1 (0 : Int32) (1 : Int32) (fun r1 => ((r1 = 0 → (Q (-9223372036854775808 : Int64) )) ∧ (¬ r1 = 0 → ((¬ (vNc 0 10) = 0 → (pX9_partOfFraction (vNc 0 9) (vNc 0 10) x1 (fun r4 => (Q r4 )))) ∧ ((vNc 0 10) = 0 → (Q (-9223372036854775808 : Int64) )))))))
abbrev rmX9_mean : Room := { frames := 2, cells := 0, slots := 0, locals := 48 }
abbrev wdX9_mean : List Cond := Cond.code yX9_mean cX9_mean 2 (some .long) :: TB
theorem hdSX9_mean : (yX9_mean).cls ≠ "java/lang/invoke/MethodHandle" ∧ (yX9_mean).cls ≠ "java/lang/invoke/VarHandle" ∧ (parseMethodDescriptor (yX9_mean).desc).map (fun d => d.parameters.length) = some 1 := by decide +kernel
theorem hdX9_mean : (yX9_mean).cls = RX9 ∧ (yX9_mean).cls ≠ "java/lang/invoke/MethodHandle" ∧ (yX9_mean).cls ≠ "java/lang/invoke/VarHandle" ∧ (parseMethodDescriptor (yX9_mean).desc).map (fun d => d.parameters.length) = some 1 := ⟨rfl, hdSX9_mean⟩
set_option maxHeartbeats 4000000 in
set_option maxRecDepth 100000 in
theorem kX9_mean {l : Launch} {D : va_G} {cI cJ cT : ClassId} (d : Nat → Nat) (dN : Nat → Nat) (dI : Nat → Nat) (dT : Nat → Nat) (dNc : Nat → Nat) (dNcj : Nat → Nat) (dNcs : Nat → Nat) (dNcp : Nat → Nat) (dNw : Nat → Nat) (dx : Nat → Nat) (dtt : Nat) (dNcr : Nat → Nat)  (v : Lf) (vNc : Lf) (x1 : Int32) {Q : Int64 → Prop} (sz : Nat) (h : pX9_mean vNc x1 Q) : Met l yX9_mean wdX9_mean rmX9_mean (Pz D (tyL cI cJ cT) [.ref (d 0), .int x1] ((wX9 d (dN 0) (dI 0) (dT 0) (dNc 0) (dNcj 0) (dNcs 0) (dNcp 0) (dNw 0) (dx 0) dtt v) ++ (wX0 dNc (dNcj 0) (dNcs 0) (dNcp 0) (dNcr 0) vNc)) sz) (va_Ql (fun (r : Int64) (u : Unit) => Q r) (Bz D (tyL cI cJ cT) ((wX9 d (dN 0) (dI 0) (dT 0) (dNc 0) (dNcj 0) (dNcs 0) (dNcp 0) (dNw 0) (dx 0) dtt v) ++ (wX0 dNc (dNcj 0) (dNcs 0) (dNcp 0) (dNcr 0) vNc)) sz (fun (u : Unit) => ((wX9 d (dN 0) (dI 0) (dT 0) (dNc 0) (dNcj 0) (dNcs 0) (dNcp 0) (dNw 0) (dx 0) dtt v) ++ (wX0 dNc (dNcj 0) (dNcs 0) (dNcp 0) (dNcr 0) vNc)))) (va_A ((wX9 d (dN 0) (dI 0) (dT 0) (dNc 0) (dNcj 0) (dNcs 0) (dNcp 0) (dNw 0) (dx 0) dtt v) ++ (wX0 dNc (dNcj 0) (dNcs 0) (dNcp 0) (dNcr 0) vNc)) sz)) 0 0 (va_A ((wX9 d (dN 0) (dI 0) (dT 0) (dNc 0) (dNcj 0) (dNcs 0) (dNcp 0) (dNw 0) (dx 0) dtt v) ++ (wX0 dNc (dNcj 0) (dNcs 0) (dNcp 0) (dNcr 0) vNc)) sz) := by
  refine z_metl (cc := cX9_mean) (maxL := 2) (own := RX9) (lv0 := [(0, .ref (d 0)), (1, .int x1)]) (by decide) rfl rfl (Nat.le_of_ble_eq_true rfl) rfl ?_
  intro p e s m args below meth c A QQ C hin hret
  refine z_iload_n (pc := 0) C 1 dX9_mean_0 rfl ?_
  refine z_iconst (pc := 1) (v := 0) C dX9_mean_1 (by decide) ?_
  refine z_iconst (pc := 2) (v := 1) C dX9_mean_2 (by decide) ?_
  refine z_call0i (pc := 3) C (z_runS (pc := 3) (wc := ([] : va_W)) (As := [.int x1, .int (0 : Int32), .int (1 : Int32)]) C (fun sz => kX9_within x1 (0 : Int32) (1 : Int32) sz h) [] rfl (by decide) (gdS wq366 wq553 wq373 wq112) rfl rfl rfl hdSX9_within ⟨Nat.le_of_ble_eq_true rfl, Nat.le_of_ble_eq_true rfl⟩ rfl (Nat.le_of_ble_eq_true rfl) ⟨Nat.zero_le _, Nat.zero_le _⟩ dX9_mean_3) (fun r1 u1 h => ?_)
  refine z_if_eq (pc := 6) (tgt := 19) C dX9_mean_6 (by decide) (fun c2 => ?_) (fun c2 => ?_)
  · have h := h.1 c2
    refine z_ldc2 (pc := 19) C wq761 dX9_mean_19 ?_
    exact hret 22 _ _ (-9223372036854775808 : Int64) () rfl h dX9_mean_22
  · have h := h.2 c2
    refine z_aload_n (pc := 9) C 0 dX9_mean_9 rfl ?_
    refine z_get (pc := 10) C uw9 0 rfl rfl 3 (by decide) wq531 rfl dX9_mean_10 ?_
    refine z_get (pc := 13) C uw0 1 rfl rfl 10 (by decide) wq629 rfl dX9_mean_13 ?_
    refine z_if_ne (pc := 16) (tgt := 23) C dX9_mean_16 (by decide) (fun c3 => ?_) (fun c3 => ?_)
    · have h := h.1 c3
      refine z_aload_n (pc := 23) C 0 dX9_mean_23 rfl ?_
      refine z_get (pc := 24) C uw9 0 rfl rfl 3 (by decide) wq531 rfl dX9_mean_24 ?_
      refine z_get (pc := 27) C uw0 1 rfl rfl 9 (by decide) wq733 rfl dX9_mean_27 ?_
      refine z_aload_n (pc := 30) C 0 dX9_mean_30 rfl ?_
      refine z_get (pc := 31) C uw9 0 rfl rfl 3 (by decide) wq531 rfl dX9_mean_31 ?_
      refine z_get (pc := 34) C uw0 1 rfl rfl 10 (by decide) wq629 rfl dX9_mean_34 ?_
      refine z_iload_n (pc := 37) C 1 dX9_mean_37 rfl ?_
      refine z_call0l (pc := 38) C (z_runS (pc := 38) (wc := ([] : va_W)) (As := [.int (vNc 0 9), .int (vNc 0 10), .int x1]) C (fun sz => kX9_partOfFraction (vNc 0 9) (vNc 0 10) x1 sz h) [] rfl (by decide) (gdS wq760 wq764 wq765 wq112) rfl rfl rfl hdSX9_partOfFraction ⟨Nat.le_of_ble_eq_true rfl, Nat.le_of_ble_eq_true rfl⟩ rfl (Nat.le_of_ble_eq_true rfl) ⟨Nat.zero_le _, Nat.zero_le _⟩ dX9_mean_38) (fun r4 u4 h => ?_)
      exact hret 41 _ _ r4 () rfl h dX9_mean_41
    · have h := h.2 c3
      refine z_ldc2 (pc := 19) C wq761 dX9_mean_19 ?_
      exact hret 22 _ _ (-9223372036854775808 : Int64) () rfl h dX9_mean_22

def pX9_plan_J62 (x1 : Int32) (x2 : Int32) (Q : Int32 → Lf → Prop) (vNq : Lf) : Prop := (pX4_add 24 vNq x1 x2 (0 : Int32) (fun r6 vNq_6 => ((r6 = 0 → (Q (-4 : Int32) vNq_6)) ∧ (¬ r6 = 0 → (Q (vNq_6 0 0) vNq_6)))))
def pX9_plan_J42 (x1 : Int32) (x2 : Int32) (Q : Int32 → Lf → Prop) (vNq : Lf) (t0 : Int32) : Prop := ((x1 = (2 : Int32) → (pX9_plan_J62 x1 x2 Q  vNq)) ∧ (¬ x1 = (2 : Int32) → (pX9_within x2 (0 : Int32) t0 (fun r8 => ((¬ r8 = 0 → (pX9_plan_J62 x1 x2 Q  vNq)) ∧ (r8 = 0 → (Q (-2 : Int32) vNq)))))))
def pX9_plan (vNq : Lf) (x1 : Int32) (x2 : Int32) (Q : Int32 → Lf → Prop) : Prop := ((¬ x1 = (-1 : Int32) → (pX9_within x1 (0 : Int32) (3 : Int32) (fun r2 => ((¬ r2 = 0 → ((¬ x1 = 0 → (pX9_plan_J42 x1 x2 Q  vNq (7 : Int32))) ∧ (x1 = 0 → (pX9_plan_J42 x1 x2 Q  vNq (99 : Int32))))) ∧ (r2 = 0 → (Q (-1 : Int32) vNq)))))) ∧ (x1 = (-1 : Int32) → (Q (0 : Int32) (st vNq 0 0 (0 : Int32)))))
abbrev rmX9_plan : Room := { frames := 1, cells := 0, slots := 0, locals := 24 }
abbrev wdX9_plan : List Cond := Cond.code yX9_plan cX9_plan 5 (some .int) :: TB
theorem hdSX9_plan : (yX9_plan).cls ≠ "java/lang/invoke/MethodHandle" ∧ (yX9_plan).cls ≠ "java/lang/invoke/VarHandle" ∧ (parseMethodDescriptor (yX9_plan).desc).map (fun d => d.parameters.length) = some 2 := by decide +kernel
theorem hdX9_plan : (yX9_plan).cls = RX9 ∧ (yX9_plan).cls ≠ "java/lang/invoke/MethodHandle" ∧ (yX9_plan).cls ≠ "java/lang/invoke/VarHandle" ∧ (parseMethodDescriptor (yX9_plan).desc).map (fun d => d.parameters.length) = some 2 := ⟨rfl, hdSX9_plan⟩
set_option maxHeartbeats 4000000 in
set_option maxRecDepth 100000 in
theorem kX9_plan {l : Launch} {D : va_G} {cI cJ cT : ClassId} (d : Nat → Nat) (dN : Nat → Nat) (dI : Nat → Nat) (dT : Nat → Nat) (dNc : Nat → Nat) (dNcj : Nat → Nat) (dNcs : Nat → Nat) (dNcp : Nat → Nat) (dNw : Nat → Nat) (dx : Nat → Nat) (dtt : Nat) (dNg : Nat → Nat) (dNn : Nat → Nat) (dNq : Nat → Nat)  (v : Lf) (vNq : Lf) (x1 : Int32) (x2 : Int32) {Q : Int32 → Lf → Prop} (sz : Nat) (h : pX9_plan vNq x1 x2 Q) : Met l yX9_plan wdX9_plan rmX9_plan (Pz D (tyL cI cJ cT) [.ref (d 0), .int x1, .int x2] ((wX9 d (dN 0) (dI 0) (dT 0) (dNc 0) (dNcj 0) (dNcs 0) (dNcp 0) (dNw 0) (dx 0) dtt v) ++ ((wX8 dN (dNc 0) (dNw 0) (dNg 0) (dNn 0) (dNq 0)) ++ (wX4 cI 24 dNq vNq))) sz) (va_Qi (fun (r : Int32) (u : Lf) => Q r u) (Bz D (tyL cI cJ cT) ((wX9 d (dN 0) (dI 0) (dT 0) (dNc 0) (dNcj 0) (dNcs 0) (dNcp 0) (dNw 0) (dx 0) dtt v) ++ ((wX8 dN (dNc 0) (dNw 0) (dNg 0) (dNn 0) (dNq 0)) ++ (wX4 cI 24 dNq vNq))) sz (fun (u : Lf) => ((wX9 d (dN 0) (dI 0) (dT 0) (dNc 0) (dNcj 0) (dNcs 0) (dNcp 0) (dNw 0) (dx 0) dtt v) ++ ((wX8 dN (dNc 0) (dNw 0) (dNg 0) (dNn 0) (dNq 0)) ++ (wX4 cI 24 dNq u))))) (va_A ((wX9 d (dN 0) (dI 0) (dT 0) (dNc 0) (dNcj 0) (dNcs 0) (dNcp 0) (dNw 0) (dx 0) dtt v) ++ ((wX8 dN (dNc 0) (dNw 0) (dNg 0) (dNn 0) (dNq 0)) ++ (wX4 cI 24 dNq vNq))) sz)) 0 0 (va_A ((wX9 d (dN 0) (dI 0) (dT 0) (dNc 0) (dNcj 0) (dNcs 0) (dNcp 0) (dNw 0) (dx 0) dtt v) ++ ((wX8 dN (dNc 0) (dNw 0) (dNg 0) (dNn 0) (dNq 0)) ++ (wX4 cI 24 dNq vNq))) sz) := by
  refine z_meti (cc := cX9_plan) (maxL := 5) (own := RX9) (lv0 := [(0, .ref (d 0)), (1, .int x1), (2, .int x2)]) (by decide) rfl rfl (Nat.le_of_ble_eq_true rfl) rfl ?_
  intro p e s m args below meth c A QQ C hin hret
  have J62 : ∀ (vNq : Lf), pX9_plan_J62 x1 x2 Q vNq → ZZ p l e rmX9_plan s m args below meth c D A 5 0 0 QQ 62 ((wX9 d (dN 0) (dI 0) (dT 0) (dNc 0) (dNcj 0) (dNcs 0) (dNcp 0) (dNw 0) (dx 0) dtt v) ++ ((wX8 dN (dNc 0) (dNw 0) (dNg 0) (dNn 0) (dNq 0)) ++ (wX4 cI 24 dNq vNq))) [(1, .int x1), (2, .int x2), (3, .ref (dNq 0))] [] := by
    intro  vNq h
    refine z_aload_n (pc := 62) C 2 dX9_plan_62 rfl ?_
    refine z_iload_n (pc := 63) C 0 dX9_plan_63 rfl ?_
    refine z_iload_n (pc := 64) C 1 dX9_plan_64 rfl ?_
    refine z_iconst (pc := 65) (v := 0) C dX9_plan_65 (by decide) ?_
    refine z_calli (pc := 66) (wr := ((wX9 d (dN 0) (dI 0) (dT 0) (dNc 0) (dNcj 0) (dNcs 0) (dNcp 0) (dNw 0) (dx 0) dtt v) ++ (wX8 dN (dNc 0) (dNw 0) (dNg 0) (dNn 0) (dNq 0)))) (w1 := fun (u : Lf) => (wX4 cI 24 dNq u)) (w2 := fun (u : Lf) => ((wX9 d (dN 0) (dI 0) (dT 0) (dNc 0) (dNcj 0) (dNcs 0) (dNcp 0) (dNw 0) (dx 0) dtt v) ++ ((wX8 dN (dNc 0) (dNw 0) (dNg 0) (dNn 0) (dNq 0)) ++ (wX4 cI 24 dNq u)))) C (z_runV (pc := 66) (wc := (wX4 cI 24 dNq vNq)) (As := [.int x1, .int x2, .int (0 : Int32)]) C (fun sz => kX4_add dNq 24 vNq x1 x2 (0 : Int32) sz h) [2, 3] rfl (by decide) (gdV wq142 wq699 wq145 wq146 wq48) rfl rfl rfl hdX4_add 2 rfl rfl rfl ⟨Nat.le_of_ble_eq_true rfl, Nat.le_of_ble_eq_true rfl⟩ rfl (Nat.le_of_ble_eq_true rfl) ⟨Nat.zero_le _, Nat.zero_le _⟩ dX9_plan_66) [2, 3] [0, 1] [0, 1, 2, 3] rfl rfl (by decide) (by decide) (fun _ => rfl) (by decide) (fun r6 u6 h => ?_)
    obtain ⟨vNq_6, hu6⟩ : ∃ z, z = u6 := ⟨_, rfl⟩
    subst hu6
    refine z_if_eq (pc := 69) (tgt := 79) C dX9_plan_69 (by decide) (fun c7 => ?_) (fun c7 => ?_)
    · have h := h.1 c7
      refine z_bipush (pc := 79) (v := -4) C dX9_plan_79 (by decide) ?_
      exact hret 81 _ _ (-4 : Int32) vNq_6 rfl h dX9_plan_81
    · have h := h.2 c7
      refine z_aload_n (pc := 72) C 2 dX9_plan_72 rfl ?_
      refine z_get (pc := 73) C uw4 2 rfl rfl 0 (by decide) wq676 rfl dX9_plan_73 ?_
      refine z_goto (pc := 76) (tgt := 81) C dX9_plan_76 (by decide) ?_
      exact hret 81 _ _ (vNq_6 0 0) vNq_6 rfl h dX9_plan_81
  have J42 : ∀ (vNq : Lf) (t0 : Int32), pX9_plan_J42 x1 x2 Q vNq t0 → ZZ p l e rmX9_plan s m args below meth c D A 5 0 0 QQ 42 ((wX9 d (dN 0) (dI 0) (dT 0) (dNc 0) (dNcj 0) (dNcs 0) (dNcp 0) (dNw 0) (dx 0) dtt v) ++ ((wX8 dN (dNc 0) (dNw 0) (dNg 0) (dNn 0) (dNq 0)) ++ (wX4 cI 24 dNq vNq))) [(1, .int x1), (2, .int x2), (3, .ref (dNq 0))] [.int t0] := by
    intro  vNq t0 h
    refine z_istore (pc := 42) (lv' := [(4, .int t0), (1, .int x1), (2, .int x2), (3, .ref (dNq 0))]) C dX9_plan_42 (by decide) rfl ?_
    refine z_iload_n (pc := 44) C 1 dX9_plan_44 rfl ?_
    refine z_iconst (pc := 45) (v := 2) C dX9_plan_45 (by decide) ?_
    refine z_icmp_eq (pc := 46) (tgt := 62) C dX9_plan_46 (by decide) (fun c5 => ?_) (fun c5 => ?_)
    · have h := h.1 c5
      refine z_sub (lv' := [(1, .int x1), (2, .int x2), (3, .ref (dNq 0))]) [1, 2, 3] rfl ?_
      exact J62  vNq h
    · have h := h.2 c5
      refine z_iload_n (pc := 49) C 2 dX9_plan_49 rfl ?_
      refine z_iconst (pc := 50) (v := 0) C dX9_plan_50 (by decide) ?_
      refine z_iload (pc := 51) C 0 dX9_plan_51 rfl ?_
      refine z_call0i (pc := 53) C (z_runS (pc := 53) (wc := ([] : va_W)) (As := [.int x2, .int (0 : Int32), .int t0]) C (fun sz => kX9_within x2 (0 : Int32) t0 sz h) [] rfl (by decide) (gdS wq366 wq553 wq373 wq112) rfl rfl rfl hdSX9_within ⟨Nat.le_of_ble_eq_true rfl, Nat.le_of_ble_eq_true rfl⟩ rfl (Nat.le_of_ble_eq_true rfl) ⟨Nat.zero_le _, Nat.zero_le _⟩ dX9_plan_53) (fun r8 u8 h => ?_)
      refine z_if_ne (pc := 56) (tgt := 62) C dX9_plan_56 (by decide) (fun c9 => ?_) (fun c9 => ?_)
      · have h := h.1 c9
        refine z_sub (lv' := [(1, .int x1), (2, .int x2), (3, .ref (dNq 0))]) [1, 2, 3] rfl ?_
        exact J62  vNq h
      · have h := h.2 c9
        refine z_bipush (pc := 59) (v := -2) C dX9_plan_59 (by decide) ?_
        exact hret 61 _ _ (-2 : Int32) vNq rfl h dX9_plan_61
  refine z_aload_n (pc := 0) C 0 dX9_plan_0 rfl ?_
  refine z_get (pc := 1) C uw9 0 rfl rfl 0 (by decide) wq526 rfl dX9_plan_1 ?_
  refine z_get (pc := 4) C uw8 1 rfl rfl 4 (by decide) wq769 rfl dX9_plan_4 ?_
  refine z_astore_n (pc := 7) (lv' := [(3, .ref (dNq 0)), (0, .ref (d 0)), (1, .int x1), (2, .int x2)]) C dX9_plan_7 (by decide) rfl ?_
  refine z_iload_n (pc := 8) C 2 dX9_plan_8 rfl ?_
  refine z_iconst (pc := 9) (v := -1) C dX9_plan_9 (by decide) ?_
  refine z_icmp_ne (pc := 10) (tgt := 20) C dX9_plan_10 (by decide) (fun c1 => ?_) (fun c1 => ?_)
  · have h := h.1 c1
    refine z_iload_n (pc := 20) C 2 dX9_plan_20 rfl ?_
    refine z_iconst (pc := 21) (v := 0) C dX9_plan_21 (by decide) ?_
    refine z_iconst (pc := 22) (v := 3) C dX9_plan_22 (by decide) ?_
    refine z_call0i (pc := 23) C (z_runS (pc := 23) (wc := ([] : va_W)) (As := [.int x1, .int (0 : Int32), .int (3 : Int32)]) C (fun sz => kX9_within x1 (0 : Int32) (3 : Int32) sz h) [] rfl (by decide) (gdS wq366 wq553 wq373 wq112) rfl rfl rfl hdSX9_within ⟨Nat.le_of_ble_eq_true rfl, Nat.le_of_ble_eq_true rfl⟩ rfl (Nat.le_of_ble_eq_true rfl) ⟨Nat.zero_le _, Nat.zero_le _⟩ dX9_plan_23) (fun r2 u2 h => ?_)
    refine z_if_ne (pc := 26) (tgt := 31) C dX9_plan_26 (by decide) (fun c3 => ?_) (fun c3 => ?_)
    · have h := h.1 c3
      refine z_iload_n (pc := 31) C 2 dX9_plan_31 rfl ?_
      refine z_if_ne (pc := 32) (tgt := 40) C dX9_plan_32 (by decide) (fun c4 => ?_) (fun c4 => ?_)
      · have h := h.1 c4
        refine z_bipush (pc := 40) (v := 7) C dX9_plan_40 (by decide) ?_
        refine z_sub (lv' := [(1, .int x1), (2, .int x2), (3, .ref (dNq 0))]) [2, 3, 0] rfl ?_
        exact J42  vNq (7 : Int32) h
      · have h := h.2 c4
        refine z_bipush (pc := 35) (v := 99) C dX9_plan_35 (by decide) ?_
        refine z_goto (pc := 37) (tgt := 42) C dX9_plan_37 (by decide) ?_
        refine z_sub (lv' := [(1, .int x1), (2, .int x2), (3, .ref (dNq 0))]) [2, 3, 0] rfl ?_
        exact J42  vNq (99 : Int32) h
    · have h := h.2 c3
      refine z_iconst (pc := 29) (v := -1) C dX9_plan_29 (by decide) ?_
      exact hret 30 _ _ (-1 : Int32) vNq rfl h dX9_plan_30
  · have h := h.2 c1
    refine z_aload_n (pc := 13) C 0 dX9_plan_13 rfl ?_
    refine z_iconst (pc := 14) (v := 0) C dX9_plan_14 (by decide) ?_
    refine z_put (pc := 15) (ws' := ((wX9 d (dN 0) (dI 0) (dT 0) (dNc 0) (dNcj 0) (dNcs 0) (dNcp 0) (dNw 0) (dx 0) dtt v) ++ ((wX8 dN (dNc 0) (dNw 0) (dNg 0) (dNn 0) (dNq 0)) ++ (wX4 cI 24 dNq (st vNq 0 0 (0 : Int32)))))) C uw4 tyX4 tyX4_ok nmX4 2 rfl rfl 0 (by decide) wq676 rfl rfl rfl (Nat.le_of_ble_eq_true rfl) dX9_plan_15 (set_r (k := 1) (i := 1) rfl (set_r (k := 1) (i := 0) rfl sX4_f0)) ?_
    refine z_iconst (pc := 18) (v := 0) C dX9_plan_18 (by decide) ?_
    exact hret 19 _ _ (0 : Int32) (st vNq 0 0 (0 : Int32)) rfl h dX9_plan_19

def pX9_ends_L46 (vNc : Lf) (vNcj : Lf) (vNcs : Lf) (vNcp : Lf) (vNcr : Lf) (vNq : Lf) (x1 : Int32) (Q : Int32 → Lf → Lf → Lf → Lf → Lf → Lf → Prop) : Nat → Lf → Lf → Lf → Lf → Lf → Lf → Int32 → Prop
  | 0, _, _, _, _, _, _, _ => False
  | n46 + 1, v, vT, vTj, vTs, vTp, vTr, x3 => (((vNq 0 0) ≤ x3 → ((¬ x1 = 0 → (Q (vT 0 10) v vT vTj vTs vTp vTr)) ∧ (x1 = 0 → (Q (vT 0 9) v vT vTj vTs vTp vTr)))) ∧ (¬ (vNq 0 0) ≤ x3 → (pX4_at 24 vNq x3 (0 : Int32) (fun r9 => (pX4_at 24 vNq x3 (1 : Int32) (fun r10 => (pX0_obey vT vTj vTs vTp vTr r9 r10 (fun vT_11 vTs_11 vTp_11 vTr_11 => (pX9_ends_L46 vNc vNcj vNcs vNcp vNcr vNq x1 Q n46 v vT_11 vTj vTs_11 vTp_11 vTr_11 (x3 + 1))))))))))
def pX9_ends (v : Lf) (vNc : Lf) (vNcj : Lf) (vNcs : Lf) (vNcp : Lf) (vNcr : Lf) (vNq : Lf) (vT : Lf) (vTj : Lf) (vTs : Lf) (vTp : Lf) (vTr : Lf) (x1 : Int32) (Q : Int32 → Lf → Lf → Lf → Lf → Lf → Lf → Prop) : Prop := (pX9_within x1 (0 : Int32) (1 : Int32) (fun r1 => ((¬ r1 = 0 → (pX8_plannedSeconds vNq (fun r3 => (pX9_refusalOf v vNc r3 (792 : Int32) (1 : Int32) (fun r4 v_4 => ((r4 = 0 → (pX0_copyFrom vT vNc vNcj vNcs vNcp vNcr vTj vTs vTp vTr (fun vT_6 vTj_6 vTs_6 vTp_6 vTr_6 => (∃ n46, pX9_ends_L46 vNc vNcj vNcs vNcp vNcr vNq x1 Q  n46 v_4 vT_6 vTj_6 vTs_6 vTp_6 vTr_6 (0 : Int32))))) ∧ (¬ r4 = 0 → (Q r4 v_4 vT vTj vTs vTp vTr)))))))) ∧ (r1 = 0 → (Q (-1 : Int32) v vT vTj vTs vTp vTr)))))
abbrev rmX9_ends : Room := { frames := 6, cells := 0, slots := 0, locals := 211 }
abbrev wdX9_ends : List Cond := Cond.code yX9_ends cX9_ends 4 (some .int) :: TB
theorem hdSX9_ends : (yX9_ends).cls ≠ "java/lang/invoke/MethodHandle" ∧ (yX9_ends).cls ≠ "java/lang/invoke/VarHandle" ∧ (parseMethodDescriptor (yX9_ends).desc).map (fun d => d.parameters.length) = some 1 := by decide +kernel
theorem hdX9_ends : (yX9_ends).cls = RX9 ∧ (yX9_ends).cls ≠ "java/lang/invoke/MethodHandle" ∧ (yX9_ends).cls ≠ "java/lang/invoke/VarHandle" ∧ (parseMethodDescriptor (yX9_ends).desc).map (fun d => d.parameters.length) = some 1 := ⟨rfl, hdSX9_ends⟩
set_option maxHeartbeats 4000000 in
set_option maxRecDepth 100000 in
theorem kX9_ends {l : Launch} {D : va_G} {cI cJ cT : ClassId} (d : Nat → Nat) (dN : Nat → Nat) (dI : Nat → Nat) (dT : Nat → Nat) (dNc : Nat → Nat) (dNcj : Nat → Nat) (dNcs : Nat → Nat) (dNcp : Nat → Nat) (dNw : Nat → Nat) (dx : Nat → Nat) (dtt : Nat) (dNg : Nat → Nat) (dNn : Nat → Nat) (dNq : Nat → Nat) (dNcr : Nat → Nat) (dTj : Nat → Nat) (dTs : Nat → Nat) (dTp : Nat → Nat) (dTr : Nat → Nat)  (v : Lf) (vNc : Lf) (vNcj : Lf) (vNcs : Lf) (vNcp : Lf) (vNcr : Lf) (vNq : Lf) (vT : Lf) (vTj : Lf) (vTs : Lf) (vTp : Lf) (vTr : Lf) (x1 : Int32) {Q : Int32 → Lf → Lf → Lf → Lf → Lf → Lf → Prop} (sz : Nat) (h : pX9_ends v vNc vNcj vNcs vNcp vNcr vNq vT vTj vTs vTp vTr x1 Q) : Met l yX9_ends wdX9_ends rmX9_ends (Pz D (tyL cI cJ cT) [.ref (d 0), .int x1] ((wX9 d (dN 0) (dI 0) (dT 0) (dNc 0) (dNcj 0) (dNcs 0) (dNcp 0) (dNw 0) (dx 0) dtt v) ++ ((wX8 dN (dNc 0) (dNw 0) (dNg 0) (dNn 0) (dNq 0)) ++ ((wX0 dNc (dNcj 0) (dNcs 0) (dNcp 0) (dNcr 0) vNc) ++ ((wX1 cI dNcj vNcj) ++ ((wX5 cI dNcs vNcs) ++ ((wX2 cI dNcp vNcp) ++ ((wX4 cI 72 dNcr vNcr) ++ ((wX4 cI 24 dNq vNq) ++ ((wX0 dT (dTj 0) (dTs 0) (dTp 0) (dTr 0) vT) ++ ((wX1 cI dTj vTj) ++ ((wX5 cI dTs vTs) ++ ((wX2 cI dTp vTp) ++ (wX4 cI 72 dTr vTr))))))))))))) sz) (va_Qi (fun (r : Int32) (u : Lf × Lf × Lf × Lf × Lf × Lf) => Q r u.1 u.2.1 u.2.2.1 u.2.2.2.1 u.2.2.2.2.1 u.2.2.2.2.2) (Bz D (tyL cI cJ cT) ((wX9 d (dN 0) (dI 0) (dT 0) (dNc 0) (dNcj 0) (dNcs 0) (dNcp 0) (dNw 0) (dx 0) dtt v) ++ ((wX8 dN (dNc 0) (dNw 0) (dNg 0) (dNn 0) (dNq 0)) ++ ((wX0 dNc (dNcj 0) (dNcs 0) (dNcp 0) (dNcr 0) vNc) ++ ((wX1 cI dNcj vNcj) ++ ((wX5 cI dNcs vNcs) ++ ((wX2 cI dNcp vNcp) ++ ((wX4 cI 72 dNcr vNcr) ++ ((wX4 cI 24 dNq vNq) ++ ((wX0 dT (dTj 0) (dTs 0) (dTp 0) (dTr 0) vT) ++ ((wX1 cI dTj vTj) ++ ((wX5 cI dTs vTs) ++ ((wX2 cI dTp vTp) ++ (wX4 cI 72 dTr vTr))))))))))))) sz (fun (u : Lf × Lf × Lf × Lf × Lf × Lf) => ((wX9 d (dN 0) (dI 0) (dT 0) (dNc 0) (dNcj 0) (dNcs 0) (dNcp 0) (dNw 0) (dx 0) dtt u.1) ++ ((wX8 dN (dNc 0) (dNw 0) (dNg 0) (dNn 0) (dNq 0)) ++ ((wX0 dNc (dNcj 0) (dNcs 0) (dNcp 0) (dNcr 0) vNc) ++ ((wX1 cI dNcj vNcj) ++ ((wX5 cI dNcs vNcs) ++ ((wX2 cI dNcp vNcp) ++ ((wX4 cI 72 dNcr vNcr) ++ ((wX4 cI 24 dNq vNq) ++ ((wX0 dT (dTj 0) (dTs 0) (dTp 0) (dTr 0) u.2.1) ++ ((wX1 cI dTj u.2.2.1) ++ ((wX5 cI dTs u.2.2.2.1) ++ ((wX2 cI dTp u.2.2.2.2.1) ++ (wX4 cI 72 dTr u.2.2.2.2.2))))))))))))))) (va_A ((wX9 d (dN 0) (dI 0) (dT 0) (dNc 0) (dNcj 0) (dNcs 0) (dNcp 0) (dNw 0) (dx 0) dtt v) ++ ((wX8 dN (dNc 0) (dNw 0) (dNg 0) (dNn 0) (dNq 0)) ++ ((wX0 dNc (dNcj 0) (dNcs 0) (dNcp 0) (dNcr 0) vNc) ++ ((wX1 cI dNcj vNcj) ++ ((wX5 cI dNcs vNcs) ++ ((wX2 cI dNcp vNcp) ++ ((wX4 cI 72 dNcr vNcr) ++ ((wX4 cI 24 dNq vNq) ++ ((wX0 dT (dTj 0) (dTs 0) (dTp 0) (dTr 0) vT) ++ ((wX1 cI dTj vTj) ++ ((wX5 cI dTs vTs) ++ ((wX2 cI dTp vTp) ++ (wX4 cI 72 dTr vTr))))))))))))) sz)) 0 0 (va_A ((wX9 d (dN 0) (dI 0) (dT 0) (dNc 0) (dNcj 0) (dNcs 0) (dNcp 0) (dNw 0) (dx 0) dtt v) ++ ((wX8 dN (dNc 0) (dNw 0) (dNg 0) (dNn 0) (dNq 0)) ++ ((wX0 dNc (dNcj 0) (dNcs 0) (dNcp 0) (dNcr 0) vNc) ++ ((wX1 cI dNcj vNcj) ++ ((wX5 cI dNcs vNcs) ++ ((wX2 cI dNcp vNcp) ++ ((wX4 cI 72 dNcr vNcr) ++ ((wX4 cI 24 dNq vNq) ++ ((wX0 dT (dTj 0) (dTs 0) (dTp 0) (dTr 0) vT) ++ ((wX1 cI dTj vTj) ++ ((wX5 cI dTs vTs) ++ ((wX2 cI dTp vTp) ++ (wX4 cI 72 dTr vTr))))))))))))) sz) := by
  refine z_meti (cc := cX9_ends) (maxL := 4) (own := RX9) (lv0 := [(0, .ref (d 0)), (1, .int x1)]) (by decide) rfl rfl (Nat.le_of_ble_eq_true rfl) rfl ?_
  intro p e s m args below meth c A QQ C hin hret
  have L46 : ∀ (n46 : Nat) (v : Lf) (vT : Lf) (vTj : Lf) (vTs : Lf) (vTp : Lf) (vTr : Lf) (x3 : Int32), pX9_ends_L46 vNc vNcj vNcs vNcp vNcr vNq x1 Q n46 v vT vTj vTs vTp vTr x3 → ZZ p l e rmX9_ends s m args below meth c D A 4 0 0 QQ 46 ((wX9 d (dN 0) (dI 0) (dT 0) (dNc 0) (dNcj 0) (dNcs 0) (dNcp 0) (dNw 0) (dx 0) dtt v) ++ ((wX8 dN (dNc 0) (dNw 0) (dNg 0) (dNn 0) (dNq 0)) ++ ((wX0 dNc (dNcj 0) (dNcs 0) (dNcp 0) (dNcr 0) vNc) ++ ((wX1 cI dNcj vNcj) ++ ((wX5 cI dNcs vNcs) ++ ((wX2 cI dNcp vNcp) ++ ((wX4 cI 72 dNcr vNcr) ++ ((wX4 cI 24 dNq vNq) ++ ((wX0 dT (dTj 0) (dTs 0) (dTp 0) (dTr 0) vT) ++ ((wX1 cI dTj vTj) ++ ((wX5 cI dTs vTs) ++ ((wX2 cI dTp vTp) ++ (wX4 cI 72 dTr vTr))))))))))))) [(0, .ref (d 0)), (1, .int x1), (3, .int x3)] [] := by
    intro n46
    induction n46 with
    | zero => intro v vT vTj vTs vTp vTr x3 h; exact False.elim h
    | succ n46 ih46 =>
      intro v vT vTj vTs vTp vTr x3 h
      refine z_iload_n (pc := 46) C 2 dX9_ends_46 rfl ?_
      refine z_aload_n (pc := 47) C 0 dX9_ends_47 rfl ?_
      refine z_get (pc := 48) C uw9 0 rfl rfl 0 (by decide) wq526 rfl dX9_ends_48 ?_
      refine z_get (pc := 51) C uw8 1 rfl rfl 4 (by decide) wq769 rfl dX9_ends_51 ?_
      refine z_get (pc := 54) C uw4 23 rfl rfl 0 (by decide) wq676 rfl dX9_ends_54 ?_
      refine z_icmp_ge (pc := 57) (tgt := 97) C dX9_ends_57 (by decide) (fun c7 => ?_) (fun c7 => ?_)
      · have h := h.1 c7
        refine z_iload_n (pc := 97) C 1 dX9_ends_97 rfl ?_
        refine z_if_ne (pc := 98) (tgt := 111) C dX9_ends_98 (by decide) (fun c8 => ?_) (fun c8 => ?_)
        · have h := h.1 c8
          refine z_aload_n (pc := 111) C 0 dX9_ends_111 rfl ?_
          refine z_get (pc := 112) C uw9 0 rfl rfl 2 (by decide) wq529 rfl dX9_ends_112 ?_
          refine z_get (pc := 115) C uw0 25 rfl rfl 10 (by decide) wq629 rfl dX9_ends_115 ?_
          exact hret 118 _ _ (vT 0 10) (v, vT, vTj, vTs, vTp, vTr) rfl h dX9_ends_118
        · have h := h.2 c8
          refine z_aload_n (pc := 101) C 0 dX9_ends_101 rfl ?_
          refine z_get (pc := 102) C uw9 0 rfl rfl 2 (by decide) wq529 rfl dX9_ends_102 ?_
          refine z_get (pc := 105) C uw0 25 rfl rfl 9 (by decide) wq733 rfl dX9_ends_105 ?_
          refine z_goto (pc := 108) (tgt := 118) C dX9_ends_108 (by decide) ?_
          exact hret 118 _ _ (vT 0 9) (v, vT, vTj, vTs, vTp, vTr) rfl h dX9_ends_118
      · have h := h.2 c7
        refine z_aload_n (pc := 60) C 0 dX9_ends_60 rfl ?_
        refine z_get (pc := 61) C uw9 0 rfl rfl 2 (by decide) wq529 rfl dX9_ends_61 ?_
        refine z_aload_n (pc := 64) C 0 dX9_ends_64 rfl ?_
        refine z_get (pc := 65) C uw9 0 rfl rfl 0 (by decide) wq526 rfl dX9_ends_65 ?_
        refine z_get (pc := 68) C uw8 1 rfl rfl 4 (by decide) wq769 rfl dX9_ends_68 ?_
        refine z_iload_n (pc := 71) C 2 dX9_ends_71 rfl ?_
        refine z_iconst (pc := 72) (v := 0) C dX9_ends_72 (by decide) ?_
        refine z_callRi (pc := 73) C (z_runV (pc := 73) (wc := (wX4 cI 24 dNq vNq)) (As := [.int x3, .int (0 : Int32)]) C (fun sz => kX4_at dNq 24 vNq x3 (0 : Int32) sz h) [23, 24] rfl (by decide) (gdV wq288 wq677 wq292 wq293 wq48) rfl rfl rfl hdX4_at 23 rfl rfl rfl ⟨Nat.le_of_ble_eq_true rfl, Nat.le_of_ble_eq_true rfl⟩ rfl (Nat.le_of_ble_eq_true rfl) ⟨Nat.zero_le _, Nat.zero_le _⟩ dX9_ends_73) [23, 24] rfl (by decide) (fun r9 u9 h => ?_)
        refine z_aload_n (pc := 76) C 0 dX9_ends_76 rfl ?_
        refine z_get (pc := 77) C uw9 0 rfl rfl 0 (by decide) wq526 rfl dX9_ends_77 ?_
        refine z_get (pc := 80) C uw8 1 rfl rfl 4 (by decide) wq769 rfl dX9_ends_80 ?_
        refine z_iload_n (pc := 83) C 2 dX9_ends_83 rfl ?_
        refine z_iconst (pc := 84) (v := 1) C dX9_ends_84 (by decide) ?_
        refine z_callRi (pc := 85) C (z_runV (pc := 85) (wc := (wX4 cI 24 dNq vNq)) (As := [.int x3, .int (1 : Int32)]) C (fun sz => kX4_at dNq 24 vNq x3 (1 : Int32) sz h) [23, 24] rfl (by decide) (gdV wq288 wq677 wq292 wq293 wq48) rfl rfl rfl hdX4_at 23 rfl rfl rfl ⟨Nat.le_of_ble_eq_true rfl, Nat.le_of_ble_eq_true rfl⟩ rfl (Nat.le_of_ble_eq_true rfl) ⟨Nat.zero_le _, Nat.zero_le _⟩ dX9_ends_85) [23, 24] rfl (by decide) (fun r10 u10 h => ?_)
        refine z_callv (pc := 88) (wr := ((wX9 d (dN 0) (dI 0) (dT 0) (dNc 0) (dNcj 0) (dNcs 0) (dNcp 0) (dNw 0) (dx 0) dtt v) ++ ((wX8 dN (dNc 0) (dNw 0) (dNg 0) (dNn 0) (dNq 0)) ++ ((wX0 dNc (dNcj 0) (dNcs 0) (dNcp 0) (dNcr 0) vNc) ++ ((wX1 cI dNcj vNcj) ++ ((wX5 cI dNcs vNcs) ++ ((wX2 cI dNcp vNcp) ++ ((wX4 cI 72 dNcr vNcr) ++ (wX4 cI 24 dNq vNq))))))))) (w1 := fun (u : Lf × Lf × Lf × Lf) => ((wX0 dT (dTj 0) (dTs 0) (dTp 0) (dTr 0) u.1) ++ ((wX1 cI dTj vTj) ++ ((wX5 cI dTs u.2.1) ++ ((wX2 cI dTp u.2.2.1) ++ (wX4 cI 72 dTr u.2.2.2)))))) (w2 := fun (u : Lf × Lf × Lf × Lf) => ((wX9 d (dN 0) (dI 0) (dT 0) (dNc 0) (dNcj 0) (dNcs 0) (dNcp 0) (dNw 0) (dx 0) dtt v) ++ ((wX8 dN (dNc 0) (dNw 0) (dNg 0) (dNn 0) (dNq 0)) ++ ((wX0 dNc (dNcj 0) (dNcs 0) (dNcp 0) (dNcr 0) vNc) ++ ((wX1 cI dNcj vNcj) ++ ((wX5 cI dNcs vNcs) ++ ((wX2 cI dNcp vNcp) ++ ((wX4 cI 72 dNcr vNcr) ++ ((wX4 cI 24 dNq vNq) ++ ((wX0 dT (dTj 0) (dTs 0) (dTp 0) (dTr 0) u.1) ++ ((wX1 cI dTj vTj) ++ ((wX5 cI dTs u.2.1) ++ ((wX2 cI dTp u.2.2.1) ++ (wX4 cI 72 dTr u.2.2.2)))))))))))))) C (z_runV (pc := 88) (wc := ((wX0 dT (dTj 0) (dTs 0) (dTp 0) (dTr 0) vT) ++ ((wX1 cI dTj vTj) ++ ((wX5 cI dTs vTs) ++ ((wX2 cI dTp vTp) ++ (wX4 cI 72 dTr vTr)))))) (As := [.int r9, .int r10]) C (fun sz => kX0_obey dT dTj dTs dTp dTr vT vTj vTs vTp vTr r9 r10 sz h) [25, 26, 27, 28, 29, 30, 31, 32, 33, 34, 35, 36, 37, 38, 39, 40, 41, 42, 43, 44, 45] rfl (by decide) (gdV wq264 wq773 wq774 wq775 wq108) rfl rfl rfl hdX0_obey 25 rfl rfl rfl ⟨Nat.le_of_ble_eq_true rfl, Nat.le_of_ble_eq_true rfl⟩ rfl (Nat.le_of_ble_eq_true rfl) ⟨Nat.zero_le _, Nat.zero_le _⟩ dX9_ends_88) [25, 26, 27, 28, 29, 30, 31, 32, 33, 34, 35, 36, 37, 38, 39, 40, 41, 42, 43, 44, 45] [0, 1, 2, 3, 4, 5, 6, 7, 8, 9, 10, 11, 12, 13, 14, 15, 16, 17, 18, 19, 20, 21, 22, 23, 24] [0, 1, 2, 3, 4, 5, 6, 7, 8, 9, 10, 11, 12, 13, 14, 15, 16, 17, 18, 19, 20, 21, 22, 23, 24, 25, 26, 27, 28, 29, 30, 31, 32, 33, 34, 35, 36, 37, 38, 39, 40, 41, 42, 43, 44, 45] rfl rfl (by decide) (by decide) (fun _ => rfl) (by decide) (fun u11 h => ?_)
        obtain ⟨vT_11, vTs_11, vTp_11, vTr_11⟩ := u11
        dsimp only at h
        refine z_iinc (pc := 91) (v := (x3 + 1)) (lv' := [(3, .int (x3 + 1)), (0, .ref (d 0)), (1, .int x1)]) C 2 dX9_ends_91 rfl rfl (by decide) rfl ?_
        refine z_goto (pc := 94) (tgt := 46) C dX9_ends_94 (by decide) ?_
        refine z_sub (lv' := [(0, .ref (d 0)), (1, .int x1), (3, .int (x3 + 1))]) [1, 2, 0] rfl ?_
        exact ih46 v vT_11 vTj vTs_11 vTp_11 vTr_11 (x3 + 1) h
  refine z_iload_n (pc := 0) C 1 dX9_ends_0 rfl ?_
  refine z_iconst (pc := 1) (v := 0) C dX9_ends_1 (by decide) ?_
  refine z_iconst (pc := 2) (v := 1) C dX9_ends_2 (by decide) ?_
  refine z_call0i (pc := 3) C (z_runS (pc := 3) (wc := ([] : va_W)) (As := [.int x1, .int (0 : Int32), .int (1 : Int32)]) C (fun sz => kX9_within x1 (0 : Int32) (1 : Int32) sz h) [] rfl (by decide) (gdS wq366 wq553 wq373 wq112) rfl rfl rfl hdSX9_within ⟨Nat.le_of_ble_eq_true rfl, Nat.le_of_ble_eq_true rfl⟩ rfl (Nat.le_of_ble_eq_true rfl) ⟨Nat.zero_le _, Nat.zero_le _⟩ dX9_ends_3) (fun r1 u1 h => ?_)
  refine z_if_ne (pc := 6) (tgt := 11) C dX9_ends_6 (by decide) (fun c2 => ?_) (fun c2 => ?_)
  · have h := h.1 c2
    refine z_aload_n (pc := 11) C 0 dX9_ends_11 rfl ?_
    refine z_aload_n (pc := 12) C 0 dX9_ends_12 rfl ?_
    refine z_get (pc := 13) C uw9 0 rfl rfl 0 (by decide) wq526 rfl dX9_ends_13 ?_
    refine z_callRi (pc := 16) C (z_runV (pc := 16) (wc := ((wX8 dN (dNc 0) (dNw 0) (dNg 0) (dNn 0) (dNq 0)) ++ (wX4 cI 24 dNq vNq))) (As := []) C (fun sz => kX8_plannedSeconds dN dNc dNw dNg dNn dNq vNq sz h) [1, 23, 24] rfl (by decide) (gdV wq522 wq770 wq771 wq772 wq505) rfl rfl rfl hdX8_plannedSeconds 1 rfl rfl rfl ⟨Nat.le_of_ble_eq_true rfl, Nat.le_of_ble_eq_true rfl⟩ rfl (Nat.le_of_ble_eq_true rfl) ⟨Nat.zero_le _, Nat.zero_le _⟩ dX9_ends_16) [1, 23, 24] rfl (by decide) (fun r3 u3 h => ?_)
    refine z_sipush (pc := 19) (v := 792) C dX9_ends_19 (by decide) ?_
    refine z_iconst (pc := 22) (v := 1) C dX9_ends_22 (by decide) ?_
    refine z_calli (pc := 23) (wr := ((wX8 dN (dNc 0) (dNw 0) (dNg 0) (dNn 0) (dNq 0)) ++ ((wX1 cI dNcj vNcj) ++ ((wX5 cI dNcs vNcs) ++ ((wX2 cI dNcp vNcp) ++ ((wX4 cI 72 dNcr vNcr) ++ ((wX4 cI 24 dNq vNq) ++ ((wX0 dT (dTj 0) (dTs 0) (dTp 0) (dTr 0) vT) ++ ((wX1 cI dTj vTj) ++ ((wX5 cI dTs vTs) ++ ((wX2 cI dTp vTp) ++ (wX4 cI 72 dTr vTr)))))))))))) (w1 := fun (u : Lf) => ((wX9 d (dN 0) (dI 0) (dT 0) (dNc 0) (dNcj 0) (dNcs 0) (dNcp 0) (dNw 0) (dx 0) dtt u) ++ (wX0 dNc (dNcj 0) (dNcs 0) (dNcp 0) (dNcr 0) vNc))) (w2 := fun (u : Lf) => ((wX9 d (dN 0) (dI 0) (dT 0) (dNc 0) (dNcj 0) (dNcs 0) (dNcp 0) (dNw 0) (dx 0) dtt u) ++ ((wX8 dN (dNc 0) (dNw 0) (dNg 0) (dNn 0) (dNq 0)) ++ ((wX0 dNc (dNcj 0) (dNcs 0) (dNcp 0) (dNcr 0) vNc) ++ ((wX1 cI dNcj vNcj) ++ ((wX5 cI dNcs vNcs) ++ ((wX2 cI dNcp vNcp) ++ ((wX4 cI 72 dNcr vNcr) ++ ((wX4 cI 24 dNq vNq) ++ ((wX0 dT (dTj 0) (dTs 0) (dTp 0) (dTr 0) vT) ++ ((wX1 cI dTj vTj) ++ ((wX5 cI dTs vTs) ++ ((wX2 cI dTp vTp) ++ (wX4 cI 72 dTr vTr)))))))))))))) C (z_runV (pc := 23) (wc := ((wX9 d (dN 0) (dI 0) (dT 0) (dNc 0) (dNcj 0) (dNcs 0) (dNcp 0) (dNw 0) (dx 0) dtt v) ++ (wX0 dNc (dNcj 0) (dNcs 0) (dNcp 0) (dNcr 0) vNc))) (As := [.int r3, .int (792 : Int32), .int (1 : Int32)]) C (fun sz => kX9_refusalOf d dN dI dT dNc dNcj dNcs dNcp dNw dx dtt dNcr v vNc r3 (792 : Int32) (1 : Int32) sz h) [0, 2] rfl (by decide) (gdV wq625 wq630 wq631 wq632 wq112) rfl rfl rfl hdX9_refusalOf 0 rfl rfl rfl ⟨Nat.le_of_ble_eq_true rfl, Nat.le_of_ble_eq_true rfl⟩ rfl (Nat.le_of_ble_eq_true rfl) ⟨Nat.zero_le _, Nat.zero_le _⟩ dX9_ends_23) [0, 2] [1, 3, 4, 5, 6, 7, 8, 9, 10, 11, 12, 13, 14, 15, 16, 17, 18, 19, 20, 21, 22, 23, 24, 25, 26, 27, 28, 29, 30, 31, 32, 33, 34, 35, 36, 37, 38, 39, 40, 41, 42, 43, 44, 45] [44, 0, 45, 1, 2, 3, 4, 5, 6, 7, 8, 9, 10, 11, 12, 13, 14, 15, 16, 17, 18, 19, 20, 21, 22, 23, 24, 25, 26, 27, 28, 29, 30, 31, 32, 33, 34, 35, 36, 37, 38, 39, 40, 41, 42, 43] rfl rfl (by decide) (by decide) (fun _ => rfl) (by decide) (fun r4 u4 h => ?_)
    obtain ⟨v_4, hu4⟩ : ∃ z, z = u4 := ⟨_, rfl⟩
    subst hu4
    refine z_istore_n (pc := 26) (lv' := [(2, .int r4), (0, .ref (d 0)), (1, .int x1)]) C dX9_ends_26 (by decide) rfl ?_
    refine z_iload_n (pc := 27) C 0 dX9_ends_27 rfl ?_
    refine z_if_eq (pc := 28) (tgt := 33) C dX9_ends_28 (by decide) (fun c5 => ?_) (fun c5 => ?_)
    · have h := h.1 c5
      refine z_aload_n (pc := 33) C 1 dX9_ends_33 rfl ?_
      refine z_get (pc := 34) C uw9 0 rfl rfl 2 (by decide) wq529 rfl dX9_ends_34 ?_
      refine z_aload_n (pc := 37) C 1 dX9_ends_37 rfl ?_
      refine z_get (pc := 38) C uw9 0 rfl rfl 3 (by decide) wq531 rfl dX9_ends_38 ?_
      refine z_callv (pc := 41) (wr := ((wX9 d (dN 0) (dI 0) (dT 0) (dNc 0) (dNcj 0) (dNcs 0) (dNcp 0) (dNw 0) (dx 0) dtt v_4) ++ ((wX8 dN (dNc 0) (dNw 0) (dNg 0) (dNn 0) (dNq 0)) ++ (wX4 cI 24 dNq vNq)))) (w1 := fun (u : Lf × Lf × Lf × Lf × Lf) => ((wX0 dT (dTj 0) (dTs 0) (dTp 0) (dTr 0) u.1) ++ ((wX0 dNc (dNcj 0) (dNcs 0) (dNcp 0) (dNcr 0) vNc) ++ ((wX1 cI dNcj vNcj) ++ ((wX5 cI dNcs vNcs) ++ ((wX2 cI dNcp vNcp) ++ ((wX4 cI 72 dNcr vNcr) ++ ((wX1 cI dTj u.2.1) ++ ((wX5 cI dTs u.2.2.1) ++ ((wX2 cI dTp u.2.2.2.1) ++ (wX4 cI 72 dTr u.2.2.2.2))))))))))) (w2 := fun (u : Lf × Lf × Lf × Lf × Lf) => ((wX9 d (dN 0) (dI 0) (dT 0) (dNc 0) (dNcj 0) (dNcs 0) (dNcp 0) (dNw 0) (dx 0) dtt v_4) ++ ((wX8 dN (dNc 0) (dNw 0) (dNg 0) (dNn 0) (dNq 0)) ++ ((wX0 dNc (dNcj 0) (dNcs 0) (dNcp 0) (dNcr 0) vNc) ++ ((wX1 cI dNcj vNcj) ++ ((wX5 cI dNcs vNcs) ++ ((wX2 cI dNcp vNcp) ++ ((wX4 cI 72 dNcr vNcr) ++ ((wX4 cI 24 dNq vNq) ++ ((wX0 dT (dTj 0) (dTs 0) (dTp 0) (dTr 0) u.1) ++ ((wX1 cI dTj u.2.1) ++ ((wX5 cI dTs u.2.2.1) ++ ((wX2 cI dTp u.2.2.2.1) ++ (wX4 cI 72 dTr u.2.2.2.2)))))))))))))) C (z_runV (pc := 41) (wc := ((wX0 dT (dTj 0) (dTs 0) (dTp 0) (dTr 0) vT) ++ ((wX0 dNc (dNcj 0) (dNcs 0) (dNcp 0) (dNcr 0) vNc) ++ ((wX1 cI dNcj vNcj) ++ ((wX5 cI dNcs vNcs) ++ ((wX2 cI dNcp vNcp) ++ ((wX4 cI 72 dNcr vNcr) ++ ((wX1 cI dTj vTj) ++ ((wX5 cI dTs vTs) ++ ((wX2 cI dTp vTp) ++ (wX4 cI 72 dTr vTr))))))))))) (As := [.ref (dNc 0)]) C (fun sz => kX0_copyFrom dT dTj dTs dTp dTr dNc dNcj dNcs dNcp dNcr vT vNc vNcj vNcs vNcp vNcr vTj vTs vTp vTr sz h) [25, 2, 3, 4, 5, 6, 7, 8, 9, 10, 11, 12, 13, 14, 15, 16, 17, 18, 19, 20, 21, 22, 26, 27, 28, 29, 30, 31, 32, 33, 34, 35, 36, 37, 38, 39, 40, 41, 42, 43, 44, 45] rfl (by decide) (gdV wq101 wq728 wq487 wq488 wq108) rfl rfl rfl hdX0_copyFrom 25 rfl rfl rfl ⟨Nat.le_of_ble_eq_true rfl, Nat.le_of_ble_eq_true rfl⟩ rfl (Nat.le_of_ble_eq_true rfl) ⟨Nat.zero_le _, Nat.zero_le _⟩ dX9_ends_41) [25, 2, 3, 4, 5, 6, 7, 8, 9, 10, 11, 12, 13, 14, 15, 16, 17, 18, 19, 20, 21, 22, 26, 27, 28, 29, 30, 31, 32, 33, 34, 35, 36, 37, 38, 39, 40, 41, 42, 43, 44, 45] [0, 1, 23, 24] [0, 1, 5, 6, 7, 8, 9, 10, 11, 12, 13, 14, 15, 16, 17, 18, 19, 20, 21, 22, 23, 24, 25, 2, 3, 4, 26, 27, 28, 29, 30, 31, 32, 33, 34, 35, 36, 37, 38, 39, 40, 41, 42, 43, 44, 45] rfl rfl (by decide) (by decide) (fun _ => rfl) (by decide) (fun u6 h => ?_)
      obtain ⟨vT_6, vTj_6, vTs_6, vTp_6, vTr_6⟩ := u6
      dsimp only at h
      refine z_iconst (pc := 44) (v := 0) C dX9_ends_44 (by decide) ?_
      refine z_istore_n (pc := 45) (lv' := [(3, .int (0 : Int32)), (2, .int r4), (0, .ref (d 0)), (1, .int x1)]) C dX9_ends_45 (by decide) rfl ?_
      obtain ⟨n46, h⟩ := h
      refine z_sub (lv' := [(0, .ref (d 0)), (1, .int x1), (3, .int (0 : Int32))]) [2, 3, 0] rfl ?_
      exact L46  n46 v_4 vT_6 vTj_6 vTs_6 vTp_6 vTr_6 (0 : Int32) h
    · have h := h.2 c5
      refine z_iload_n (pc := 31) C 0 dX9_ends_31 rfl ?_
      exact hret 32 _ _ r4 (v_4, vT, vTj, vTs, vTp, vTr) rfl h dX9_ends_32
  · have h := h.2 c2
    refine z_iconst (pc := 9) (v := -1) C dX9_ends_9 (by decide) ?_
    exact hret 10 _ _ (-1 : Int32) (v, vT, vTj, vTs, vTp, vTr) rfl h dX9_ends_10

def pX9_image (v : Lf) (vNc : Lf) (vNcj : Lf) (vNcs : Lf) (vNcp : Lf) (vNcr : Lf) (vNw : Lf) (vNg : Lf) (vNn : Lf) (vNq : Lf) (vIc : Lf) (vIcj : Lf) (vIcs : Lf) (vIcp : Lf) (vIcr : Lf) (vIw : Lf) (vIg : Lf) (vIn : Lf) (vIq : Lf)  (Q : Int32 → Lf → Lf → Lf → Lf → Lf → Lf → Lf → Lf → Lf → Lf → Prop) : Prop := (pX8_copyFrom vNc vNcj vNcs vNcp vNcr vNw vNg vNn vNq vIc vIcj vIcs vIcp vIcr vIw vIg vIn vIq (fun vIc_1 vIcj_1 vIcs_1 vIcp_1 vIcr_1 vIw_1 vIg_1 vIn_1 vIq_1 => (Q (vNc 0 5) (st v 0 10 (1 : Int32)) vIc_1 vIcj_1 vIcs_1 vIcp_1 vIcr_1 vIw_1 vIg_1 vIn_1 vIq_1)))
abbrev rmX9_image : Room := { frames := 4, cells := 0, slots := 0, locals := 163 }
abbrev wdX9_image : List Cond := Cond.code yX9_image cX9_image 1 (some .int) :: TB
theorem hdSX9_image : (yX9_image).cls ≠ "java/lang/invoke/MethodHandle" ∧ (yX9_image).cls ≠ "java/lang/invoke/VarHandle" ∧ (parseMethodDescriptor (yX9_image).desc).map (fun d => d.parameters.length) = some 0 := by decide +kernel
theorem hdX9_image : (yX9_image).cls = RX9 ∧ (yX9_image).cls ≠ "java/lang/invoke/MethodHandle" ∧ (yX9_image).cls ≠ "java/lang/invoke/VarHandle" ∧ (parseMethodDescriptor (yX9_image).desc).map (fun d => d.parameters.length) = some 0 := ⟨rfl, hdSX9_image⟩
set_option maxHeartbeats 4000000 in
set_option maxRecDepth 100000 in
theorem kX9_image {l : Launch} {D : va_G} {cI cJ cT : ClassId} (d : Nat → Nat) (dN : Nat → Nat) (dI : Nat → Nat) (dT : Nat → Nat) (dNc : Nat → Nat) (dNcj : Nat → Nat) (dNcs : Nat → Nat) (dNcp : Nat → Nat) (dNw : Nat → Nat) (dx : Nat → Nat) (dtt : Nat) (dNg : Nat → Nat) (dNn : Nat → Nat) (dNq : Nat → Nat) (dNcr : Nat → Nat) (dIc : Nat → Nat) (dIw : Nat → Nat) (dIg : Nat → Nat) (dIn : Nat → Nat) (dIq : Nat → Nat) (dIcj : Nat → Nat) (dIcs : Nat → Nat) (dIcp : Nat → Nat) (dIcr : Nat → Nat)  (v : Lf) (vNc : Lf) (vNcj : Lf) (vNcs : Lf) (vNcp : Lf) (vNcr : Lf) (vNw : Lf) (vNg : Lf) (vNn : Lf) (vNq : Lf) (vIc : Lf) (vIcj : Lf) (vIcs : Lf) (vIcp : Lf) (vIcr : Lf) (vIw : Lf) (vIg : Lf) (vIn : Lf) (vIq : Lf)  {Q : Int32 → Lf → Lf → Lf → Lf → Lf → Lf → Lf → Lf → Lf → Lf → Prop} (sz : Nat) (h : pX9_image v vNc vNcj vNcs vNcp vNcr vNw vNg vNn vNq vIc vIcj vIcs vIcp vIcr vIw vIg vIn vIq Q) : Met l yX9_image wdX9_image rmX9_image (Pz D (tyL cI cJ cT) [.ref (d 0)] ((wX9 d (dN 0) (dI 0) (dT 0) (dNc 0) (dNcj 0) (dNcs 0) (dNcp 0) (dNw 0) (dx 0) dtt v) ++ ((wX8 dN (dNc 0) (dNw 0) (dNg 0) (dNn 0) (dNq 0)) ++ ((wX0 dNc (dNcj 0) (dNcs 0) (dNcp 0) (dNcr 0) vNc) ++ ((wX1 cI dNcj vNcj) ++ ((wX5 cI dNcs vNcs) ++ ((wX2 cI dNcp vNcp) ++ ((wX4 cI 72 dNcr vNcr) ++ ((wX7 cI dNw vNw) ++ ((wX4 cI 24 dNg vNg) ++ ((wX4 cI 15 dNn vNn) ++ ((wX4 cI 24 dNq vNq) ++ ((wX8 dI (dIc 0) (dIw 0) (dIg 0) (dIn 0) (dIq 0)) ++ ((wX0 dIc (dIcj 0) (dIcs 0) (dIcp 0) (dIcr 0) vIc) ++ ((wX1 cI dIcj vIcj) ++ ((wX5 cI dIcs vIcs) ++ ((wX2 cI dIcp vIcp) ++ ((wX4 cI 72 dIcr vIcr) ++ ((wX7 cI dIw vIw) ++ ((wX4 cI 24 dIg vIg) ++ ((wX4 cI 15 dIn vIn) ++ (wX4 cI 24 dIq vIq))))))))))))))))))))) sz) (va_Qi (fun (r : Int32) (u : Lf × Lf × Lf × Lf × Lf × Lf × Lf × Lf × Lf × Lf) => Q r u.1 u.2.1 u.2.2.1 u.2.2.2.1 u.2.2.2.2.1 u.2.2.2.2.2.1 u.2.2.2.2.2.2.1 u.2.2.2.2.2.2.2.1 u.2.2.2.2.2.2.2.2.1 u.2.2.2.2.2.2.2.2.2) (Bz D (tyL cI cJ cT) ((wX9 d (dN 0) (dI 0) (dT 0) (dNc 0) (dNcj 0) (dNcs 0) (dNcp 0) (dNw 0) (dx 0) dtt v) ++ ((wX8 dN (dNc 0) (dNw 0) (dNg 0) (dNn 0) (dNq 0)) ++ ((wX0 dNc (dNcj 0) (dNcs 0) (dNcp 0) (dNcr 0) vNc) ++ ((wX1 cI dNcj vNcj) ++ ((wX5 cI dNcs vNcs) ++ ((wX2 cI dNcp vNcp) ++ ((wX4 cI 72 dNcr vNcr) ++ ((wX7 cI dNw vNw) ++ ((wX4 cI 24 dNg vNg) ++ ((wX4 cI 15 dNn vNn) ++ ((wX4 cI 24 dNq vNq) ++ ((wX8 dI (dIc 0) (dIw 0) (dIg 0) (dIn 0) (dIq 0)) ++ ((wX0 dIc (dIcj 0) (dIcs 0) (dIcp 0) (dIcr 0) vIc) ++ ((wX1 cI dIcj vIcj) ++ ((wX5 cI dIcs vIcs) ++ ((wX2 cI dIcp vIcp) ++ ((wX4 cI 72 dIcr vIcr) ++ ((wX7 cI dIw vIw) ++ ((wX4 cI 24 dIg vIg) ++ ((wX4 cI 15 dIn vIn) ++ (wX4 cI 24 dIq vIq))))))))))))))))))))) sz (fun (u : Lf × Lf × Lf × Lf × Lf × Lf × Lf × Lf × Lf × Lf) => ((wX9 d (dN 0) (dI 0) (dT 0) (dNc 0) (dNcj 0) (dNcs 0) (dNcp 0) (dNw 0) (dx 0) dtt u.1) ++ ((wX8 dN (dNc 0) (dNw 0) (dNg 0) (dNn 0) (dNq 0)) ++ ((wX0 dNc (dNcj 0) (dNcs 0) (dNcp 0) (dNcr 0) vNc) ++ ((wX1 cI dNcj vNcj) ++ ((wX5 cI dNcs vNcs) ++ ((wX2 cI dNcp vNcp) ++ ((wX4 cI 72 dNcr vNcr) ++ ((wX7 cI dNw vNw) ++ ((wX4 cI 24 dNg vNg) ++ ((wX4 cI 15 dNn vNn) ++ ((wX4 cI 24 dNq vNq) ++ ((wX8 dI (dIc 0) (dIw 0) (dIg 0) (dIn 0) (dIq 0)) ++ ((wX0 dIc (dIcj 0) (dIcs 0) (dIcp 0) (dIcr 0) u.2.1) ++ ((wX1 cI dIcj u.2.2.1) ++ ((wX5 cI dIcs u.2.2.2.1) ++ ((wX2 cI dIcp u.2.2.2.2.1) ++ ((wX4 cI 72 dIcr u.2.2.2.2.2.1) ++ ((wX7 cI dIw u.2.2.2.2.2.2.1) ++ ((wX4 cI 24 dIg u.2.2.2.2.2.2.2.1) ++ ((wX4 cI 15 dIn u.2.2.2.2.2.2.2.2.1) ++ (wX4 cI 24 dIq u.2.2.2.2.2.2.2.2.2))))))))))))))))))))))) (va_A ((wX9 d (dN 0) (dI 0) (dT 0) (dNc 0) (dNcj 0) (dNcs 0) (dNcp 0) (dNw 0) (dx 0) dtt v) ++ ((wX8 dN (dNc 0) (dNw 0) (dNg 0) (dNn 0) (dNq 0)) ++ ((wX0 dNc (dNcj 0) (dNcs 0) (dNcp 0) (dNcr 0) vNc) ++ ((wX1 cI dNcj vNcj) ++ ((wX5 cI dNcs vNcs) ++ ((wX2 cI dNcp vNcp) ++ ((wX4 cI 72 dNcr vNcr) ++ ((wX7 cI dNw vNw) ++ ((wX4 cI 24 dNg vNg) ++ ((wX4 cI 15 dNn vNn) ++ ((wX4 cI 24 dNq vNq) ++ ((wX8 dI (dIc 0) (dIw 0) (dIg 0) (dIn 0) (dIq 0)) ++ ((wX0 dIc (dIcj 0) (dIcs 0) (dIcp 0) (dIcr 0) vIc) ++ ((wX1 cI dIcj vIcj) ++ ((wX5 cI dIcs vIcs) ++ ((wX2 cI dIcp vIcp) ++ ((wX4 cI 72 dIcr vIcr) ++ ((wX7 cI dIw vIw) ++ ((wX4 cI 24 dIg vIg) ++ ((wX4 cI 15 dIn vIn) ++ (wX4 cI 24 dIq vIq))))))))))))))))))))) sz)) 0 0 (va_A ((wX9 d (dN 0) (dI 0) (dT 0) (dNc 0) (dNcj 0) (dNcs 0) (dNcp 0) (dNw 0) (dx 0) dtt v) ++ ((wX8 dN (dNc 0) (dNw 0) (dNg 0) (dNn 0) (dNq 0)) ++ ((wX0 dNc (dNcj 0) (dNcs 0) (dNcp 0) (dNcr 0) vNc) ++ ((wX1 cI dNcj vNcj) ++ ((wX5 cI dNcs vNcs) ++ ((wX2 cI dNcp vNcp) ++ ((wX4 cI 72 dNcr vNcr) ++ ((wX7 cI dNw vNw) ++ ((wX4 cI 24 dNg vNg) ++ ((wX4 cI 15 dNn vNn) ++ ((wX4 cI 24 dNq vNq) ++ ((wX8 dI (dIc 0) (dIw 0) (dIg 0) (dIn 0) (dIq 0)) ++ ((wX0 dIc (dIcj 0) (dIcs 0) (dIcp 0) (dIcr 0) vIc) ++ ((wX1 cI dIcj vIcj) ++ ((wX5 cI dIcs vIcs) ++ ((wX2 cI dIcp vIcp) ++ ((wX4 cI 72 dIcr vIcr) ++ ((wX7 cI dIw vIw) ++ ((wX4 cI 24 dIg vIg) ++ ((wX4 cI 15 dIn vIn) ++ (wX4 cI 24 dIq vIq))))))))))))))))))))) sz) := by
  refine z_meti (cc := cX9_image) (maxL := 1) (own := RX9) (lv0 := [(0, .ref (d 0))]) (by decide) rfl rfl (Nat.le_of_ble_eq_true rfl) rfl ?_
  intro p e s m args below meth c A QQ C hin hret
  refine z_aload_n (pc := 0) C 0 dX9_image_0 rfl ?_
  refine z_get (pc := 1) C uw9 0 rfl rfl 1 (by decide) wq527 rfl dX9_image_1 ?_
  refine z_aload_n (pc := 4) C 0 dX9_image_4 rfl ?_
  refine z_get (pc := 5) C uw9 0 rfl rfl 0 (by decide) wq526 rfl dX9_image_5 ?_
  refine z_callv (pc := 8) (wr := (wX9 d (dN 0) (dI 0) (dT 0) (dNc 0) (dNcj 0) (dNcs 0) (dNcp 0) (dNw 0) (dx 0) dtt v)) (w1 := fun (u : Lf × Lf × Lf × Lf × Lf × Lf × Lf × Lf × Lf) => ((wX8 dI (dIc 0) (dIw 0) (dIg 0) (dIn 0) (dIq 0)) ++ ((wX8 dN (dNc 0) (dNw 0) (dNg 0) (dNn 0) (dNq 0)) ++ ((wX0 dNc (dNcj 0) (dNcs 0) (dNcp 0) (dNcr 0) vNc) ++ ((wX1 cI dNcj vNcj) ++ ((wX5 cI dNcs vNcs) ++ ((wX2 cI dNcp vNcp) ++ ((wX4 cI 72 dNcr vNcr) ++ ((wX7 cI dNw vNw) ++ ((wX4 cI 24 dNg vNg) ++ ((wX4 cI 15 dNn vNn) ++ ((wX4 cI 24 dNq vNq) ++ ((wX0 dIc (dIcj 0) (dIcs 0) (dIcp 0) (dIcr 0) u.1) ++ ((wX1 cI dIcj u.2.1) ++ ((wX5 cI dIcs u.2.2.1) ++ ((wX2 cI dIcp u.2.2.2.1) ++ ((wX4 cI 72 dIcr u.2.2.2.2.1) ++ ((wX7 cI dIw u.2.2.2.2.2.1) ++ ((wX4 cI 24 dIg u.2.2.2.2.2.2.1) ++ ((wX4 cI 15 dIn u.2.2.2.2.2.2.2.1) ++ (wX4 cI 24 dIq u.2.2.2.2.2.2.2.2))))))))))))))))))))) (w2 := fun (u : Lf × Lf × Lf × Lf × Lf × Lf × Lf × Lf × Lf) => ((wX9 d (dN 0) (dI 0) (dT 0) (dNc 0) (dNcj 0) (dNcs 0) (dNcp 0) (dNw 0) (dx 0) dtt v) ++ ((wX8 dN (dNc 0) (dNw 0) (dNg 0) (dNn 0) (dNq 0)) ++ ((wX0 dNc (dNcj 0) (dNcs 0) (dNcp 0) (dNcr 0) vNc) ++ ((wX1 cI dNcj vNcj) ++ ((wX5 cI dNcs vNcs) ++ ((wX2 cI dNcp vNcp) ++ ((wX4 cI 72 dNcr vNcr) ++ ((wX7 cI dNw vNw) ++ ((wX4 cI 24 dNg vNg) ++ ((wX4 cI 15 dNn vNn) ++ ((wX4 cI 24 dNq vNq) ++ ((wX8 dI (dIc 0) (dIw 0) (dIg 0) (dIn 0) (dIq 0)) ++ ((wX0 dIc (dIcj 0) (dIcs 0) (dIcp 0) (dIcr 0) u.1) ++ ((wX1 cI dIcj u.2.1) ++ ((wX5 cI dIcs u.2.2.1) ++ ((wX2 cI dIcp u.2.2.2.1) ++ ((wX4 cI 72 dIcr u.2.2.2.2.1) ++ ((wX7 cI dIw u.2.2.2.2.2.1) ++ ((wX4 cI 24 dIg u.2.2.2.2.2.2.1) ++ ((wX4 cI 15 dIn u.2.2.2.2.2.2.2.1) ++ (wX4 cI 24 dIq u.2.2.2.2.2.2.2.2)))))))))))))))))))))) C (z_runV (pc := 8) (wc := ((wX8 dI (dIc 0) (dIw 0) (dIg 0) (dIn 0) (dIq 0)) ++ ((wX8 dN (dNc 0) (dNw 0) (dNg 0) (dNn 0) (dNq 0)) ++ ((wX0 dNc (dNcj 0) (dNcs 0) (dNcp 0) (dNcr 0) vNc) ++ ((wX1 cI dNcj vNcj) ++ ((wX5 cI dNcs vNcs) ++ ((wX2 cI dNcp vNcp) ++ ((wX4 cI 72 dNcr vNcr) ++ ((wX7 cI dNw vNw) ++ ((wX4 cI 24 dNg vNg) ++ ((wX4 cI 15 dNn vNn) ++ ((wX4 cI 24 dNq vNq) ++ ((wX0 dIc (dIcj 0) (dIcs 0) (dIcp 0) (dIcr 0) vIc) ++ ((wX1 cI dIcj vIcj) ++ ((wX5 cI dIcs vIcs) ++ ((wX2 cI dIcp vIcp) ++ ((wX4 cI 72 dIcr vIcr) ++ ((wX7 cI dIw vIw) ++ ((wX4 cI 24 dIg vIg) ++ ((wX4 cI 15 dIn vIn) ++ (wX4 cI 24 dIq vIq))))))))))))))))))))) (As := [.ref (dN 0)]) C (fun sz => kX8_copyFrom dI dIc dIw dIg dIn dIq dN dNc dNw dNg dNn dNq dNcj dNcs dNcp dNcr dIcj dIcs dIcp dIcr vNc vNcj vNcs vNcp vNcr vNw vNg vNn vNq vIc vIcj vIcs vIcp vIcr vIw vIg vIn vIq sz h) [31, 1, 2, 3, 4, 5, 6, 7, 8, 9, 10, 11, 12, 13, 14, 15, 16, 17, 18, 19, 20, 21, 22, 23, 24, 25, 26, 27, 28, 29, 30, 32, 33, 34, 35, 36, 37, 38, 39, 40, 41, 42, 43, 44, 45, 46, 47, 48, 49, 50, 51, 52, 53, 54, 55, 56, 57, 58, 59, 60] rfl (by decide) (gdV wq493 wq785 wq786 wq787 wq505) rfl rfl rfl hdX8_copyFrom 31 rfl rfl rfl ⟨Nat.le_of_ble_eq_true rfl, Nat.le_of_ble_eq_true rfl⟩ rfl (Nat.le_of_ble_eq_true rfl) ⟨Nat.zero_le _, Nat.zero_le _⟩ dX9_image_8) [31, 1, 2, 3, 4, 5, 6, 7, 8, 9, 10, 11, 12, 13, 14, 15, 16, 17, 18, 19, 20, 21, 22, 23, 24, 25, 26, 27, 28, 29, 30, 32, 33, 34, 35, 36, 37, 38, 39, 40, 41, 42, 43, 44, 45, 46, 47, 48, 49, 50, 51, 52, 53, 54, 55, 56, 57, 58, 59, 60] [0] [0, 2, 3, 4, 5, 6, 7, 8, 9, 10, 11, 12, 13, 14, 15, 16, 17, 18, 19, 20, 21, 22, 23, 24, 25, 26, 27, 28, 29, 30, 31, 1, 32, 33, 34, 35, 36, 37, 38, 39, 40, 41, 42, 43, 44, 45, 46, 47, 48, 49, 50, 51, 52, 53, 54, 55, 56, 57, 58, 59, 60] rfl rfl (by decide) (by decide) (fun _ => rfl) (by decide) (fun u1 h => ?_)
  obtain ⟨vIc_1, vIcj_1, vIcs_1, vIcp_1, vIcr_1, vIw_1, vIg_1, vIn_1, vIq_1⟩ := u1
  dsimp only at h
  refine z_aload_n (pc := 11) C 0 dX9_image_11 rfl ?_
  refine z_iconst (pc := 12) (v := 1) C dX9_image_12 (by decide) ?_
  refine z_put (pc := 13) (ws' := ((wX9 d (dN 0) (dI 0) (dT 0) (dNc 0) (dNcj 0) (dNcs 0) (dNcp 0) (dNw 0) (dx 0) dtt (st v 0 10 (1 : Int32))) ++ ((wX8 dN (dNc 0) (dNw 0) (dNg 0) (dNn 0) (dNq 0)) ++ ((wX0 dNc (dNcj 0) (dNcs 0) (dNcp 0) (dNcr 0) vNc) ++ ((wX1 cI dNcj vNcj) ++ ((wX5 cI dNcs vNcs) ++ ((wX2 cI dNcp vNcp) ++ ((wX4 cI 72 dNcr vNcr) ++ ((wX7 cI dNw vNw) ++ ((wX4 cI 24 dNg vNg) ++ ((wX4 cI 15 dNn vNn) ++ ((wX4 cI 24 dNq vNq) ++ ((wX8 dI (dIc 0) (dIw 0) (dIg 0) (dIn 0) (dIq 0)) ++ ((wX0 dIc (dIcj 0) (dIcs 0) (dIcp 0) (dIcr 0) vIc_1) ++ ((wX1 cI dIcj vIcj_1) ++ ((wX5 cI dIcs vIcs_1) ++ ((wX2 cI dIcp vIcp_1) ++ ((wX4 cI 72 dIcr vIcr_1) ++ ((wX7 cI dIw vIw_1) ++ ((wX4 cI 24 dIg vIg_1) ++ ((wX4 cI 15 dIn vIn_1) ++ (wX4 cI 24 dIq vIq_1)))))))))))))))))))))) C uw9 tyX9 tyX9_ok nmX9 0 rfl rfl 10 (by decide) wq784 rfl rfl rfl (Nat.le_of_ble_eq_true rfl) dX9_image_13 (set_l (Nat.le_of_ble_eq_true rfl) sX9_f10) ?_
  refine z_aload_n (pc := 16) C 0 dX9_image_16 rfl ?_
  refine z_get (pc := 17) C uw9 0 rfl rfl 3 (by decide) wq531 rfl dX9_image_17 ?_
  refine z_get (pc := 20) C uw0 2 rfl rfl 5 (by decide) wq730 rfl dX9_image_20 ?_
  exact hret 23 _ _ (vNc 0 5) ((st v 0 10 (1 : Int32)), vIc_1, vIcj_1, vIcs_1, vIcp_1, vIcr_1, vIw_1, vIg_1, vIn_1, vIq_1) rfl h dX9_image_23

def pX9_undo (v : Lf) (vNc : Lf) (vNcj : Lf) (vNcs : Lf) (vNcp : Lf) (vNcr : Lf) (vNw : Lf) (vNg : Lf) (vNn : Lf) (vNq : Lf) (vIc : Lf) (vIcj : Lf) (vIcs : Lf) (vIcp : Lf) (vIcr : Lf) (vIw : Lf) (vIg : Lf) (vIn : Lf) (vIq : Lf)  (Q : Int32 → Lf → Lf → Lf → Lf → Lf → Lf → Lf → Lf → Lf → Prop) : Prop := ((¬ (v 0 10) = 0 → (pX8_copyFrom vIc vIcj vIcs vIcp vIcr vIw vIg vIn vIq vNc vNcj vNcs vNcp vNcr vNw vNg vNn vNq (fun vNc_2 vNcj_2 vNcs_2 vNcp_2 vNcr_2 vNw_2 vNg_2 vNn_2 vNq_2 => (Q (vNc_2 0 5) vNc_2 vNcj_2 vNcs_2 vNcp_2 vNcr_2 vNw_2 vNg_2 vNn_2 vNq_2)))) ∧ ((v 0 10) = 0 → (Q (-3 : Int32) vNc vNcj vNcs vNcp vNcr vNw vNg vNn vNq)))
abbrev rmX9_undo : Room := { frames := 4, cells := 0, slots := 0, locals := 163 }
abbrev wdX9_undo : List Cond := Cond.code yX9_undo cX9_undo 1 (some .int) :: TB
theorem hdSX9_undo : (yX9_undo).cls ≠ "java/lang/invoke/MethodHandle" ∧ (yX9_undo).cls ≠ "java/lang/invoke/VarHandle" ∧ (parseMethodDescriptor (yX9_undo).desc).map (fun d => d.parameters.length) = some 0 := by decide +kernel
theorem hdX9_undo : (yX9_undo).cls = RX9 ∧ (yX9_undo).cls ≠ "java/lang/invoke/MethodHandle" ∧ (yX9_undo).cls ≠ "java/lang/invoke/VarHandle" ∧ (parseMethodDescriptor (yX9_undo).desc).map (fun d => d.parameters.length) = some 0 := ⟨rfl, hdSX9_undo⟩
set_option maxHeartbeats 4000000 in
set_option maxRecDepth 100000 in
theorem kX9_undo {l : Launch} {D : va_G} {cI cJ cT : ClassId} (d : Nat → Nat) (dN : Nat → Nat) (dI : Nat → Nat) (dT : Nat → Nat) (dNc : Nat → Nat) (dNcj : Nat → Nat) (dNcs : Nat → Nat) (dNcp : Nat → Nat) (dNw : Nat → Nat) (dx : Nat → Nat) (dtt : Nat) (dNg : Nat → Nat) (dNn : Nat → Nat) (dNq : Nat → Nat) (dNcr : Nat → Nat) (dIc : Nat → Nat) (dIw : Nat → Nat) (dIg : Nat → Nat) (dIn : Nat → Nat) (dIq : Nat → Nat) (dIcj : Nat → Nat) (dIcs : Nat → Nat) (dIcp : Nat → Nat) (dIcr : Nat → Nat)  (v : Lf) (vNc : Lf) (vNcj : Lf) (vNcs : Lf) (vNcp : Lf) (vNcr : Lf) (vNw : Lf) (vNg : Lf) (vNn : Lf) (vNq : Lf) (vIc : Lf) (vIcj : Lf) (vIcs : Lf) (vIcp : Lf) (vIcr : Lf) (vIw : Lf) (vIg : Lf) (vIn : Lf) (vIq : Lf)  {Q : Int32 → Lf → Lf → Lf → Lf → Lf → Lf → Lf → Lf → Lf → Prop} (sz : Nat) (h : pX9_undo v vNc vNcj vNcs vNcp vNcr vNw vNg vNn vNq vIc vIcj vIcs vIcp vIcr vIw vIg vIn vIq Q) : Met l yX9_undo wdX9_undo rmX9_undo (Pz D (tyL cI cJ cT) [.ref (d 0)] ((wX9 d (dN 0) (dI 0) (dT 0) (dNc 0) (dNcj 0) (dNcs 0) (dNcp 0) (dNw 0) (dx 0) dtt v) ++ ((wX8 dN (dNc 0) (dNw 0) (dNg 0) (dNn 0) (dNq 0)) ++ ((wX0 dNc (dNcj 0) (dNcs 0) (dNcp 0) (dNcr 0) vNc) ++ ((wX1 cI dNcj vNcj) ++ ((wX5 cI dNcs vNcs) ++ ((wX2 cI dNcp vNcp) ++ ((wX4 cI 72 dNcr vNcr) ++ ((wX7 cI dNw vNw) ++ ((wX4 cI 24 dNg vNg) ++ ((wX4 cI 15 dNn vNn) ++ ((wX4 cI 24 dNq vNq) ++ ((wX8 dI (dIc 0) (dIw 0) (dIg 0) (dIn 0) (dIq 0)) ++ ((wX0 dIc (dIcj 0) (dIcs 0) (dIcp 0) (dIcr 0) vIc) ++ ((wX1 cI dIcj vIcj) ++ ((wX5 cI dIcs vIcs) ++ ((wX2 cI dIcp vIcp) ++ ((wX4 cI 72 dIcr vIcr) ++ ((wX7 cI dIw vIw) ++ ((wX4 cI 24 dIg vIg) ++ ((wX4 cI 15 dIn vIn) ++ (wX4 cI 24 dIq vIq))))))))))))))))))))) sz) (va_Qi (fun (r : Int32) (u : Lf × Lf × Lf × Lf × Lf × Lf × Lf × Lf × Lf) => Q r u.1 u.2.1 u.2.2.1 u.2.2.2.1 u.2.2.2.2.1 u.2.2.2.2.2.1 u.2.2.2.2.2.2.1 u.2.2.2.2.2.2.2.1 u.2.2.2.2.2.2.2.2) (Bz D (tyL cI cJ cT) ((wX9 d (dN 0) (dI 0) (dT 0) (dNc 0) (dNcj 0) (dNcs 0) (dNcp 0) (dNw 0) (dx 0) dtt v) ++ ((wX8 dN (dNc 0) (dNw 0) (dNg 0) (dNn 0) (dNq 0)) ++ ((wX0 dNc (dNcj 0) (dNcs 0) (dNcp 0) (dNcr 0) vNc) ++ ((wX1 cI dNcj vNcj) ++ ((wX5 cI dNcs vNcs) ++ ((wX2 cI dNcp vNcp) ++ ((wX4 cI 72 dNcr vNcr) ++ ((wX7 cI dNw vNw) ++ ((wX4 cI 24 dNg vNg) ++ ((wX4 cI 15 dNn vNn) ++ ((wX4 cI 24 dNq vNq) ++ ((wX8 dI (dIc 0) (dIw 0) (dIg 0) (dIn 0) (dIq 0)) ++ ((wX0 dIc (dIcj 0) (dIcs 0) (dIcp 0) (dIcr 0) vIc) ++ ((wX1 cI dIcj vIcj) ++ ((wX5 cI dIcs vIcs) ++ ((wX2 cI dIcp vIcp) ++ ((wX4 cI 72 dIcr vIcr) ++ ((wX7 cI dIw vIw) ++ ((wX4 cI 24 dIg vIg) ++ ((wX4 cI 15 dIn vIn) ++ (wX4 cI 24 dIq vIq))))))))))))))))))))) sz (fun (u : Lf × Lf × Lf × Lf × Lf × Lf × Lf × Lf × Lf) => ((wX9 d (dN 0) (dI 0) (dT 0) (dNc 0) (dNcj 0) (dNcs 0) (dNcp 0) (dNw 0) (dx 0) dtt v) ++ ((wX8 dN (dNc 0) (dNw 0) (dNg 0) (dNn 0) (dNq 0)) ++ ((wX0 dNc (dNcj 0) (dNcs 0) (dNcp 0) (dNcr 0) u.1) ++ ((wX1 cI dNcj u.2.1) ++ ((wX5 cI dNcs u.2.2.1) ++ ((wX2 cI dNcp u.2.2.2.1) ++ ((wX4 cI 72 dNcr u.2.2.2.2.1) ++ ((wX7 cI dNw u.2.2.2.2.2.1) ++ ((wX4 cI 24 dNg u.2.2.2.2.2.2.1) ++ ((wX4 cI 15 dNn u.2.2.2.2.2.2.2.1) ++ ((wX4 cI 24 dNq u.2.2.2.2.2.2.2.2) ++ ((wX8 dI (dIc 0) (dIw 0) (dIg 0) (dIn 0) (dIq 0)) ++ ((wX0 dIc (dIcj 0) (dIcs 0) (dIcp 0) (dIcr 0) vIc) ++ ((wX1 cI dIcj vIcj) ++ ((wX5 cI dIcs vIcs) ++ ((wX2 cI dIcp vIcp) ++ ((wX4 cI 72 dIcr vIcr) ++ ((wX7 cI dIw vIw) ++ ((wX4 cI 24 dIg vIg) ++ ((wX4 cI 15 dIn vIn) ++ (wX4 cI 24 dIq vIq))))))))))))))))))))))) (va_A ((wX9 d (dN 0) (dI 0) (dT 0) (dNc 0) (dNcj 0) (dNcs 0) (dNcp 0) (dNw 0) (dx 0) dtt v) ++ ((wX8 dN (dNc 0) (dNw 0) (dNg 0) (dNn 0) (dNq 0)) ++ ((wX0 dNc (dNcj 0) (dNcs 0) (dNcp 0) (dNcr 0) vNc) ++ ((wX1 cI dNcj vNcj) ++ ((wX5 cI dNcs vNcs) ++ ((wX2 cI dNcp vNcp) ++ ((wX4 cI 72 dNcr vNcr) ++ ((wX7 cI dNw vNw) ++ ((wX4 cI 24 dNg vNg) ++ ((wX4 cI 15 dNn vNn) ++ ((wX4 cI 24 dNq vNq) ++ ((wX8 dI (dIc 0) (dIw 0) (dIg 0) (dIn 0) (dIq 0)) ++ ((wX0 dIc (dIcj 0) (dIcs 0) (dIcp 0) (dIcr 0) vIc) ++ ((wX1 cI dIcj vIcj) ++ ((wX5 cI dIcs vIcs) ++ ((wX2 cI dIcp vIcp) ++ ((wX4 cI 72 dIcr vIcr) ++ ((wX7 cI dIw vIw) ++ ((wX4 cI 24 dIg vIg) ++ ((wX4 cI 15 dIn vIn) ++ (wX4 cI 24 dIq vIq))))))))))))))))))))) sz)) 0 0 (va_A ((wX9 d (dN 0) (dI 0) (dT 0) (dNc 0) (dNcj 0) (dNcs 0) (dNcp 0) (dNw 0) (dx 0) dtt v) ++ ((wX8 dN (dNc 0) (dNw 0) (dNg 0) (dNn 0) (dNq 0)) ++ ((wX0 dNc (dNcj 0) (dNcs 0) (dNcp 0) (dNcr 0) vNc) ++ ((wX1 cI dNcj vNcj) ++ ((wX5 cI dNcs vNcs) ++ ((wX2 cI dNcp vNcp) ++ ((wX4 cI 72 dNcr vNcr) ++ ((wX7 cI dNw vNw) ++ ((wX4 cI 24 dNg vNg) ++ ((wX4 cI 15 dNn vNn) ++ ((wX4 cI 24 dNq vNq) ++ ((wX8 dI (dIc 0) (dIw 0) (dIg 0) (dIn 0) (dIq 0)) ++ ((wX0 dIc (dIcj 0) (dIcs 0) (dIcp 0) (dIcr 0) vIc) ++ ((wX1 cI dIcj vIcj) ++ ((wX5 cI dIcs vIcs) ++ ((wX2 cI dIcp vIcp) ++ ((wX4 cI 72 dIcr vIcr) ++ ((wX7 cI dIw vIw) ++ ((wX4 cI 24 dIg vIg) ++ ((wX4 cI 15 dIn vIn) ++ (wX4 cI 24 dIq vIq))))))))))))))))))))) sz) := by
  refine z_meti (cc := cX9_undo) (maxL := 1) (own := RX9) (lv0 := [(0, .ref (d 0))]) (by decide) rfl rfl (Nat.le_of_ble_eq_true rfl) rfl ?_
  intro p e s m args below meth c A QQ C hin hret
  refine z_aload_n (pc := 0) C 0 dX9_undo_0 rfl ?_
  refine z_get (pc := 1) C uw9 0 rfl rfl 10 (by decide) wq784 rfl dX9_undo_1 ?_
  refine z_if_ne (pc := 4) (tgt := 10) C dX9_undo_4 (by decide) (fun c1 => ?_) (fun c1 => ?_)
  · have h := h.1 c1
    refine z_aload_n (pc := 10) C 0 dX9_undo_10 rfl ?_
    refine z_get (pc := 11) C uw9 0 rfl rfl 0 (by decide) wq526 rfl dX9_undo_11 ?_
    refine z_aload_n (pc := 14) C 0 dX9_undo_14 rfl ?_
    refine z_get (pc := 15) C uw9 0 rfl rfl 1 (by decide) wq527 rfl dX9_undo_15 ?_
    refine z_callv (pc := 18) (wr := (wX9 d (dN 0) (dI 0) (dT 0) (dNc 0) (dNcj 0) (dNcs 0) (dNcp 0) (dNw 0) (dx 0) dtt v)) (w1 := fun (u : Lf × Lf × Lf × Lf × Lf × Lf × Lf × Lf × Lf) => ((wX8 dN (dNc 0) (dNw 0) (dNg 0) (dNn 0) (dNq 0)) ++ ((wX8 dI (dIc 0) (dIw 0) (dIg 0) (dIn 0) (dIq 0)) ++ ((wX0 dIc (dIcj 0) (dIcs 0) (dIcp 0) (dIcr 0) vIc) ++ ((wX1 cI dIcj vIcj) ++ ((wX5 cI dIcs vIcs) ++ ((wX2 cI dIcp vIcp) ++ ((wX4 cI 72 dIcr vIcr) ++ ((wX7 cI dIw vIw) ++ ((wX4 cI 24 dIg vIg) ++ ((wX4 cI 15 dIn vIn) ++ ((wX4 cI 24 dIq vIq) ++ ((wX0 dNc (dNcj 0) (dNcs 0) (dNcp 0) (dNcr 0) u.1) ++ ((wX1 cI dNcj u.2.1) ++ ((wX5 cI dNcs u.2.2.1) ++ ((wX2 cI dNcp u.2.2.2.1) ++ ((wX4 cI 72 dNcr u.2.2.2.2.1) ++ ((wX7 cI dNw u.2.2.2.2.2.1) ++ ((wX4 cI 24 dNg u.2.2.2.2.2.2.1) ++ ((wX4 cI 15 dNn u.2.2.2.2.2.2.2.1) ++ (wX4 cI 24 dNq u.2.2.2.2.2.2.2.2))))))))))))))))))))) (w2 := fun (u : Lf × Lf × Lf × Lf × Lf × Lf × Lf × Lf × Lf) => ((wX9 d (dN 0) (dI 0) (dT 0) (dNc 0) (dNcj 0) (dNcs 0) (dNcp 0) (dNw 0) (dx 0) dtt v) ++ ((wX8 dN (dNc 0) (dNw 0) (dNg 0) (dNn 0) (dNq 0)) ++ ((wX0 dNc (dNcj 0) (dNcs 0) (dNcp 0) (dNcr 0) u.1) ++ ((wX1 cI dNcj u.2.1) ++ ((wX5 cI dNcs u.2.2.1) ++ ((wX2 cI dNcp u.2.2.2.1) ++ ((wX4 cI 72 dNcr u.2.2.2.2.1) ++ ((wX7 cI dNw u.2.2.2.2.2.1) ++ ((wX4 cI 24 dNg u.2.2.2.2.2.2.1) ++ ((wX4 cI 15 dNn u.2.2.2.2.2.2.2.1) ++ ((wX4 cI 24 dNq u.2.2.2.2.2.2.2.2) ++ ((wX8 dI (dIc 0) (dIw 0) (dIg 0) (dIn 0) (dIq 0)) ++ ((wX0 dIc (dIcj 0) (dIcs 0) (dIcp 0) (dIcr 0) vIc) ++ ((wX1 cI dIcj vIcj) ++ ((wX5 cI dIcs vIcs) ++ ((wX2 cI dIcp vIcp) ++ ((wX4 cI 72 dIcr vIcr) ++ ((wX7 cI dIw vIw) ++ ((wX4 cI 24 dIg vIg) ++ ((wX4 cI 15 dIn vIn) ++ (wX4 cI 24 dIq vIq)))))))))))))))))))))) C (z_runV (pc := 18) (wc := ((wX8 dN (dNc 0) (dNw 0) (dNg 0) (dNn 0) (dNq 0)) ++ ((wX8 dI (dIc 0) (dIw 0) (dIg 0) (dIn 0) (dIq 0)) ++ ((wX0 dIc (dIcj 0) (dIcs 0) (dIcp 0) (dIcr 0) vIc) ++ ((wX1 cI dIcj vIcj) ++ ((wX5 cI dIcs vIcs) ++ ((wX2 cI dIcp vIcp) ++ ((wX4 cI 72 dIcr vIcr) ++ ((wX7 cI dIw vIw) ++ ((wX4 cI 24 dIg vIg) ++ ((wX4 cI 15 dIn vIn) ++ ((wX4 cI 24 dIq vIq) ++ ((wX0 dNc (dNcj 0) (dNcs 0) (dNcp 0) (dNcr 0) vNc) ++ ((wX1 cI dNcj vNcj) ++ ((wX5 cI dNcs vNcs) ++ ((wX2 cI dNcp vNcp) ++ ((wX4 cI 72 dNcr vNcr) ++ ((wX7 cI dNw vNw) ++ ((wX4 cI 24 dNg vNg) ++ ((wX4 cI 15 dNn vNn) ++ (wX4 cI 24 dNq vNq))))))))))))))))))))) (As := [.ref (dI 0)]) C (fun sz => kX8_copyFrom dN dNc dNw dNg dNn dNq dI dIc dIw dIg dIn dIq dIcj dIcs dIcp dIcr dNcj dNcs dNcp dNcr vIc vIcj vIcs vIcp vIcr vIw vIg vIn vIq vNc vNcj vNcs vNcp vNcr vNw vNg vNn vNq sz h) [1, 31, 32, 33, 34, 35, 36, 37, 38, 39, 40, 41, 42, 43, 44, 45, 46, 47, 48, 49, 50, 51, 52, 53, 54, 55, 56, 57, 58, 59, 60, 2, 3, 4, 5, 6, 7, 8, 9, 10, 11, 12, 13, 14, 15, 16, 17, 18, 19, 20, 21, 22, 23, 24, 25, 26, 27, 28, 29, 30] rfl (by decide) (gdV wq493 wq785 wq786 wq787 wq505) rfl rfl rfl hdX8_copyFrom 1 rfl rfl rfl ⟨Nat.le_of_ble_eq_true rfl, Nat.le_of_ble_eq_true rfl⟩ rfl (Nat.le_of_ble_eq_true rfl) ⟨Nat.zero_le _, Nat.zero_le _⟩ dX9_undo_18) [1, 31, 32, 33, 34, 35, 36, 37, 38, 39, 40, 41, 42, 43, 44, 45, 46, 47, 48, 49, 50, 51, 52, 53, 54, 55, 56, 57, 58, 59, 60, 2, 3, 4, 5, 6, 7, 8, 9, 10, 11, 12, 13, 14, 15, 16, 17, 18, 19, 20, 21, 22, 23, 24, 25, 26, 27, 28, 29, 30] [0] [0, 1, 32, 33, 34, 35, 36, 37, 38, 39, 40, 41, 42, 43, 44, 45, 46, 47, 48, 49, 50, 51, 52, 53, 54, 55, 56, 57, 58, 59, 60, 2, 3, 4, 5, 6, 7, 8, 9, 10, 11, 12, 13, 14, 15, 16, 17, 18, 19, 20, 21, 22, 23, 24, 25, 26, 27, 28, 29, 30, 31] rfl rfl (by decide) (by decide) (fun _ => rfl) (by decide) (fun u2 h => ?_)
    obtain ⟨vNc_2, vNcj_2, vNcs_2, vNcp_2, vNcr_2, vNw_2, vNg_2, vNn_2, vNq_2⟩ := u2
    dsimp only at h
    refine z_aload_n (pc := 21) C 0 dX9_undo_21 rfl ?_
    refine z_get (pc := 22) C uw9 0 rfl rfl 3 (by decide) wq531 rfl dX9_undo_22 ?_
    refine z_get (pc := 25) C uw0 2 rfl rfl 5 (by decide) wq730 rfl dX9_undo_25 ?_
    exact hret 28 _ _ (vNc_2 0 5) (vNc_2, vNcj_2, vNcs_2, vNcp_2, vNcr_2, vNw_2, vNg_2, vNn_2, vNq_2) rfl h dX9_undo_28
  · have h := h.2 c1
    refine z_bipush (pc := 7) (v := -3) C dX9_undo_7 (by decide) ?_
    exact hret 9 _ _ (-3 : Int32) (vNc, vNcj, vNcs, vNcp, vNcr, vNw, vNg, vNn, vNq) rfl h dX9_undo_9

def pX9_count (v : Lf) (vNcr : Lf) (vNw : Lf) (vNg : Lf) (vNn : Lf) (vNq : Lf) (vx : Lf) (x1 : Int32) (Q : Int32 → Prop) : Prop := ((x1 = 0 → (Q (vx 0 1) )) ∧ (¬ x1 = 0 → ((x1 = 1 → (Q (vNn 0 0) )) ∧ (¬ x1 = 1 → ((x1 = 2 → (Q (vNq 0 0) )) ∧ (¬ x1 = 2 → ((x1 = 3 → (Q (vNg 0 0) )) ∧ (¬ x1 = 3 → ((x1 = 4 → (Q (vNw 0 1) )) ∧ (¬ x1 = 4 → ((x1 = 5 → (Q (v 0 11) )) ∧ (¬ x1 = 5 → ((x1 = 6 → (Q (vNcr 0 0) )) ∧ (¬ x1 = 6 → ((x1 = 7 → (Q (vNw 0 0) )) ∧ (¬ x1 = 7 → (Q (-2 : Int32) )))))))))))))))))
abbrev rmX9_count : Room := { frames := 0, cells := 0, slots := 0, locals := 0 }
abbrev wdX9_count : List Cond := Cond.code yX9_count cX9_count 2 (some .int) :: TB
theorem hdSX9_count : (yX9_count).cls ≠ "java/lang/invoke/MethodHandle" ∧ (yX9_count).cls ≠ "java/lang/invoke/VarHandle" ∧ (parseMethodDescriptor (yX9_count).desc).map (fun d => d.parameters.length) = some 1 := by decide +kernel
theorem hdX9_count : (yX9_count).cls = RX9 ∧ (yX9_count).cls ≠ "java/lang/invoke/MethodHandle" ∧ (yX9_count).cls ≠ "java/lang/invoke/VarHandle" ∧ (parseMethodDescriptor (yX9_count).desc).map (fun d => d.parameters.length) = some 1 := ⟨rfl, hdSX9_count⟩
set_option maxHeartbeats 4000000 in
set_option maxRecDepth 100000 in
theorem kX9_count {l : Launch} {D : va_G} {cI cJ cT : ClassId} (d : Nat → Nat) (dN : Nat → Nat) (dI : Nat → Nat) (dT : Nat → Nat) (dNc : Nat → Nat) (dNcj : Nat → Nat) (dNcs : Nat → Nat) (dNcp : Nat → Nat) (dNw : Nat → Nat) (dx : Nat → Nat) (dtt : Nat) (dNg : Nat → Nat) (dNn : Nat → Nat) (dNq : Nat → Nat) (dNcr : Nat → Nat)  (v : Lf) (vNc : Lf) (vNcr : Lf) (vNw : Lf) (vNg : Lf) (vNn : Lf) (vNq : Lf) (vx : Lf) (x1 : Int32) {Q : Int32 → Prop} (sz : Nat) (h : pX9_count v vNcr vNw vNg vNn vNq vx x1 Q) : Met l yX9_count wdX9_count rmX9_count (Pz D (tyL cI cJ cT) [.ref (d 0), .int x1] ((wX9 d (dN 0) (dI 0) (dT 0) (dNc 0) (dNcj 0) (dNcs 0) (dNcp 0) (dNw 0) (dx 0) dtt v) ++ ((wX8 dN (dNc 0) (dNw 0) (dNg 0) (dNn 0) (dNq 0)) ++ ((wX0 dNc (dNcj 0) (dNcs 0) (dNcp 0) (dNcr 0) vNc) ++ ((wX4 cI 72 dNcr vNcr) ++ ((wX7 cI dNw vNw) ++ ((wX4 cI 24 dNg vNg) ++ ((wX4 cI 15 dNn vNn) ++ ((wX4 cI 24 dNq vNq) ++ (wX3 cI dx vx))))))))) sz) (va_Qi (fun (r : Int32) (u : Unit) => Q r) (Bz D (tyL cI cJ cT) ((wX9 d (dN 0) (dI 0) (dT 0) (dNc 0) (dNcj 0) (dNcs 0) (dNcp 0) (dNw 0) (dx 0) dtt v) ++ ((wX8 dN (dNc 0) (dNw 0) (dNg 0) (dNn 0) (dNq 0)) ++ ((wX0 dNc (dNcj 0) (dNcs 0) (dNcp 0) (dNcr 0) vNc) ++ ((wX4 cI 72 dNcr vNcr) ++ ((wX7 cI dNw vNw) ++ ((wX4 cI 24 dNg vNg) ++ ((wX4 cI 15 dNn vNn) ++ ((wX4 cI 24 dNq vNq) ++ (wX3 cI dx vx))))))))) sz (fun (u : Unit) => ((wX9 d (dN 0) (dI 0) (dT 0) (dNc 0) (dNcj 0) (dNcs 0) (dNcp 0) (dNw 0) (dx 0) dtt v) ++ ((wX8 dN (dNc 0) (dNw 0) (dNg 0) (dNn 0) (dNq 0)) ++ ((wX0 dNc (dNcj 0) (dNcs 0) (dNcp 0) (dNcr 0) vNc) ++ ((wX4 cI 72 dNcr vNcr) ++ ((wX7 cI dNw vNw) ++ ((wX4 cI 24 dNg vNg) ++ ((wX4 cI 15 dNn vNn) ++ ((wX4 cI 24 dNq vNq) ++ (wX3 cI dx vx))))))))))) (va_A ((wX9 d (dN 0) (dI 0) (dT 0) (dNc 0) (dNcj 0) (dNcs 0) (dNcp 0) (dNw 0) (dx 0) dtt v) ++ ((wX8 dN (dNc 0) (dNw 0) (dNg 0) (dNn 0) (dNq 0)) ++ ((wX0 dNc (dNcj 0) (dNcs 0) (dNcp 0) (dNcr 0) vNc) ++ ((wX4 cI 72 dNcr vNcr) ++ ((wX7 cI dNw vNw) ++ ((wX4 cI 24 dNg vNg) ++ ((wX4 cI 15 dNn vNn) ++ ((wX4 cI 24 dNq vNq) ++ (wX3 cI dx vx))))))))) sz)) 0 0 (va_A ((wX9 d (dN 0) (dI 0) (dT 0) (dNc 0) (dNcj 0) (dNcs 0) (dNcp 0) (dNw 0) (dx 0) dtt v) ++ ((wX8 dN (dNc 0) (dNw 0) (dNg 0) (dNn 0) (dNq 0)) ++ ((wX0 dNc (dNcj 0) (dNcs 0) (dNcp 0) (dNcr 0) vNc) ++ ((wX4 cI 72 dNcr vNcr) ++ ((wX7 cI dNw vNw) ++ ((wX4 cI 24 dNg vNg) ++ ((wX4 cI 15 dNn vNn) ++ ((wX4 cI 24 dNq vNq) ++ (wX3 cI dx vx))))))))) sz) := by
  refine z_meti (cc := cX9_count) (maxL := 2) (own := RX9) (lv0 := [(0, .ref (d 0)), (1, .int x1)]) (by decide) rfl rfl (Nat.le_of_ble_eq_true rfl) rfl ?_
  intro p e s m args below meth c A QQ C hin hret
  refine z_iload_n (pc := 0) C 1 dX9_count_0 rfl ?_
  by_cases c1_0 : x1 = 0
  · have h := h.1 c1_0
    refine z_tbl (pc := 1) (tgt := 48) C dX9_count_1 0 c1_0 (by decide) (by decide) rfl (by decide) ?_
    refine z_aload_n (pc := 48) C 0 dX9_count_48 rfl ?_
    refine z_get (pc := 49) C uw9 0 rfl rfl 8 (by decide) wq542 rfl dX9_count_49 ?_
    refine z_get (pc := 52) C uw3 13 rfl rfl 1 (by decide) wq577 rfl dX9_count_52 ?_
    exact hret 55 _ _ (vx 0 1) () rfl h dX9_count_55
  · have h := h.2 c1_0
    by_cases c1_1 : x1 = 1
    · have h := h.1 c1_1
      refine z_tbl (pc := 1) (tgt := 56) C dX9_count_1 1 c1_1 (by decide) (by decide) rfl (by decide) ?_
      refine z_aload_n (pc := 56) C 0 dX9_count_56 rfl ?_
      refine z_get (pc := 57) C uw9 0 rfl rfl 0 (by decide) wq526 rfl dX9_count_57 ?_
      refine z_get (pc := 60) C uw8 1 rfl rfl 3 (by decide) wq743 rfl dX9_count_60 ?_
      refine z_get (pc := 63) C uw4 9 rfl rfl 0 (by decide) wq676 rfl dX9_count_63 ?_
      exact hret 66 _ _ (vNn 0 0) () rfl h dX9_count_66
    · have h := h.2 c1_1
      by_cases c1_2 : x1 = 2
      · have h := h.1 c1_2
        refine z_tbl (pc := 1) (tgt := 67) C dX9_count_1 2 c1_2 (by decide) (by decide) rfl (by decide) ?_
        refine z_aload_n (pc := 67) C 0 dX9_count_67 rfl ?_
        refine z_get (pc := 68) C uw9 0 rfl rfl 0 (by decide) wq526 rfl dX9_count_68 ?_
        refine z_get (pc := 71) C uw8 1 rfl rfl 4 (by decide) wq769 rfl dX9_count_71 ?_
        refine z_get (pc := 74) C uw4 11 rfl rfl 0 (by decide) wq676 rfl dX9_count_74 ?_
        exact hret 77 _ _ (vNq 0 0) () rfl h dX9_count_77
      · have h := h.2 c1_2
        by_cases c1_3 : x1 = 3
        · have h := h.1 c1_3
          refine z_tbl (pc := 1) (tgt := 78) C dX9_count_1 3 c1_3 (by decide) (by decide) rfl (by decide) ?_
          refine z_aload_n (pc := 78) C 0 dX9_count_78 rfl ?_
          refine z_get (pc := 79) C uw9 0 rfl rfl 0 (by decide) wq526 rfl dX9_count_79 ?_
          refine z_get (pc := 82) C uw8 1 rfl rfl 2 (by decide) wq698 rfl dX9_count_82 ?_
          refine z_get (pc := 85) C uw4 7 rfl rfl 0 (by decide) wq676 rfl dX9_count_85 ?_
          exact hret 88 _ _ (vNg 0 0) () rfl h dX9_count_88
        · have h := h.2 c1_3
          by_cases c1_4 : x1 = 4
          · have h := h.1 c1_4
            refine z_tbl (pc := 1) (tgt := 89) C dX9_count_1 4 c1_4 (by decide) (by decide) rfl (by decide) ?_
            refine z_aload_n (pc := 89) C 0 dX9_count_89 rfl ?_
            refine z_get (pc := 90) C uw9 0 rfl rfl 7 (by decide) wq539 rfl dX9_count_90 ?_
            refine z_get (pc := 93) C uw7 5 rfl rfl 1 (by decide) wq706 rfl dX9_count_93 ?_
            exact hret 96 _ _ (vNw 0 1) () rfl h dX9_count_96
          · have h := h.2 c1_4
            by_cases c1_5 : x1 = 5
            · have h := h.1 c1_5
              refine z_tbl (pc := 1) (tgt := 97) C dX9_count_1 5 c1_5 (by decide) (by decide) rfl (by decide) ?_
              refine z_aload_n (pc := 97) C 0 dX9_count_97 rfl ?_
              refine z_get (pc := 98) C uw9 0 rfl rfl 11 (by decide) wq624 rfl dX9_count_98 ?_
              exact hret 101 _ _ (v 0 11) () rfl h dX9_count_101
            · have h := h.2 c1_5
              by_cases c1_6 : x1 = 6
              · have h := h.1 c1_6
                refine z_tbl (pc := 1) (tgt := 102) C dX9_count_1 6 c1_6 (by decide) (by decide) rfl (by decide) ?_
                refine z_aload_n (pc := 102) C 0 dX9_count_102 rfl ?_
                refine z_get (pc := 103) C uw9 0 rfl rfl 3 (by decide) wq531 rfl dX9_count_103 ?_
                refine z_get (pc := 106) C uw0 2 rfl rfl 3 (by decide) wq675 rfl dX9_count_106 ?_
                refine z_get (pc := 109) C uw4 3 rfl rfl 0 (by decide) wq676 rfl dX9_count_109 ?_
                exact hret 112 _ _ (vNcr 0 0) () rfl h dX9_count_112
              · have h := h.2 c1_6
                by_cases c1_7 : x1 = 7
                · have h := h.1 c1_7
                  refine z_tbl (pc := 1) (tgt := 113) C dX9_count_1 7 c1_7 (by decide) (by decide) rfl (by decide) ?_
                  refine z_aload_n (pc := 113) C 0 dX9_count_113 rfl ?_
                  refine z_get (pc := 114) C uw9 0 rfl rfl 7 (by decide) wq539 rfl dX9_count_114 ?_
                  refine z_get (pc := 117) C uw7 5 rfl rfl 0 (by decide) wq705 rfl dX9_count_117 ?_
                  exact hret 120 _ _ (vNw 0 0) () rfl h dX9_count_120
                · have h := h.2 c1_7
                  refine z_tblo (pc := 1) (tgt := 121) C dX9_count_1 (z_out0_7 c1_0 c1_1 c1_2 c1_3 c1_4 c1_5 c1_6 c1_7) (by decide) ?_
                  refine z_bipush (pc := 121) (v := -2) C dX9_count_121 (by decide) ?_
                  exact hret 123 _ _ (-2 : Int32) () rfl h dX9_count_123

def pX10_at (v : Lf) (x1 : Int32) (x2 : Int32) (Q : Int32 → Prop) : Prop := (vp_in (((24 : Int32) + ((24 : Int32) * x1)) + x2) 372 ∧ (Q (v 1 (((24 : Int32) + ((24 : Int32) * x1)) + x2).toNatClampNeg) ))
abbrev rmX10_at : Room := { frames := 0, cells := 0, slots := 0, locals := 0 }
abbrev wdX10_at : List Cond := Cond.code yX10_at cX10_at 3 (some .int) :: TB
theorem hdSX10_at : (yX10_at).cls ≠ "java/lang/invoke/MethodHandle" ∧ (yX10_at).cls ≠ "java/lang/invoke/VarHandle" ∧ (parseMethodDescriptor (yX10_at).desc).map (fun d => d.parameters.length) = some 2 := by decide +kernel
theorem hdX10_at : (yX10_at).cls = RX10 ∧ (yX10_at).cls ≠ "java/lang/invoke/MethodHandle" ∧ (yX10_at).cls ≠ "java/lang/invoke/VarHandle" ∧ (parseMethodDescriptor (yX10_at).desc).map (fun d => d.parameters.length) = some 2 := ⟨rfl, hdSX10_at⟩
set_option maxHeartbeats 4000000 in
set_option maxRecDepth 100000 in
theorem kX10_at {l : Launch} {D : va_G} {cI cJ cT : ClassId} (d : Nat → Nat)  (v : Lf) (g : Lg) (x1 : Int32) (x2 : Int32) {Q : Int32 → Prop} (sz : Nat) (h : pX10_at v x1 x2 Q) : Met l yX10_at wdX10_at rmX10_at (Pz D (tyL cI cJ cT) [.ref (d 0), .int x1, .int x2] (wX10 cI cJ d v g) sz) (va_Qi (fun (r : Int32) (u : Unit) => Q r) (Bz D (tyL cI cJ cT) (wX10 cI cJ d v g) sz (fun (u : Unit) => (wX10 cI cJ d v g))) (va_A (wX10 cI cJ d v g) sz)) 0 0 (va_A (wX10 cI cJ d v g) sz) := by
  refine z_meti (cc := cX10_at) (maxL := 3) (own := RX10) (lv0 := [(0, .ref (d 0)), (1, .int x1), (2, .int x2)]) (by decide) rfl rfl (Nat.le_of_ble_eq_true rfl) rfl ?_
  intro p e s m args below meth c A QQ C hin hret
  refine z_aload_n (pc := 0) C 0 dX10_at_0 rfl ?_
  refine z_get (pc := 1) C uw10 0 rfl rfl 0 (by decide) wq809 rfl dX10_at_1 ?_
  refine z_bipush (pc := 4) (v := 24) C dX10_at_4 (by decide) ?_
  refine z_bipush (pc := 6) (v := 24) C dX10_at_6 (by decide) ?_
  refine z_iload_n (pc := 8) C 1 dX10_at_8 rfl ?_
  refine z_imul (pc := 9) C dX10_at_9 ?_
  refine z_iadd (pc := 10) C dX10_at_10 ?_
  refine z_iload_n (pc := 11) C 2 dX10_at_11 rfl ?_
  refine z_iadd (pc := 12) C dX10_at_12 ?_
  obtain ⟨g1, h⟩ := h
  refine z_iald (pc := 13) C 1 0 rfl rfl g1 (v 1 (((24 : Int32) + ((24 : Int32) * x1)) + x2).toNatClampNeg) rfl dX10_at_13 ?_
  exact hret 14 _ _ (v 1 (((24 : Int32) + ((24 : Int32) * x1)) + x2).toNatClampNeg) () rfl h dX10_at_14

def pX10_placeIn_L2 (v : Lf) (x1 : Int32) (x2 : Int32) (Q : Int32 → Prop) : Nat → Int32 → Prop
  | 0, _ => False
  | n2 + 1, x3 => (pX10_at v x1 (11 : Int32) (fun r1 => ((r1 ≤ x3 → (Q (-5 : Int32) )) ∧ (¬ r1 ≤ x3 → (pX10_at v x1 ((12 : Int32) + x3) (fun r3 => ((¬ r3 = x2 → (pX10_placeIn_L2 v x1 x2 Q n2 (x3 + 1))) ∧ (r3 = x2 → (Q x3 )))))))))
def pX10_placeIn (v : Lf) (x1 : Int32) (x2 : Int32) (Q : Int32 → Prop) : Prop := (∃ n2, pX10_placeIn_L2 v x1 x2 Q  n2 (0 : Int32))
abbrev rmX10_placeIn : Room := { frames := 1, cells := 0, slots := 0, locals := 22 }
abbrev wdX10_placeIn : List Cond := Cond.code yX10_placeIn cX10_placeIn 4 (some .int) :: TB
theorem hdSX10_placeIn : (yX10_placeIn).cls ≠ "java/lang/invoke/MethodHandle" ∧ (yX10_placeIn).cls ≠ "java/lang/invoke/VarHandle" ∧ (parseMethodDescriptor (yX10_placeIn).desc).map (fun d => d.parameters.length) = some 2 := by decide +kernel
theorem hdX10_placeIn : (yX10_placeIn).cls = RX10 ∧ (yX10_placeIn).cls ≠ "java/lang/invoke/MethodHandle" ∧ (yX10_placeIn).cls ≠ "java/lang/invoke/VarHandle" ∧ (parseMethodDescriptor (yX10_placeIn).desc).map (fun d => d.parameters.length) = some 2 := ⟨rfl, hdSX10_placeIn⟩
set_option maxHeartbeats 4000000 in
set_option maxRecDepth 100000 in
theorem kX10_placeIn {l : Launch} {D : va_G} {cI cJ cT : ClassId} (d : Nat → Nat)  (v : Lf) (g : Lg) (x1 : Int32) (x2 : Int32) {Q : Int32 → Prop} (sz : Nat) (h : pX10_placeIn v x1 x2 Q) : Met l yX10_placeIn wdX10_placeIn rmX10_placeIn (Pz D (tyL cI cJ cT) [.ref (d 0), .int x1, .int x2] (wX10 cI cJ d v g) sz) (va_Qi (fun (r : Int32) (u : Unit) => Q r) (Bz D (tyL cI cJ cT) (wX10 cI cJ d v g) sz (fun (u : Unit) => (wX10 cI cJ d v g))) (va_A (wX10 cI cJ d v g) sz)) 0 0 (va_A (wX10 cI cJ d v g) sz) := by
  refine z_meti (cc := cX10_placeIn) (maxL := 4) (own := RX10) (lv0 := [(0, .ref (d 0)), (1, .int x1), (2, .int x2)]) (by decide) rfl rfl (Nat.le_of_ble_eq_true rfl) rfl ?_
  intro p e s m args below meth c A QQ C hin hret
  have L2 : ∀ (n2 : Nat) (x3 : Int32), pX10_placeIn_L2 v x1 x2 Q n2 x3 → ZZ p l e rmX10_placeIn s m args below meth c D A 4 0 0 QQ 2 (wX10 cI cJ d v g) [(0, .ref (d 0)), (1, .int x1), (2, .int x2), (3, .int x3)] [] := by
    intro n2
    induction n2 with
    | zero => intro x3 h; exact False.elim h
    | succ n2 ih2 =>
      intro x3 h
      refine z_iload_n (pc := 2) C 3 dX10_placeIn_2 rfl ?_
      refine z_aload_n (pc := 3) C 0 dX10_placeIn_3 rfl ?_
      refine z_iload_n (pc := 4) C 1 dX10_placeIn_4 rfl ?_
      refine z_bipush (pc := 5) (v := 11) C dX10_placeIn_5 (by decide) ?_
      refine z_callRi (pc := 7) C (z_runV (pc := 7) (wc := (wX10 cI cJ d v g)) (As := [.int x1, .int (11 : Int32)]) C (fun sz => kX10_at d v g x1 (11 : Int32) sz h) [0, 1, 2, 3, 4, 5, 6, 7, 8, 9, 10, 11] rfl (by decide) (gdV wq808 wq811 wq812 wq813 wq814) rfl rfl rfl hdX10_at 0 rfl rfl rfl ⟨Nat.le_of_ble_eq_true rfl, Nat.le_of_ble_eq_true rfl⟩ rfl (Nat.le_of_ble_eq_true rfl) ⟨Nat.zero_le _, Nat.zero_le _⟩ dX10_placeIn_7) [0, 1, 2, 3, 4, 5, 6, 7, 8, 9, 10, 11] rfl (by decide) (fun r1 u1 h => ?_)
      refine z_icmp_ge (pc := 10) (tgt := 34) C dX10_placeIn_10 (by decide) (fun c2 => ?_) (fun c2 => ?_)
      · have h := h.1 c2
        refine z_bipush (pc := 34) (v := -5) C dX10_placeIn_34 (by decide) ?_
        exact hret 36 _ _ (-5 : Int32) () rfl h dX10_placeIn_36
      · have h := h.2 c2
        refine z_aload_n (pc := 13) C 0 dX10_placeIn_13 rfl ?_
        refine z_iload_n (pc := 14) C 1 dX10_placeIn_14 rfl ?_
        refine z_bipush (pc := 15) (v := 12) C dX10_placeIn_15 (by decide) ?_
        refine z_iload_n (pc := 17) C 3 dX10_placeIn_17 rfl ?_
        refine z_iadd (pc := 18) C dX10_placeIn_18 ?_
        refine z_callRi (pc := 19) C (z_runV (pc := 19) (wc := (wX10 cI cJ d v g)) (As := [.int x1, .int ((12 : Int32) + x3)]) C (fun sz => kX10_at d v g x1 ((12 : Int32) + x3) sz h) [0, 1, 2, 3, 4, 5, 6, 7, 8, 9, 10, 11] rfl (by decide) (gdV wq808 wq811 wq812 wq813 wq814) rfl rfl rfl hdX10_at 0 rfl rfl rfl ⟨Nat.le_of_ble_eq_true rfl, Nat.le_of_ble_eq_true rfl⟩ rfl (Nat.le_of_ble_eq_true rfl) ⟨Nat.zero_le _, Nat.zero_le _⟩ dX10_placeIn_19) [0, 1, 2, 3, 4, 5, 6, 7, 8, 9, 10, 11] rfl (by decide) (fun r3 u3 h => ?_)
        refine z_iload_n (pc := 22) C 2 dX10_placeIn_22 rfl ?_
        refine z_icmp_ne (pc := 23) (tgt := 28) C dX10_placeIn_23 (by decide) (fun c4 => ?_) (fun c4 => ?_)
        · have h := h.1 c4
          refine z_iinc (pc := 28) (v := (x3 + 1)) (lv' := [(3, .int (x3 + 1)), (0, .ref (d 0)), (1, .int x1), (2, .int x2)]) C 3 dX10_placeIn_28 rfl rfl (by decide) rfl ?_
          refine z_goto (pc := 31) (tgt := 2) C dX10_placeIn_31 (by decide) ?_
          refine z_sub (lv' := [(0, .ref (d 0)), (1, .int x1), (2, .int x2), (3, .int (x3 + 1))]) [1, 2, 3, 0] rfl ?_
          exact ih2 (x3 + 1) h
        · have h := h.2 c4
          refine z_iload_n (pc := 26) C 3 dX10_placeIn_26 rfl ?_
          exact hret 27 _ _ x3 () rfl h dX10_placeIn_27
  refine z_iconst (pc := 0) (v := 0) C dX10_placeIn_0 (by decide) ?_
  refine z_istore_n (pc := 1) (lv' := [(3, .int (0 : Int32)), (0, .ref (d 0)), (1, .int x1), (2, .int x2)]) C dX10_placeIn_1 (by decide) rfl ?_
  obtain ⟨n2, h⟩ := h
  refine z_sub (lv' := [(0, .ref (d 0)), (1, .int x1), (2, .int x2), (3, .int (0 : Int32))]) [1, 2, 3, 0] rfl ?_
  exact L2  n2 (0 : Int32) h

def pX10_amber (v : Lf) (x1 : Int32) (Q : Int32 → Prop) : Prop := (pX10_at v x1 (0 : Int32) (fun r2 => (vp_in r2 4 ∧ (Q (tbA r2.toNatClampNeg) ))))
abbrev rmX10_amber : Room := { frames := 1, cells := 0, slots := 0, locals := 22 }
abbrev wdX10_amber : List Cond := Cond.code yX10_amber cX10_amber 2 (some .int) :: TB
theorem hdSX10_amber : (yX10_amber).cls ≠ "java/lang/invoke/MethodHandle" ∧ (yX10_amber).cls ≠ "java/lang/invoke/VarHandle" ∧ (parseMethodDescriptor (yX10_amber).desc).map (fun d => d.parameters.length) = some 1 := by decide +kernel
theorem hdX10_amber : (yX10_amber).cls = RX10 ∧ (yX10_amber).cls ≠ "java/lang/invoke/MethodHandle" ∧ (yX10_amber).cls ≠ "java/lang/invoke/VarHandle" ∧ (parseMethodDescriptor (yX10_amber).desc).map (fun d => d.parameters.length) = some 1 := ⟨rfl, hdSX10_amber⟩
set_option maxHeartbeats 4000000 in
set_option maxRecDepth 100000 in
theorem kX10_amber {l : Launch} {D : va_G} {cI cJ cT : ClassId} (d : Nat → Nat)  (v : Lf) (g : Lg) (x1 : Int32) {Q : Int32 → Prop} (sz : Nat) (h : pX10_amber v x1 Q) : Met l yX10_amber wdX10_amber rmX10_amber (Pz D (tyL cI cJ cT) [.ref (d 0), .int x1] (wX10 cI cJ d v g) sz) (va_Qi (fun (r : Int32) (u : Unit) => Q r) (Bz D (tyL cI cJ cT) (wX10 cI cJ d v g) sz (fun (u : Unit) => (wX10 cI cJ d v g))) (va_A (wX10 cI cJ d v g) sz)) 0 0 (va_A (wX10 cI cJ d v g) sz) := by
  refine z_meti (cc := cX10_amber) (maxL := 2) (own := RX10) (lv0 := [(0, .ref (d 0)), (1, .int x1)]) (by decide) rfl rfl (Nat.le_of_ble_eq_true rfl) rfl ?_
  intro p e s m args below meth c A QQ C hin hret
  refine z_gets (pc := 0) C (CX.s3 C) wq816 dX10_amber_0 (fun z1 hz1 => ?_)
  refine z_aload_n (pc := 3) C 0 dX10_amber_3 rfl ?_
  refine z_iload_n (pc := 4) C 1 dX10_amber_4 rfl ?_
  refine z_iconst (pc := 5) (v := 0) C dX10_amber_5 (by decide) ?_
  refine z_callRi (pc := 6) C (z_runV (pc := 6) (wc := (wX10 cI cJ d v g)) (As := [.int x1, .int (0 : Int32)]) C (fun sz => kX10_at d v g x1 (0 : Int32) sz h) [0, 1, 2, 3, 4, 5, 6, 7, 8, 9, 10, 11] rfl (by decide) (gdV wq808 wq811 wq812 wq813 wq814) rfl rfl rfl hdX10_at 0 rfl rfl rfl ⟨Nat.le_of_ble_eq_true rfl, Nat.le_of_ble_eq_true rfl⟩ rfl (Nat.le_of_ble_eq_true rfl) ⟨Nat.zero_le _, Nat.zero_le _⟩ dX10_amber_6) [0, 1, 2, 3, 4, 5, 6, 7, 8, 9, 10, 11] rfl (by decide) (fun r2 u2 h => ?_)
  obtain ⟨g3, h⟩ := h
  refine z_ti (pc := 9) C hz1 g3 (tbA r2.toNatClampNeg) rfl dX10_amber_9 ?_
  exact hret 10 _ _ (tbA r2.toNatClampNeg) () rfl h dX10_amber_10

def pX10_pace (v : Lf) (x1 : Int32) (Q : Int32 → Prop) : Prop := (pX10_at v x1 (0 : Int32) (fun r2 => (vp_in r2 4 ∧ (Q (tbP r2.toNatClampNeg) ))))
abbrev rmX10_pace : Room := { frames := 1, cells := 0, slots := 0, locals := 22 }
abbrev wdX10_pace : List Cond := Cond.code yX10_pace cX10_pace 2 (some .int) :: TB
theorem hdSX10_pace : (yX10_pace).cls ≠ "java/lang/invoke/MethodHandle" ∧ (yX10_pace).cls ≠ "java/lang/invoke/VarHandle" ∧ (parseMethodDescriptor (yX10_pace).desc).map (fun d => d.parameters.length) = some 1 := by decide +kernel
theorem hdX10_pace : (yX10_pace).cls = RX10 ∧ (yX10_pace).cls ≠ "java/lang/invoke/MethodHandle" ∧ (yX10_pace).cls ≠ "java/lang/invoke/VarHandle" ∧ (parseMethodDescriptor (yX10_pace).desc).map (fun d => d.parameters.length) = some 1 := ⟨rfl, hdSX10_pace⟩
set_option maxHeartbeats 4000000 in
set_option maxRecDepth 100000 in
theorem kX10_pace {l : Launch} {D : va_G} {cI cJ cT : ClassId} (d : Nat → Nat)  (v : Lf) (g : Lg) (x1 : Int32) {Q : Int32 → Prop} (sz : Nat) (h : pX10_pace v x1 Q) : Met l yX10_pace wdX10_pace rmX10_pace (Pz D (tyL cI cJ cT) [.ref (d 0), .int x1] (wX10 cI cJ d v g) sz) (va_Qi (fun (r : Int32) (u : Unit) => Q r) (Bz D (tyL cI cJ cT) (wX10 cI cJ d v g) sz (fun (u : Unit) => (wX10 cI cJ d v g))) (va_A (wX10 cI cJ d v g) sz)) 0 0 (va_A (wX10 cI cJ d v g) sz) := by
  refine z_meti (cc := cX10_pace) (maxL := 2) (own := RX10) (lv0 := [(0, .ref (d 0)), (1, .int x1)]) (by decide) rfl rfl (Nat.le_of_ble_eq_true rfl) rfl ?_
  intro p e s m args below meth c A QQ C hin hret
  refine z_gets (pc := 0) C (CX.s4 C) wq818 dX10_pace_0 (fun z1 hz1 => ?_)
  refine z_aload_n (pc := 3) C 0 dX10_pace_3 rfl ?_
  refine z_iload_n (pc := 4) C 1 dX10_pace_4 rfl ?_
  refine z_iconst (pc := 5) (v := 0) C dX10_pace_5 (by decide) ?_
  refine z_callRi (pc := 6) C (z_runV (pc := 6) (wc := (wX10 cI cJ d v g)) (As := [.int x1, .int (0 : Int32)]) C (fun sz => kX10_at d v g x1 (0 : Int32) sz h) [0, 1, 2, 3, 4, 5, 6, 7, 8, 9, 10, 11] rfl (by decide) (gdV wq808 wq811 wq812 wq813 wq814) rfl rfl rfl hdX10_at 0 rfl rfl rfl ⟨Nat.le_of_ble_eq_true rfl, Nat.le_of_ble_eq_true rfl⟩ rfl (Nat.le_of_ble_eq_true rfl) ⟨Nat.zero_le _, Nat.zero_le _⟩ dX10_pace_6) [0, 1, 2, 3, 4, 5, 6, 7, 8, 9, 10, 11] rfl (by decide) (fun r2 u2 h => ?_)
  obtain ⟨g3, h⟩ := h
  refine z_ti (pc := 9) C hz1 g3 (tbP r2.toNatClampNeg) rfl dX10_pace_9 ?_
  exact hret 10 _ _ (tbP r2.toNatClampNeg) () rfl h dX10_pace_10

def pX10_clears_J162 (x1 : Int32) (x2 : Int32) (Q : Lf → Prop) (v : Lf) (t1 : Int32) (t2 : Int32) : Prop := (vp_in t1 64 ∧ (Q (st v 4 t1.toNatClampNeg t2)))
def pX10_clears_J113 (x1 : Int32) (x2 : Int32) (Q : Lf → Prop) (v : Lf) (x3 : Int32) (x4 : Int32) : Prop := (vp_in (((8 : Int32) * x1) + x2) 64 ∧ ((0 ≤ x4 → (pX10_amber (st v 5 ((((8 : Int32) * x1) + x2).toNatClampNeg) x4) x1 (fun r5 => (pX10_clears_J162 x1 x2 Q  (st v 5 ((((8 : Int32) * x1) + x2).toNatClampNeg) x4) (((8 : Int32) * x1) + x2) ((if r5 < x3 then x3 else r5) + ((st v 5 ((((8 : Int32) * x1) + x2).toNatClampNeg) x4) 1 1)))))) ∧ (¬ 0 ≤ x4 → (pX10_clears_J162 x1 x2 Q  (st v 5 ((((8 : Int32) * x1) + x2).toNatClampNeg) x4) (((8 : Int32) * x1) + x2) (-5 : Int32)))))
def pX10_clears_J107 (x1 : Int32) (x2 : Int32) (Q : Lf → Prop) (K9 : Lf → Int32 → Int32 → Int32 → Prop) (v : Lf) (x3 : Int32) (x4 : Int32) (x5 : Int32) : Prop := (K9 v x3 x4 (x5 + 1))
def pX10_clears_J92 (x1 : Int32) (x2 : Int32) (Q : Lf → Prop) (K9 : Lf → Int32 → Int32 → Int32 → Prop) (v : Lf) (x5 : Int32) (x7 : Int32) : Prop := (pX10_at v x1 ((12 : Int32) + x5) (fun r16 => (pX10_clears_J107 x1 x2 Q K9 v x7 r16 x5)))
def pX10_clears_L9 (x1 : Int32) (x2 : Int32) (Q : Lf → Prop) : Nat → Lf → Int32 → Int32 → Int32 → Prop
  | 0, _, _, _, _ => False
  | n9 + 1, v, x3, x4, x5 => (pX10_at v x1 (11 : Int32) (fun r1 => ((r1 ≤ x5 → (pX10_clears_J113 x1 x2 Q  v x3 x4)) ∧ (¬ r1 ≤ x5 → ((x1 = x2 → (pX10_clears_J113 x1 x2 Q  v x3 x4)) ∧ (¬ x1 = x2 → (pX10_at v x1 ((12 : Int32) + x5) (fun r9 => (pX10_placeIn v x2 r9 (fun r10 => ((0 ≤ r10 → (pX10_amber v x1 (fun r12 => (pX10_pace v x1 (fun r13 => (pX10_pace v x2 (fun r14 => ((x4 < 0 → (pX10_clears_J92 x1 x2 Q (fun v x3 x4 x5 => pX10_clears_L9 x1 x2 Q n9 v x3 x4 x5) v x5 ((r12 + (r13 * (x5 + (1 : Int32)))) - (r14 * r10)))) ∧ (¬ x4 < 0 → ((x3 < ((r12 + (r13 * (x5 + (1 : Int32)))) - (r14 * r10)) → (pX10_clears_J92 x1 x2 Q (fun v x3 x4 x5 => pX10_clears_L9 x1 x2 Q n9 v x3 x4 x5) v x5 ((r12 + (r13 * (x5 + (1 : Int32)))) - (r14 * r10)))) ∧ (¬ x3 < ((r12 + (r13 * (x5 + (1 : Int32)))) - (r14 * r10)) → (pX10_clears_J107 x1 x2 Q (fun v x3 x4 x5 => pX10_clears_L9 x1 x2 Q n9 v x3 x4 x5) v x3 x4 x5)))))))))))) ∧ (¬ 0 ≤ r10 → (pX10_clears_J107 x1 x2 Q (fun v x3 x4 x5 => pX10_clears_L9 x1 x2 Q n9 v x3 x4 x5) v x3 x4 x5)))))))))))))
def pX10_clears (v : Lf) (x1 : Int32) (x2 : Int32) (Q : Lf → Prop) : Prop := (∃ n9, pX10_clears_L9 x1 x2 Q  n9 v (0 : Int32) (-5 : Int32) (0 : Int32))
abbrev rmX10_clears : Room := { frames := 2, cells := 0, slots := 0, locals := 45 }
abbrev wdX10_clears : List Cond := Cond.code yX10_clears cX10_clears 8 none :: TB
theorem hdSX10_clears : (yX10_clears).cls ≠ "java/lang/invoke/MethodHandle" ∧ (yX10_clears).cls ≠ "java/lang/invoke/VarHandle" ∧ (parseMethodDescriptor (yX10_clears).desc).map (fun d => d.parameters.length) = some 2 := by decide +kernel
theorem hdX10_clears : (yX10_clears).cls = RX10 ∧ (yX10_clears).cls ≠ "java/lang/invoke/MethodHandle" ∧ (yX10_clears).cls ≠ "java/lang/invoke/VarHandle" ∧ (parseMethodDescriptor (yX10_clears).desc).map (fun d => d.parameters.length) = some 2 := ⟨rfl, hdSX10_clears⟩
set_option maxHeartbeats 4000000 in
set_option maxRecDepth 100000 in
theorem kX10_clears {l : Launch} {D : va_G} {cI cJ cT : ClassId} (d : Nat → Nat)  (v : Lf) (g : Lg) (x1 : Int32) (x2 : Int32) {Q : Lf → Prop} (sz : Nat) (h : pX10_clears v x1 x2 Q) : Met l yX10_clears wdX10_clears rmX10_clears (Pz D (tyL cI cJ cT) [.ref (d 0), .int x1, .int x2] (wX10 cI cJ d v g) sz) (va_Qv (fun (u : Lf) => Q u) (Bz D (tyL cI cJ cT) (wX10 cI cJ d v g) sz (fun (u : Lf) => (wX10 cI cJ d u g))) (va_A (wX10 cI cJ d v g) sz)) 0 0 (va_A (wX10 cI cJ d v g) sz) := by
  refine z_metv (cc := cX10_clears) (maxL := 8) (own := RX10) (lv0 := [(0, .ref (d 0)), (1, .int x1), (2, .int x2)]) (by decide) rfl rfl (Nat.le_of_ble_eq_true rfl) rfl ?_
  intro p e s m args below meth c A QQ C hin hret
  have J162 : ∀ (v : Lf) (t1 : Int32) (t2 : Int32), pX10_clears_J162 x1 x2 Q v t1 t2 → ZZ p l e rmX10_clears s m args below meth c D A 8 0 0 QQ 162 (wX10 cI cJ d v g) [] [.int t2, .int t1, .ref (d 4)] := by
    intro  v t1 t2 h
    obtain ⟨g7, h⟩ := h
    refine z_iast (pc := 162) (ws' := (wX10 cI cJ d (st v 4 t1.toNatClampNeg t2) g)) C 4 0 rfl rfl g7 dX10_clears_162 rfl sX10_a4 ?_
    exact hret 163 _ _ (st v 4 t1.toNatClampNeg t2) rfl h dX10_clears_163
  have J113 : ∀ (v : Lf) (x3 : Int32) (x4 : Int32), pX10_clears_J113 x1 x2 Q v x3 x4 → ZZ p l e rmX10_clears s m args below meth c D A 8 0 0 QQ 113 (wX10 cI cJ d v g) [(0, .ref (d 0)), (1, .int x1), (2, .int x2), (3, .int x3), (4, .int x4)] [] := by
    intro  v x3 x4 h
    refine z_aload_n (pc := 113) C 0 dX10_clears_113 rfl ?_
    refine z_get (pc := 114) C uw10 0 rfl rfl 6 (by decide) wq819 rfl dX10_clears_114 ?_
    refine z_bipush (pc := 117) (v := 8) C dX10_clears_117 (by decide) ?_
    refine z_iload_n (pc := 119) C 1 dX10_clears_119 rfl ?_
    refine z_imul (pc := 120) C dX10_clears_120 ?_
    refine z_iload_n (pc := 121) C 2 dX10_clears_121 rfl ?_
    refine z_iadd (pc := 122) C dX10_clears_122 ?_
    refine z_iload (pc := 123) C 4 dX10_clears_123 rfl ?_
    obtain ⟨g3, h⟩ := h
    refine z_iast (pc := 125) (ws' := (wX10 cI cJ d (st v 5 ((((8 : Int32) * x1) + x2).toNatClampNeg) x4) g)) C 5 0 rfl rfl g3 dX10_clears_125 rfl sX10_a5 ?_
    refine z_aload_n (pc := 126) C 0 dX10_clears_126 rfl ?_
    refine z_get (pc := 127) C uw10 0 rfl rfl 5 (by decide) wq820 rfl dX10_clears_127 ?_
    refine z_bipush (pc := 130) (v := 8) C dX10_clears_130 (by decide) ?_
    refine z_iload_n (pc := 132) C 1 dX10_clears_132 rfl ?_
    refine z_imul (pc := 133) C dX10_clears_133 ?_
    refine z_iload_n (pc := 134) C 2 dX10_clears_134 rfl ?_
    refine z_iadd (pc := 135) C dX10_clears_135 ?_
    refine z_iload (pc := 136) C 4 dX10_clears_136 rfl ?_
    refine z_if_ge (pc := 138) (tgt := 146) C dX10_clears_138 (by decide) (fun c4 => ?_) (fun c4 => ?_)
    · have h := h.1 c4
      refine z_aload_n (pc := 146) C 0 dX10_clears_146 rfl ?_
      refine z_iload_n (pc := 147) C 1 dX10_clears_147 rfl ?_
      refine z_callRi (pc := 148) C (z_runV (pc := 148) (wc := (wX10 cI cJ d (st v 5 ((((8 : Int32) * x1) + x2).toNatClampNeg) x4) g)) (As := [.int x1]) C (fun sz => kX10_amber d (st v 5 ((((8 : Int32) * x1) + x2).toNatClampNeg) x4) g x1 sz h) [0, 1, 2, 3, 4, 5, 6, 7, 8, 9, 10, 11] rfl (by decide) (gdV wq815 wq825 wq826 wq827 wq814) rfl rfl rfl hdX10_amber 0 rfl rfl rfl ⟨Nat.le_of_ble_eq_true rfl, Nat.le_of_ble_eq_true rfl⟩ rfl (Nat.le_of_ble_eq_true rfl) ⟨Nat.zero_le _, Nat.zero_le _⟩ dX10_clears_148) [0, 1, 2, 3, 4, 5, 6, 7, 8, 9, 10, 11] rfl (by decide) (fun r5 u5 h => ?_)
      refine z_iload_n (pc := 151) C 3 dX10_clears_151 rfl ?_
      refine z_mmax (pc := 152) C wq821 wq302 wq78 wq303 (Nat.le_of_ble_eq_true rfl) (Nat.le_of_ble_eq_true rfl) (Nat.zero_le _) (Nat.zero_le _) dX10_clears_152 ?_
      refine z_aload_n (pc := 155) C 0 dX10_clears_155 rfl ?_
      refine z_get (pc := 156) C uw10 0 rfl rfl 0 (by decide) wq809 rfl dX10_clears_156 ?_
      refine z_iconst (pc := 159) (v := 1) C dX10_clears_159 (by decide) ?_
      refine z_iald (pc := 160) C 1 0 rfl rfl vi_1_372 ((st v 5 ((((8 : Int32) * x1) + x2).toNatClampNeg) x4) 1 1) (congrArg _ cl_1) dX10_clears_160 ?_
      refine z_iadd (pc := 161) C dX10_clears_161 ?_
      refine z_sub (lv' := []) [] rfl ?_
      exact J162  (st v 5 ((((8 : Int32) * x1) + x2).toNatClampNeg) x4) (((8 : Int32) * x1) + x2) ((if r5 < x3 then x3 else r5) + ((st v 5 ((((8 : Int32) * x1) + x2).toNatClampNeg) x4) 1 1)) h
    · have h := h.2 c4
      refine z_bipush (pc := 141) (v := -5) C dX10_clears_141 (by decide) ?_
      refine z_goto (pc := 143) (tgt := 162) C dX10_clears_143 (by decide) ?_
      refine z_sub (lv' := []) [] rfl ?_
      exact J162  (st v 5 ((((8 : Int32) * x1) + x2).toNatClampNeg) x4) (((8 : Int32) * x1) + x2) (-5 : Int32) h
  have J107 : ∀ (K9 : Lf → Int32 → Int32 → Int32 → Prop), (∀ (v : Lf) (x3 : Int32) (x4 : Int32) (x5 : Int32), K9 v x3 x4 x5 → ZZ p l e rmX10_clears s m args below meth c D A 8 0 0 QQ 9 (wX10 cI cJ d v g) [(0, .ref (d 0)), (1, .int x1), (2, .int x2), (3, .int x3), (4, .int x4), (5, .int x5)] []) → ∀ (v : Lf) (x3 : Int32) (x4 : Int32) (x5 : Int32), pX10_clears_J107 x1 x2 Q K9 v x3 x4 x5 → ZZ p l e rmX10_clears s m args below meth c D A 8 0 0 QQ 107 (wX10 cI cJ d v g) [(0, .ref (d 0)), (1, .int x1), (2, .int x2), (3, .int x3), (4, .int x4), (5, .int x5)] [] := by
    intro K9 hK9 v x3 x4 x5 h
    refine z_iinc (pc := 107) (v := (x5 + 1)) (lv' := [(5, .int (x5 + 1)), (0, .ref (d 0)), (1, .int x1), (2, .int x2), (3, .int x3), (4, .int x4)]) C 5 dX10_clears_107 rfl rfl (by decide) rfl ?_
    refine z_goto (pc := 110) (tgt := 9) C dX10_clears_110 (by decide) ?_
    refine z_sub (lv' := [(0, .ref (d 0)), (1, .int x1), (2, .int x2), (3, .int x3), (4, .int x4), (5, .int (x5 + 1))]) [1, 2, 3, 4, 5, 0] rfl ?_
    exact hK9 v x3 x4 (x5 + 1) h
  have J92 : ∀ (K9 : Lf → Int32 → Int32 → Int32 → Prop), (∀ (v : Lf) (x3 : Int32) (x4 : Int32) (x5 : Int32), K9 v x3 x4 x5 → ZZ p l e rmX10_clears s m args below meth c D A 8 0 0 QQ 9 (wX10 cI cJ d v g) [(0, .ref (d 0)), (1, .int x1), (2, .int x2), (3, .int x3), (4, .int x4), (5, .int x5)] []) → ∀ (v : Lf) (x5 : Int32) (x7 : Int32), pX10_clears_J92 x1 x2 Q K9 v x5 x7 → ZZ p l e rmX10_clears s m args below meth c D A 8 0 0 QQ 92 (wX10 cI cJ d v g) [(0, .ref (d 0)), (1, .int x1), (2, .int x2), (5, .int x5), (7, .int x7)] [] := by
    intro K9 hK9 v x5 x7 h
    refine z_iload (pc := 92) C 4 dX10_clears_92 rfl ?_
    refine z_istore_n (pc := 94) (lv' := [(3, .int x7), (0, .ref (d 0)), (1, .int x1), (2, .int x2), (5, .int x5), (7, .int x7)]) C dX10_clears_94 (by decide) rfl ?_
    refine z_aload_n (pc := 95) C 1 dX10_clears_95 rfl ?_
    refine z_iload_n (pc := 96) C 2 dX10_clears_96 rfl ?_
    refine z_bipush (pc := 97) (v := 12) C dX10_clears_97 (by decide) ?_
    refine z_iload (pc := 99) C 4 dX10_clears_99 rfl ?_
    refine z_iadd (pc := 101) C dX10_clears_101 ?_
    refine z_callRi (pc := 102) C (z_runV (pc := 102) (wc := (wX10 cI cJ d v g)) (As := [.int x1, .int ((12 : Int32) + x5)]) C (fun sz => kX10_at d v g x1 ((12 : Int32) + x5) sz h) [0, 1, 2, 3, 4, 5, 6, 7, 8, 9, 10, 11] rfl (by decide) (gdV wq808 wq811 wq812 wq813 wq814) rfl rfl rfl hdX10_at 0 rfl rfl rfl ⟨Nat.le_of_ble_eq_true rfl, Nat.le_of_ble_eq_true rfl⟩ rfl (Nat.le_of_ble_eq_true rfl) ⟨Nat.zero_le _, Nat.zero_le _⟩ dX10_clears_102) [0, 1, 2, 3, 4, 5, 6, 7, 8, 9, 10, 11] rfl (by decide) (fun r16 u16 h => ?_)
    refine z_istore (pc := 105) (lv' := [(4, .int r16), (3, .int x7), (0, .ref (d 0)), (1, .int x1), (2, .int x2), (5, .int x5), (7, .int x7)]) C dX10_clears_105 (by decide) rfl ?_
    refine z_sub (lv' := [(0, .ref (d 0)), (1, .int x1), (2, .int x2), (3, .int x7), (4, .int r16), (5, .int x5)]) [2, 3, 4, 1, 0, 5] rfl ?_
    exact J107 K9 hK9 v x7 r16 x5 h
  have L9 : ∀ (n9 : Nat) (v : Lf) (x3 : Int32) (x4 : Int32) (x5 : Int32), pX10_clears_L9 x1 x2 Q n9 v x3 x4 x5 → ZZ p l e rmX10_clears s m args below meth c D A 8 0 0 QQ 9 (wX10 cI cJ d v g) [(0, .ref (d 0)), (1, .int x1), (2, .int x2), (3, .int x3), (4, .int x4), (5, .int x5)] [] := by
    intro n9
    induction n9 with
    | zero => intro v x3 x4 x5 h; exact False.elim h
    | succ n9 ih9 =>
      intro v x3 x4 x5 h
      refine z_iload (pc := 9) C 5 dX10_clears_9 rfl ?_
      refine z_aload_n (pc := 11) C 0 dX10_clears_11 rfl ?_
      refine z_iload_n (pc := 12) C 1 dX10_clears_12 rfl ?_
      refine z_bipush (pc := 13) (v := 11) C dX10_clears_13 (by decide) ?_
      refine z_callRi (pc := 15) C (z_runV (pc := 15) (wc := (wX10 cI cJ d v g)) (As := [.int x1, .int (11 : Int32)]) C (fun sz => kX10_at d v g x1 (11 : Int32) sz h) [0, 1, 2, 3, 4, 5, 6, 7, 8, 9, 10, 11] rfl (by decide) (gdV wq808 wq811 wq812 wq813 wq814) rfl rfl rfl hdX10_at 0 rfl rfl rfl ⟨Nat.le_of_ble_eq_true rfl, Nat.le_of_ble_eq_true rfl⟩ rfl (Nat.le_of_ble_eq_true rfl) ⟨Nat.zero_le _, Nat.zero_le _⟩ dX10_clears_15) [0, 1, 2, 3, 4, 5, 6, 7, 8, 9, 10, 11] rfl (by decide) (fun r1 u1 h => ?_)
      refine z_icmp_ge (pc := 18) (tgt := 113) C dX10_clears_18 (by decide) (fun c2 => ?_) (fun c2 => ?_)
      · have h := h.1 c2
        refine z_sub (lv' := [(0, .ref (d 0)), (1, .int x1), (2, .int x2), (3, .int x3), (4, .int x4)]) [0, 1, 2, 3, 4] rfl ?_
        exact J113  v x3 x4 h
      · have h := h.2 c2
        refine z_iload_n (pc := 21) C 1 dX10_clears_21 rfl ?_
        refine z_iload_n (pc := 22) C 2 dX10_clears_22 rfl ?_
        refine z_icmp_eq (pc := 23) (tgt := 113) C dX10_clears_23 (by decide) (fun c8 => ?_) (fun c8 => ?_)
        · have h := h.1 c8
          refine z_sub (lv' := [(0, .ref (d 0)), (1, .int x1), (2, .int x2), (3, .int x3), (4, .int x4)]) [0, 1, 2, 3, 4] rfl ?_
          exact J113  v x3 x4 h
        · have h := h.2 c8
          refine z_aload_n (pc := 26) C 0 dX10_clears_26 rfl ?_
          refine z_iload_n (pc := 27) C 2 dX10_clears_27 rfl ?_
          refine z_aload_n (pc := 28) C 0 dX10_clears_28 rfl ?_
          refine z_iload_n (pc := 29) C 1 dX10_clears_29 rfl ?_
          refine z_bipush (pc := 30) (v := 12) C dX10_clears_30 (by decide) ?_
          refine z_iload (pc := 32) C 5 dX10_clears_32 rfl ?_
          refine z_iadd (pc := 34) C dX10_clears_34 ?_
          refine z_callRi (pc := 35) C (z_runV (pc := 35) (wc := (wX10 cI cJ d v g)) (As := [.int x1, .int ((12 : Int32) + x5)]) C (fun sz => kX10_at d v g x1 ((12 : Int32) + x5) sz h) [0, 1, 2, 3, 4, 5, 6, 7, 8, 9, 10, 11] rfl (by decide) (gdV wq808 wq811 wq812 wq813 wq814) rfl rfl rfl hdX10_at 0 rfl rfl rfl ⟨Nat.le_of_ble_eq_true rfl, Nat.le_of_ble_eq_true rfl⟩ rfl (Nat.le_of_ble_eq_true rfl) ⟨Nat.zero_le _, Nat.zero_le _⟩ dX10_clears_35) [0, 1, 2, 3, 4, 5, 6, 7, 8, 9, 10, 11] rfl (by decide) (fun r9 u9 h => ?_)
          refine z_callRi (pc := 38) C (z_runV (pc := 38) (wc := (wX10 cI cJ d v g)) (As := [.int x2, .int r9]) C (fun sz => kX10_placeIn d v g x2 r9 sz h) [0, 1, 2, 3, 4, 5, 6, 7, 8, 9, 10, 11] rfl (by decide) (gdV wq810 wq822 wq823 wq824 wq814) rfl rfl rfl hdX10_placeIn 0 rfl rfl rfl ⟨Nat.le_of_ble_eq_true rfl, Nat.le_of_ble_eq_true rfl⟩ rfl (Nat.le_of_ble_eq_true rfl) ⟨Nat.zero_le _, Nat.zero_le _⟩ dX10_clears_38) [0, 1, 2, 3, 4, 5, 6, 7, 8, 9, 10, 11] rfl (by decide) (fun r10 u10 h => ?_)
          refine z_istore (pc := 41) (lv' := [(6, .int r10), (0, .ref (d 0)), (1, .int x1), (2, .int x2), (3, .int x3), (4, .int x4), (5, .int x5)]) C dX10_clears_41 (by decide) rfl ?_
          refine z_iload (pc := 43) C 0 dX10_clears_43 rfl ?_
          refine z_if_ge (pc := 45) (tgt := 51) C dX10_clears_45 (by decide) (fun c11 => ?_) (fun c11 => ?_)
          · have h := h.1 c11
            refine z_aload_n (pc := 51) C 1 dX10_clears_51 rfl ?_
            refine z_iload_n (pc := 52) C 2 dX10_clears_52 rfl ?_
            refine z_callRi (pc := 53) C (z_runV (pc := 53) (wc := (wX10 cI cJ d v g)) (As := [.int x1]) C (fun sz => kX10_amber d v g x1 sz h) [0, 1, 2, 3, 4, 5, 6, 7, 8, 9, 10, 11] rfl (by decide) (gdV wq815 wq825 wq826 wq827 wq814) rfl rfl rfl hdX10_amber 0 rfl rfl rfl ⟨Nat.le_of_ble_eq_true rfl, Nat.le_of_ble_eq_true rfl⟩ rfl (Nat.le_of_ble_eq_true rfl) ⟨Nat.zero_le _, Nat.zero_le _⟩ dX10_clears_53) [0, 1, 2, 3, 4, 5, 6, 7, 8, 9, 10, 11] rfl (by decide) (fun r12 u12 h => ?_)
            refine z_aload_n (pc := 56) C 1 dX10_clears_56 rfl ?_
            refine z_iload_n (pc := 57) C 2 dX10_clears_57 rfl ?_
            refine z_callRi (pc := 58) C (z_runV (pc := 58) (wc := (wX10 cI cJ d v g)) (As := [.int x1]) C (fun sz => kX10_pace d v g x1 sz h) [0, 1, 2, 3, 4, 5, 6, 7, 8, 9, 10, 11] rfl (by decide) (gdV wq817 wq828 wq829 wq830 wq814) rfl rfl rfl hdX10_pace 0 rfl rfl rfl ⟨Nat.le_of_ble_eq_true rfl, Nat.le_of_ble_eq_true rfl⟩ rfl (Nat.le_of_ble_eq_true rfl) ⟨Nat.zero_le _, Nat.zero_le _⟩ dX10_clears_58) [0, 1, 2, 3, 4, 5, 6, 7, 8, 9, 10, 11] rfl (by decide) (fun r13 u13 h => ?_)
            refine z_iload (pc := 61) C 6 dX10_clears_61 rfl ?_
            refine z_iconst (pc := 63) (v := 1) C dX10_clears_63 (by decide) ?_
            refine z_iadd (pc := 64) C dX10_clears_64 ?_
            refine z_imul (pc := 65) C dX10_clears_65 ?_
            refine z_iadd (pc := 66) C dX10_clears_66 ?_
            refine z_aload_n (pc := 67) C 1 dX10_clears_67 rfl ?_
            refine z_iload_n (pc := 68) C 3 dX10_clears_68 rfl ?_
            refine z_callRi (pc := 69) C (z_runV (pc := 69) (wc := (wX10 cI cJ d v g)) (As := [.int x2]) C (fun sz => kX10_pace d v g x2 sz h) [0, 1, 2, 3, 4, 5, 6, 7, 8, 9, 10, 11] rfl (by decide) (gdV wq817 wq828 wq829 wq830 wq814) rfl rfl rfl hdX10_pace 0 rfl rfl rfl ⟨Nat.le_of_ble_eq_true rfl, Nat.le_of_ble_eq_true rfl⟩ rfl (Nat.le_of_ble_eq_true rfl) ⟨Nat.zero_le _, Nat.zero_le _⟩ dX10_clears_69) [0, 1, 2, 3, 4, 5, 6, 7, 8, 9, 10, 11] rfl (by decide) (fun r14 u14 h => ?_)
            refine z_iload (pc := 72) C 0 dX10_clears_72 rfl ?_
            refine z_imul (pc := 74) C dX10_clears_74 ?_
            refine z_isub (pc := 75) C dX10_clears_75 ?_
            refine z_istore (pc := 76) (lv' := [(7, .int ((r12 + (r13 * (x5 + (1 : Int32)))) - (r14 * r10))), (6, .int r10), (0, .ref (d 0)), (1, .int x1), (2, .int x2), (3, .int x3), (4, .int x4), (5, .int x5)]) C dX10_clears_76 (by decide) rfl ?_
            refine z_iload (pc := 78) C 6 dX10_clears_78 rfl ?_
            refine z_if_lt (pc := 80) (tgt := 92) C dX10_clears_80 (by decide) (fun c15 => ?_) (fun c15 => ?_)
            · have h := h.1 c15
              refine z_sub (lv' := [(0, .ref (d 0)), (1, .int x1), (2, .int x2), (5, .int x5), (7, .int ((r12 + (r13 * (x5 + (1 : Int32)))) - (r14 * r10)))]) [2, 3, 4, 7, 0] rfl ?_
              exact J92 (fun v x3 x4 x5 => pX10_clears_L9 x1 x2 Q n9 v x3 x4 x5) ih9 v x5 ((r12 + (r13 * (x5 + (1 : Int32)))) - (r14 * r10)) h
            · have h := h.2 c15
              refine z_iload (pc := 83) C 0 dX10_clears_83 rfl ?_
              refine z_iload_n (pc := 85) C 5 dX10_clears_85 rfl ?_
              refine z_icmp_gt (pc := 86) (tgt := 92) C dX10_clears_86 (by decide) (fun c17 => ?_) (fun c17 => ?_)
              · have h := h.1 c17
                refine z_sub (lv' := [(0, .ref (d 0)), (1, .int x1), (2, .int x2), (5, .int x5), (7, .int ((r12 + (r13 * (x5 + (1 : Int32)))) - (r14 * r10)))]) [2, 3, 4, 7, 0] rfl ?_
                exact J92 (fun v x3 x4 x5 => pX10_clears_L9 x1 x2 Q n9 v x3 x4 x5) ih9 v x5 ((r12 + (r13 * (x5 + (1 : Int32)))) - (r14 * r10)) h
              · have h := h.2 c17
                refine z_goto (pc := 89) (tgt := 107) C dX10_clears_89 (by decide) ?_
                refine z_sub (lv' := [(0, .ref (d 0)), (1, .int x1), (2, .int x2), (3, .int x3), (4, .int x4), (5, .int x5)]) [2, 3, 4, 5, 6, 7] rfl ?_
                exact J107 (fun v x3 x4 x5 => pX10_clears_L9 x1 x2 Q n9 v x3 x4 x5) ih9 v x3 x4 x5 h
          · have h := h.2 c11
            refine z_goto (pc := 48) (tgt := 107) C dX10_clears_48 (by decide) ?_
            refine z_sub (lv' := [(0, .ref (d 0)), (1, .int x1), (2, .int x2), (3, .int x3), (4, .int x4), (5, .int x5)]) [1, 2, 3, 4, 5, 6] rfl ?_
            exact J107 (fun v x3 x4 x5 => pX10_clears_L9 x1 x2 Q n9 v x3 x4 x5) ih9 v x3 x4 x5 h
  refine z_iconst (pc := 0) (v := 0) C dX10_clears_0 (by decide) ?_
  refine z_istore_n (pc := 1) (lv' := [(3, .int (0 : Int32)), (0, .ref (d 0)), (1, .int x1), (2, .int x2)]) C dX10_clears_1 (by decide) rfl ?_
  refine z_bipush (pc := 2) (v := -5) C dX10_clears_2 (by decide) ?_
  refine z_istore (pc := 4) (lv' := [(4, .int (-5 : Int32)), (3, .int (0 : Int32)), (0, .ref (d 0)), (1, .int x1), (2, .int x2)]) C dX10_clears_4 (by decide) rfl ?_
  refine z_iconst (pc := 6) (v := 0) C dX10_clears_6 (by decide) ?_
  refine z_istore (pc := 7) (lv' := [(5, .int (0 : Int32)), (4, .int (-5 : Int32)), (3, .int (0 : Int32)), (0, .ref (d 0)), (1, .int x1), (2, .int x2)]) C dX10_clears_7 (by decide) rfl ?_
  obtain ⟨n9, h⟩ := h
  refine z_sub (lv' := [(0, .ref (d 0)), (1, .int x1), (2, .int x2), (3, .int (0 : Int32)), (4, .int (-5 : Int32)), (5, .int (0 : Int32))]) [3, 4, 5, 2, 1, 0] rfl ?_
  exact L9  n9 v (0 : Int32) (-5 : Int32) (0 : Int32) h

def pX10_clears__L10 (Q : Lf → Prop) (K2 : Lf → Int32 → Prop) : Nat → Lf → Int32 → Int32 → Prop
  | 0, _, _, _ => False
  | n10 + 1, v, x1, x2 => (((8 : Int32) ≤ x2 → (K2 v (x1 + 1))) ∧ (¬ (8 : Int32) ≤ x2 → (pX10_clears v x1 x2 (fun v_3 => (pX10_clears__L10 Q K2 n10 v_3 x1 (x2 + 1))))))
def pX10_clears__L2 (Q : Lf → Prop) : Nat → Lf → Int32 → Prop
  | 0, _, _ => False
  | n2 + 1, v, x1 => (((8 : Int32) ≤ x1 → (Q v)) ∧ (¬ (8 : Int32) ≤ x1 → (∃ n10, pX10_clears__L10  Q (fun v x1 => pX10_clears__L2 Q n2 v x1) n10 v x1 (0 : Int32))))
def pX10_clears_ (v : Lf)  (Q : Lf → Prop) : Prop := (∃ n2, pX10_clears__L2  Q  n2 v (0 : Int32))
abbrev rmX10_clears_ : Room := { frames := 3, cells := 0, slots := 0, locals := 72 }
abbrev wdX10_clears_ : List Cond := Cond.code yX10_clears_ cX10_clears_ 3 none :: TB
theorem hdSX10_clears_ : (yX10_clears_).cls ≠ "java/lang/invoke/MethodHandle" ∧ (yX10_clears_).cls ≠ "java/lang/invoke/VarHandle" ∧ (parseMethodDescriptor (yX10_clears_).desc).map (fun d => d.parameters.length) = some 0 := by decide +kernel
theorem hdX10_clears_ : (yX10_clears_).cls = RX10 ∧ (yX10_clears_).cls ≠ "java/lang/invoke/MethodHandle" ∧ (yX10_clears_).cls ≠ "java/lang/invoke/VarHandle" ∧ (parseMethodDescriptor (yX10_clears_).desc).map (fun d => d.parameters.length) = some 0 := ⟨rfl, hdSX10_clears_⟩
set_option maxHeartbeats 4000000 in
set_option maxRecDepth 100000 in
theorem kX10_clears_ {l : Launch} {D : va_G} {cI cJ cT : ClassId} (d : Nat → Nat)  (v : Lf) (g : Lg)  {Q : Lf → Prop} (sz : Nat) (h : pX10_clears_ v Q) : Met l yX10_clears_ wdX10_clears_ rmX10_clears_ (Pz D (tyL cI cJ cT) [.ref (d 0)] (wX10 cI cJ d v g) sz) (va_Qv (fun (u : Lf) => Q u) (Bz D (tyL cI cJ cT) (wX10 cI cJ d v g) sz (fun (u : Lf) => (wX10 cI cJ d u g))) (va_A (wX10 cI cJ d v g) sz)) 0 0 (va_A (wX10 cI cJ d v g) sz) := by
  refine z_metv (cc := cX10_clears_) (maxL := 3) (own := RX10) (lv0 := [(0, .ref (d 0))]) (by decide) rfl rfl (Nat.le_of_ble_eq_true rfl) rfl ?_
  intro p e s m args below meth c A QQ C hin hret
  have L10 : ∀ (K2 : Lf → Int32 → Prop), (∀ (v : Lf) (x1 : Int32), K2 v x1 → ZZ p l e rmX10_clears_ s m args below meth c D A 3 0 0 QQ 2 (wX10 cI cJ d v g) [(0, .ref (d 0)), (1, .int x1)] []) → ∀ (n10 : Nat) (v : Lf) (x1 : Int32) (x2 : Int32), pX10_clears__L10 Q K2 n10 v x1 x2 → ZZ p l e rmX10_clears_ s m args below meth c D A 3 0 0 QQ 10 (wX10 cI cJ d v g) [(0, .ref (d 0)), (1, .int x1), (2, .int x2)] [] := by
    intro K2 hK2
    intro n10
    induction n10 with
    | zero => intro v x1 x2 h; exact False.elim h
    | succ n10 ih10 =>
      intro v x1 x2 h
      refine z_iload_n (pc := 10) C 2 dX10_clears__10 rfl ?_
      refine z_bipush (pc := 11) (v := 8) C dX10_clears__11 (by decide) ?_
      refine z_icmp_ge (pc := 13) (tgt := 28) C dX10_clears__13 (by decide) (fun c2 => ?_) (fun c2 => ?_)
      · have h := h.1 c2
        refine z_iinc (pc := 28) (v := (x1 + 1)) (lv' := [(1, .int (x1 + 1)), (0, .ref (d 0)), (2, .int x2)]) C 1 dX10_clears__28 rfl rfl (by decide) rfl ?_
        refine z_goto (pc := 31) (tgt := 2) C dX10_clears__31 (by decide) ?_
        refine z_sub (lv' := [(0, .ref (d 0)), (1, .int (x1 + 1))]) [1, 0] rfl ?_
        exact hK2 v (x1 + 1) h
      · have h := h.2 c2
        refine z_aload_n (pc := 16) C 0 dX10_clears__16 rfl ?_
        refine z_iload_n (pc := 17) C 1 dX10_clears__17 rfl ?_
        refine z_iload_n (pc := 18) C 2 dX10_clears__18 rfl ?_
        refine z_callv (pc := 19) (wr := ([] : va_W)) (w1 := fun (u : Lf) => (wX10 cI cJ d u g)) (w2 := fun (u : Lf) => (wX10 cI cJ d u g)) C (z_runV (pc := 19) (wc := (wX10 cI cJ d v g)) (As := [.int x1, .int x2]) C (fun sz => kX10_clears d v g x1 x2 sz h) [0, 1, 2, 3, 4, 5, 6, 7, 8, 9, 10, 11] rfl (by decide) (gdV wq831 wq832 wq833 wq834 wq814) rfl rfl rfl hdX10_clears 0 rfl rfl rfl ⟨Nat.le_of_ble_eq_true rfl, Nat.le_of_ble_eq_true rfl⟩ rfl (Nat.le_of_ble_eq_true rfl) ⟨Nat.zero_le _, Nat.zero_le _⟩ dX10_clears__19) [0, 1, 2, 3, 4, 5, 6, 7, 8, 9, 10, 11] [] [0, 1, 2, 3, 4, 5, 6, 7, 8, 9, 10, 11] rfl rfl (by decide) (by decide) (fun _ => rfl) (by decide) (fun u3 h => ?_)
        obtain ⟨v_3, hu3⟩ : ∃ z, z = u3 := ⟨_, rfl⟩
        subst hu3
        refine z_iinc (pc := 22) (v := (x2 + 1)) (lv' := [(2, .int (x2 + 1)), (0, .ref (d 0)), (1, .int x1)]) C 2 dX10_clears__22 rfl rfl (by decide) rfl ?_
        refine z_goto (pc := 25) (tgt := 10) C dX10_clears__25 (by decide) ?_
        refine z_sub (lv' := [(0, .ref (d 0)), (1, .int x1), (2, .int (x2 + 1))]) [1, 2, 0] rfl ?_
        exact ih10 v_3 x1 (x2 + 1) h
  have L2 : ∀ (n2 : Nat) (v : Lf) (x1 : Int32), pX10_clears__L2 Q n2 v x1 → ZZ p l e rmX10_clears_ s m args below meth c D A 3 0 0 QQ 2 (wX10 cI cJ d v g) [(0, .ref (d 0)), (1, .int x1)] [] := by
    intro n2
    induction n2 with
    | zero => intro v x1 h; exact False.elim h
    | succ n2 ih2 =>
      intro v x1 h
      refine z_iload_n (pc := 2) C 1 dX10_clears__2 rfl ?_
      refine z_bipush (pc := 3) (v := 8) C dX10_clears__3 (by decide) ?_
      refine z_icmp_ge (pc := 5) (tgt := 34) C dX10_clears__5 (by decide) (fun c1 => ?_) (fun c1 => ?_)
      · have h := h.1 c1
        exact hret 34 _ _ v rfl h dX10_clears__34
      · have h := h.2 c1
        refine z_iconst (pc := 8) (v := 0) C dX10_clears__8 (by decide) ?_
        refine z_istore_n (pc := 9) (lv' := [(2, .int (0 : Int32)), (0, .ref (d 0)), (1, .int x1)]) C dX10_clears__9 (by decide) rfl ?_
        obtain ⟨n10, h⟩ := h
        refine z_sub (lv' := [(0, .ref (d 0)), (1, .int x1), (2, .int (0 : Int32))]) [1, 2, 0] rfl ?_
        exact L10 (fun v x1 => pX10_clears__L2 Q n2 v x1) ih2 n10 v x1 (0 : Int32) h
  refine z_iconst (pc := 0) (v := 0) C dX10_clears__0 (by decide) ?_
  refine z_istore_n (pc := 1) (lv' := [(1, .int (0 : Int32)), (0, .ref (d 0))]) C dX10_clears__1 (by decide) rfl ?_
  obtain ⟨n2, h⟩ := h
  refine z_sub (lv' := [(0, .ref (d 0)), (1, .int (0 : Int32))]) [1, 0] rfl ?_
  exact L2  n2 v (0 : Int32) h

def pX10_isIn  (x0 : Int32) (x1 : Int32) (x2 : Int32) (Q : Int32 → Prop) : Prop := ((x0 < x1 → (Q (0 : Int32) )) ∧ (¬ x0 < x1 → ((x2 < x0 → (Q (0 : Int32) )) ∧ (¬ x2 < x0 → (Q (1 : Int32) )))))
abbrev rmX10_isIn : Room := { frames := 0, cells := 0, slots := 0, locals := 0 }
abbrev wdX10_isIn : List Cond := Cond.code yX10_isIn cX10_isIn 3 (some .boolean) :: TB
theorem hdSX10_isIn : (yX10_isIn).cls ≠ "java/lang/invoke/MethodHandle" ∧ (yX10_isIn).cls ≠ "java/lang/invoke/VarHandle" ∧ (parseMethodDescriptor (yX10_isIn).desc).map (fun d => d.parameters.length) = some 3 := by decide +kernel
theorem hdX10_isIn : (yX10_isIn).cls = RX10 ∧ (yX10_isIn).cls ≠ "java/lang/invoke/MethodHandle" ∧ (yX10_isIn).cls ≠ "java/lang/invoke/VarHandle" ∧ (parseMethodDescriptor (yX10_isIn).desc).map (fun d => d.parameters.length) = some 3 := ⟨rfl, hdSX10_isIn⟩
set_option maxHeartbeats 4000000 in
set_option maxRecDepth 100000 in
theorem kX10_isIn {l : Launch} {D : va_G} {cI cJ cT : ClassId}    (x0 : Int32) (x1 : Int32) (x2 : Int32) {Q : Int32 → Prop} (sz : Nat) (h : pX10_isIn x0 x1 x2 Q) : Met l yX10_isIn wdX10_isIn rmX10_isIn (Pz D (tyL cI cJ cT) [.int x0, .int x1, .int x2] ([] : va_W) sz) (va_Qi (fun (r : Int32) (u : Unit) => Q r) (Bz D (tyL cI cJ cT) ([] : va_W) sz (fun (u : Unit) => ([] : va_W))) (va_A ([] : va_W) sz)) 0 0 (va_A ([] : va_W) sz) := by
  refine z_metz (cc := cX10_isIn) (maxL := 3) (own := RX10) (lv0 := [(0, .int x0), (1, .int x1), (2, .int x2)]) (by decide) rfl rfl (Nat.le_of_ble_eq_true rfl) rfl ?_
  intro p e s m args below meth c A QQ C hin hret
  refine z_iload_n (pc := 0) C 0 dX10_isIn_0 rfl ?_
  refine z_iload_n (pc := 1) C 1 dX10_isIn_1 rfl ?_
  refine z_icmp_lt (pc := 2) (tgt := 14) C dX10_isIn_2 (by decide) (fun c1 => ?_) (fun c1 => ?_)
  · have h := h.1 c1
    refine z_iconst (pc := 14) (v := 0) C dX10_isIn_14 (by decide) ?_
    exact hret 15 _ _ (0 : Int32) rfl () rfl h dX10_isIn_15
  · have h := h.2 c1
    refine z_iload_n (pc := 5) C 0 dX10_isIn_5 rfl ?_
    refine z_iload_n (pc := 6) C 2 dX10_isIn_6 rfl ?_
    refine z_icmp_gt (pc := 7) (tgt := 14) C dX10_isIn_7 (by decide) (fun c2 => ?_) (fun c2 => ?_)
    · have h := h.1 c2
      refine z_iconst (pc := 14) (v := 0) C dX10_isIn_14 (by decide) ?_
      exact hret 15 _ _ (0 : Int32) rfl () rfl h dX10_isIn_15
    · have h := h.2 c2
      refine z_iconst (pc := 10) (v := 1) C dX10_isIn_10 (by decide) ?_
      refine z_goto (pc := 11) (tgt := 15) C dX10_isIn_11 (by decide) ?_
      exact hret 15 _ _ (1 : Int32) rfl () rfl h dX10_isIn_15

def pX10_has  (x0 : Int32) (x1 : Int32) (Q : Int32 → Prop) : Prop := ((¬ ((x0 >>> (x1 &&& 31)) &&& (1 : Int32)) = (1 : Int32) → (Q (0 : Int32) )) ∧ (((x0 >>> (x1 &&& 31)) &&& (1 : Int32)) = (1 : Int32) → (Q (1 : Int32) )))
abbrev rmX10_has : Room := { frames := 0, cells := 0, slots := 0, locals := 0 }
abbrev wdX10_has : List Cond := Cond.code yX10_has cX10_has 2 (some .boolean) :: TB
theorem hdSX10_has : (yX10_has).cls ≠ "java/lang/invoke/MethodHandle" ∧ (yX10_has).cls ≠ "java/lang/invoke/VarHandle" ∧ (parseMethodDescriptor (yX10_has).desc).map (fun d => d.parameters.length) = some 2 := by decide +kernel
theorem hdX10_has : (yX10_has).cls = RX10 ∧ (yX10_has).cls ≠ "java/lang/invoke/MethodHandle" ∧ (yX10_has).cls ≠ "java/lang/invoke/VarHandle" ∧ (parseMethodDescriptor (yX10_has).desc).map (fun d => d.parameters.length) = some 2 := ⟨rfl, hdSX10_has⟩
set_option maxHeartbeats 4000000 in
set_option maxRecDepth 100000 in
theorem kX10_has {l : Launch} {D : va_G} {cI cJ cT : ClassId}    (x0 : Int32) (x1 : Int32) {Q : Int32 → Prop} (sz : Nat) (h : pX10_has x0 x1 Q) : Met l yX10_has wdX10_has rmX10_has (Pz D (tyL cI cJ cT) [.int x0, .int x1] ([] : va_W) sz) (va_Qi (fun (r : Int32) (u : Unit) => Q r) (Bz D (tyL cI cJ cT) ([] : va_W) sz (fun (u : Unit) => ([] : va_W))) (va_A ([] : va_W) sz)) 0 0 (va_A ([] : va_W) sz) := by
  refine z_metz (cc := cX10_has) (maxL := 2) (own := RX10) (lv0 := [(0, .int x0), (1, .int x1)]) (by decide) rfl rfl (Nat.le_of_ble_eq_true rfl) rfl ?_
  intro p e s m args below meth c A QQ C hin hret
  refine z_iload_n (pc := 0) C 0 dX10_has_0 rfl ?_
  refine z_iload_n (pc := 1) C 1 dX10_has_1 rfl ?_
  refine z_ishr (pc := 2) C dX10_has_2 ?_
  refine z_iconst (pc := 3) (v := 1) C dX10_has_3 (by decide) ?_
  refine z_iand (pc := 4) C dX10_has_4 ?_
  refine z_iconst (pc := 5) (v := 1) C dX10_has_5 (by decide) ?_
  refine z_icmp_ne (pc := 6) (tgt := 13) C dX10_has_6 (by decide) (fun c1 => ?_) (fun c1 => ?_)
  · have h := h.1 c1
    refine z_iconst (pc := 13) (v := 0) C dX10_has_13 (by decide) ?_
    exact hret 14 _ _ (0 : Int32) rfl () rfl h dX10_has_14
  · have h := h.2 c1
    refine z_iconst (pc := 9) (v := 1) C dX10_has_9 (by decide) ?_
    refine z_goto (pc := 10) (tgt := 14) C dX10_has_10 (by decide) ?_
    exact hret 14 _ _ (1 : Int32) rfl () rfl h dX10_has_14

def pX10_isSignal (v : Lf) (x1 : Int32) (Q : Int32 → Prop) : Prop := (pX10_isIn x1 (0 : Int32) ((v 1 13) - (1 : Int32)) (fun r2 => (narrow .boolean (.int r2) = .int r2 ∧ (Q r2 ))))
abbrev rmX10_isSignal : Room := { frames := 1, cells := 0, slots := 0, locals := 22 }
abbrev wdX10_isSignal : List Cond := Cond.code yX10_isSignal cX10_isSignal 2 (some .boolean) :: TB
theorem hdSX10_isSignal : (yX10_isSignal).cls ≠ "java/lang/invoke/MethodHandle" ∧ (yX10_isSignal).cls ≠ "java/lang/invoke/VarHandle" ∧ (parseMethodDescriptor (yX10_isSignal).desc).map (fun d => d.parameters.length) = some 1 := by decide +kernel
theorem hdX10_isSignal : (yX10_isSignal).cls = RX10 ∧ (yX10_isSignal).cls ≠ "java/lang/invoke/MethodHandle" ∧ (yX10_isSignal).cls ≠ "java/lang/invoke/VarHandle" ∧ (parseMethodDescriptor (yX10_isSignal).desc).map (fun d => d.parameters.length) = some 1 := ⟨rfl, hdSX10_isSignal⟩
set_option maxHeartbeats 4000000 in
set_option maxRecDepth 100000 in
theorem kX10_isSignal {l : Launch} {D : va_G} {cI cJ cT : ClassId} (d : Nat → Nat)  (v : Lf) (g : Lg) (x1 : Int32) {Q : Int32 → Prop} (sz : Nat) (h : pX10_isSignal v x1 Q) : Met l yX10_isSignal wdX10_isSignal rmX10_isSignal (Pz D (tyL cI cJ cT) [.ref (d 0), .int x1] (wX10 cI cJ d v g) sz) (va_Qi (fun (r : Int32) (u : Unit) => Q r) (Bz D (tyL cI cJ cT) (wX10 cI cJ d v g) sz (fun (u : Unit) => (wX10 cI cJ d v g))) (va_A (wX10 cI cJ d v g) sz)) 0 0 (va_A (wX10 cI cJ d v g) sz) := by
  refine z_metz (cc := cX10_isSignal) (maxL := 2) (own := RX10) (lv0 := [(0, .ref (d 0)), (1, .int x1)]) (by decide) rfl rfl (Nat.le_of_ble_eq_true rfl) rfl ?_
  intro p e s m args below meth c A QQ C hin hret
  refine z_iload_n (pc := 0) C 1 dX10_isSignal_0 rfl ?_
  refine z_iconst (pc := 1) (v := 0) C dX10_isSignal_1 (by decide) ?_
  refine z_aload_n (pc := 2) C 0 dX10_isSignal_2 rfl ?_
  refine z_get (pc := 3) C uw10 0 rfl rfl 0 (by decide) wq809 rfl dX10_isSignal_3 ?_
  refine z_bipush (pc := 6) (v := 13) C dX10_isSignal_6 (by decide) ?_
  refine z_iald (pc := 8) C 1 0 rfl rfl vi_13_372 (v 1 13) (congrArg _ cl_13) dX10_isSignal_8 ?_
  refine z_iconst (pc := 9) (v := 1) C dX10_isSignal_9 (by decide) ?_
  refine z_isub (pc := 10) C dX10_isSignal_10 ?_
  refine z_call0i (pc := 11) C (z_runS (pc := 11) (wc := ([] : va_W)) (As := [.int x1, .int (0 : Int32), .int ((v 1 13) - (1 : Int32))]) C (fun sz => kX10_isIn x1 (0 : Int32) ((v 1 13) - (1 : Int32)) sz h) [] rfl (by decide) (gdS wq849 wq852 wq853 wq814) rfl rfl rfl hdSX10_isIn ⟨Nat.le_of_ble_eq_true rfl, Nat.le_of_ble_eq_true rfl⟩ rfl (Nat.le_of_ble_eq_true rfl) ⟨Nat.zero_le _, Nat.zero_le _⟩ dX10_isSignal_11) (fun r2 u2 h => ?_)
  obtain ⟨g3, h⟩ := h
  exact hret 14 _ _ r2 g3 () rfl h dX10_isSignal_14

def pX10_isPhase (v : Lf) (x1 : Int32) (Q : Int32 → Prop) : Prop := (pX10_isIn x1 (0 : Int32) ((v 1 14) - (1 : Int32)) (fun r2 => (narrow .boolean (.int r2) = .int r2 ∧ (Q r2 ))))
abbrev rmX10_isPhase : Room := { frames := 1, cells := 0, slots := 0, locals := 22 }
abbrev wdX10_isPhase : List Cond := Cond.code yX10_isPhase cX10_isPhase 2 (some .boolean) :: TB
theorem hdSX10_isPhase : (yX10_isPhase).cls ≠ "java/lang/invoke/MethodHandle" ∧ (yX10_isPhase).cls ≠ "java/lang/invoke/VarHandle" ∧ (parseMethodDescriptor (yX10_isPhase).desc).map (fun d => d.parameters.length) = some 1 := by decide +kernel
theorem hdX10_isPhase : (yX10_isPhase).cls = RX10 ∧ (yX10_isPhase).cls ≠ "java/lang/invoke/MethodHandle" ∧ (yX10_isPhase).cls ≠ "java/lang/invoke/VarHandle" ∧ (parseMethodDescriptor (yX10_isPhase).desc).map (fun d => d.parameters.length) = some 1 := ⟨rfl, hdSX10_isPhase⟩
set_option maxHeartbeats 4000000 in
set_option maxRecDepth 100000 in
theorem kX10_isPhase {l : Launch} {D : va_G} {cI cJ cT : ClassId} (d : Nat → Nat)  (v : Lf) (g : Lg) (x1 : Int32) {Q : Int32 → Prop} (sz : Nat) (h : pX10_isPhase v x1 Q) : Met l yX10_isPhase wdX10_isPhase rmX10_isPhase (Pz D (tyL cI cJ cT) [.ref (d 0), .int x1] (wX10 cI cJ d v g) sz) (va_Qi (fun (r : Int32) (u : Unit) => Q r) (Bz D (tyL cI cJ cT) (wX10 cI cJ d v g) sz (fun (u : Unit) => (wX10 cI cJ d v g))) (va_A (wX10 cI cJ d v g) sz)) 0 0 (va_A (wX10 cI cJ d v g) sz) := by
  refine z_metz (cc := cX10_isPhase) (maxL := 2) (own := RX10) (lv0 := [(0, .ref (d 0)), (1, .int x1)]) (by decide) rfl rfl (Nat.le_of_ble_eq_true rfl) rfl ?_
  intro p e s m args below meth c A QQ C hin hret
  refine z_iload_n (pc := 0) C 1 dX10_isPhase_0 rfl ?_
  refine z_iconst (pc := 1) (v := 0) C dX10_isPhase_1 (by decide) ?_
  refine z_aload_n (pc := 2) C 0 dX10_isPhase_2 rfl ?_
  refine z_get (pc := 3) C uw10 0 rfl rfl 0 (by decide) wq809 rfl dX10_isPhase_3 ?_
  refine z_bipush (pc := 6) (v := 14) C dX10_isPhase_6 (by decide) ?_
  refine z_iald (pc := 8) C 1 0 rfl rfl vi_14_372 (v 1 14) (congrArg _ cl_14) dX10_isPhase_8 ?_
  refine z_iconst (pc := 9) (v := 1) C dX10_isPhase_9 (by decide) ?_
  refine z_isub (pc := 10) C dX10_isPhase_10 ?_
  refine z_call0i (pc := 11) C (z_runS (pc := 11) (wc := ([] : va_W)) (As := [.int x1, .int (0 : Int32), .int ((v 1 14) - (1 : Int32))]) C (fun sz => kX10_isIn x1 (0 : Int32) ((v 1 14) - (1 : Int32)) sz h) [] rfl (by decide) (gdS wq849 wq852 wq853 wq814) rfl rfl rfl hdSX10_isIn ⟨Nat.le_of_ble_eq_true rfl, Nat.le_of_ble_eq_true rfl⟩ rfl (Nat.le_of_ble_eq_true rfl) ⟨Nat.zero_le _, Nat.zero_le _⟩ dX10_isPhase_11) (fun r2 u2 h => ?_)
  obtain ⟨g3, h⟩ := h
  exact hret 14 _ _ r2 g3 () rfl h dX10_isPhase_14

def pX10_puts (v : Lf) (x1 : Int32) (x2 : Int32) (x3 : Int32) (Q : Lf → Prop) : Prop := (vp_in (((24 : Int32) + ((24 : Int32) * x1)) + x2) 372 ∧ (Q (st v 1 ((((24 : Int32) + ((24 : Int32) * x1)) + x2).toNatClampNeg) x3)))
abbrev rmX10_puts : Room := { frames := 0, cells := 0, slots := 0, locals := 0 }
abbrev wdX10_puts : List Cond := Cond.code yX10_puts cX10_puts 4 none :: TB
theorem hdSX10_puts : (yX10_puts).cls ≠ "java/lang/invoke/MethodHandle" ∧ (yX10_puts).cls ≠ "java/lang/invoke/VarHandle" ∧ (parseMethodDescriptor (yX10_puts).desc).map (fun d => d.parameters.length) = some 3 := by decide +kernel
theorem hdX10_puts : (yX10_puts).cls = RX10 ∧ (yX10_puts).cls ≠ "java/lang/invoke/MethodHandle" ∧ (yX10_puts).cls ≠ "java/lang/invoke/VarHandle" ∧ (parseMethodDescriptor (yX10_puts).desc).map (fun d => d.parameters.length) = some 3 := ⟨rfl, hdSX10_puts⟩
set_option maxHeartbeats 4000000 in
set_option maxRecDepth 100000 in
theorem kX10_puts {l : Launch} {D : va_G} {cI cJ cT : ClassId} (d : Nat → Nat)  (v : Lf) (g : Lg) (x1 : Int32) (x2 : Int32) (x3 : Int32) {Q : Lf → Prop} (sz : Nat) (h : pX10_puts v x1 x2 x3 Q) : Met l yX10_puts wdX10_puts rmX10_puts (Pz D (tyL cI cJ cT) [.ref (d 0), .int x1, .int x2, .int x3] (wX10 cI cJ d v g) sz) (va_Qv (fun (u : Lf) => Q u) (Bz D (tyL cI cJ cT) (wX10 cI cJ d v g) sz (fun (u : Lf) => (wX10 cI cJ d u g))) (va_A (wX10 cI cJ d v g) sz)) 0 0 (va_A (wX10 cI cJ d v g) sz) := by
  refine z_metv (cc := cX10_puts) (maxL := 4) (own := RX10) (lv0 := [(0, .ref (d 0)), (1, .int x1), (2, .int x2), (3, .int x3)]) (by decide) rfl rfl (Nat.le_of_ble_eq_true rfl) rfl ?_
  intro p e s m args below meth c A QQ C hin hret
  refine z_aload_n (pc := 0) C 0 dX10_puts_0 rfl ?_
  refine z_get (pc := 1) C uw10 0 rfl rfl 0 (by decide) wq809 rfl dX10_puts_1 ?_
  refine z_bipush (pc := 4) (v := 24) C dX10_puts_4 (by decide) ?_
  refine z_bipush (pc := 6) (v := 24) C dX10_puts_6 (by decide) ?_
  refine z_iload_n (pc := 8) C 1 dX10_puts_8 rfl ?_
  refine z_imul (pc := 9) C dX10_puts_9 ?_
  refine z_iadd (pc := 10) C dX10_puts_10 ?_
  refine z_iload_n (pc := 11) C 2 dX10_puts_11 rfl ?_
  refine z_iadd (pc := 12) C dX10_puts_12 ?_
  refine z_iload_n (pc := 13) C 3 dX10_puts_13 rfl ?_
  obtain ⟨g1, h⟩ := h
  refine z_iast (pc := 14) (ws' := (wX10 cI cJ d (st v 1 ((((24 : Int32) + ((24 : Int32) * x1)) + x2).toNatClampNeg) x3) g)) C 1 0 rfl rfl g1 dX10_puts_14 rfl sX10_a1 ?_
  exact hret 15 _ _ (st v 1 ((((24 : Int32) + ((24 : Int32) * x1)) + x2).toNatClampNeg) x3) rfl h dX10_puts_15

def pX10_setOf (v : Lf) (x1 : Int32) (Q : Int32 → Prop) : Prop := (vp_in ((216 : Int32) + ((3 : Int32) * x1)) 372 ∧ (Q (v 1 ((216 : Int32) + ((3 : Int32) * x1)).toNatClampNeg) ))
abbrev rmX10_setOf : Room := { frames := 0, cells := 0, slots := 0, locals := 0 }
abbrev wdX10_setOf : List Cond := Cond.code yX10_setOf cX10_setOf 2 (some .int) :: TB
theorem hdSX10_setOf : (yX10_setOf).cls ≠ "java/lang/invoke/MethodHandle" ∧ (yX10_setOf).cls ≠ "java/lang/invoke/VarHandle" ∧ (parseMethodDescriptor (yX10_setOf).desc).map (fun d => d.parameters.length) = some 1 := by decide +kernel
theorem hdX10_setOf : (yX10_setOf).cls = RX10 ∧ (yX10_setOf).cls ≠ "java/lang/invoke/MethodHandle" ∧ (yX10_setOf).cls ≠ "java/lang/invoke/VarHandle" ∧ (parseMethodDescriptor (yX10_setOf).desc).map (fun d => d.parameters.length) = some 1 := ⟨rfl, hdSX10_setOf⟩
set_option maxHeartbeats 4000000 in
set_option maxRecDepth 100000 in
theorem kX10_setOf {l : Launch} {D : va_G} {cI cJ cT : ClassId} (d : Nat → Nat)  (v : Lf) (g : Lg) (x1 : Int32) {Q : Int32 → Prop} (sz : Nat) (h : pX10_setOf v x1 Q) : Met l yX10_setOf wdX10_setOf rmX10_setOf (Pz D (tyL cI cJ cT) [.ref (d 0), .int x1] (wX10 cI cJ d v g) sz) (va_Qi (fun (r : Int32) (u : Unit) => Q r) (Bz D (tyL cI cJ cT) (wX10 cI cJ d v g) sz (fun (u : Unit) => (wX10 cI cJ d v g))) (va_A (wX10 cI cJ d v g) sz)) 0 0 (va_A (wX10 cI cJ d v g) sz) := by
  refine z_meti (cc := cX10_setOf) (maxL := 2) (own := RX10) (lv0 := [(0, .ref (d 0)), (1, .int x1)]) (by decide) rfl rfl (Nat.le_of_ble_eq_true rfl) rfl ?_
  intro p e s m args below meth c A QQ C hin hret
  refine z_aload_n (pc := 0) C 0 dX10_setOf_0 rfl ?_
  refine z_get (pc := 1) C uw10 0 rfl rfl 0 (by decide) wq809 rfl dX10_setOf_1 ?_
  refine z_sipush (pc := 4) (v := 216) C dX10_setOf_4 (by decide) ?_
  refine z_iconst (pc := 7) (v := 3) C dX10_setOf_7 (by decide) ?_
  refine z_iload_n (pc := 8) C 1 dX10_setOf_8 rfl ?_
  refine z_imul (pc := 9) C dX10_setOf_9 ?_
  refine z_iadd (pc := 10) C dX10_setOf_10 ?_
  obtain ⟨g1, h⟩ := h
  refine z_iald (pc := 11) C 1 0 rfl rfl g1 (v 1 ((216 : Int32) + ((3 : Int32) * x1)).toNatClampNeg) rfl dX10_setOf_11 ?_
  exact hret 12 _ _ (v 1 ((216 : Int32) + ((3 : Int32) * x1)).toNatClampNeg) () rfl h dX10_setOf_12

def pX10_copies_L2 (nA : Nat) (nB : Nat) (fA : Nat → Int32) (Q : (Nat → Int32) → Prop) : Nat → (Nat → Int32) → Int32 → Prop
  | 0, _, _ => False
  | n2 + 1, fB, x2 => (((nI nA) ≤ x2 → (Q fB)) ∧ (¬ (nI nA) ≤ x2 → (vp_in x2 nA ∧ (vp_in x2 nB ∧ (pX10_copies_L2 nA nB fA Q n2 (upd fB x2.toNatClampNeg (fA x2.toNatClampNeg)) (x2 + 1))))))
def pX10_copies (nA : Nat) (nB : Nat) (fA : Nat → Int32) (fB : Nat → Int32)  (Q : (Nat → Int32) → Prop) : Prop := (∃ n2, pX10_copies_L2 nA nB fA Q  n2 fB (0 : Int32))
abbrev rmX10_copies : Room := { frames := 0, cells := 0, slots := 0, locals := 0 }
abbrev wdX10_copies : List Cond := Cond.code yX10_copies cX10_copies 3 none :: TB
theorem hdSX10_copies : (yX10_copies).cls ≠ "java/lang/invoke/MethodHandle" ∧ (yX10_copies).cls ≠ "java/lang/invoke/VarHandle" ∧ (parseMethodDescriptor (yX10_copies).desc).map (fun d => d.parameters.length) = some 2 := by decide +kernel
theorem hdX10_copies : (yX10_copies).cls = RX10 ∧ (yX10_copies).cls ≠ "java/lang/invoke/MethodHandle" ∧ (yX10_copies).cls ≠ "java/lang/invoke/VarHandle" ∧ (parseMethodDescriptor (yX10_copies).desc).map (fun d => d.parameters.length) = some 2 := ⟨rfl, hdSX10_copies⟩
set_option maxHeartbeats 4000000 in
set_option maxRecDepth 100000 in
theorem kX10_copies {l : Launch} {D : va_G} {cI cJ cT : ClassId} (dA : Nat) (dB : Nat) (nA : Nat) (nB : Nat) (fA : Nat → Int32) (fB : Nat → Int32)  {Q : (Nat → Int32) → Prop} (sz : Nat) (h : pX10_copies nA nB fA fB Q) : Met l yX10_copies wdX10_copies rmX10_copies (Pz D (tyL cI cJ cT) [.ref dA, .ref dB] ([(dA, .inl (cI, nA, .inl fA))] ++ [(dB, .inl (cI, nB, .inl fB))]) sz) (va_Qv (fun (u : (Nat → Int32)) => Q u) (Bz D (tyL cI cJ cT) ([(dA, .inl (cI, nA, .inl fA))] ++ [(dB, .inl (cI, nB, .inl fB))]) sz (fun (u : (Nat → Int32)) => ([(dA, .inl (cI, nA, .inl fA))] ++ [(dB, .inl (cI, nB, .inl u))]))) (va_A ([(dA, .inl (cI, nA, .inl fA))] ++ [(dB, .inl (cI, nB, .inl fB))]) sz)) 0 0 (va_A ([(dA, .inl (cI, nA, .inl fA))] ++ [(dB, .inl (cI, nB, .inl fB))]) sz) := by
  refine z_metv (cc := cX10_copies) (maxL := 3) (own := RX10) (lv0 := [(0, .ref dA), (1, .ref dB)]) (by decide) rfl rfl (Nat.le_of_ble_eq_true rfl) rfl ?_
  intro p e s m args below meth c A QQ C hin hret
  have L2 : ∀ (n2 : Nat) (fB : Nat → Int32) (x2 : Int32), pX10_copies_L2 nA nB fA Q n2 fB x2 → ZZ p l e rmX10_copies s m args below meth c D A 3 0 0 QQ 2 ([(dA, .inl (cI, nA, .inl fA))] ++ [(dB, .inl (cI, nB, .inl fB))]) [(0, .ref dA), (1, .ref dB), (2, .int x2)] [] := by
    intro n2
    induction n2 with
    | zero => intro fB x2 h; exact False.elim h
    | succ n2 ih2 =>
      intro fB x2 h
      refine z_iload_n (pc := 2) C 2 dX10_copies_2 rfl ?_
      refine z_aload_n (pc := 3) C 0 dX10_copies_3 rfl ?_
      refine z_alen (pc := 4) (v := (nI nA)) C 0 0 rfl rfl rfl dX10_copies_4 ?_
      refine z_icmp_ge (pc := 5) (tgt := 20) C dX10_copies_5 (by decide) (fun c1 => ?_) (fun c1 => ?_)
      · have h := h.1 c1
        exact hret 20 _ _ fB rfl h dX10_copies_20
      · have h := h.2 c1
        refine z_aload_n (pc := 8) C 1 dX10_copies_8 rfl ?_
        refine z_iload_n (pc := 9) C 2 dX10_copies_9 rfl ?_
        refine z_aload_n (pc := 10) C 0 dX10_copies_10 rfl ?_
        refine z_iload_n (pc := 11) C 2 dX10_copies_11 rfl ?_
        obtain ⟨g2, h⟩ := h
        refine z_iald (pc := 12) C 0 0 rfl rfl g2 (fA x2.toNatClampNeg) rfl dX10_copies_12 ?_
        obtain ⟨g3, h⟩ := h
        refine z_iast (pc := 13) (ws' := ([(dA, .inl (cI, nA, .inl fA))] ++ [(dB, .inl (cI, nB, .inl (upd fB x2.toNatClampNeg (fA x2.toNatClampNeg))))])) C 1 0 rfl rfl g3 dX10_copies_13 rfl rfl ?_
        refine z_iinc (pc := 14) (v := (x2 + 1)) (lv' := [(2, .int (x2 + 1)), (0, .ref dA), (1, .ref dB)]) C 2 dX10_copies_14 rfl rfl (by decide) rfl ?_
        refine z_goto (pc := 17) (tgt := 2) C dX10_copies_17 (by decide) ?_
        refine z_sub (lv' := [(0, .ref dA), (1, .ref dB), (2, .int (x2 + 1))]) [1, 2, 0] rfl ?_
        exact ih2 (upd fB x2.toNatClampNeg (fA x2.toNatClampNeg)) (x2 + 1) h
  refine z_iconst (pc := 0) (v := 0) C dX10_copies_0 (by decide) ?_
  refine z_istore_n (pc := 1) (lv' := [(2, .int (0 : Int32)), (0, .ref dA), (1, .ref dB)]) C dX10_copies_1 (by decide) rfl ?_
  obtain ⟨n2, h⟩ := h
  refine z_sub (lv' := [(0, .ref dA), (1, .ref dB), (2, .int (0 : Int32))]) [1, 2, 0] rfl ?_
  exact L2  n2 fB (0 : Int32) h

def pX10_meet (v : Lf) (x1 : Int32) (x2 : Int32) (Q : Int32 → Prop) : Prop := (vp_in (((8 : Int32) * x1) + x2) 64 ∧ (((v 4 (((8 : Int32) * x1) + x2).toNatClampNeg) < 0 → (Q (0 : Int32) )) ∧ (¬ (v 4 (((8 : Int32) * x1) + x2).toNatClampNeg) < 0 → (Q (1 : Int32) ))))
abbrev rmX10_meet : Room := { frames := 0, cells := 0, slots := 0, locals := 0 }
abbrev wdX10_meet : List Cond := Cond.code yX10_meet cX10_meet 3 (some .boolean) :: TB
theorem hdSX10_meet : (yX10_meet).cls ≠ "java/lang/invoke/MethodHandle" ∧ (yX10_meet).cls ≠ "java/lang/invoke/VarHandle" ∧ (parseMethodDescriptor (yX10_meet).desc).map (fun d => d.parameters.length) = some 2 := by decide +kernel
theorem hdX10_meet : (yX10_meet).cls = RX10 ∧ (yX10_meet).cls ≠ "java/lang/invoke/MethodHandle" ∧ (yX10_meet).cls ≠ "java/lang/invoke/VarHandle" ∧ (parseMethodDescriptor (yX10_meet).desc).map (fun d => d.parameters.length) = some 2 := ⟨rfl, hdSX10_meet⟩
set_option maxHeartbeats 4000000 in
set_option maxRecDepth 100000 in
theorem kX10_meet {l : Launch} {D : va_G} {cI cJ cT : ClassId} (d : Nat → Nat)  (v : Lf) (g : Lg) (x1 : Int32) (x2 : Int32) {Q : Int32 → Prop} (sz : Nat) (h : pX10_meet v x1 x2 Q) : Met l yX10_meet wdX10_meet rmX10_meet (Pz D (tyL cI cJ cT) [.ref (d 0), .int x1, .int x2] (wX10 cI cJ d v g) sz) (va_Qi (fun (r : Int32) (u : Unit) => Q r) (Bz D (tyL cI cJ cT) (wX10 cI cJ d v g) sz (fun (u : Unit) => (wX10 cI cJ d v g))) (va_A (wX10 cI cJ d v g) sz)) 0 0 (va_A (wX10 cI cJ d v g) sz) := by
  refine z_metz (cc := cX10_meet) (maxL := 3) (own := RX10) (lv0 := [(0, .ref (d 0)), (1, .int x1), (2, .int x2)]) (by decide) rfl rfl (Nat.le_of_ble_eq_true rfl) rfl ?_
  intro p e s m args below meth c A QQ C hin hret
  refine z_aload_n (pc := 0) C 0 dX10_meet_0 rfl ?_
  refine z_get (pc := 1) C uw10 0 rfl rfl 5 (by decide) wq820 rfl dX10_meet_1 ?_
  refine z_bipush (pc := 4) (v := 8) C dX10_meet_4 (by decide) ?_
  refine z_iload_n (pc := 6) C 1 dX10_meet_6 rfl ?_
  refine z_imul (pc := 7) C dX10_meet_7 ?_
  refine z_iload_n (pc := 8) C 2 dX10_meet_8 rfl ?_
  refine z_iadd (pc := 9) C dX10_meet_9 ?_
  obtain ⟨g1, h⟩ := h
  refine z_iald (pc := 10) C 4 0 rfl rfl g1 (v 4 (((8 : Int32) * x1) + x2).toNatClampNeg) rfl dX10_meet_10 ?_
  refine z_if_lt (pc := 11) (tgt := 18) C dX10_meet_11 (by decide) (fun c2 => ?_) (fun c2 => ?_)
  · have h := h.1 c2
    refine z_iconst (pc := 18) (v := 0) C dX10_meet_18 (by decide) ?_
    exact hret 19 _ _ (0 : Int32) rfl () rfl h dX10_meet_19
  · have h := h.2 c2
    refine z_iconst (pc := 14) (v := 1) C dX10_meet_14 (by decide) ?_
    refine z_goto (pc := 15) (tgt := 19) C dX10_meet_15 (by decide) ?_
    exact hret 19 _ _ (1 : Int32) rfl () rfl h dX10_meet_19

def pX10_meets_J32 (v : Lf) (x1 : Int32) (Q : Int32 → Prop) (K4 : Int32 → Int32 → Prop) (x3 : Int32) (t0 : Int32) (t1 : Int32) : Prop := (K4 (t0 ||| t1) (x3 + 1))
def pX10_meets_L4 (v : Lf) (x1 : Int32) (Q : Int32 → Prop) : Nat → Int32 → Int32 → Prop
  | 0, _, _ => False
  | n4 + 1, x2, x3 => (((v 1 13) ≤ x3 → (Q x2 )) ∧ (¬ (v 1 13) ≤ x3 → (pX10_meet v x1 x3 (fun r3 => ((r3 = 0 → (pX10_meets_J32 v x1 Q (fun x2 x3 => pX10_meets_L4 v x1 Q n4 x2 x3) x3 x2 (0 : Int32))) ∧ (¬ r3 = 0 → (pX10_meets_J32 v x1 Q (fun x2 x3 => pX10_meets_L4 v x1 Q n4 x2 x3) x3 x2 ((1 : Int32) <<< (x3 &&& 31)))))))))
def pX10_meets (v : Lf) (x1 : Int32) (Q : Int32 → Prop) : Prop := (∃ n4, pX10_meets_L4 v x1 Q  n4 (0 : Int32) (0 : Int32))
abbrev rmX10_meets : Room := { frames := 1, cells := 0, slots := 0, locals := 22 }
abbrev wdX10_meets : List Cond := Cond.code yX10_meets cX10_meets 4 (some .int) :: TB
theorem hdSX10_meets : (yX10_meets).cls ≠ "java/lang/invoke/MethodHandle" ∧ (yX10_meets).cls ≠ "java/lang/invoke/VarHandle" ∧ (parseMethodDescriptor (yX10_meets).desc).map (fun d => d.parameters.length) = some 1 := by decide +kernel
theorem hdX10_meets : (yX10_meets).cls = RX10 ∧ (yX10_meets).cls ≠ "java/lang/invoke/MethodHandle" ∧ (yX10_meets).cls ≠ "java/lang/invoke/VarHandle" ∧ (parseMethodDescriptor (yX10_meets).desc).map (fun d => d.parameters.length) = some 1 := ⟨rfl, hdSX10_meets⟩
set_option maxHeartbeats 4000000 in
set_option maxRecDepth 100000 in
theorem kX10_meets {l : Launch} {D : va_G} {cI cJ cT : ClassId} (d : Nat → Nat)  (v : Lf) (g : Lg) (x1 : Int32) {Q : Int32 → Prop} (sz : Nat) (h : pX10_meets v x1 Q) : Met l yX10_meets wdX10_meets rmX10_meets (Pz D (tyL cI cJ cT) [.ref (d 0), .int x1] (wX10 cI cJ d v g) sz) (va_Qi (fun (r : Int32) (u : Unit) => Q r) (Bz D (tyL cI cJ cT) (wX10 cI cJ d v g) sz (fun (u : Unit) => (wX10 cI cJ d v g))) (va_A (wX10 cI cJ d v g) sz)) 0 0 (va_A (wX10 cI cJ d v g) sz) := by
  refine z_meti (cc := cX10_meets) (maxL := 4) (own := RX10) (lv0 := [(0, .ref (d 0)), (1, .int x1)]) (by decide) rfl rfl (Nat.le_of_ble_eq_true rfl) rfl ?_
  intro p e s m args below meth c A QQ C hin hret
  have J32 : ∀ (K4 : Int32 → Int32 → Prop), (∀ (x2 : Int32) (x3 : Int32), K4 x2 x3 → ZZ p l e rmX10_meets s m args below meth c D A 4 0 0 QQ 4 (wX10 cI cJ d v g) [(0, .ref (d 0)), (1, .int x1), (2, .int x2), (3, .int x3)] []) → ∀ (x3 : Int32) (t0 : Int32) (t1 : Int32), pX10_meets_J32 v x1 Q K4 x3 t0 t1 → ZZ p l e rmX10_meets s m args below meth c D A 4 0 0 QQ 32 (wX10 cI cJ d v g) [(0, .ref (d 0)), (1, .int x1), (3, .int x3)] [.int t1, .int t0] := by
    intro K4 hK4 x3 t0 t1 h
    refine z_ior (pc := 32) C dX10_meets_32 ?_
    refine z_istore_n (pc := 33) (lv' := [(2, .int (t0 ||| t1)), (0, .ref (d 0)), (1, .int x1), (3, .int x3)]) C dX10_meets_33 (by decide) rfl ?_
    refine z_iinc (pc := 34) (v := (x3 + 1)) (lv' := [(3, .int (x3 + 1)), (2, .int (t0 ||| t1)), (0, .ref (d 0)), (1, .int x1)]) C 3 dX10_meets_34 rfl rfl (by decide) rfl ?_
    refine z_goto (pc := 37) (tgt := 4) C dX10_meets_37 (by decide) ?_
    refine z_sub (lv' := [(0, .ref (d 0)), (1, .int x1), (2, .int (t0 ||| t1)), (3, .int (x3 + 1))]) [2, 3, 1, 0] rfl ?_
    exact hK4 (t0 ||| t1) (x3 + 1) h
  have L4 : ∀ (n4 : Nat) (x2 : Int32) (x3 : Int32), pX10_meets_L4 v x1 Q n4 x2 x3 → ZZ p l e rmX10_meets s m args below meth c D A 4 0 0 QQ 4 (wX10 cI cJ d v g) [(0, .ref (d 0)), (1, .int x1), (2, .int x2), (3, .int x3)] [] := by
    intro n4
    induction n4 with
    | zero => intro x2 x3 h; exact False.elim h
    | succ n4 ih4 =>
      intro x2 x3 h
      refine z_iload_n (pc := 4) C 3 dX10_meets_4 rfl ?_
      refine z_aload_n (pc := 5) C 0 dX10_meets_5 rfl ?_
      refine z_get (pc := 6) C uw10 0 rfl rfl 0 (by decide) wq809 rfl dX10_meets_6 ?_
      refine z_bipush (pc := 9) (v := 13) C dX10_meets_9 (by decide) ?_
      refine z_iald (pc := 11) C 1 0 rfl rfl vi_13_372 (v 1 13) (congrArg _ cl_13) dX10_meets_11 ?_
      refine z_icmp_ge (pc := 12) (tgt := 40) C dX10_meets_12 (by decide) (fun c2 => ?_) (fun c2 => ?_)
      · have h := h.1 c2
        refine z_iload_n (pc := 40) C 2 dX10_meets_40 rfl ?_
        exact hret 41 _ _ x2 () rfl h dX10_meets_41
      · have h := h.2 c2
        refine z_iload_n (pc := 15) C 2 dX10_meets_15 rfl ?_
        refine z_aload_n (pc := 16) C 0 dX10_meets_16 rfl ?_
        refine z_iload_n (pc := 17) C 1 dX10_meets_17 rfl ?_
        refine z_iload_n (pc := 18) C 3 dX10_meets_18 rfl ?_
        refine z_callRi (pc := 19) C (z_runV (pc := 19) (wc := (wX10 cI cJ d v g)) (As := [.int x1, .int x3]) C (fun sz => kX10_meet d v g x1 x3 sz h) [0, 1, 2, 3, 4, 5, 6, 7, 8, 9, 10, 11] rfl (by decide) (gdV wq858 wq860 wq861 wq862 wq814) rfl rfl rfl hdX10_meet 0 rfl rfl rfl ⟨Nat.le_of_ble_eq_true rfl, Nat.le_of_ble_eq_true rfl⟩ rfl (Nat.le_of_ble_eq_true rfl) ⟨Nat.zero_le _, Nat.zero_le _⟩ dX10_meets_19) [0, 1, 2, 3, 4, 5, 6, 7, 8, 9, 10, 11] rfl (by decide) (fun r3 u3 h => ?_)
        refine z_if_eq (pc := 22) (tgt := 31) C dX10_meets_22 (by decide) (fun c4 => ?_) (fun c4 => ?_)
        · have h := h.1 c4
          refine z_iconst (pc := 31) (v := 0) C dX10_meets_31 (by decide) ?_
          refine z_sub (lv' := [(0, .ref (d 0)), (1, .int x1), (3, .int x3)]) [0, 1, 3] rfl ?_
          exact J32 (fun x2 x3 => pX10_meets_L4 v x1 Q n4 x2 x3) ih4 x3 x2 (0 : Int32) h
        · have h := h.2 c4
          refine z_iconst (pc := 25) (v := 1) C dX10_meets_25 (by decide) ?_
          refine z_iload_n (pc := 26) C 3 dX10_meets_26 rfl ?_
          refine z_ishl (pc := 27) C dX10_meets_27 ?_
          refine z_goto (pc := 28) (tgt := 32) C dX10_meets_28 (by decide) ?_
          refine z_sub (lv' := [(0, .ref (d 0)), (1, .int x1), (3, .int x3)]) [0, 1, 3] rfl ?_
          exact J32 (fun x2 x3 => pX10_meets_L4 v x1 Q n4 x2 x3) ih4 x3 x2 ((1 : Int32) <<< (x3 &&& 31)) h
  refine z_iconst (pc := 0) (v := 0) C dX10_meets_0 (by decide) ?_
  refine z_istore_n (pc := 1) (lv' := [(2, .int (0 : Int32)), (0, .ref (d 0)), (1, .int x1)]) C dX10_meets_1 (by decide) rfl ?_
  refine z_iconst (pc := 2) (v := 0) C dX10_meets_2 (by decide) ?_
  refine z_istore_n (pc := 3) (lv' := [(3, .int (0 : Int32)), (2, .int (0 : Int32)), (0, .ref (d 0)), (1, .int x1)]) C dX10_meets_3 (by decide) rfl ?_
  obtain ⟨n4, h⟩ := h
  refine z_sub (lv' := [(0, .ref (d 0)), (1, .int x1), (2, .int (0 : Int32)), (3, .int (0 : Int32))]) [2, 3, 1, 0] rfl ?_
  exact L4  n4 (0 : Int32) (0 : Int32) h

def pX10_comes_L12 (x1 : Int32) (x2 : Int32) (x3 : Int32) (x4 : Int32) (x5 : Int32) (Q : Lf → Prop) : Nat → Lf → Int32 → Int32 → Prop
  | 0, _, _, _ => False
  | n12 + 1, v, x6, x7 => (((24 : Int32) ≤ x7 → (pX10_puts v x6 (0 : Int32) x1 (fun v_3 => (pX10_puts v_3 x6 (1 : Int32) x2 (fun v_4 => (pX10_puts v_4 x6 (2 : Int32) x3 (fun v_5 => (pX10_puts v_5 x6 (3 : Int32) x4 (fun v_6 => (pX10_puts v_6 x6 (4 : Int32) x5 (fun v_7 => (pX10_puts v_7 x6 (7 : Int32) (-5 : Int32) (fun v_8 => (pX10_puts v_8 x6 (8 : Int32) (-5 : Int32) (fun v_9 => (pX10_puts v_9 x6 (9 : Int32) (-5 : Int32) (fun v_10 => (Q (st v_10 1 13 ((v_10 1 13) + (1 : Int32))))))))))))))))))))) ∧ (¬ (24 : Int32) ≤ x7 → (pX10_puts v x6 x7 (0 : Int32) (fun v_13 => (pX10_comes_L12 x1 x2 x3 x4 x5 Q n12 v_13 x6 (x7 + 1))))))
def pX10_comes (v : Lf) (x1 : Int32) (x2 : Int32) (x3 : Int32) (x4 : Int32) (x5 : Int32) (Q : Lf → Prop) : Prop := (∃ n12, pX10_comes_L12 x1 x2 x3 x4 x5 Q  n12 v (v 1 13) (0 : Int32))
abbrev rmX10_comes : Room := { frames := 1, cells := 0, slots := 0, locals := 23 }
abbrev wdX10_comes : List Cond := Cond.code yX10_comes cX10_comes 8 none :: TB
theorem hdSX10_comes : (yX10_comes).cls ≠ "java/lang/invoke/MethodHandle" ∧ (yX10_comes).cls ≠ "java/lang/invoke/VarHandle" ∧ (parseMethodDescriptor (yX10_comes).desc).map (fun d => d.parameters.length) = some 5 := by decide +kernel
theorem hdX10_comes : (yX10_comes).cls = RX10 ∧ (yX10_comes).cls ≠ "java/lang/invoke/MethodHandle" ∧ (yX10_comes).cls ≠ "java/lang/invoke/VarHandle" ∧ (parseMethodDescriptor (yX10_comes).desc).map (fun d => d.parameters.length) = some 5 := ⟨rfl, hdSX10_comes⟩
set_option maxHeartbeats 4000000 in
set_option maxRecDepth 100000 in
theorem kX10_comes {l : Launch} {D : va_G} {cI cJ cT : ClassId} (d : Nat → Nat)  (v : Lf) (g : Lg) (x1 : Int32) (x2 : Int32) (x3 : Int32) (x4 : Int32) (x5 : Int32) {Q : Lf → Prop} (sz : Nat) (h : pX10_comes v x1 x2 x3 x4 x5 Q) : Met l yX10_comes wdX10_comes rmX10_comes (Pz D (tyL cI cJ cT) [.ref (d 0), .int x1, .int x2, .int x3, .int x4, .int x5] (wX10 cI cJ d v g) sz) (va_Qv (fun (u : Lf) => Q u) (Bz D (tyL cI cJ cT) (wX10 cI cJ d v g) sz (fun (u : Lf) => (wX10 cI cJ d u g))) (va_A (wX10 cI cJ d v g) sz)) 0 0 (va_A (wX10 cI cJ d v g) sz) := by
  refine z_metv (cc := cX10_comes) (maxL := 8) (own := RX10) (lv0 := [(0, .ref (d 0)), (1, .int x1), (2, .int x2), (3, .int x3), (4, .int x4), (5, .int x5)]) (by decide) rfl rfl (Nat.le_of_ble_eq_true rfl) rfl ?_
  intro p e s m args below meth c A QQ C hin hret
  have L12 : ∀ (n12 : Nat) (v : Lf) (x6 : Int32) (x7 : Int32), pX10_comes_L12 x1 x2 x3 x4 x5 Q n12 v x6 x7 → ZZ p l e rmX10_comes s m args below meth c D A 8 0 0 QQ 12 (wX10 cI cJ d v g) [(0, .ref (d 0)), (1, .int x1), (2, .int x2), (3, .int x3), (4, .int x4), (5, .int x5), (6, .int x6), (7, .int x7)] [] := by
    intro n12
    induction n12 with
    | zero => intro v x6 x7 h; exact False.elim h
    | succ n12 ih12 =>
      intro v x6 x7 h
      refine z_iload (pc := 12) C 7 dX10_comes_12 rfl ?_
      refine z_bipush (pc := 14) (v := 24) C dX10_comes_14 (by decide) ?_
      refine z_icmp_ge (pc := 16) (tgt := 34) C dX10_comes_16 (by decide) (fun c2 => ?_) (fun c2 => ?_)
      · have h := h.1 c2
        refine z_aload_n (pc := 34) C 0 dX10_comes_34 rfl ?_
        refine z_iload (pc := 35) C 6 dX10_comes_35 rfl ?_
        refine z_iconst (pc := 37) (v := 0) C dX10_comes_37 (by decide) ?_
        refine z_iload_n (pc := 38) C 1 dX10_comes_38 rfl ?_
        refine z_callv (pc := 39) (wr := ([] : va_W)) (w1 := fun (u : Lf) => (wX10 cI cJ d u g)) (w2 := fun (u : Lf) => (wX10 cI cJ d u g)) C (z_runV (pc := 39) (wc := (wX10 cI cJ d v g)) (As := [.int x6, .int (0 : Int32), .int x1]) C (fun sz => kX10_puts d v g x6 (0 : Int32) x1 sz h) [0, 1, 2, 3, 4, 5, 6, 7, 8, 9, 10, 11] rfl (by decide) (gdV wq855 wq864 wq865 wq866 wq814) rfl rfl rfl hdX10_puts 0 rfl rfl rfl ⟨Nat.le_of_ble_eq_true rfl, Nat.le_of_ble_eq_true rfl⟩ rfl (Nat.le_of_ble_eq_true rfl) ⟨Nat.zero_le _, Nat.zero_le _⟩ dX10_comes_39) [0, 1, 2, 3, 4, 5, 6, 7, 8, 9, 10, 11] [] [0, 1, 2, 3, 4, 5, 6, 7, 8, 9, 10, 11] rfl rfl (by decide) (by decide) (fun _ => rfl) (by decide) (fun u3 h => ?_)
        obtain ⟨v_3, hu3⟩ : ∃ z, z = u3 := ⟨_, rfl⟩
        subst hu3
        refine z_aload_n (pc := 42) C 0 dX10_comes_42 rfl ?_
        refine z_iload (pc := 43) C 6 dX10_comes_43 rfl ?_
        refine z_iconst (pc := 45) (v := 1) C dX10_comes_45 (by decide) ?_
        refine z_iload_n (pc := 46) C 2 dX10_comes_46 rfl ?_
        refine z_callv (pc := 47) (wr := ([] : va_W)) (w1 := fun (u : Lf) => (wX10 cI cJ d u g)) (w2 := fun (u : Lf) => (wX10 cI cJ d u g)) C (z_runV (pc := 47) (wc := (wX10 cI cJ d v_3 g)) (As := [.int x6, .int (1 : Int32), .int x2]) C (fun sz => kX10_puts d v_3 g x6 (1 : Int32) x2 sz h) [0, 1, 2, 3, 4, 5, 6, 7, 8, 9, 10, 11] rfl (by decide) (gdV wq855 wq864 wq865 wq866 wq814) rfl rfl rfl hdX10_puts 0 rfl rfl rfl ⟨Nat.le_of_ble_eq_true rfl, Nat.le_of_ble_eq_true rfl⟩ rfl (Nat.le_of_ble_eq_true rfl) ⟨Nat.zero_le _, Nat.zero_le _⟩ dX10_comes_47) [0, 1, 2, 3, 4, 5, 6, 7, 8, 9, 10, 11] [] [0, 1, 2, 3, 4, 5, 6, 7, 8, 9, 10, 11] rfl rfl (by decide) (by decide) (fun _ => rfl) (by decide) (fun u4 h => ?_)
        obtain ⟨v_4, hu4⟩ : ∃ z, z = u4 := ⟨_, rfl⟩
        subst hu4
        refine z_aload_n (pc := 50) C 0 dX10_comes_50 rfl ?_
        refine z_iload (pc := 51) C 6 dX10_comes_51 rfl ?_
        refine z_iconst (pc := 53) (v := 2) C dX10_comes_53 (by decide) ?_
        refine z_iload_n (pc := 54) C 3 dX10_comes_54 rfl ?_
        refine z_callv (pc := 55) (wr := ([] : va_W)) (w1 := fun (u : Lf) => (wX10 cI cJ d u g)) (w2 := fun (u : Lf) => (wX10 cI cJ d u g)) C (z_runV (pc := 55) (wc := (wX10 cI cJ d v_4 g)) (As := [.int x6, .int (2 : Int32), .int x3]) C (fun sz => kX10_puts d v_4 g x6 (2 : Int32) x3 sz h) [0, 1, 2, 3, 4, 5, 6, 7, 8, 9, 10, 11] rfl (by decide) (gdV wq855 wq864 wq865 wq866 wq814) rfl rfl rfl hdX10_puts 0 rfl rfl rfl ⟨Nat.le_of_ble_eq_true rfl, Nat.le_of_ble_eq_true rfl⟩ rfl (Nat.le_of_ble_eq_true rfl) ⟨Nat.zero_le _, Nat.zero_le _⟩ dX10_comes_55) [0, 1, 2, 3, 4, 5, 6, 7, 8, 9, 10, 11] [] [0, 1, 2, 3, 4, 5, 6, 7, 8, 9, 10, 11] rfl rfl (by decide) (by decide) (fun _ => rfl) (by decide) (fun u5 h => ?_)
        obtain ⟨v_5, hu5⟩ : ∃ z, z = u5 := ⟨_, rfl⟩
        subst hu5
        refine z_aload_n (pc := 58) C 0 dX10_comes_58 rfl ?_
        refine z_iload (pc := 59) C 6 dX10_comes_59 rfl ?_
        refine z_iconst (pc := 61) (v := 3) C dX10_comes_61 (by decide) ?_
        refine z_iload (pc := 62) C 4 dX10_comes_62 rfl ?_
        refine z_callv (pc := 64) (wr := ([] : va_W)) (w1 := fun (u : Lf) => (wX10 cI cJ d u g)) (w2 := fun (u : Lf) => (wX10 cI cJ d u g)) C (z_runV (pc := 64) (wc := (wX10 cI cJ d v_5 g)) (As := [.int x6, .int (3 : Int32), .int x4]) C (fun sz => kX10_puts d v_5 g x6 (3 : Int32) x4 sz h) [0, 1, 2, 3, 4, 5, 6, 7, 8, 9, 10, 11] rfl (by decide) (gdV wq855 wq864 wq865 wq866 wq814) rfl rfl rfl hdX10_puts 0 rfl rfl rfl ⟨Nat.le_of_ble_eq_true rfl, Nat.le_of_ble_eq_true rfl⟩ rfl (Nat.le_of_ble_eq_true rfl) ⟨Nat.zero_le _, Nat.zero_le _⟩ dX10_comes_64) [0, 1, 2, 3, 4, 5, 6, 7, 8, 9, 10, 11] [] [0, 1, 2, 3, 4, 5, 6, 7, 8, 9, 10, 11] rfl rfl (by decide) (by decide) (fun _ => rfl) (by decide) (fun u6 h => ?_)
        obtain ⟨v_6, hu6⟩ : ∃ z, z = u6 := ⟨_, rfl⟩
        subst hu6
        refine z_aload_n (pc := 67) C 0 dX10_comes_67 rfl ?_
        refine z_iload (pc := 68) C 6 dX10_comes_68 rfl ?_
        refine z_iconst (pc := 70) (v := 4) C dX10_comes_70 (by decide) ?_
        refine z_iload (pc := 71) C 5 dX10_comes_71 rfl ?_
        refine z_callv (pc := 73) (wr := ([] : va_W)) (w1 := fun (u : Lf) => (wX10 cI cJ d u g)) (w2 := fun (u : Lf) => (wX10 cI cJ d u g)) C (z_runV (pc := 73) (wc := (wX10 cI cJ d v_6 g)) (As := [.int x6, .int (4 : Int32), .int x5]) C (fun sz => kX10_puts d v_6 g x6 (4 : Int32) x5 sz h) [0, 1, 2, 3, 4, 5, 6, 7, 8, 9, 10, 11] rfl (by decide) (gdV wq855 wq864 wq865 wq866 wq814) rfl rfl rfl hdX10_puts 0 rfl rfl rfl ⟨Nat.le_of_ble_eq_true rfl, Nat.le_of_ble_eq_true rfl⟩ rfl (Nat.le_of_ble_eq_true rfl) ⟨Nat.zero_le _, Nat.zero_le _⟩ dX10_comes_73) [0, 1, 2, 3, 4, 5, 6, 7, 8, 9, 10, 11] [] [0, 1, 2, 3, 4, 5, 6, 7, 8, 9, 10, 11] rfl rfl (by decide) (by decide) (fun _ => rfl) (by decide) (fun u7 h => ?_)
        obtain ⟨v_7, hu7⟩ : ∃ z, z = u7 := ⟨_, rfl⟩
        subst hu7
        refine z_aload_n (pc := 76) C 0 dX10_comes_76 rfl ?_
        refine z_iload (pc := 77) C 6 dX10_comes_77 rfl ?_
        refine z_bipush (pc := 79) (v := 7) C dX10_comes_79 (by decide) ?_
        refine z_bipush (pc := 81) (v := -5) C dX10_comes_81 (by decide) ?_
        refine z_callv (pc := 83) (wr := ([] : va_W)) (w1 := fun (u : Lf) => (wX10 cI cJ d u g)) (w2 := fun (u : Lf) => (wX10 cI cJ d u g)) C (z_runV (pc := 83) (wc := (wX10 cI cJ d v_7 g)) (As := [.int x6, .int (7 : Int32), .int (-5 : Int32)]) C (fun sz => kX10_puts d v_7 g x6 (7 : Int32) (-5 : Int32) sz h) [0, 1, 2, 3, 4, 5, 6, 7, 8, 9, 10, 11] rfl (by decide) (gdV wq855 wq864 wq865 wq866 wq814) rfl rfl rfl hdX10_puts 0 rfl rfl rfl ⟨Nat.le_of_ble_eq_true rfl, Nat.le_of_ble_eq_true rfl⟩ rfl (Nat.le_of_ble_eq_true rfl) ⟨Nat.zero_le _, Nat.zero_le _⟩ dX10_comes_83) [0, 1, 2, 3, 4, 5, 6, 7, 8, 9, 10, 11] [] [0, 1, 2, 3, 4, 5, 6, 7, 8, 9, 10, 11] rfl rfl (by decide) (by decide) (fun _ => rfl) (by decide) (fun u8 h => ?_)
        obtain ⟨v_8, hu8⟩ : ∃ z, z = u8 := ⟨_, rfl⟩
        subst hu8
        refine z_aload_n (pc := 86) C 0 dX10_comes_86 rfl ?_
        refine z_iload (pc := 87) C 6 dX10_comes_87 rfl ?_
        refine z_bipush (pc := 89) (v := 8) C dX10_comes_89 (by decide) ?_
        refine z_bipush (pc := 91) (v := -5) C dX10_comes_91 (by decide) ?_
        refine z_callv (pc := 93) (wr := ([] : va_W)) (w1 := fun (u : Lf) => (wX10 cI cJ d u g)) (w2 := fun (u : Lf) => (wX10 cI cJ d u g)) C (z_runV (pc := 93) (wc := (wX10 cI cJ d v_8 g)) (As := [.int x6, .int (8 : Int32), .int (-5 : Int32)]) C (fun sz => kX10_puts d v_8 g x6 (8 : Int32) (-5 : Int32) sz h) [0, 1, 2, 3, 4, 5, 6, 7, 8, 9, 10, 11] rfl (by decide) (gdV wq855 wq864 wq865 wq866 wq814) rfl rfl rfl hdX10_puts 0 rfl rfl rfl ⟨Nat.le_of_ble_eq_true rfl, Nat.le_of_ble_eq_true rfl⟩ rfl (Nat.le_of_ble_eq_true rfl) ⟨Nat.zero_le _, Nat.zero_le _⟩ dX10_comes_93) [0, 1, 2, 3, 4, 5, 6, 7, 8, 9, 10, 11] [] [0, 1, 2, 3, 4, 5, 6, 7, 8, 9, 10, 11] rfl rfl (by decide) (by decide) (fun _ => rfl) (by decide) (fun u9 h => ?_)
        obtain ⟨v_9, hu9⟩ : ∃ z, z = u9 := ⟨_, rfl⟩
        subst hu9
        refine z_aload_n (pc := 96) C 0 dX10_comes_96 rfl ?_
        refine z_iload (pc := 97) C 6 dX10_comes_97 rfl ?_
        refine z_bipush (pc := 99) (v := 9) C dX10_comes_99 (by decide) ?_
        refine z_bipush (pc := 101) (v := -5) C dX10_comes_101 (by decide) ?_
        refine z_callv (pc := 103) (wr := ([] : va_W)) (w1 := fun (u : Lf) => (wX10 cI cJ d u g)) (w2 := fun (u : Lf) => (wX10 cI cJ d u g)) C (z_runV (pc := 103) (wc := (wX10 cI cJ d v_9 g)) (As := [.int x6, .int (9 : Int32), .int (-5 : Int32)]) C (fun sz => kX10_puts d v_9 g x6 (9 : Int32) (-5 : Int32) sz h) [0, 1, 2, 3, 4, 5, 6, 7, 8, 9, 10, 11] rfl (by decide) (gdV wq855 wq864 wq865 wq866 wq814) rfl rfl rfl hdX10_puts 0 rfl rfl rfl ⟨Nat.le_of_ble_eq_true rfl, Nat.le_of_ble_eq_true rfl⟩ rfl (Nat.le_of_ble_eq_true rfl) ⟨Nat.zero_le _, Nat.zero_le _⟩ dX10_comes_103) [0, 1, 2, 3, 4, 5, 6, 7, 8, 9, 10, 11] [] [0, 1, 2, 3, 4, 5, 6, 7, 8, 9, 10, 11] rfl rfl (by decide) (by decide) (fun _ => rfl) (by decide) (fun u10 h => ?_)
        obtain ⟨v_10, hu10⟩ : ∃ z, z = u10 := ⟨_, rfl⟩
        subst hu10
        refine z_aload_n (pc := 106) C 0 dX10_comes_106 rfl ?_
        refine z_get (pc := 107) C uw10 0 rfl rfl 0 (by decide) wq809 rfl dX10_comes_107 ?_
        refine z_bipush (pc := 110) (v := 13) C dX10_comes_110 (by decide) ?_
        refine z_dup2 (pc := 112) C dX10_comes_112 rfl rfl ?_
        refine z_iald (pc := 113) C 1 0 rfl rfl vi_13_372 (v_10 1 13) (congrArg _ cl_13) dX10_comes_113 ?_
        refine z_iconst (pc := 114) (v := 1) C dX10_comes_114 (by decide) ?_
        refine z_iadd (pc := 115) C dX10_comes_115 ?_
        refine z_iast (pc := 116) (ws' := (wX10 cI cJ d (st v_10 1 13 ((v_10 1 13) + (1 : Int32))) g)) C 1 0 rfl rfl vi_13_372 dX10_comes_116 cl_13 sX10_a1 ?_
        exact hret 117 _ _ (st v_10 1 13 ((v_10 1 13) + (1 : Int32))) rfl h dX10_comes_117
      · have h := h.2 c2
        refine z_aload_n (pc := 19) C 0 dX10_comes_19 rfl ?_
        refine z_iload (pc := 20) C 6 dX10_comes_20 rfl ?_
        refine z_iload (pc := 22) C 7 dX10_comes_22 rfl ?_
        refine z_iconst (pc := 24) (v := 0) C dX10_comes_24 (by decide) ?_
        refine z_callv (pc := 25) (wr := ([] : va_W)) (w1 := fun (u : Lf) => (wX10 cI cJ d u g)) (w2 := fun (u : Lf) => (wX10 cI cJ d u g)) C (z_runV (pc := 25) (wc := (wX10 cI cJ d v g)) (As := [.int x6, .int x7, .int (0 : Int32)]) C (fun sz => kX10_puts d v g x6 x7 (0 : Int32) sz h) [0, 1, 2, 3, 4, 5, 6, 7, 8, 9, 10, 11] rfl (by decide) (gdV wq855 wq864 wq865 wq866 wq814) rfl rfl rfl hdX10_puts 0 rfl rfl rfl ⟨Nat.le_of_ble_eq_true rfl, Nat.le_of_ble_eq_true rfl⟩ rfl (Nat.le_of_ble_eq_true rfl) ⟨Nat.zero_le _, Nat.zero_le _⟩ dX10_comes_25) [0, 1, 2, 3, 4, 5, 6, 7, 8, 9, 10, 11] [] [0, 1, 2, 3, 4, 5, 6, 7, 8, 9, 10, 11] rfl rfl (by decide) (by decide) (fun _ => rfl) (by decide) (fun u13 h => ?_)
        obtain ⟨v_13, hu13⟩ : ∃ z, z = u13 := ⟨_, rfl⟩
        subst hu13
        refine z_iinc (pc := 28) (v := (x7 + 1)) (lv' := [(7, .int (x7 + 1)), (0, .ref (d 0)), (1, .int x1), (2, .int x2), (3, .int x3), (4, .int x4), (5, .int x5), (6, .int x6)]) C 7 dX10_comes_28 rfl rfl (by decide) rfl ?_
        refine z_goto (pc := 31) (tgt := 12) C dX10_comes_31 (by decide) ?_
        refine z_sub (lv' := [(0, .ref (d 0)), (1, .int x1), (2, .int x2), (3, .int x3), (4, .int x4), (5, .int x5), (6, .int x6), (7, .int (x7 + 1))]) [1, 2, 3, 4, 5, 6, 7, 0] rfl ?_
        exact ih12 v_13 x6 (x7 + 1) h
  refine z_aload_n (pc := 0) C 0 dX10_comes_0 rfl ?_
  refine z_get (pc := 1) C uw10 0 rfl rfl 0 (by decide) wq809 rfl dX10_comes_1 ?_
  refine z_bipush (pc := 4) (v := 13) C dX10_comes_4 (by decide) ?_
  refine z_iald (pc := 6) C 1 0 rfl rfl vi_13_372 (v 1 13) (congrArg _ cl_13) dX10_comes_6 ?_
  refine z_istore (pc := 7) (lv' := [(6, .int (v 1 13)), (0, .ref (d 0)), (1, .int x1), (2, .int x2), (3, .int x3), (4, .int x4), (5, .int x5)]) C dX10_comes_7 (by decide) rfl ?_
  refine z_iconst (pc := 9) (v := 0) C dX10_comes_9 (by decide) ?_
  refine z_istore (pc := 10) (lv' := [(7, .int (0 : Int32)), (6, .int (v 1 13)), (0, .ref (d 0)), (1, .int x1), (2, .int x2), (3, .int x3), (4, .int x4), (5, .int x5)]) C dX10_comes_10 (by decide) rfl ?_
  obtain ⟨n12, h⟩ := h
  refine z_sub (lv' := [(0, .ref (d 0)), (1, .int x1), (2, .int x2), (3, .int x3), (4, .int x4), (5, .int x5), (6, .int (v 1 13)), (7, .int (0 : Int32))]) [2, 3, 4, 5, 6, 7, 1, 0] rfl ?_
  exact L12  n12 v (v 1 13) (0 : Int32) h

def pX10_goesOn (v : Lf) (x1 : Int32) (x2 : Int32) (Q : Lf → Prop) : Prop := (pX10_at v x1 (11 : Int32) (fun r1 => (pX10_puts v x1 ((12 : Int32) + r1) x2 (fun v_2 => (pX10_at v_2 x1 (11 : Int32) (fun r3 => (pX10_puts v_2 x1 (11 : Int32) (r3 + (1 : Int32)) (fun v_4 => (Q v_4)))))))))
abbrev rmX10_goesOn : Room := { frames := 1, cells := 0, slots := 0, locals := 23 }
abbrev wdX10_goesOn : List Cond := Cond.code yX10_goesOn cX10_goesOn 3 none :: TB
theorem hdSX10_goesOn : (yX10_goesOn).cls ≠ "java/lang/invoke/MethodHandle" ∧ (yX10_goesOn).cls ≠ "java/lang/invoke/VarHandle" ∧ (parseMethodDescriptor (yX10_goesOn).desc).map (fun d => d.parameters.length) = some 2 := by decide +kernel
theorem hdX10_goesOn : (yX10_goesOn).cls = RX10 ∧ (yX10_goesOn).cls ≠ "java/lang/invoke/MethodHandle" ∧ (yX10_goesOn).cls ≠ "java/lang/invoke/VarHandle" ∧ (parseMethodDescriptor (yX10_goesOn).desc).map (fun d => d.parameters.length) = some 2 := ⟨rfl, hdSX10_goesOn⟩
set_option maxHeartbeats 4000000 in
set_option maxRecDepth 100000 in
theorem kX10_goesOn {l : Launch} {D : va_G} {cI cJ cT : ClassId} (d : Nat → Nat)  (v : Lf) (g : Lg) (x1 : Int32) (x2 : Int32) {Q : Lf → Prop} (sz : Nat) (h : pX10_goesOn v x1 x2 Q) : Met l yX10_goesOn wdX10_goesOn rmX10_goesOn (Pz D (tyL cI cJ cT) [.ref (d 0), .int x1, .int x2] (wX10 cI cJ d v g) sz) (va_Qv (fun (u : Lf) => Q u) (Bz D (tyL cI cJ cT) (wX10 cI cJ d v g) sz (fun (u : Lf) => (wX10 cI cJ d u g))) (va_A (wX10 cI cJ d v g) sz)) 0 0 (va_A (wX10 cI cJ d v g) sz) := by
  refine z_metv (cc := cX10_goesOn) (maxL := 3) (own := RX10) (lv0 := [(0, .ref (d 0)), (1, .int x1), (2, .int x2)]) (by decide) rfl rfl (Nat.le_of_ble_eq_true rfl) rfl ?_
  intro p e s m args below meth c A QQ C hin hret
  refine z_aload_n (pc := 0) C 0 dX10_goesOn_0 rfl ?_
  refine z_iload_n (pc := 1) C 1 dX10_goesOn_1 rfl ?_
  refine z_bipush (pc := 2) (v := 12) C dX10_goesOn_2 (by decide) ?_
  refine z_aload_n (pc := 4) C 0 dX10_goesOn_4 rfl ?_
  refine z_iload_n (pc := 5) C 1 dX10_goesOn_5 rfl ?_
  refine z_bipush (pc := 6) (v := 11) C dX10_goesOn_6 (by decide) ?_
  refine z_callRi (pc := 8) C (z_runV (pc := 8) (wc := (wX10 cI cJ d v g)) (As := [.int x1, .int (11 : Int32)]) C (fun sz => kX10_at d v g x1 (11 : Int32) sz h) [0, 1, 2, 3, 4, 5, 6, 7, 8, 9, 10, 11] rfl (by decide) (gdV wq808 wq811 wq812 wq813 wq814) rfl rfl rfl hdX10_at 0 rfl rfl rfl ⟨Nat.le_of_ble_eq_true rfl, Nat.le_of_ble_eq_true rfl⟩ rfl (Nat.le_of_ble_eq_true rfl) ⟨Nat.zero_le _, Nat.zero_le _⟩ dX10_goesOn_8) [0, 1, 2, 3, 4, 5, 6, 7, 8, 9, 10, 11] rfl (by decide) (fun r1 u1 h => ?_)
  refine z_iadd (pc := 11) C dX10_goesOn_11 ?_
  refine z_iload_n (pc := 12) C 2 dX10_goesOn_12 rfl ?_
  refine z_callv (pc := 13) (wr := ([] : va_W)) (w1 := fun (u : Lf) => (wX10 cI cJ d u g)) (w2 := fun (u : Lf) => (wX10 cI cJ d u g)) C (z_runV (pc := 13) (wc := (wX10 cI cJ d v g)) (As := [.int x1, .int ((12 : Int32) + r1), .int x2]) C (fun sz => kX10_puts d v g x1 ((12 : Int32) + r1) x2 sz h) [0, 1, 2, 3, 4, 5, 6, 7, 8, 9, 10, 11] rfl (by decide) (gdV wq855 wq864 wq865 wq866 wq814) rfl rfl rfl hdX10_puts 0 rfl rfl rfl ⟨Nat.le_of_ble_eq_true rfl, Nat.le_of_ble_eq_true rfl⟩ rfl (Nat.le_of_ble_eq_true rfl) ⟨Nat.zero_le _, Nat.zero_le _⟩ dX10_goesOn_13) [0, 1, 2, 3, 4, 5, 6, 7, 8, 9, 10, 11] [] [0, 1, 2, 3, 4, 5, 6, 7, 8, 9, 10, 11] rfl rfl (by decide) (by decide) (fun _ => rfl) (by decide) (fun u2 h => ?_)
  obtain ⟨v_2, hu2⟩ : ∃ z, z = u2 := ⟨_, rfl⟩
  subst hu2
  refine z_aload_n (pc := 16) C 0 dX10_goesOn_16 rfl ?_
  refine z_iload_n (pc := 17) C 1 dX10_goesOn_17 rfl ?_
  refine z_bipush (pc := 18) (v := 11) C dX10_goesOn_18 (by decide) ?_
  refine z_aload_n (pc := 20) C 0 dX10_goesOn_20 rfl ?_
  refine z_iload_n (pc := 21) C 1 dX10_goesOn_21 rfl ?_
  refine z_bipush (pc := 22) (v := 11) C dX10_goesOn_22 (by decide) ?_
  refine z_callRi (pc := 24) C (z_runV (pc := 24) (wc := (wX10 cI cJ d v_2 g)) (As := [.int x1, .int (11 : Int32)]) C (fun sz => kX10_at d v_2 g x1 (11 : Int32) sz h) [0, 1, 2, 3, 4, 5, 6, 7, 8, 9, 10, 11] rfl (by decide) (gdV wq808 wq811 wq812 wq813 wq814) rfl rfl rfl hdX10_at 0 rfl rfl rfl ⟨Nat.le_of_ble_eq_true rfl, Nat.le_of_ble_eq_true rfl⟩ rfl (Nat.le_of_ble_eq_true rfl) ⟨Nat.zero_le _, Nat.zero_le _⟩ dX10_goesOn_24) [0, 1, 2, 3, 4, 5, 6, 7, 8, 9, 10, 11] rfl (by decide) (fun r3 u3 h => ?_)
  refine z_iconst (pc := 27) (v := 1) C dX10_goesOn_27 (by decide) ?_
  refine z_iadd (pc := 28) C dX10_goesOn_28 ?_
  refine z_callv (pc := 29) (wr := ([] : va_W)) (w1 := fun (u : Lf) => (wX10 cI cJ d u g)) (w2 := fun (u : Lf) => (wX10 cI cJ d u g)) C (z_runV (pc := 29) (wc := (wX10 cI cJ d v_2 g)) (As := [.int x1, .int (11 : Int32), .int (r3 + (1 : Int32))]) C (fun sz => kX10_puts d v_2 g x1 (11 : Int32) (r3 + (1 : Int32)) sz h) [0, 1, 2, 3, 4, 5, 6, 7, 8, 9, 10, 11] rfl (by decide) (gdV wq855 wq864 wq865 wq866 wq814) rfl rfl rfl hdX10_puts 0 rfl rfl rfl ⟨Nat.le_of_ble_eq_true rfl, Nat.le_of_ble_eq_true rfl⟩ rfl (Nat.le_of_ble_eq_true rfl) ⟨Nat.zero_le _, Nat.zero_le _⟩ dX10_goesOn_29) [0, 1, 2, 3, 4, 5, 6, 7, 8, 9, 10, 11] [] [0, 1, 2, 3, 4, 5, 6, 7, 8, 9, 10, 11] rfl rfl (by decide) (by decide) (fun _ => rfl) (by decide) (fun u4 h => ?_)
  obtain ⟨v_4, hu4⟩ : ∃ z, z = u4 := ⟨_, rfl⟩
  subst hu4
  exact hret 32 _ _ v_4 rfl h dX10_goesOn_32

def pX10_signal (v : Lf) (x1 : Int32) (x2 : Int32) (Q : Int32 → Lf → Prop) : Prop := (pX10_isIn x1 (0 : Int32) (3 : Int32) (fun r1 => ((r1 = 0 → (Q (-2 : Int32) v)) ∧ (¬ r1 = 0 → (pX10_isIn x2 (0 : Int32) (63 : Int32) (fun r3 => ((¬ r3 = 0 → ((¬ (v 1 2) = (1 : Int32) → ((¬ (v 1 13) = (8 : Int32) → (pX10_comes v x1 (5 : Int32) (40 : Int32) (3 : Int32) (0 : Int32) (fun v_9 => (pX10_goesOn v_9 ((v_9 1 13) - (1 : Int32)) x2 (fun v_11 => (pX10_clears_ v_11 (fun v_12 => (Q ((v_12 1 13) - (1 : Int32)) v_12)))))))) ∧ ((v 1 13) = (8 : Int32) → (Q (-4 : Int32) v)))) ∧ ((v 1 2) = (1 : Int32) → (Q (-3 : Int32) v)))) ∧ (r3 = 0 → (Q (-2 : Int32) v)))))))))
abbrev rmX10_signal : Room := { frames := 4, cells := 0, slots := 0, locals := 94 }
abbrev wdX10_signal : List Cond := Cond.code yX10_signal cX10_signal 3 (some .int) :: TB
theorem hdSX10_signal : (yX10_signal).cls ≠ "java/lang/invoke/MethodHandle" ∧ (yX10_signal).cls ≠ "java/lang/invoke/VarHandle" ∧ (parseMethodDescriptor (yX10_signal).desc).map (fun d => d.parameters.length) = some 2 := by decide +kernel
theorem hdX10_signal : (yX10_signal).cls = RX10 ∧ (yX10_signal).cls ≠ "java/lang/invoke/MethodHandle" ∧ (yX10_signal).cls ≠ "java/lang/invoke/VarHandle" ∧ (parseMethodDescriptor (yX10_signal).desc).map (fun d => d.parameters.length) = some 2 := ⟨rfl, hdSX10_signal⟩
set_option maxHeartbeats 4000000 in
set_option maxRecDepth 100000 in
theorem kX10_signal {l : Launch} {D : va_G} {cI cJ cT : ClassId} (d : Nat → Nat)  (v : Lf) (g : Lg) (x1 : Int32) (x2 : Int32) {Q : Int32 → Lf → Prop} (sz : Nat) (h : pX10_signal v x1 x2 Q) : Met l yX10_signal wdX10_signal rmX10_signal (Pz D (tyL cI cJ cT) [.ref (d 0), .int x1, .int x2] (wX10 cI cJ d v g) sz) (va_Qi (fun (r : Int32) (u : Lf) => Q r u) (Bz D (tyL cI cJ cT) (wX10 cI cJ d v g) sz (fun (u : Lf) => (wX10 cI cJ d u g))) (va_A (wX10 cI cJ d v g) sz)) 0 0 (va_A (wX10 cI cJ d v g) sz) := by
  refine z_meti (cc := cX10_signal) (maxL := 3) (own := RX10) (lv0 := [(0, .ref (d 0)), (1, .int x1), (2, .int x2)]) (by decide) rfl rfl (Nat.le_of_ble_eq_true rfl) rfl ?_
  intro p e s m args below meth c A QQ C hin hret
  refine z_iload_n (pc := 0) C 1 dX10_signal_0 rfl ?_
  refine z_iconst (pc := 1) (v := 0) C dX10_signal_1 (by decide) ?_
  refine z_iconst (pc := 2) (v := 3) C dX10_signal_2 (by decide) ?_
  refine z_call0i (pc := 3) C (z_runS (pc := 3) (wc := ([] : va_W)) (As := [.int x1, .int (0 : Int32), .int (3 : Int32)]) C (fun sz => kX10_isIn x1 (0 : Int32) (3 : Int32) sz h) [] rfl (by decide) (gdS wq849 wq852 wq853 wq814) rfl rfl rfl hdSX10_isIn ⟨Nat.le_of_ble_eq_true rfl, Nat.le_of_ble_eq_true rfl⟩ rfl (Nat.le_of_ble_eq_true rfl) ⟨Nat.zero_le _, Nat.zero_le _⟩ dX10_signal_3) (fun r1 u1 h => ?_)
  refine z_if_eq (pc := 6) (tgt := 19) C dX10_signal_6 (by decide) (fun c2 => ?_) (fun c2 => ?_)
  · have h := h.1 c2
    refine z_bipush (pc := 19) (v := -2) C dX10_signal_19 (by decide) ?_
    exact hret 21 _ _ (-2 : Int32) v rfl h dX10_signal_21
  · have h := h.2 c2
    refine z_iload_n (pc := 9) C 2 dX10_signal_9 rfl ?_
    refine z_iconst (pc := 10) (v := 0) C dX10_signal_10 (by decide) ?_
    refine z_bipush (pc := 11) (v := 63) C dX10_signal_11 (by decide) ?_
    refine z_call0i (pc := 13) C (z_runS (pc := 13) (wc := ([] : va_W)) (As := [.int x2, .int (0 : Int32), .int (63 : Int32)]) C (fun sz => kX10_isIn x2 (0 : Int32) (63 : Int32) sz h) [] rfl (by decide) (gdS wq849 wq852 wq853 wq814) rfl rfl rfl hdSX10_isIn ⟨Nat.le_of_ble_eq_true rfl, Nat.le_of_ble_eq_true rfl⟩ rfl (Nat.le_of_ble_eq_true rfl) ⟨Nat.zero_le _, Nat.zero_le _⟩ dX10_signal_13) (fun r3 u3 h => ?_)
    refine z_if_ne (pc := 16) (tgt := 22) C dX10_signal_16 (by decide) (fun c4 => ?_) (fun c4 => ?_)
    · have h := h.1 c4
      refine z_aload_n (pc := 22) C 0 dX10_signal_22 rfl ?_
      refine z_get (pc := 23) C uw10 0 rfl rfl 0 (by decide) wq809 rfl dX10_signal_23 ?_
      refine z_iconst (pc := 26) (v := 2) C dX10_signal_26 (by decide) ?_
      refine z_iald (pc := 27) C 1 0 rfl rfl vi_2_372 (v 1 2) (congrArg _ cl_2) dX10_signal_27 ?_
      refine z_iconst (pc := 28) (v := 1) C dX10_signal_28 (by decide) ?_
      refine z_icmp_ne (pc := 29) (tgt := 35) C dX10_signal_29 (by decide) (fun c6 => ?_) (fun c6 => ?_)
      · have h := h.1 c6
        refine z_aload_n (pc := 35) C 0 dX10_signal_35 rfl ?_
        refine z_get (pc := 36) C uw10 0 rfl rfl 0 (by decide) wq809 rfl dX10_signal_36 ?_
        refine z_bipush (pc := 39) (v := 13) C dX10_signal_39 (by decide) ?_
        refine z_iald (pc := 41) C 1 0 rfl rfl vi_13_372 (v 1 13) (congrArg _ cl_13) dX10_signal_41 ?_
        refine z_bipush (pc := 42) (v := 8) C dX10_signal_42 (by decide) ?_
        refine z_icmp_ne (pc := 44) (tgt := 50) C dX10_signal_44 (by decide) (fun c8 => ?_) (fun c8 => ?_)
        · have h := h.1 c8
          refine z_aload_n (pc := 50) C 0 dX10_signal_50 rfl ?_
          refine z_iload_n (pc := 51) C 1 dX10_signal_51 rfl ?_
          refine z_iconst (pc := 52) (v := 5) C dX10_signal_52 (by decide) ?_
          refine z_bipush (pc := 53) (v := 40) C dX10_signal_53 (by decide) ?_
          refine z_iconst (pc := 55) (v := 3) C dX10_signal_55 (by decide) ?_
          refine z_iconst (pc := 56) (v := 0) C dX10_signal_56 (by decide) ?_
          refine z_callv (pc := 57) (wr := ([] : va_W)) (w1 := fun (u : Lf) => (wX10 cI cJ d u g)) (w2 := fun (u : Lf) => (wX10 cI cJ d u g)) C (z_runV (pc := 57) (wc := (wX10 cI cJ d v g)) (As := [.int x1, .int (5 : Int32), .int (40 : Int32), .int (3 : Int32), .int (0 : Int32)]) C (fun sz => kX10_comes d v g x1 (5 : Int32) (40 : Int32) (3 : Int32) (0 : Int32) sz h) [0, 1, 2, 3, 4, 5, 6, 7, 8, 9, 10, 11] rfl (by decide) (gdV wq863 wq868 wq869 wq870 wq814) rfl rfl rfl hdX10_comes 0 rfl rfl rfl ⟨Nat.le_of_ble_eq_true rfl, Nat.le_of_ble_eq_true rfl⟩ rfl (Nat.le_of_ble_eq_true rfl) ⟨Nat.zero_le _, Nat.zero_le _⟩ dX10_signal_57) [0, 1, 2, 3, 4, 5, 6, 7, 8, 9, 10, 11] [] [0, 1, 2, 3, 4, 5, 6, 7, 8, 9, 10, 11] rfl rfl (by decide) (by decide) (fun _ => rfl) (by decide) (fun u9 h => ?_)
          obtain ⟨v_9, hu9⟩ : ∃ z, z = u9 := ⟨_, rfl⟩
          subst hu9
          refine z_aload_n (pc := 60) C 0 dX10_signal_60 rfl ?_
          refine z_aload_n (pc := 61) C 0 dX10_signal_61 rfl ?_
          refine z_get (pc := 62) C uw10 0 rfl rfl 0 (by decide) wq809 rfl dX10_signal_62 ?_
          refine z_bipush (pc := 65) (v := 13) C dX10_signal_65 (by decide) ?_
          refine z_iald (pc := 67) C 1 0 rfl rfl vi_13_372 (v_9 1 13) (congrArg _ cl_13) dX10_signal_67 ?_
          refine z_iconst (pc := 68) (v := 1) C dX10_signal_68 (by decide) ?_
          refine z_isub (pc := 69) C dX10_signal_69 ?_
          refine z_iload_n (pc := 70) C 2 dX10_signal_70 rfl ?_
          refine z_callv (pc := 71) (wr := ([] : va_W)) (w1 := fun (u : Lf) => (wX10 cI cJ d u g)) (w2 := fun (u : Lf) => (wX10 cI cJ d u g)) C (z_runV (pc := 71) (wc := (wX10 cI cJ d v_9 g)) (As := [.int ((v_9 1 13) - (1 : Int32)), .int x2]) C (fun sz => kX10_goesOn d v_9 g ((v_9 1 13) - (1 : Int32)) x2 sz h) [0, 1, 2, 3, 4, 5, 6, 7, 8, 9, 10, 11] rfl (by decide) (gdV wq867 wq871 wq872 wq873 wq814) rfl rfl rfl hdX10_goesOn 0 rfl rfl rfl ⟨Nat.le_of_ble_eq_true rfl, Nat.le_of_ble_eq_true rfl⟩ rfl (Nat.le_of_ble_eq_true rfl) ⟨Nat.zero_le _, Nat.zero_le _⟩ dX10_signal_71) [0, 1, 2, 3, 4, 5, 6, 7, 8, 9, 10, 11] [] [0, 1, 2, 3, 4, 5, 6, 7, 8, 9, 10, 11] rfl rfl (by decide) (by decide) (fun _ => rfl) (by decide) (fun u11 h => ?_)
          obtain ⟨v_11, hu11⟩ : ∃ z, z = u11 := ⟨_, rfl⟩
          subst hu11
          refine z_aload_n (pc := 74) C 0 dX10_signal_74 rfl ?_
          refine z_callv (pc := 75) (wr := ([] : va_W)) (w1 := fun (u : Lf) => (wX10 cI cJ d u g)) (w2 := fun (u : Lf) => (wX10 cI cJ d u g)) C (z_runV (pc := 75) (wc := (wX10 cI cJ d v_11 g)) (As := []) C (fun sz => kX10_clears_ d v_11 g sz h) [0, 1, 2, 3, 4, 5, 6, 7, 8, 9, 10, 11] rfl (by decide) (gdV wq835 wq845 wq846 wq847 wq814) rfl rfl rfl hdX10_clears_ 0 rfl rfl rfl ⟨Nat.le_of_ble_eq_true rfl, Nat.le_of_ble_eq_true rfl⟩ rfl (Nat.le_of_ble_eq_true rfl) ⟨Nat.zero_le _, Nat.zero_le _⟩ dX10_signal_75) [0, 1, 2, 3, 4, 5, 6, 7, 8, 9, 10, 11] [] [0, 1, 2, 3, 4, 5, 6, 7, 8, 9, 10, 11] rfl rfl (by decide) (by decide) (fun _ => rfl) (by decide) (fun u12 h => ?_)
          obtain ⟨v_12, hu12⟩ : ∃ z, z = u12 := ⟨_, rfl⟩
          subst hu12
          refine z_aload_n (pc := 78) C 0 dX10_signal_78 rfl ?_
          refine z_get (pc := 79) C uw10 0 rfl rfl 0 (by decide) wq809 rfl dX10_signal_79 ?_
          refine z_bipush (pc := 82) (v := 13) C dX10_signal_82 (by decide) ?_
          refine z_iald (pc := 84) C 1 0 rfl rfl vi_13_372 (v_12 1 13) (congrArg _ cl_13) dX10_signal_84 ?_
          refine z_iconst (pc := 85) (v := 1) C dX10_signal_85 (by decide) ?_
          refine z_isub (pc := 86) C dX10_signal_86 ?_
          exact hret 87 _ _ ((v_12 1 13) - (1 : Int32)) v_12 rfl h dX10_signal_87
        · have h := h.2 c8
          refine z_bipush (pc := 47) (v := -4) C dX10_signal_47 (by decide) ?_
          exact hret 49 _ _ (-4 : Int32) v rfl h dX10_signal_49
      · have h := h.2 c6
        refine z_bipush (pc := 32) (v := -3) C dX10_signal_32 (by decide) ?_
        exact hret 34 _ _ (-3 : Int32) v rfl h dX10_signal_34
    · have h := h.2 c4
      refine z_bipush (pc := 19) (v := -2) C dX10_signal_19 (by decide) ?_
      exact hret 21 _ _ (-2 : Int32) v rfl h dX10_signal_21

def pX10_goes (v : Lf) (x1 : Int32) (x2 : Int32) (Q : Int32 → Lf → Prop) : Prop := (pX10_isSignal v x1 (fun r1 => ((¬ r1 = 0 → (pX10_isIn x2 (0 : Int32) (63 : Int32) (fun r3 => ((r3 = 0 → (Q (-2 : Int32) v)) ∧ (¬ r3 = 0 → (pX10_placeIn v x1 x2 (fun r5 => ((r5 < 0 → (((v 1 14) ≤ 0 → (pX10_at v x1 (11 : Int32) (fun r9 => ((¬ r9 = (8 : Int32) → (pX10_goesOn v x1 x2 (fun v_11 => (pX10_clears_ v_11 (fun v_12 => (pX10_at v_12 x1 (11 : Int32) (fun r13 => (Q r13 v_12)))))))) ∧ (r9 = (8 : Int32) → (Q (-4 : Int32) v)))))) ∧ (¬ (v 1 14) ≤ 0 → (Q (-3 : Int32) v)))) ∧ (¬ r5 < 0 → (Q (-2 : Int32) v)))))))))) ∧ (r1 = 0 → (Q (-1 : Int32) v)))))
abbrev rmX10_goes : Room := { frames := 4, cells := 0, slots := 0, locals := 94 }
abbrev wdX10_goes : List Cond := Cond.code yX10_goes cX10_goes 3 (some .int) :: TB
theorem hdSX10_goes : (yX10_goes).cls ≠ "java/lang/invoke/MethodHandle" ∧ (yX10_goes).cls ≠ "java/lang/invoke/VarHandle" ∧ (parseMethodDescriptor (yX10_goes).desc).map (fun d => d.parameters.length) = some 2 := by decide +kernel
theorem hdX10_goes : (yX10_goes).cls = RX10 ∧ (yX10_goes).cls ≠ "java/lang/invoke/MethodHandle" ∧ (yX10_goes).cls ≠ "java/lang/invoke/VarHandle" ∧ (parseMethodDescriptor (yX10_goes).desc).map (fun d => d.parameters.length) = some 2 := ⟨rfl, hdSX10_goes⟩
set_option maxHeartbeats 4000000 in
set_option maxRecDepth 100000 in
theorem kX10_goes {l : Launch} {D : va_G} {cI cJ cT : ClassId} (d : Nat → Nat)  (v : Lf) (g : Lg) (x1 : Int32) (x2 : Int32) {Q : Int32 → Lf → Prop} (sz : Nat) (h : pX10_goes v x1 x2 Q) : Met l yX10_goes wdX10_goes rmX10_goes (Pz D (tyL cI cJ cT) [.ref (d 0), .int x1, .int x2] (wX10 cI cJ d v g) sz) (va_Qi (fun (r : Int32) (u : Lf) => Q r u) (Bz D (tyL cI cJ cT) (wX10 cI cJ d v g) sz (fun (u : Lf) => (wX10 cI cJ d u g))) (va_A (wX10 cI cJ d v g) sz)) 0 0 (va_A (wX10 cI cJ d v g) sz) := by
  refine z_meti (cc := cX10_goes) (maxL := 3) (own := RX10) (lv0 := [(0, .ref (d 0)), (1, .int x1), (2, .int x2)]) (by decide) rfl rfl (Nat.le_of_ble_eq_true rfl) rfl ?_
  intro p e s m args below meth c A QQ C hin hret
  refine z_aload_n (pc := 0) C 0 dX10_goes_0 rfl ?_
  refine z_iload_n (pc := 1) C 1 dX10_goes_1 rfl ?_
  refine z_callRi (pc := 2) C (z_runV (pc := 2) (wc := (wX10 cI cJ d v g)) (As := [.int x1]) C (fun sz => kX10_isSignal d v g x1 sz h) [0, 1, 2, 3, 4, 5, 6, 7, 8, 9, 10, 11] rfl (by decide) (gdV wq851 wq875 wq876 wq877 wq814) rfl rfl rfl hdX10_isSignal 0 rfl rfl rfl ⟨Nat.le_of_ble_eq_true rfl, Nat.le_of_ble_eq_true rfl⟩ rfl (Nat.le_of_ble_eq_true rfl) ⟨Nat.zero_le _, Nat.zero_le _⟩ dX10_goes_2) [0, 1, 2, 3, 4, 5, 6, 7, 8, 9, 10, 11] rfl (by decide) (fun r1 u1 h => ?_)
  refine z_if_ne (pc := 5) (tgt := 10) C dX10_goes_5 (by decide) (fun c2 => ?_) (fun c2 => ?_)
  · have h := h.1 c2
    refine z_iload_n (pc := 10) C 2 dX10_goes_10 rfl ?_
    refine z_iconst (pc := 11) (v := 0) C dX10_goes_11 (by decide) ?_
    refine z_bipush (pc := 12) (v := 63) C dX10_goes_12 (by decide) ?_
    refine z_call0i (pc := 14) C (z_runS (pc := 14) (wc := ([] : va_W)) (As := [.int x2, .int (0 : Int32), .int (63 : Int32)]) C (fun sz => kX10_isIn x2 (0 : Int32) (63 : Int32) sz h) [] rfl (by decide) (gdS wq849 wq852 wq853 wq814) rfl rfl rfl hdSX10_isIn ⟨Nat.le_of_ble_eq_true rfl, Nat.le_of_ble_eq_true rfl⟩ rfl (Nat.le_of_ble_eq_true rfl) ⟨Nat.zero_le _, Nat.zero_le _⟩ dX10_goes_14) (fun r3 u3 h => ?_)
    refine z_if_eq (pc := 17) (tgt := 29) C dX10_goes_17 (by decide) (fun c4 => ?_) (fun c4 => ?_)
    · have h := h.1 c4
      refine z_bipush (pc := 29) (v := -2) C dX10_goes_29 (by decide) ?_
      exact hret 31 _ _ (-2 : Int32) v rfl h dX10_goes_31
    · have h := h.2 c4
      refine z_aload_n (pc := 20) C 0 dX10_goes_20 rfl ?_
      refine z_iload_n (pc := 21) C 1 dX10_goes_21 rfl ?_
      refine z_iload_n (pc := 22) C 2 dX10_goes_22 rfl ?_
      refine z_callRi (pc := 23) C (z_runV (pc := 23) (wc := (wX10 cI cJ d v g)) (As := [.int x1, .int x2]) C (fun sz => kX10_placeIn d v g x1 x2 sz h) [0, 1, 2, 3, 4, 5, 6, 7, 8, 9, 10, 11] rfl (by decide) (gdV wq810 wq822 wq823 wq824 wq814) rfl rfl rfl hdX10_placeIn 0 rfl rfl rfl ⟨Nat.le_of_ble_eq_true rfl, Nat.le_of_ble_eq_true rfl⟩ rfl (Nat.le_of_ble_eq_true rfl) ⟨Nat.zero_le _, Nat.zero_le _⟩ dX10_goes_23) [0, 1, 2, 3, 4, 5, 6, 7, 8, 9, 10, 11] rfl (by decide) (fun r5 u5 h => ?_)
      refine z_if_lt (pc := 26) (tgt := 32) C dX10_goes_26 (by decide) (fun c6 => ?_) (fun c6 => ?_)
      · have h := h.1 c6
        refine z_aload_n (pc := 32) C 0 dX10_goes_32 rfl ?_
        refine z_get (pc := 33) C uw10 0 rfl rfl 0 (by decide) wq809 rfl dX10_goes_33 ?_
        refine z_bipush (pc := 36) (v := 14) C dX10_goes_36 (by decide) ?_
        refine z_iald (pc := 38) C 1 0 rfl rfl vi_14_372 (v 1 14) (congrArg _ cl_14) dX10_goes_38 ?_
        refine z_if_le (pc := 39) (tgt := 45) C dX10_goes_39 (by decide) (fun c8 => ?_) (fun c8 => ?_)
        · have h := h.1 c8
          refine z_aload_n (pc := 45) C 0 dX10_goes_45 rfl ?_
          refine z_iload_n (pc := 46) C 1 dX10_goes_46 rfl ?_
          refine z_bipush (pc := 47) (v := 11) C dX10_goes_47 (by decide) ?_
          refine z_callRi (pc := 49) C (z_runV (pc := 49) (wc := (wX10 cI cJ d v g)) (As := [.int x1, .int (11 : Int32)]) C (fun sz => kX10_at d v g x1 (11 : Int32) sz h) [0, 1, 2, 3, 4, 5, 6, 7, 8, 9, 10, 11] rfl (by decide) (gdV wq808 wq811 wq812 wq813 wq814) rfl rfl rfl hdX10_at 0 rfl rfl rfl ⟨Nat.le_of_ble_eq_true rfl, Nat.le_of_ble_eq_true rfl⟩ rfl (Nat.le_of_ble_eq_true rfl) ⟨Nat.zero_le _, Nat.zero_le _⟩ dX10_goes_49) [0, 1, 2, 3, 4, 5, 6, 7, 8, 9, 10, 11] rfl (by decide) (fun r9 u9 h => ?_)
          refine z_bipush (pc := 52) (v := 8) C dX10_goes_52 (by decide) ?_
          refine z_icmp_ne (pc := 54) (tgt := 60) C dX10_goes_54 (by decide) (fun c10 => ?_) (fun c10 => ?_)
          · have h := h.1 c10
            refine z_aload_n (pc := 60) C 0 dX10_goes_60 rfl ?_
            refine z_iload_n (pc := 61) C 1 dX10_goes_61 rfl ?_
            refine z_iload_n (pc := 62) C 2 dX10_goes_62 rfl ?_
            refine z_callv (pc := 63) (wr := ([] : va_W)) (w1 := fun (u : Lf) => (wX10 cI cJ d u g)) (w2 := fun (u : Lf) => (wX10 cI cJ d u g)) C (z_runV (pc := 63) (wc := (wX10 cI cJ d v g)) (As := [.int x1, .int x2]) C (fun sz => kX10_goesOn d v g x1 x2 sz h) [0, 1, 2, 3, 4, 5, 6, 7, 8, 9, 10, 11] rfl (by decide) (gdV wq867 wq871 wq872 wq873 wq814) rfl rfl rfl hdX10_goesOn 0 rfl rfl rfl ⟨Nat.le_of_ble_eq_true rfl, Nat.le_of_ble_eq_true rfl⟩ rfl (Nat.le_of_ble_eq_true rfl) ⟨Nat.zero_le _, Nat.zero_le _⟩ dX10_goes_63) [0, 1, 2, 3, 4, 5, 6, 7, 8, 9, 10, 11] [] [0, 1, 2, 3, 4, 5, 6, 7, 8, 9, 10, 11] rfl rfl (by decide) (by decide) (fun _ => rfl) (by decide) (fun u11 h => ?_)
            obtain ⟨v_11, hu11⟩ : ∃ z, z = u11 := ⟨_, rfl⟩
            subst hu11
            refine z_aload_n (pc := 66) C 0 dX10_goes_66 rfl ?_
            refine z_callv (pc := 67) (wr := ([] : va_W)) (w1 := fun (u : Lf) => (wX10 cI cJ d u g)) (w2 := fun (u : Lf) => (wX10 cI cJ d u g)) C (z_runV (pc := 67) (wc := (wX10 cI cJ d v_11 g)) (As := []) C (fun sz => kX10_clears_ d v_11 g sz h) [0, 1, 2, 3, 4, 5, 6, 7, 8, 9, 10, 11] rfl (by decide) (gdV wq835 wq845 wq846 wq847 wq814) rfl rfl rfl hdX10_clears_ 0 rfl rfl rfl ⟨Nat.le_of_ble_eq_true rfl, Nat.le_of_ble_eq_true rfl⟩ rfl (Nat.le_of_ble_eq_true rfl) ⟨Nat.zero_le _, Nat.zero_le _⟩ dX10_goes_67) [0, 1, 2, 3, 4, 5, 6, 7, 8, 9, 10, 11] [] [0, 1, 2, 3, 4, 5, 6, 7, 8, 9, 10, 11] rfl rfl (by decide) (by decide) (fun _ => rfl) (by decide) (fun u12 h => ?_)
            obtain ⟨v_12, hu12⟩ : ∃ z, z = u12 := ⟨_, rfl⟩
            subst hu12
            refine z_aload_n (pc := 70) C 0 dX10_goes_70 rfl ?_
            refine z_iload_n (pc := 71) C 1 dX10_goes_71 rfl ?_
            refine z_bipush (pc := 72) (v := 11) C dX10_goes_72 (by decide) ?_
            refine z_callRi (pc := 74) C (z_runV (pc := 74) (wc := (wX10 cI cJ d v_12 g)) (As := [.int x1, .int (11 : Int32)]) C (fun sz => kX10_at d v_12 g x1 (11 : Int32) sz h) [0, 1, 2, 3, 4, 5, 6, 7, 8, 9, 10, 11] rfl (by decide) (gdV wq808 wq811 wq812 wq813 wq814) rfl rfl rfl hdX10_at 0 rfl rfl rfl ⟨Nat.le_of_ble_eq_true rfl, Nat.le_of_ble_eq_true rfl⟩ rfl (Nat.le_of_ble_eq_true rfl) ⟨Nat.zero_le _, Nat.zero_le _⟩ dX10_goes_74) [0, 1, 2, 3, 4, 5, 6, 7, 8, 9, 10, 11] rfl (by decide) (fun r13 u13 h => ?_)
            exact hret 77 _ _ r13 v_12 rfl h dX10_goes_77
          · have h := h.2 c10
            refine z_bipush (pc := 57) (v := -4) C dX10_goes_57 (by decide) ?_
            exact hret 59 _ _ (-4 : Int32) v rfl h dX10_goes_59
        · have h := h.2 c8
          refine z_bipush (pc := 42) (v := -3) C dX10_goes_42 (by decide) ?_
          exact hret 44 _ _ (-3 : Int32) v rfl h dX10_goes_44
      · have h := h.2 c6
        refine z_bipush (pc := 29) (v := -2) C dX10_goes_29 (by decide) ?_
        exact hret 31 _ _ (-2 : Int32) v rfl h dX10_goes_31
  · have h := h.2 c2
    refine z_iconst (pc := 8) (v := -1) C dX10_goes_8 (by decide) ?_
    exact hret 9 _ _ (-1 : Int32) v rfl h dX10_goes_9

def pX10_tell_J84 (x1 : Int32) (x2 : Int32) (x3 : Int32) (Q : Int32 → Lf → Prop) (v : Lf) (t0 : Int32) : Prop := ((¬ t0 = 0 → (pX10_at v x1 ((1 : Int32) + x2) (fun r10 => (pX10_puts v x1 ((1 : Int32) + x2) x3 (fun v_11 => (Q r10 v_11)))))) ∧ (t0 = 0 → (Q (-2 : Int32) v)))
def pX10_tell (v : Lf) (x1 : Int32) (x2 : Int32) (x3 : Int32) (Q : Int32 → Lf → Prop) : Prop := (pX10_isSignal v x1 (fun r1 => ((r1 = 0 → (Q (-1 : Int32) v)) ∧ (¬ r1 = 0 → (pX10_isIn x2 (0 : Int32) (3 : Int32) (fun r3 => ((¬ r3 = 0 → ((¬ x2 = 0 → ((¬ x2 = (1 : Int32) → ((¬ x2 = (2 : Int32) → (pX10_isIn x3 (0 : Int32) (60 : Int32) (fun r8 => (pX10_tell_J84 x1 x2 x3 Q  v r8)))) ∧ (x2 = (2 : Int32) → (pX10_isIn x3 (1 : Int32) (9 : Int32) (fun r12 => (pX10_tell_J84 x1 x2 x3 Q  v r12)))))) ∧ (x2 = (1 : Int32) → (pX10_at v x1 (1 : Int32) (fun r13 => (pX10_isIn x3 r13 (99 : Int32) (fun r14 => (pX10_tell_J84 x1 x2 x3 Q  v r14)))))))) ∧ (x2 = 0 → (pX10_at v x1 (2 : Int32) (fun r15 => (pX10_isIn x3 (1 : Int32) (if r15 < (20 : Int32) then r15 else (20 : Int32)) (fun r16 => (pX10_tell_J84 x1 x2 x3 Q  v r16)))))))) ∧ (r3 = 0 → (Q (-1 : Int32) v)))))))))
abbrev rmX10_tell : Room := { frames := 2, cells := 0, slots := 0, locals := 43 }
abbrev wdX10_tell : List Cond := Cond.code yX10_tell cX10_tell 6 (some .int) :: TB
theorem hdSX10_tell : (yX10_tell).cls ≠ "java/lang/invoke/MethodHandle" ∧ (yX10_tell).cls ≠ "java/lang/invoke/VarHandle" ∧ (parseMethodDescriptor (yX10_tell).desc).map (fun d => d.parameters.length) = some 3 := by decide +kernel
theorem hdX10_tell : (yX10_tell).cls = RX10 ∧ (yX10_tell).cls ≠ "java/lang/invoke/MethodHandle" ∧ (yX10_tell).cls ≠ "java/lang/invoke/VarHandle" ∧ (parseMethodDescriptor (yX10_tell).desc).map (fun d => d.parameters.length) = some 3 := ⟨rfl, hdSX10_tell⟩
set_option maxHeartbeats 4000000 in
set_option maxRecDepth 100000 in
theorem kX10_tell {l : Launch} {D : va_G} {cI cJ cT : ClassId} (d : Nat → Nat)  (v : Lf) (g : Lg) (x1 : Int32) (x2 : Int32) (x3 : Int32) {Q : Int32 → Lf → Prop} (sz : Nat) (h : pX10_tell v x1 x2 x3 Q) : Met l yX10_tell wdX10_tell rmX10_tell (Pz D (tyL cI cJ cT) [.ref (d 0), .int x1, .int x2, .int x3] (wX10 cI cJ d v g) sz) (va_Qi (fun (r : Int32) (u : Lf) => Q r u) (Bz D (tyL cI cJ cT) (wX10 cI cJ d v g) sz (fun (u : Lf) => (wX10 cI cJ d u g))) (va_A (wX10 cI cJ d v g) sz)) 0 0 (va_A (wX10 cI cJ d v g) sz) := by
  refine z_meti (cc := cX10_tell) (maxL := 6) (own := RX10) (lv0 := [(0, .ref (d 0)), (1, .int x1), (2, .int x2), (3, .int x3)]) (by decide) rfl rfl (Nat.le_of_ble_eq_true rfl) rfl ?_
  intro p e s m args below meth c A QQ C hin hret
  have J84 : ∀ (v : Lf) (t0 : Int32), pX10_tell_J84 x1 x2 x3 Q v t0 → ZZ p l e rmX10_tell s m args below meth c D A 6 0 0 QQ 84 (wX10 cI cJ d v g) [(0, .ref (d 0)), (1, .int x1), (2, .int x2), (3, .int x3)] [.int t0] := by
    intro  v t0 h
    refine z_istore (pc := 84) (lv' := [(4, .int t0), (0, .ref (d 0)), (1, .int x1), (2, .int x2), (3, .int x3)]) C dX10_tell_84 (by decide) rfl ?_
    refine z_iload (pc := 86) C 0 dX10_tell_86 rfl ?_
    refine z_if_ne (pc := 88) (tgt := 94) C dX10_tell_88 (by decide) (fun c9 => ?_) (fun c9 => ?_)
    · have h := h.1 c9
      refine z_aload_n (pc := 94) C 1 dX10_tell_94 rfl ?_
      refine z_iload_n (pc := 95) C 2 dX10_tell_95 rfl ?_
      refine z_iconst (pc := 96) (v := 1) C dX10_tell_96 (by decide) ?_
      refine z_iload_n (pc := 97) C 3 dX10_tell_97 rfl ?_
      refine z_iadd (pc := 98) C dX10_tell_98 ?_
      refine z_callRi (pc := 99) C (z_runV (pc := 99) (wc := (wX10 cI cJ d v g)) (As := [.int x1, .int ((1 : Int32) + x2)]) C (fun sz => kX10_at d v g x1 ((1 : Int32) + x2) sz h) [0, 1, 2, 3, 4, 5, 6, 7, 8, 9, 10, 11] rfl (by decide) (gdV wq808 wq811 wq812 wq813 wq814) rfl rfl rfl hdX10_at 0 rfl rfl rfl ⟨Nat.le_of_ble_eq_true rfl, Nat.le_of_ble_eq_true rfl⟩ rfl (Nat.le_of_ble_eq_true rfl) ⟨Nat.zero_le _, Nat.zero_le _⟩ dX10_tell_99) [0, 1, 2, 3, 4, 5, 6, 7, 8, 9, 10, 11] rfl (by decide) (fun r10 u10 h => ?_)
      refine z_istore (pc := 102) (lv' := [(5, .int r10), (4, .int t0), (0, .ref (d 0)), (1, .int x1), (2, .int x2), (3, .int x3)]) C dX10_tell_102 (by decide) rfl ?_
      refine z_aload_n (pc := 104) C 2 dX10_tell_104 rfl ?_
      refine z_iload_n (pc := 105) C 3 dX10_tell_105 rfl ?_
      refine z_iconst (pc := 106) (v := 1) C dX10_tell_106 (by decide) ?_
      refine z_iload_n (pc := 107) C 4 dX10_tell_107 rfl ?_
      refine z_iadd (pc := 108) C dX10_tell_108 ?_
      refine z_iload_n (pc := 109) C 5 dX10_tell_109 rfl ?_
      refine z_callv (pc := 110) (wr := ([] : va_W)) (w1 := fun (u : Lf) => (wX10 cI cJ d u g)) (w2 := fun (u : Lf) => (wX10 cI cJ d u g)) C (z_runV (pc := 110) (wc := (wX10 cI cJ d v g)) (As := [.int x1, .int ((1 : Int32) + x2), .int x3]) C (fun sz => kX10_puts d v g x1 ((1 : Int32) + x2) x3 sz h) [0, 1, 2, 3, 4, 5, 6, 7, 8, 9, 10, 11] rfl (by decide) (gdV wq855 wq864 wq865 wq866 wq814) rfl rfl rfl hdX10_puts 0 rfl rfl rfl ⟨Nat.le_of_ble_eq_true rfl, Nat.le_of_ble_eq_true rfl⟩ rfl (Nat.le_of_ble_eq_true rfl) ⟨Nat.zero_le _, Nat.zero_le _⟩ dX10_tell_110) [0, 1, 2, 3, 4, 5, 6, 7, 8, 9, 10, 11] [] [0, 1, 2, 3, 4, 5, 6, 7, 8, 9, 10, 11] rfl rfl (by decide) (by decide) (fun _ => rfl) (by decide) (fun u11 h => ?_)
      obtain ⟨v_11, hu11⟩ : ∃ z, z = u11 := ⟨_, rfl⟩
      subst hu11
      refine z_iload (pc := 113) C 0 dX10_tell_113 rfl ?_
      exact hret 115 _ _ r10 v_11 rfl h dX10_tell_115
    · have h := h.2 c9
      refine z_bipush (pc := 91) (v := -2) C dX10_tell_91 (by decide) ?_
      exact hret 93 _ _ (-2 : Int32) v rfl h dX10_tell_93
  refine z_aload_n (pc := 0) C 0 dX10_tell_0 rfl ?_
  refine z_iload_n (pc := 1) C 1 dX10_tell_1 rfl ?_
  refine z_callRi (pc := 2) C (z_runV (pc := 2) (wc := (wX10 cI cJ d v g)) (As := [.int x1]) C (fun sz => kX10_isSignal d v g x1 sz h) [0, 1, 2, 3, 4, 5, 6, 7, 8, 9, 10, 11] rfl (by decide) (gdV wq851 wq875 wq876 wq877 wq814) rfl rfl rfl hdX10_isSignal 0 rfl rfl rfl ⟨Nat.le_of_ble_eq_true rfl, Nat.le_of_ble_eq_true rfl⟩ rfl (Nat.le_of_ble_eq_true rfl) ⟨Nat.zero_le _, Nat.zero_le _⟩ dX10_tell_2) [0, 1, 2, 3, 4, 5, 6, 7, 8, 9, 10, 11] rfl (by decide) (fun r1 u1 h => ?_)
  refine z_if_eq (pc := 5) (tgt := 17) C dX10_tell_5 (by decide) (fun c2 => ?_) (fun c2 => ?_)
  · have h := h.1 c2
    refine z_iconst (pc := 17) (v := -1) C dX10_tell_17 (by decide) ?_
    exact hret 18 _ _ (-1 : Int32) v rfl h dX10_tell_18
  · have h := h.2 c2
    refine z_iload_n (pc := 8) C 2 dX10_tell_8 rfl ?_
    refine z_iconst (pc := 9) (v := 0) C dX10_tell_9 (by decide) ?_
    refine z_iconst (pc := 10) (v := 3) C dX10_tell_10 (by decide) ?_
    refine z_call0i (pc := 11) C (z_runS (pc := 11) (wc := ([] : va_W)) (As := [.int x2, .int (0 : Int32), .int (3 : Int32)]) C (fun sz => kX10_isIn x2 (0 : Int32) (3 : Int32) sz h) [] rfl (by decide) (gdS wq849 wq852 wq853 wq814) rfl rfl rfl hdSX10_isIn ⟨Nat.le_of_ble_eq_true rfl, Nat.le_of_ble_eq_true rfl⟩ rfl (Nat.le_of_ble_eq_true rfl) ⟨Nat.zero_le _, Nat.zero_le _⟩ dX10_tell_11) (fun r3 u3 h => ?_)
    refine z_if_ne (pc := 14) (tgt := 19) C dX10_tell_14 (by decide) (fun c4 => ?_) (fun c4 => ?_)
    · have h := h.1 c4
      refine z_iload_n (pc := 19) C 2 dX10_tell_19 rfl ?_
      refine z_if_ne (pc := 20) (tgt := 42) C dX10_tell_20 (by decide) (fun c5 => ?_) (fun c5 => ?_)
      · have h := h.1 c5
        refine z_iload_n (pc := 42) C 2 dX10_tell_42 rfl ?_
        refine z_iconst (pc := 43) (v := 1) C dX10_tell_43 (by decide) ?_
        refine z_icmp_ne (pc := 44) (tgt := 62) C dX10_tell_44 (by decide) (fun c6 => ?_) (fun c6 => ?_)
        · have h := h.1 c6
          refine z_iload_n (pc := 62) C 2 dX10_tell_62 rfl ?_
          refine z_iconst (pc := 63) (v := 2) C dX10_tell_63 (by decide) ?_
          refine z_icmp_ne (pc := 64) (tgt := 77) C dX10_tell_64 (by decide) (fun c7 => ?_) (fun c7 => ?_)
          · have h := h.1 c7
            refine z_iload_n (pc := 77) C 3 dX10_tell_77 rfl ?_
            refine z_iconst (pc := 78) (v := 0) C dX10_tell_78 (by decide) ?_
            refine z_bipush (pc := 79) (v := 60) C dX10_tell_79 (by decide) ?_
            refine z_call0i (pc := 81) C (z_runS (pc := 81) (wc := ([] : va_W)) (As := [.int x3, .int (0 : Int32), .int (60 : Int32)]) C (fun sz => kX10_isIn x3 (0 : Int32) (60 : Int32) sz h) [] rfl (by decide) (gdS wq849 wq852 wq853 wq814) rfl rfl rfl hdSX10_isIn ⟨Nat.le_of_ble_eq_true rfl, Nat.le_of_ble_eq_true rfl⟩ rfl (Nat.le_of_ble_eq_true rfl) ⟨Nat.zero_le _, Nat.zero_le _⟩ dX10_tell_81) (fun r8 u8 h => ?_)
            exact J84  v r8 h
          · have h := h.2 c7
            refine z_iload_n (pc := 67) C 3 dX10_tell_67 rfl ?_
            refine z_iconst (pc := 68) (v := 1) C dX10_tell_68 (by decide) ?_
            refine z_bipush (pc := 69) (v := 9) C dX10_tell_69 (by decide) ?_
            refine z_call0i (pc := 71) C (z_runS (pc := 71) (wc := ([] : va_W)) (As := [.int x3, .int (1 : Int32), .int (9 : Int32)]) C (fun sz => kX10_isIn x3 (1 : Int32) (9 : Int32) sz h) [] rfl (by decide) (gdS wq849 wq852 wq853 wq814) rfl rfl rfl hdSX10_isIn ⟨Nat.le_of_ble_eq_true rfl, Nat.le_of_ble_eq_true rfl⟩ rfl (Nat.le_of_ble_eq_true rfl) ⟨Nat.zero_le _, Nat.zero_le _⟩ dX10_tell_71) (fun r12 u12 h => ?_)
            refine z_goto (pc := 74) (tgt := 84) C dX10_tell_74 (by decide) ?_
            exact J84  v r12 h
        · have h := h.2 c6
          refine z_iload_n (pc := 47) C 3 dX10_tell_47 rfl ?_
          refine z_aload_n (pc := 48) C 0 dX10_tell_48 rfl ?_
          refine z_iload_n (pc := 49) C 1 dX10_tell_49 rfl ?_
          refine z_iconst (pc := 50) (v := 1) C dX10_tell_50 (by decide) ?_
          refine z_callRi (pc := 51) C (z_runV (pc := 51) (wc := (wX10 cI cJ d v g)) (As := [.int x1, .int (1 : Int32)]) C (fun sz => kX10_at d v g x1 (1 : Int32) sz h) [0, 1, 2, 3, 4, 5, 6, 7, 8, 9, 10, 11] rfl (by decide) (gdV wq808 wq811 wq812 wq813 wq814) rfl rfl rfl hdX10_at 0 rfl rfl rfl ⟨Nat.le_of_ble_eq_true rfl, Nat.le_of_ble_eq_true rfl⟩ rfl (Nat.le_of_ble_eq_true rfl) ⟨Nat.zero_le _, Nat.zero_le _⟩ dX10_tell_51) [0, 1, 2, 3, 4, 5, 6, 7, 8, 9, 10, 11] rfl (by decide) (fun r13 u13 h => ?_)
          refine z_bipush (pc := 54) (v := 99) C dX10_tell_54 (by decide) ?_
          refine z_call0i (pc := 56) C (z_runS (pc := 56) (wc := ([] : va_W)) (As := [.int x3, .int r13, .int (99 : Int32)]) C (fun sz => kX10_isIn x3 r13 (99 : Int32) sz h) [] rfl (by decide) (gdS wq849 wq852 wq853 wq814) rfl rfl rfl hdSX10_isIn ⟨Nat.le_of_ble_eq_true rfl, Nat.le_of_ble_eq_true rfl⟩ rfl (Nat.le_of_ble_eq_true rfl) ⟨Nat.zero_le _, Nat.zero_le _⟩ dX10_tell_56) (fun r14 u14 h => ?_)
          refine z_goto (pc := 59) (tgt := 84) C dX10_tell_59 (by decide) ?_
          exact J84  v r14 h
      · have h := h.2 c5
        refine z_iload_n (pc := 23) C 3 dX10_tell_23 rfl ?_
        refine z_iconst (pc := 24) (v := 1) C dX10_tell_24 (by decide) ?_
        refine z_bipush (pc := 25) (v := 20) C dX10_tell_25 (by decide) ?_
        refine z_aload_n (pc := 27) C 0 dX10_tell_27 rfl ?_
        refine z_iload_n (pc := 28) C 1 dX10_tell_28 rfl ?_
        refine z_iconst (pc := 29) (v := 2) C dX10_tell_29 (by decide) ?_
        refine z_callRi (pc := 30) C (z_runV (pc := 30) (wc := (wX10 cI cJ d v g)) (As := [.int x1, .int (2 : Int32)]) C (fun sz => kX10_at d v g x1 (2 : Int32) sz h) [0, 1, 2, 3, 4, 5, 6, 7, 8, 9, 10, 11] rfl (by decide) (gdV wq808 wq811 wq812 wq813 wq814) rfl rfl rfl hdX10_at 0 rfl rfl rfl ⟨Nat.le_of_ble_eq_true rfl, Nat.le_of_ble_eq_true rfl⟩ rfl (Nat.le_of_ble_eq_true rfl) ⟨Nat.zero_le _, Nat.zero_le _⟩ dX10_tell_30) [0, 1, 2, 3, 4, 5, 6, 7, 8, 9, 10, 11] rfl (by decide) (fun r15 u15 h => ?_)
        refine z_mmin (pc := 33) C wq880 wq77 wq78 wq79 (Nat.le_of_ble_eq_true rfl) (Nat.le_of_ble_eq_true rfl) (Nat.zero_le _) (Nat.zero_le _) dX10_tell_33 ?_
        refine z_call0i (pc := 36) C (z_runS (pc := 36) (wc := ([] : va_W)) (As := [.int x3, .int (1 : Int32), .int (if r15 < (20 : Int32) then r15 else (20 : Int32))]) C (fun sz => kX10_isIn x3 (1 : Int32) (if r15 < (20 : Int32) then r15 else (20 : Int32)) sz h) [] rfl (by decide) (gdS wq849 wq852 wq853 wq814) rfl rfl rfl hdSX10_isIn ⟨Nat.le_of_ble_eq_true rfl, Nat.le_of_ble_eq_true rfl⟩ rfl (Nat.le_of_ble_eq_true rfl) ⟨Nat.zero_le _, Nat.zero_le _⟩ dX10_tell_36) (fun r16 u16 h => ?_)
        refine z_goto (pc := 39) (tgt := 84) C dX10_tell_39 (by decide) ?_
        exact J84  v r16 h
    · have h := h.2 c4
      refine z_iconst (pc := 17) (v := -1) C dX10_tell_17 (by decide) ?_
      exact hret 18 _ _ (-1 : Int32) v rfl h dX10_tell_18

def pX10_feed (v : Lf) (x1 : Int32) (Q : Int32 → Lf → Prop) : Prop := (pX10_isIn x1 (0 : Int32) (127 : Int32) (fun r1 => ((¬ r1 = 0 → ((¬ (v 0 9) = (100 : Int32) → (vp_in (v 0 9) 100 ∧ (Q ((st (st v 6 ((v 0 9).toNatClampNeg) x1) 0 9 (((st v 6 ((v 0 9).toNatClampNeg) x1) 0 9) + (1 : Int32))) 0 9) (st (st v 6 ((v 0 9).toNatClampNeg) x1) 0 9 (((st v 6 ((v 0 9).toNatClampNeg) x1) 0 9) + (1 : Int32)))))) ∧ ((v 0 9) = (100 : Int32) → (Q (-4 : Int32) v)))) ∧ (r1 = 0 → (Q (-2 : Int32) v)))))
abbrev rmX10_feed : Room := { frames := 1, cells := 0, slots := 0, locals := 22 }
abbrev wdX10_feed : List Cond := Cond.code yX10_feed cX10_feed 2 (some .int) :: TB
theorem hdSX10_feed : (yX10_feed).cls ≠ "java/lang/invoke/MethodHandle" ∧ (yX10_feed).cls ≠ "java/lang/invoke/VarHandle" ∧ (parseMethodDescriptor (yX10_feed).desc).map (fun d => d.parameters.length) = some 1 := by decide +kernel
theorem hdX10_feed : (yX10_feed).cls = RX10 ∧ (yX10_feed).cls ≠ "java/lang/invoke/MethodHandle" ∧ (yX10_feed).cls ≠ "java/lang/invoke/VarHandle" ∧ (parseMethodDescriptor (yX10_feed).desc).map (fun d => d.parameters.length) = some 1 := ⟨rfl, hdSX10_feed⟩
set_option maxHeartbeats 4000000 in
set_option maxRecDepth 100000 in
theorem kX10_feed {l : Launch} {D : va_G} {cI cJ cT : ClassId} (d : Nat → Nat)  (v : Lf) (g : Lg) (x1 : Int32) {Q : Int32 → Lf → Prop} (sz : Nat) (h : pX10_feed v x1 Q) : Met l yX10_feed wdX10_feed rmX10_feed (Pz D (tyL cI cJ cT) [.ref (d 0), .int x1] (wX10 cI cJ d v g) sz) (va_Qi (fun (r : Int32) (u : Lf) => Q r u) (Bz D (tyL cI cJ cT) (wX10 cI cJ d v g) sz (fun (u : Lf) => (wX10 cI cJ d u g))) (va_A (wX10 cI cJ d v g) sz)) 0 0 (va_A (wX10 cI cJ d v g) sz) := by
  refine z_meti (cc := cX10_feed) (maxL := 2) (own := RX10) (lv0 := [(0, .ref (d 0)), (1, .int x1)]) (by decide) rfl rfl (Nat.le_of_ble_eq_true rfl) rfl ?_
  intro p e s m args below meth c A QQ C hin hret
  refine z_iload_n (pc := 0) C 1 dX10_feed_0 rfl ?_
  refine z_iconst (pc := 1) (v := 0) C dX10_feed_1 (by decide) ?_
  refine z_bipush (pc := 2) (v := 127) C dX10_feed_2 (by decide) ?_
  refine z_call0i (pc := 4) C (z_runS (pc := 4) (wc := ([] : va_W)) (As := [.int x1, .int (0 : Int32), .int (127 : Int32)]) C (fun sz => kX10_isIn x1 (0 : Int32) (127 : Int32) sz h) [] rfl (by decide) (gdS wq849 wq852 wq853 wq814) rfl rfl rfl hdSX10_isIn ⟨Nat.le_of_ble_eq_true rfl, Nat.le_of_ble_eq_true rfl⟩ rfl (Nat.le_of_ble_eq_true rfl) ⟨Nat.zero_le _, Nat.zero_le _⟩ dX10_feed_4) (fun r1 u1 h => ?_)
  refine z_if_ne (pc := 7) (tgt := 13) C dX10_feed_7 (by decide) (fun c2 => ?_) (fun c2 => ?_)
  · have h := h.1 c2
    refine z_aload_n (pc := 13) C 0 dX10_feed_13 rfl ?_
    refine z_get (pc := 14) C uw10 0 rfl rfl 9 (by decide) wq882 rfl dX10_feed_14 ?_
    refine z_bipush (pc := 17) (v := 100) C dX10_feed_17 (by decide) ?_
    refine z_icmp_ne (pc := 19) (tgt := 25) C dX10_feed_19 (by decide) (fun c3 => ?_) (fun c3 => ?_)
    · have h := h.1 c3
      refine z_aload_n (pc := 25) C 0 dX10_feed_25 rfl ?_
      refine z_get (pc := 26) C uw10 0 rfl rfl 7 (by decide) wq839 rfl dX10_feed_26 ?_
      refine z_aload_n (pc := 29) C 0 dX10_feed_29 rfl ?_
      refine z_get (pc := 30) C uw10 0 rfl rfl 9 (by decide) wq882 rfl dX10_feed_30 ?_
      refine z_iload_n (pc := 33) C 1 dX10_feed_33 rfl ?_
      obtain ⟨g4, h⟩ := h
      refine z_iast (pc := 34) (ws' := (wX10 cI cJ d (st v 6 ((v 0 9).toNatClampNeg) x1) g)) C 6 0 rfl rfl g4 dX10_feed_34 rfl sX10_a6 ?_
      refine z_aload_n (pc := 35) C 0 dX10_feed_35 rfl ?_
      refine z_dup (pc := 36) C dX10_feed_36 rfl ?_
      refine z_get (pc := 37) C uw10 0 rfl rfl 9 (by decide) wq882 rfl dX10_feed_37 ?_
      refine z_iconst (pc := 40) (v := 1) C dX10_feed_40 (by decide) ?_
      refine z_iadd (pc := 41) C dX10_feed_41 ?_
      refine z_put (pc := 42) (ws' := (wX10 cI cJ d (st (st v 6 ((v 0 9).toNatClampNeg) x1) 0 9 (((st v 6 ((v 0 9).toNatClampNeg) x1) 0 9) + (1 : Int32))) g)) C uw10 tyX10 tyX10_ok nmX10 0 rfl rfl 9 (by decide) wq882 rfl rfl rfl (Nat.le_of_ble_eq_true rfl) dX10_feed_42 sX10_f9 ?_
      refine z_aload_n (pc := 45) C 0 dX10_feed_45 rfl ?_
      refine z_get (pc := 46) C uw10 0 rfl rfl 9 (by decide) wq882 rfl dX10_feed_46 ?_
      exact hret 49 _ _ ((st (st v 6 ((v 0 9).toNatClampNeg) x1) 0 9 (((st v 6 ((v 0 9).toNatClampNeg) x1) 0 9) + (1 : Int32))) 0 9) (st (st v 6 ((v 0 9).toNatClampNeg) x1) 0 9 (((st v 6 ((v 0 9).toNatClampNeg) x1) 0 9) + (1 : Int32))) rfl h dX10_feed_49
    · have h := h.2 c3
      refine z_bipush (pc := 22) (v := -4) C dX10_feed_22 (by decide) ?_
      exact hret 24 _ _ (-4 : Int32) v rfl h dX10_feed_24
  · have h := h.2 c2
    refine z_bipush (pc := 10) (v := -2) C dX10_feed_10 (by decide) ?_
    exact hret 12 _ _ (-2 : Int32) v rfl h dX10_feed_12

def pX10_fails (v : Lf) (x1 : Int32) (Q : Lf → Prop) : Prop := ((0 ≤ (v 0 11) → (Q v)) ∧ (¬ 0 ≤ (v 0 11) → (Q (st v 0 11 x1))))
abbrev rmX10_fails : Room := { frames := 0, cells := 0, slots := 0, locals := 0 }
abbrev wdX10_fails : List Cond := Cond.code yX10_fails cX10_fails 2 none :: TB
theorem hdSX10_fails : (yX10_fails).cls ≠ "java/lang/invoke/MethodHandle" ∧ (yX10_fails).cls ≠ "java/lang/invoke/VarHandle" ∧ (parseMethodDescriptor (yX10_fails).desc).map (fun d => d.parameters.length) = some 1 := by decide +kernel
theorem hdX10_fails : (yX10_fails).cls = RX10 ∧ (yX10_fails).cls ≠ "java/lang/invoke/MethodHandle" ∧ (yX10_fails).cls ≠ "java/lang/invoke/VarHandle" ∧ (parseMethodDescriptor (yX10_fails).desc).map (fun d => d.parameters.length) = some 1 := ⟨rfl, hdSX10_fails⟩
set_option maxHeartbeats 4000000 in
set_option maxRecDepth 100000 in
theorem kX10_fails {l : Launch} {D : va_G} {cI cJ cT : ClassId} (d : Nat → Nat)  (v : Lf) (g : Lg) (x1 : Int32) {Q : Lf → Prop} (sz : Nat) (h : pX10_fails v x1 Q) : Met l yX10_fails wdX10_fails rmX10_fails (Pz D (tyL cI cJ cT) [.ref (d 0), .int x1] (wX10 cI cJ d v g) sz) (va_Qv (fun (u : Lf) => Q u) (Bz D (tyL cI cJ cT) (wX10 cI cJ d v g) sz (fun (u : Lf) => (wX10 cI cJ d u g))) (va_A (wX10 cI cJ d v g) sz)) 0 0 (va_A (wX10 cI cJ d v g) sz) := by
  refine z_metv (cc := cX10_fails) (maxL := 2) (own := RX10) (lv0 := [(0, .ref (d 0)), (1, .int x1)]) (by decide) rfl rfl (Nat.le_of_ble_eq_true rfl) rfl ?_
  intro p e s m args below meth c A QQ C hin hret
  refine z_aload_n (pc := 0) C 0 dX10_fails_0 rfl ?_
  refine z_get (pc := 1) C uw10 0 rfl rfl 11 (by decide) wq884 rfl dX10_fails_1 ?_
  refine z_if_ge (pc := 4) (tgt := 12) C dX10_fails_4 (by decide) (fun c1 => ?_) (fun c1 => ?_)
  · have h := h.1 c1
    exact hret 12 _ _ v rfl h dX10_fails_12
  · have h := h.2 c1
    refine z_aload_n (pc := 7) C 0 dX10_fails_7 rfl ?_
    refine z_iload_n (pc := 8) C 1 dX10_fails_8 rfl ?_
    refine z_put (pc := 9) (ws' := (wX10 cI cJ d (st v 0 11 x1) g)) C uw10 tyX10 tyX10_ok nmX10 0 rfl rfl 11 (by decide) wq884 rfl rfl rfl (Nat.le_of_ble_eq_true rfl) dX10_fails_9 sX10_f11 ?_
    exact hret 12 _ _ (st v 0 11 x1) rfl h dX10_fails_12

def pX10_takes_J51 (x1 : Int32) (Q : Int32 → Lf → Prop) (v : Lf) (x2 : Int32) (t1 : Int32) (t2 : Int32) : Prop := (narrow .boolean (.int x2) = .int x2 ∧ (Q x2 (st v 0 10 (t1 + t2))))
def pX10_takes_J36 (x1 : Int32) (Q : Int32 → Lf → Prop) (v : Lf) (t0 : Int32) : Prop := ((t0 = 0 → (pX10_takes_J51 x1 Q  v t0 (v 0 10) (0 : Int32))) ∧ (¬ t0 = 0 → (pX10_takes_J51 x1 Q  v t0 (v 0 10) (1 : Int32))))
def pX10_takes_J35 (x1 : Int32) (Q : Int32 → Lf → Prop) (v : Lf) : Prop := (pX10_takes_J36 x1 Q  v (0 : Int32))
def pX10_takes (v : Lf) (x1 : Int32) (Q : Int32 → Lf → Prop) : Prop := ((0 ≤ (v 0 11) → (pX10_takes_J35 x1 Q  v)) ∧ (¬ 0 ≤ (v 0 11) → (((v 0 9) ≤ (v 0 10) → (pX10_takes_J35 x1 Q  v)) ∧ (¬ (v 0 9) ≤ (v 0 10) → (vp_in (v 0 10) 100 ∧ ((¬ (v 6 (v 0 10).toNatClampNeg) = x1 → (pX10_takes_J35 x1 Q  v)) ∧ ((v 6 (v 0 10).toNatClampNeg) = x1 → (pX10_takes_J36 x1 Q  v (1 : Int32)))))))))
abbrev rmX10_takes : Room := { frames := 0, cells := 0, slots := 0, locals := 0 }
abbrev wdX10_takes : List Cond := Cond.code yX10_takes cX10_takes 3 (some .boolean) :: TB
theorem hdSX10_takes : (yX10_takes).cls ≠ "java/lang/invoke/MethodHandle" ∧ (yX10_takes).cls ≠ "java/lang/invoke/VarHandle" ∧ (parseMethodDescriptor (yX10_takes).desc).map (fun d => d.parameters.length) = some 1 := by decide +kernel
theorem hdX10_takes : (yX10_takes).cls = RX10 ∧ (yX10_takes).cls ≠ "java/lang/invoke/MethodHandle" ∧ (yX10_takes).cls ≠ "java/lang/invoke/VarHandle" ∧ (parseMethodDescriptor (yX10_takes).desc).map (fun d => d.parameters.length) = some 1 := ⟨rfl, hdSX10_takes⟩
set_option maxHeartbeats 4000000 in
set_option maxRecDepth 100000 in
theorem kX10_takes {l : Launch} {D : va_G} {cI cJ cT : ClassId} (d : Nat → Nat)  (v : Lf) (g : Lg) (x1 : Int32) {Q : Int32 → Lf → Prop} (sz : Nat) (h : pX10_takes v x1 Q) : Met l yX10_takes wdX10_takes rmX10_takes (Pz D (tyL cI cJ cT) [.ref (d 0), .int x1] (wX10 cI cJ d v g) sz) (va_Qi (fun (r : Int32) (u : Lf) => Q r u) (Bz D (tyL cI cJ cT) (wX10 cI cJ d v g) sz (fun (u : Lf) => (wX10 cI cJ d u g))) (va_A (wX10 cI cJ d v g) sz)) 0 0 (va_A (wX10 cI cJ d v g) sz) := by
  refine z_metz (cc := cX10_takes) (maxL := 3) (own := RX10) (lv0 := [(0, .ref (d 0)), (1, .int x1)]) (by decide) rfl rfl (Nat.le_of_ble_eq_true rfl) rfl ?_
  intro p e s m args below meth c A QQ C hin hret
  have J51 : ∀ (v : Lf) (x2 : Int32) (t1 : Int32) (t2 : Int32), pX10_takes_J51 x1 Q v x2 t1 t2 → ZZ p l e rmX10_takes s m args below meth c D A 3 0 0 QQ 51 (wX10 cI cJ d v g) [(2, .int x2)] [.int t2, .int t1, .ref (d 0)] := by
    intro  v x2 t1 t2 h
    refine z_iadd (pc := 51) C dX10_takes_51 ?_
    refine z_put (pc := 52) (ws' := (wX10 cI cJ d (st v 0 10 (t1 + t2)) g)) C uw10 tyX10 tyX10_ok nmX10 0 rfl rfl 10 (by decide) wq886 rfl rfl rfl (Nat.le_of_ble_eq_true rfl) dX10_takes_52 sX10_f10 ?_
    refine z_iload_n (pc := 55) C 0 dX10_takes_55 rfl ?_
    obtain ⟨g3, h⟩ := h
    exact hret 56 _ _ x2 g3 (st v 0 10 (t1 + t2)) rfl h dX10_takes_56
  have J36 : ∀ (v : Lf) (t0 : Int32), pX10_takes_J36 x1 Q v t0 → ZZ p l e rmX10_takes s m args below meth c D A 3 0 0 QQ 36 (wX10 cI cJ d v g) [(0, .ref (d 0))] [.int t0] := by
    intro  v t0 h
    refine z_istore_n (pc := 36) (lv' := [(2, .int t0), (0, .ref (d 0))]) C dX10_takes_36 (by decide) rfl ?_
    refine z_aload_n (pc := 37) C 1 dX10_takes_37 rfl ?_
    refine z_dup (pc := 38) C dX10_takes_38 rfl ?_
    refine z_get (pc := 39) C uw10 0 rfl rfl 10 (by decide) wq886 rfl dX10_takes_39 ?_
    refine z_iload_n (pc := 42) C 0 dX10_takes_42 rfl ?_
    refine z_if_eq (pc := 43) (tgt := 50) C dX10_takes_43 (by decide) (fun c2 => ?_) (fun c2 => ?_)
    · have h := h.1 c2
      refine z_iconst (pc := 50) (v := 0) C dX10_takes_50 (by decide) ?_
      refine z_sub (lv' := [(2, .int t0)]) [0] rfl ?_
      exact J51  v t0 (v 0 10) (0 : Int32) h
    · have h := h.2 c2
      refine z_iconst (pc := 46) (v := 1) C dX10_takes_46 (by decide) ?_
      refine z_goto (pc := 47) (tgt := 51) C dX10_takes_47 (by decide) ?_
      refine z_sub (lv' := [(2, .int t0)]) [0] rfl ?_
      exact J51  v t0 (v 0 10) (1 : Int32) h
  have J35 : ∀ (v : Lf), pX10_takes_J35 x1 Q v → ZZ p l e rmX10_takes s m args below meth c D A 3 0 0 QQ 35 (wX10 cI cJ d v g) [(0, .ref (d 0))] [] := by
    intro  v h
    refine z_iconst (pc := 35) (v := 0) C dX10_takes_35 (by decide) ?_
    exact J36  v (0 : Int32) h
  refine z_aload_n (pc := 0) C 0 dX10_takes_0 rfl ?_
  refine z_get (pc := 1) C uw10 0 rfl rfl 11 (by decide) wq884 rfl dX10_takes_1 ?_
  refine z_if_ge (pc := 4) (tgt := 35) C dX10_takes_4 (by decide) (fun c1 => ?_) (fun c1 => ?_)
  · have h := h.1 c1
    refine z_sub (lv' := [(0, .ref (d 0))]) [0] rfl ?_
    exact J35  v h
  · have h := h.2 c1
    refine z_aload_n (pc := 7) C 0 dX10_takes_7 rfl ?_
    refine z_get (pc := 8) C uw10 0 rfl rfl 10 (by decide) wq886 rfl dX10_takes_8 ?_
    refine z_aload_n (pc := 11) C 0 dX10_takes_11 rfl ?_
    refine z_get (pc := 12) C uw10 0 rfl rfl 9 (by decide) wq882 rfl dX10_takes_12 ?_
    refine z_icmp_ge (pc := 15) (tgt := 35) C dX10_takes_15 (by decide) (fun c4 => ?_) (fun c4 => ?_)
    · have h := h.1 c4
      refine z_sub (lv' := [(0, .ref (d 0))]) [0] rfl ?_
      exact J35  v h
    · have h := h.2 c4
      refine z_aload_n (pc := 18) C 0 dX10_takes_18 rfl ?_
      refine z_get (pc := 19) C uw10 0 rfl rfl 7 (by decide) wq839 rfl dX10_takes_19 ?_
      refine z_aload_n (pc := 22) C 0 dX10_takes_22 rfl ?_
      refine z_get (pc := 23) C uw10 0 rfl rfl 10 (by decide) wq886 rfl dX10_takes_23 ?_
      obtain ⟨g5, h⟩ := h
      refine z_iald (pc := 26) C 6 0 rfl rfl g5 (v 6 (v 0 10).toNatClampNeg) rfl dX10_takes_26 ?_
      refine z_iload_n (pc := 27) C 1 dX10_takes_27 rfl ?_
      refine z_icmp_ne (pc := 28) (tgt := 35) C dX10_takes_28 (by decide) (fun c6 => ?_) (fun c6 => ?_)
      · have h := h.1 c6
        refine z_sub (lv' := [(0, .ref (d 0))]) [0] rfl ?_
        exact J35  v h
      · have h := h.2 c6
        refine z_iconst (pc := 31) (v := 1) C dX10_takes_31 (by decide) ?_
        refine z_goto (pc := 32) (tgt := 36) C dX10_takes_32 (by decide) ?_
        refine z_sub (lv' := [(0, .ref (d 0))]) [0] rfl ?_
        exact J36  v (1 : Int32) h

def pX10_sees (v : Lf) (x1 : Int32) (x2 : Int32) (Q : Int32 → Prop) : Prop := ((0 ≤ (v 0 11) → (Q (0 : Int32) )) ∧ (¬ 0 ≤ (v 0 11) → (((v 0 9) ≤ (v 0 10) → (Q (0 : Int32) )) ∧ (¬ (v 0 9) ≤ (v 0 10) → (vp_in (v 0 10) 100 ∧ (pX10_isIn (v 6 (v 0 10).toNatClampNeg) x1 x2 (fun r4 => ((r4 = 0 → (Q (0 : Int32) )) ∧ (¬ r4 = 0 → (Q (1 : Int32) ))))))))))
abbrev rmX10_sees : Room := { frames := 1, cells := 0, slots := 0, locals := 22 }
abbrev wdX10_sees : List Cond := Cond.code yX10_sees cX10_sees 3 (some .boolean) :: TB
theorem hdSX10_sees : (yX10_sees).cls ≠ "java/lang/invoke/MethodHandle" ∧ (yX10_sees).cls ≠ "java/lang/invoke/VarHandle" ∧ (parseMethodDescriptor (yX10_sees).desc).map (fun d => d.parameters.length) = some 2 := by decide +kernel
theorem hdX10_sees : (yX10_sees).cls = RX10 ∧ (yX10_sees).cls ≠ "java/lang/invoke/MethodHandle" ∧ (yX10_sees).cls ≠ "java/lang/invoke/VarHandle" ∧ (parseMethodDescriptor (yX10_sees).desc).map (fun d => d.parameters.length) = some 2 := ⟨rfl, hdSX10_sees⟩
set_option maxHeartbeats 4000000 in
set_option maxRecDepth 100000 in
theorem kX10_sees {l : Launch} {D : va_G} {cI cJ cT : ClassId} (d : Nat → Nat)  (v : Lf) (g : Lg) (x1 : Int32) (x2 : Int32) {Q : Int32 → Prop} (sz : Nat) (h : pX10_sees v x1 x2 Q) : Met l yX10_sees wdX10_sees rmX10_sees (Pz D (tyL cI cJ cT) [.ref (d 0), .int x1, .int x2] (wX10 cI cJ d v g) sz) (va_Qi (fun (r : Int32) (u : Unit) => Q r) (Bz D (tyL cI cJ cT) (wX10 cI cJ d v g) sz (fun (u : Unit) => (wX10 cI cJ d v g))) (va_A (wX10 cI cJ d v g) sz)) 0 0 (va_A (wX10 cI cJ d v g) sz) := by
  refine z_metz (cc := cX10_sees) (maxL := 3) (own := RX10) (lv0 := [(0, .ref (d 0)), (1, .int x1), (2, .int x2)]) (by decide) rfl rfl (Nat.le_of_ble_eq_true rfl) rfl ?_
  intro p e s m args below meth c A QQ C hin hret
  refine z_aload_n (pc := 0) C 0 dX10_sees_0 rfl ?_
  refine z_get (pc := 1) C uw10 0 rfl rfl 11 (by decide) wq884 rfl dX10_sees_1 ?_
  refine z_if_ge (pc := 4) (tgt := 39) C dX10_sees_4 (by decide) (fun c1 => ?_) (fun c1 => ?_)
  · have h := h.1 c1
    refine z_iconst (pc := 39) (v := 0) C dX10_sees_39 (by decide) ?_
    exact hret 40 _ _ (0 : Int32) rfl () rfl h dX10_sees_40
  · have h := h.2 c1
    refine z_aload_n (pc := 7) C 0 dX10_sees_7 rfl ?_
    refine z_get (pc := 8) C uw10 0 rfl rfl 10 (by decide) wq886 rfl dX10_sees_8 ?_
    refine z_aload_n (pc := 11) C 0 dX10_sees_11 rfl ?_
    refine z_get (pc := 12) C uw10 0 rfl rfl 9 (by decide) wq882 rfl dX10_sees_12 ?_
    refine z_icmp_ge (pc := 15) (tgt := 39) C dX10_sees_15 (by decide) (fun c2 => ?_) (fun c2 => ?_)
    · have h := h.1 c2
      refine z_iconst (pc := 39) (v := 0) C dX10_sees_39 (by decide) ?_
      exact hret 40 _ _ (0 : Int32) rfl () rfl h dX10_sees_40
    · have h := h.2 c2
      refine z_aload_n (pc := 18) C 0 dX10_sees_18 rfl ?_
      refine z_get (pc := 19) C uw10 0 rfl rfl 7 (by decide) wq839 rfl dX10_sees_19 ?_
      refine z_aload_n (pc := 22) C 0 dX10_sees_22 rfl ?_
      refine z_get (pc := 23) C uw10 0 rfl rfl 10 (by decide) wq886 rfl dX10_sees_23 ?_
      obtain ⟨g3, h⟩ := h
      refine z_iald (pc := 26) C 6 0 rfl rfl g3 (v 6 (v 0 10).toNatClampNeg) rfl dX10_sees_26 ?_
      refine z_iload_n (pc := 27) C 1 dX10_sees_27 rfl ?_
      refine z_iload_n (pc := 28) C 2 dX10_sees_28 rfl ?_
      refine z_call0i (pc := 29) C (z_runS (pc := 29) (wc := ([] : va_W)) (As := [.int (v 6 (v 0 10).toNatClampNeg), .int x1, .int x2]) C (fun sz => kX10_isIn (v 6 (v 0 10).toNatClampNeg) x1 x2 sz h) [] rfl (by decide) (gdS wq849 wq852 wq853 wq814) rfl rfl rfl hdSX10_isIn ⟨Nat.le_of_ble_eq_true rfl, Nat.le_of_ble_eq_true rfl⟩ rfl (Nat.le_of_ble_eq_true rfl) ⟨Nat.zero_le _, Nat.zero_le _⟩ dX10_sees_29) (fun r4 u4 h => ?_)
      refine z_if_eq (pc := 32) (tgt := 39) C dX10_sees_32 (by decide) (fun c5 => ?_) (fun c5 => ?_)
      · have h := h.1 c5
        refine z_iconst (pc := 39) (v := 0) C dX10_sees_39 (by decide) ?_
        exact hret 40 _ _ (0 : Int32) rfl () rfl h dX10_sees_40
      · have h := h.2 c5
        refine z_iconst (pc := 35) (v := 1) C dX10_sees_35 (by decide) ?_
        refine z_goto (pc := 36) (tgt := 40) C dX10_sees_36 (by decide) ?_
        exact hret 40 _ _ (1 : Int32) rfl () rfl h dX10_sees_40

def pX10_number_J81 (x1 : Int32) (x2 : Int32) (x3 : Int32) (Q : Int32 → Lf → Prop) (v : Lf) (x5 : Int32) : Prop := (pX10_isIn x5 x2 x3 (fun r3 => ((¬ r3 = 0 → (Q x5 v)) ∧ (r3 = 0 → (pX10_fails v ((v 0 10) - (1 : Int32)) (fun v_5 => (Q x5 v_5)))))))
def pX10_number_J64 (x1 : Int32) (x2 : Int32) (x3 : Int32) (Q : Int32 → Lf → Prop) (v : Lf) (x4 : Int32) (x5 : Int32) : Prop := ((¬ (v 0 10) = x4 → (pX10_number_J81 x1 x2 x3 Q  v x5)) ∧ ((v 0 10) = x4 → (pX10_fails v (v 0 10) (fun v_6 => (pX10_number_J81 x1 x2 x3 Q  v_6 x5)))))
def pX10_number_L9 (x1 : Int32) (x2 : Int32) (x3 : Int32) (Q : Int32 → Lf → Prop) : Nat → Lf → Int32 → Int32 → Prop
  | 0, _, _, _ => False
  | n9 + 1, v, x4, x5 => (((x4 + x1) ≤ (v 0 10) → (pX10_number_J64 x1 x2 x3 Q  v x4 x5)) ∧ (¬ (x4 + x1) ≤ (v 0 10) → (pX10_sees v (48 : Int32) (57 : Int32) (fun r7 => ((r7 = 0 → (pX10_number_J64 x1 x2 x3 Q  v x4 x5)) ∧ (¬ r7 = 0 → (vp_in (v 0 10) 100 ∧ (pX10_number_L9 x1 x2 x3 Q n9 (st v 0 10 ((v 0 10) + (1 : Int32))) x4 ((((10 : Int32) * x5) + (v 6 (v 0 10).toNatClampNeg)) - (48 : Int32))))))))))
def pX10_number (v : Lf) (x1 : Int32) (x2 : Int32) (x3 : Int32) (Q : Int32 → Lf → Prop) : Prop := (∃ n9, pX10_number_L9 x1 x2 x3 Q  n9 v (v 0 10) (0 : Int32))
abbrev rmX10_number : Room := { frames := 2, cells := 0, slots := 0, locals := 44 }
abbrev wdX10_number : List Cond := Cond.code yX10_number cX10_number 6 (some .int) :: TB
theorem hdSX10_number : (yX10_number).cls ≠ "java/lang/invoke/MethodHandle" ∧ (yX10_number).cls ≠ "java/lang/invoke/VarHandle" ∧ (parseMethodDescriptor (yX10_number).desc).map (fun d => d.parameters.length) = some 3 := by decide +kernel
theorem hdX10_number : (yX10_number).cls = RX10 ∧ (yX10_number).cls ≠ "java/lang/invoke/MethodHandle" ∧ (yX10_number).cls ≠ "java/lang/invoke/VarHandle" ∧ (parseMethodDescriptor (yX10_number).desc).map (fun d => d.parameters.length) = some 3 := ⟨rfl, hdSX10_number⟩
set_option maxHeartbeats 4000000 in
set_option maxRecDepth 100000 in
theorem kX10_number {l : Launch} {D : va_G} {cI cJ cT : ClassId} (d : Nat → Nat)  (v : Lf) (g : Lg) (x1 : Int32) (x2 : Int32) (x3 : Int32) {Q : Int32 → Lf → Prop} (sz : Nat) (h : pX10_number v x1 x2 x3 Q) : Met l yX10_number wdX10_number rmX10_number (Pz D (tyL cI cJ cT) [.ref (d 0), .int x1, .int x2, .int x3] (wX10 cI cJ d v g) sz) (va_Qi (fun (r : Int32) (u : Lf) => Q r u) (Bz D (tyL cI cJ cT) (wX10 cI cJ d v g) sz (fun (u : Lf) => (wX10 cI cJ d u g))) (va_A (wX10 cI cJ d v g) sz)) 0 0 (va_A (wX10 cI cJ d v g) sz) := by
  refine z_meti (cc := cX10_number) (maxL := 6) (own := RX10) (lv0 := [(0, .ref (d 0)), (1, .int x1), (2, .int x2), (3, .int x3)]) (by decide) rfl rfl (Nat.le_of_ble_eq_true rfl) rfl ?_
  intro p e s m args below meth c A QQ C hin hret
  have J81 : ∀ (v : Lf) (x5 : Int32), pX10_number_J81 x1 x2 x3 Q v x5 → ZZ p l e rmX10_number s m args below meth c D A 6 0 0 QQ 81 (wX10 cI cJ d v g) [(0, .ref (d 0)), (2, .int x2), (3, .int x3), (5, .int x5)] [] := by
    intro  v x5 h
    refine z_iload (pc := 81) C 3 dX10_number_81 rfl ?_
    refine z_iload_n (pc := 83) C 1 dX10_number_83 rfl ?_
    refine z_iload_n (pc := 84) C 2 dX10_number_84 rfl ?_
    refine z_call0i (pc := 85) C (z_runS (pc := 85) (wc := ([] : va_W)) (As := [.int x5, .int x2, .int x3]) C (fun sz => kX10_isIn x5 x2 x3 sz h) [] rfl (by decide) (gdS wq849 wq852 wq853 wq814) rfl rfl rfl hdSX10_isIn ⟨Nat.le_of_ble_eq_true rfl, Nat.le_of_ble_eq_true rfl⟩ rfl (Nat.le_of_ble_eq_true rfl) ⟨Nat.zero_le _, Nat.zero_le _⟩ dX10_number_85) (fun r3 u3 h => ?_)
    refine z_if_ne (pc := 88) (tgt := 101) C dX10_number_88 (by decide) (fun c4 => ?_) (fun c4 => ?_)
    · have h := h.1 c4
      refine z_iload (pc := 101) C 3 dX10_number_101 rfl ?_
      exact hret 103 _ _ x5 v rfl h dX10_number_103
    · have h := h.2 c4
      refine z_aload_n (pc := 91) C 0 dX10_number_91 rfl ?_
      refine z_aload_n (pc := 92) C 0 dX10_number_92 rfl ?_
      refine z_get (pc := 93) C uw10 0 rfl rfl 10 (by decide) wq886 rfl dX10_number_93 ?_
      refine z_iconst (pc := 96) (v := 1) C dX10_number_96 (by decide) ?_
      refine z_isub (pc := 97) C dX10_number_97 ?_
      refine z_callv (pc := 98) (wr := ([] : va_W)) (w1 := fun (u : Lf) => (wX10 cI cJ d u g)) (w2 := fun (u : Lf) => (wX10 cI cJ d u g)) C (z_runV (pc := 98) (wc := (wX10 cI cJ d v g)) (As := [.int ((v 0 10) - (1 : Int32))]) C (fun sz => kX10_fails d v g ((v 0 10) - (1 : Int32)) sz h) [0, 1, 2, 3, 4, 5, 6, 7, 8, 9, 10, 11] rfl (by decide) (gdV wq883 wq892 wq893 wq894 wq814) rfl rfl rfl hdX10_fails 0 rfl rfl rfl ⟨Nat.le_of_ble_eq_true rfl, Nat.le_of_ble_eq_true rfl⟩ rfl (Nat.le_of_ble_eq_true rfl) ⟨Nat.zero_le _, Nat.zero_le _⟩ dX10_number_98) [0, 1, 2, 3, 4, 5, 6, 7, 8, 9, 10, 11] [] [0, 1, 2, 3, 4, 5, 6, 7, 8, 9, 10, 11] rfl rfl (by decide) (by decide) (fun _ => rfl) (by decide) (fun u5 h => ?_)
      obtain ⟨v_5, hu5⟩ : ∃ z, z = u5 := ⟨_, rfl⟩
      subst hu5
      refine z_iload (pc := 101) C 3 dX10_number_101 rfl ?_
      exact hret 103 _ _ x5 v_5 rfl h dX10_number_103
  have J64 : ∀ (v : Lf) (x4 : Int32) (x5 : Int32), pX10_number_J64 x1 x2 x3 Q v x4 x5 → ZZ p l e rmX10_number s m args below meth c D A 6 0 0 QQ 64 (wX10 cI cJ d v g) [(0, .ref (d 0)), (2, .int x2), (3, .int x3), (4, .int x4), (5, .int x5)] [] := by
    intro  v x4 x5 h
    refine z_aload_n (pc := 64) C 0 dX10_number_64 rfl ?_
    refine z_get (pc := 65) C uw10 0 rfl rfl 10 (by decide) wq886 rfl dX10_number_65 ?_
    refine z_iload (pc := 68) C 3 dX10_number_68 rfl ?_
    refine z_icmp_ne (pc := 70) (tgt := 81) C dX10_number_70 (by decide) (fun c2 => ?_) (fun c2 => ?_)
    · have h := h.1 c2
      refine z_sub (lv' := [(0, .ref (d 0)), (2, .int x2), (3, .int x3), (5, .int x5)]) [0, 1, 2, 4] rfl ?_
      exact J81  v x5 h
    · have h := h.2 c2
      refine z_aload_n (pc := 73) C 0 dX10_number_73 rfl ?_
      refine z_aload_n (pc := 74) C 0 dX10_number_74 rfl ?_
      refine z_get (pc := 75) C uw10 0 rfl rfl 10 (by decide) wq886 rfl dX10_number_75 ?_
      refine z_callv (pc := 78) (wr := ([] : va_W)) (w1 := fun (u : Lf) => (wX10 cI cJ d u g)) (w2 := fun (u : Lf) => (wX10 cI cJ d u g)) C (z_runV (pc := 78) (wc := (wX10 cI cJ d v g)) (As := [.int (v 0 10)]) C (fun sz => kX10_fails d v g (v 0 10) sz h) [0, 1, 2, 3, 4, 5, 6, 7, 8, 9, 10, 11] rfl (by decide) (gdV wq883 wq892 wq893 wq894 wq814) rfl rfl rfl hdX10_fails 0 rfl rfl rfl ⟨Nat.le_of_ble_eq_true rfl, Nat.le_of_ble_eq_true rfl⟩ rfl (Nat.le_of_ble_eq_true rfl) ⟨Nat.zero_le _, Nat.zero_le _⟩ dX10_number_78) [0, 1, 2, 3, 4, 5, 6, 7, 8, 9, 10, 11] [] [0, 1, 2, 3, 4, 5, 6, 7, 8, 9, 10, 11] rfl rfl (by decide) (by decide) (fun _ => rfl) (by decide) (fun u6 h => ?_)
      obtain ⟨v_6, hu6⟩ : ∃ z, z = u6 := ⟨_, rfl⟩
      subst hu6
      refine z_sub (lv' := [(0, .ref (d 0)), (2, .int x2), (3, .int x3), (5, .int x5)]) [0, 1, 2, 4] rfl ?_
      exact J81  v_6 x5 h
  have L9 : ∀ (n9 : Nat) (v : Lf) (x4 : Int32) (x5 : Int32), pX10_number_L9 x1 x2 x3 Q n9 v x4 x5 → ZZ p l e rmX10_number s m args below meth c D A 6 0 0 QQ 9 (wX10 cI cJ d v g) [(0, .ref (d 0)), (1, .int x1), (2, .int x2), (3, .int x3), (4, .int x4), (5, .int x5)] [] := by
    intro n9
    induction n9 with
    | zero => intro v x4 x5 h; exact False.elim h
    | succ n9 ih9 =>
      intro v x4 x5 h
      refine z_aload_n (pc := 9) C 0 dX10_number_9 rfl ?_
      refine z_get (pc := 10) C uw10 0 rfl rfl 10 (by decide) wq886 rfl dX10_number_10 ?_
      refine z_iload (pc := 13) C 4 dX10_number_13 rfl ?_
      refine z_iload_n (pc := 15) C 1 dX10_number_15 rfl ?_
      refine z_iadd (pc := 16) C dX10_number_16 ?_
      refine z_icmp_ge (pc := 17) (tgt := 64) C dX10_number_17 (by decide) (fun c1 => ?_) (fun c1 => ?_)
      · have h := h.1 c1
        refine z_sub (lv' := [(0, .ref (d 0)), (2, .int x2), (3, .int x3), (4, .int x4), (5, .int x5)]) [0, 2, 3, 4, 5] rfl ?_
        exact J64  v x4 x5 h
      · have h := h.2 c1
        refine z_aload_n (pc := 20) C 0 dX10_number_20 rfl ?_
        refine z_bipush (pc := 21) (v := 48) C dX10_number_21 (by decide) ?_
        refine z_bipush (pc := 23) (v := 57) C dX10_number_23 (by decide) ?_
        refine z_callRi (pc := 25) C (z_runV (pc := 25) (wc := (wX10 cI cJ d v g)) (As := [.int (48 : Int32), .int (57 : Int32)]) C (fun sz => kX10_sees d v g (48 : Int32) (57 : Int32) sz h) [0, 1, 2, 3, 4, 5, 6, 7, 8, 9, 10, 11] rfl (by decide) (gdV wq887 wq889 wq890 wq891 wq814) rfl rfl rfl hdX10_sees 0 rfl rfl rfl ⟨Nat.le_of_ble_eq_true rfl, Nat.le_of_ble_eq_true rfl⟩ rfl (Nat.le_of_ble_eq_true rfl) ⟨Nat.zero_le _, Nat.zero_le _⟩ dX10_number_25) [0, 1, 2, 3, 4, 5, 6, 7, 8, 9, 10, 11] rfl (by decide) (fun r7 u7 h => ?_)
        refine z_if_eq (pc := 28) (tgt := 64) C dX10_number_28 (by decide) (fun c8 => ?_) (fun c8 => ?_)
        · have h := h.1 c8
          refine z_sub (lv' := [(0, .ref (d 0)), (2, .int x2), (3, .int x3), (4, .int x4), (5, .int x5)]) [0, 2, 3, 4, 5] rfl ?_
          exact J64  v x4 x5 h
        · have h := h.2 c8
          refine z_bipush (pc := 31) (v := 10) C dX10_number_31 (by decide) ?_
          refine z_iload (pc := 33) C 5 dX10_number_33 rfl ?_
          refine z_imul (pc := 35) C dX10_number_35 ?_
          refine z_aload_n (pc := 36) C 0 dX10_number_36 rfl ?_
          refine z_get (pc := 37) C uw10 0 rfl rfl 7 (by decide) wq839 rfl dX10_number_37 ?_
          refine z_aload_n (pc := 40) C 0 dX10_number_40 rfl ?_
          refine z_get (pc := 41) C uw10 0 rfl rfl 10 (by decide) wq886 rfl dX10_number_41 ?_
          obtain ⟨g9, h⟩ := h
          refine z_iald (pc := 44) C 6 0 rfl rfl g9 (v 6 (v 0 10).toNatClampNeg) rfl dX10_number_44 ?_
          refine z_iadd (pc := 45) C dX10_number_45 ?_
          refine z_bipush (pc := 46) (v := 48) C dX10_number_46 (by decide) ?_
          refine z_isub (pc := 48) C dX10_number_48 ?_
          refine z_istore (pc := 49) (lv' := [(5, .int ((((10 : Int32) * x5) + (v 6 (v 0 10).toNatClampNeg)) - (48 : Int32))), (0, .ref (d 0)), (1, .int x1), (2, .int x2), (3, .int x3), (4, .int x4)]) C dX10_number_49 (by decide) rfl ?_
          refine z_aload_n (pc := 51) C 1 dX10_number_51 rfl ?_
          refine z_dup (pc := 52) C dX10_number_52 rfl ?_
          refine z_get (pc := 53) C uw10 0 rfl rfl 10 (by decide) wq886 rfl dX10_number_53 ?_
          refine z_iconst (pc := 56) (v := 1) C dX10_number_56 (by decide) ?_
          refine z_iadd (pc := 57) C dX10_number_57 ?_
          refine z_put (pc := 58) (ws' := (wX10 cI cJ d (st v 0 10 ((v 0 10) + (1 : Int32))) g)) C uw10 tyX10 tyX10_ok nmX10 0 rfl rfl 10 (by decide) wq886 rfl rfl rfl (Nat.le_of_ble_eq_true rfl) dX10_number_58 sX10_f10 ?_
          refine z_goto (pc := 61) (tgt := 9) C dX10_number_61 (by decide) ?_
          refine z_sub (lv' := [(0, .ref (d 0)), (1, .int x1), (2, .int x2), (3, .int x3), (4, .int x4), (5, .int ((((10 : Int32) * x5) + (v 6 (v 0 10).toNatClampNeg)) - (48 : Int32)))]) [1, 2, 3, 4, 5, 0] rfl ?_
          exact ih9 (st v 0 10 ((v 0 10) + (1 : Int32))) x4 ((((10 : Int32) * x5) + (v 6 (v 0 10).toNatClampNeg)) - (48 : Int32)) h
  refine z_aload_n (pc := 0) C 0 dX10_number_0 rfl ?_
  refine z_get (pc := 1) C uw10 0 rfl rfl 10 (by decide) wq886 rfl dX10_number_1 ?_
  refine z_istore (pc := 4) (lv' := [(4, .int (v 0 10)), (0, .ref (d 0)), (1, .int x1), (2, .int x2), (3, .int x3)]) C dX10_number_4 (by decide) rfl ?_
  refine z_iconst (pc := 6) (v := 0) C dX10_number_6 (by decide) ?_
  refine z_istore (pc := 7) (lv' := [(5, .int (0 : Int32)), (4, .int (v 0 10)), (0, .ref (d 0)), (1, .int x1), (2, .int x2), (3, .int x3)]) C dX10_number_7 (by decide) rfl ?_
  obtain ⟨n9, h⟩ := h
  refine z_sub (lv' := [(0, .ref (d 0)), (1, .int x1), (2, .int x2), (3, .int x3), (4, .int (v 0 10)), (5, .int (0 : Int32))]) [2, 3, 4, 5, 1, 0] rfl ?_
  exact L9  n9 v (v 0 10) (0 : Int32) h

def pX10_kindOf  (x0 : Int32) (Q : Int32 → Prop) : Prop := ((¬ x0 = (99 : Int32) → ((¬ x0 = (119 : Int32) → ((¬ x0 = (116 : Int32) → ((¬ x0 = (98 : Int32) → (Q (-1 : Int32) )) ∧ (x0 = (98 : Int32) → (Q (3 : Int32) )))) ∧ (x0 = (116 : Int32) → (Q (2 : Int32) )))) ∧ (x0 = (119 : Int32) → (Q (1 : Int32) )))) ∧ (x0 = (99 : Int32) → (Q (0 : Int32) )))
abbrev rmX10_kindOf : Room := { frames := 0, cells := 0, slots := 0, locals := 0 }
abbrev wdX10_kindOf : List Cond := Cond.code yX10_kindOf cX10_kindOf 1 (some .int) :: TB
theorem hdSX10_kindOf : (yX10_kindOf).cls ≠ "java/lang/invoke/MethodHandle" ∧ (yX10_kindOf).cls ≠ "java/lang/invoke/VarHandle" ∧ (parseMethodDescriptor (yX10_kindOf).desc).map (fun d => d.parameters.length) = some 1 := by decide +kernel
theorem hdX10_kindOf : (yX10_kindOf).cls = RX10 ∧ (yX10_kindOf).cls ≠ "java/lang/invoke/MethodHandle" ∧ (yX10_kindOf).cls ≠ "java/lang/invoke/VarHandle" ∧ (parseMethodDescriptor (yX10_kindOf).desc).map (fun d => d.parameters.length) = some 1 := ⟨rfl, hdSX10_kindOf⟩
set_option maxHeartbeats 4000000 in
set_option maxRecDepth 100000 in
theorem kX10_kindOf {l : Launch} {D : va_G} {cI cJ cT : ClassId}    (x0 : Int32) {Q : Int32 → Prop} (sz : Nat) (h : pX10_kindOf x0 Q) : Met l yX10_kindOf wdX10_kindOf rmX10_kindOf (Pz D (tyL cI cJ cT) [.int x0] ([] : va_W) sz) (va_Qi (fun (r : Int32) (u : Unit) => Q r) (Bz D (tyL cI cJ cT) ([] : va_W) sz (fun (u : Unit) => ([] : va_W))) (va_A ([] : va_W) sz)) 0 0 (va_A ([] : va_W) sz) := by
  refine z_meti (cc := cX10_kindOf) (maxL := 1) (own := RX10) (lv0 := [(0, .int x0)]) (by decide) rfl rfl (Nat.le_of_ble_eq_true rfl) rfl ?_
  intro p e s m args below meth c A QQ C hin hret
  refine z_iload_n (pc := 0) C 0 dX10_kindOf_0 rfl ?_
  refine z_bipush (pc := 1) (v := 99) C dX10_kindOf_1 (by decide) ?_
  refine z_icmp_ne (pc := 3) (tgt := 10) C dX10_kindOf_3 (by decide) (fun c1 => ?_) (fun c1 => ?_)
  · have h := h.1 c1
    refine z_iload_n (pc := 10) C 0 dX10_kindOf_10 rfl ?_
    refine z_bipush (pc := 11) (v := 119) C dX10_kindOf_11 (by decide) ?_
    refine z_icmp_ne (pc := 13) (tgt := 20) C dX10_kindOf_13 (by decide) (fun c2 => ?_) (fun c2 => ?_)
    · have h := h.1 c2
      refine z_iload_n (pc := 20) C 0 dX10_kindOf_20 rfl ?_
      refine z_bipush (pc := 21) (v := 116) C dX10_kindOf_21 (by decide) ?_
      refine z_icmp_ne (pc := 23) (tgt := 30) C dX10_kindOf_23 (by decide) (fun c3 => ?_) (fun c3 => ?_)
      · have h := h.1 c3
        refine z_iload_n (pc := 30) C 0 dX10_kindOf_30 rfl ?_
        refine z_bipush (pc := 31) (v := 98) C dX10_kindOf_31 (by decide) ?_
        refine z_icmp_ne (pc := 33) (tgt := 40) C dX10_kindOf_33 (by decide) (fun c4 => ?_) (fun c4 => ?_)
        · have h := h.1 c4
          refine z_iconst (pc := 40) (v := -1) C dX10_kindOf_40 (by decide) ?_
          exact hret 41 _ _ (-1 : Int32) () rfl h dX10_kindOf_41
        · have h := h.2 c4
          refine z_iconst (pc := 36) (v := 3) C dX10_kindOf_36 (by decide) ?_
          refine z_goto (pc := 37) (tgt := 41) C dX10_kindOf_37 (by decide) ?_
          exact hret 41 _ _ (3 : Int32) () rfl h dX10_kindOf_41
      · have h := h.2 c3
        refine z_iconst (pc := 26) (v := 2) C dX10_kindOf_26 (by decide) ?_
        refine z_goto (pc := 27) (tgt := 41) C dX10_kindOf_27 (by decide) ?_
        exact hret 41 _ _ (2 : Int32) () rfl h dX10_kindOf_41
    · have h := h.2 c2
      refine z_iconst (pc := 16) (v := 1) C dX10_kindOf_16 (by decide) ?_
      refine z_goto (pc := 17) (tgt := 41) C dX10_kindOf_17 (by decide) ?_
      exact hret 41 _ _ (1 : Int32) () rfl h dX10_kindOf_41
  · have h := h.2 c1
    refine z_iconst (pc := 6) (v := 0) C dX10_kindOf_6 (by decide) ?_
    refine z_goto (pc := 7) (tgt := 41) C dX10_kindOf_7 (by decide) ?_
    exact hret 41 _ _ (0 : Int32) () rfl h dX10_kindOf_41

def pX10_clause_J207 (x1 : Int32) (Q : Lf → Prop) (K70 : Lf → Int32 → Prop) (K176 : Lf → Int32 → Int32 → Int32 → Prop) (v : Lf) (x2 : Int32) (x4 : Int32) (x5 : Int32) : Prop := (K176 v x2 x4 (x5 + 1))
def pX10_clause_L176 (x1 : Int32) (Q : Lf → Prop) (K70 : Lf → Int32 → Prop) : Nat → Lf → Int32 → Int32 → Int32 → Prop
  | 0, _, _, _, _ => False
  | n176 + 1, v, x2, x4, x5 => ((x2 ≤ x5 → (vp_in ((x1 + (6 : Int32)) + x2) 56 ∧ (vp_in (x1 + (5 : Int32)) 56 ∧ (K70 (st (st (st v 0 10 ((v 0 10) + (1 : Int32))) 7 (((x1 + (6 : Int32)) + x2).toNatClampNeg) x4) 7 ((x1 + (5 : Int32)).toNatClampNeg) (x2 + 1)) (x2 + 1))))) ∧ (¬ x2 ≤ x5 → (vp_in ((x1 + (6 : Int32)) + x5) 56 ∧ ((¬ (v 7 ((x1 + (6 : Int32)) + x5).toNatClampNeg) = x4 → (pX10_clause_J207 x1 Q K70 (fun v x2 x4 x5 => pX10_clause_L176 x1 Q K70 n176 v x2 x4 x5) v x2 x4 x5)) ∧ ((v 7 ((x1 + (6 : Int32)) + x5).toNatClampNeg) = x4 → (pX10_fails v (v 0 10) (fun v_17 => (pX10_clause_J207 x1 Q K70 (fun v x2 x4 x5 => pX10_clause_L176 x1 Q K70 n176 v x2 x4 x5) v_17 x2 x4 x5))))))))
def pX10_clause_J91 (x1 : Int32) (Q : Lf → Prop) (K70 : Lf → Int32 → Prop) (v : Lf) (x2 : Int32) : Prop := (pX10_sees v (97 : Int32) (104 : Int32) (fun r6 => ((¬ r6 = 0 → (vp_in (v 0 10) 100 ∧ (pX10_sees (st v 0 10 ((v 0 10) + (1 : Int32))) (49 : Int32) (56 : Int32) (fun r9 => ((¬ r9 = 0 → (vp_in ((st v 0 10 ((v 0 10) + (1 : Int32))) 0 10) 100 ∧ (∃ n176, pX10_clause_L176 x1 Q K70 n176 (st v 0 10 ((v 0 10) + (1 : Int32))) x2 (((v 6 (v 0 10).toNatClampNeg) - (97 : Int32)) + ((8 : Int32) * (((st v 0 10 ((v 0 10) + (1 : Int32))) 6 ((st v 0 10 ((v 0 10) + (1 : Int32))) 0 10).toNatClampNeg) - (49 : Int32)))) (0 : Int32)))) ∧ (r9 = 0 → (pX10_fails (st v 0 10 ((v 0 10) + (1 : Int32))) ((st v 0 10 ((v 0 10) + (1 : Int32))) 0 10) (fun v_18 => (Q v_18))))))))) ∧ (r6 = 0 → (pX10_fails v (v 0 10) (fun v_19 => (Q v_19)))))))
def pX10_clause_J374 (x1 : Int32) (Q : Lf → Prop) (v : Lf) (t1 : Int32) (t2 : Int32) : Prop := (vp_in t1 56 ∧ (Q (st v 7 t1.toNatClampNeg t2)))
def pX10_clause_J345 (x1 : Int32) (Q : Lf → Prop) (v : Lf) (t1 : Int32) (t2 : Int32) : Prop := (vp_in t1 56 ∧ (pX10_takes (st v 7 t1.toNatClampNeg t2) (64 : Int32) (fun r30 v_30 => ((r30 = 0 → (pX10_clause_J374 x1 Q  v_30 (x1 + (4 : Int32)) (0 : Int32))) ∧ (¬ r30 = 0 → (pX10_number v_30 (2 : Int32) (0 : Int32) (60 : Int32) (fun r33 v_33 => (pX10_clause_J374 x1 Q  v_33 (x1 + (4 : Int32)) r33))))))))
def pX10_clause_J316 (x1 : Int32) (Q : Lf → Prop) (v : Lf) (t1 : Int32) (t2 : Int32) : Prop := (vp_in t1 56 ∧ (pX10_takes (st v 7 t1.toNatClampNeg t2) (126 : Int32) (fun r27 v_27 => ((r27 = 0 → (pX10_clause_J345 x1 Q  v_27 (x1 + (3 : Int32)) (3 : Int32))) ∧ (¬ r27 = 0 → (pX10_number v_27 (1 : Int32) (1 : Int32) (9 : Int32) (fun r34 v_34 => (pX10_clause_J345 x1 Q  v_34 (x1 + (3 : Int32)) r34))))))))
def pX10_clause_J279 (x1 : Int32) (Q : Lf → Prop) (v : Lf) (t1 : Int32) (t2 : Int32) : Prop := (vp_in t1 56 ∧ (pX10_takes (st v 7 t1.toNatClampNeg t2) (47 : Int32) (fun r24 v_24 => ((r24 = 0 → (pX10_clause_J316 x1 Q  v_24 (x1 + (2 : Int32)) (40 : Int32))) ∧ (¬ r24 = 0 → (vp_in (x1 + (1 : Int32)) 56 ∧ (pX10_number v_24 (2 : Int32) (v_24 7 (x1 + (1 : Int32)).toNatClampNeg) (99 : Int32) (fun r36 v_36 => (pX10_clause_J316 x1 Q  v_36 (x1 + (2 : Int32)) r36)))))))))
def pX10_clause_J251 (x1 : Int32) (Q : Lf → Prop) (v : Lf) : Prop := (pX10_takes v (42 : Int32) (fun r21 v_21 => ((r21 = 0 → (pX10_clause_J279 x1 Q  v_21 (x1 + (1 : Int32)) (5 : Int32))) ∧ (¬ r21 = 0 → (pX10_number v_21 (2 : Int32) (1 : Int32) (20 : Int32) (fun r37 v_37 => (pX10_clause_J279 x1 Q  v_37 (x1 + (1 : Int32)) r37)))))))
def pX10_clause_L70 (x1 : Int32) (Q : Lf → Prop) : Nat → Lf → Int32 → Prop
  | 0, _, _ => False
  | n70 + 1, v, x2 => ((x2 = 0 → (pX10_clause_J91 x1 Q (fun v x2 => pX10_clause_L70 x1 Q n70 v x2) v x2)) ∧ (¬ x2 = 0 → (((8 : Int32) ≤ x2 → (pX10_clause_J251 x1 Q  v)) ∧ (¬ (8 : Int32) ≤ x2 → (pX10_sees v (97 : Int32) (104 : Int32) (fun r38 => ((r38 = 0 → (pX10_clause_J251 x1 Q  v)) ∧ (¬ r38 = 0 → (pX10_clause_J91 x1 Q (fun v x2 => pX10_clause_L70 x1 Q n70 v x2) v x2)))))))))
def pX10_clause_J39 (x1 : Int32) (Q : Lf → Prop) (v : Lf) (t1 : Int32) (t2 : Int32) : Prop := (vp_in t1 56 ∧ (vp_in x1 56 ∧ ((0 ≤ ((st v 7 t1.toNatClampNeg t2) 7 x1.toNatClampNeg) → (∃ n70, pX10_clause_L70 x1 Q  n70 (st (st v 7 t1.toNatClampNeg t2) 0 10 (((st v 7 t1.toNatClampNeg t2) 0 10) + (1 : Int32))) (0 : Int32))) ∧ (¬ 0 ≤ ((st v 7 t1.toNatClampNeg t2) 7 x1.toNatClampNeg) → (pX10_fails (st v 7 t1.toNatClampNeg t2) ((st v 7 t1.toNatClampNeg t2) 0 10) (fun v_40 => (Q v_40)))))))
def pX10_clause_J38 (x1 : Int32) (Q : Lf → Prop) (v : Lf) (t1 : Int32) : Prop := (pX10_clause_J39 x1 Q  v t1 (-1 : Int32))
def pX10_clause (v : Lf) (x1 : Int32) (Q : Lf → Prop) : Prop := ((0 ≤ (v 0 11) → (pX10_clause_J38 x1 Q  v x1)) ∧ (¬ 0 ≤ (v 0 11) → (((v 0 9) ≤ (v 0 10) → (pX10_clause_J38 x1 Q  v x1)) ∧ (¬ (v 0 9) ≤ (v 0 10) → (vp_in (v 0 10) 100 ∧ (pX10_kindOf (v 6 (v 0 10).toNatClampNeg) (fun r43 => (pX10_clause_J39 x1 Q  v x1 r43))))))))
abbrev rmX10_clause : Room := { frames := 3, cells := 0, slots := 0, locals := 69 }
abbrev wdX10_clause : List Cond := Cond.code yX10_clause cX10_clause 6 none :: TB
theorem hdSX10_clause : (yX10_clause).cls ≠ "java/lang/invoke/MethodHandle" ∧ (yX10_clause).cls ≠ "java/lang/invoke/VarHandle" ∧ (parseMethodDescriptor (yX10_clause).desc).map (fun d => d.parameters.length) = some 1 := by decide +kernel
theorem hdX10_clause : (yX10_clause).cls = RX10 ∧ (yX10_clause).cls ≠ "java/lang/invoke/MethodHandle" ∧ (yX10_clause).cls ≠ "java/lang/invoke/VarHandle" ∧ (parseMethodDescriptor (yX10_clause).desc).map (fun d => d.parameters.length) = some 1 := ⟨rfl, hdSX10_clause⟩
set_option maxHeartbeats 4000000 in
set_option maxRecDepth 100000 in
theorem kX10_clause {l : Launch} {D : va_G} {cI cJ cT : ClassId} (d : Nat → Nat)  (v : Lf) (g : Lg) (x1 : Int32) {Q : Lf → Prop} (sz : Nat) (h : pX10_clause v x1 Q) : Met l yX10_clause wdX10_clause rmX10_clause (Pz D (tyL cI cJ cT) [.ref (d 0), .int x1] (wX10 cI cJ d v g) sz) (va_Qv (fun (u : Lf) => Q u) (Bz D (tyL cI cJ cT) (wX10 cI cJ d v g) sz (fun (u : Lf) => (wX10 cI cJ d u g))) (va_A (wX10 cI cJ d v g) sz)) 0 0 (va_A (wX10 cI cJ d v g) sz) := by
  refine z_metv (cc := cX10_clause) (maxL := 6) (own := RX10) (lv0 := [(0, .ref (d 0)), (1, .int x1)]) (by decide) rfl rfl (Nat.le_of_ble_eq_true rfl) rfl ?_
  intro p e s m args below meth c A QQ C hin hret
  have J207 : ∀ (K70 : Lf → Int32 → Prop), (∀ (v : Lf) (x2 : Int32), K70 v x2 → ZZ p l e rmX10_clause s m args below meth c D A 6 0 0 QQ 70 (wX10 cI cJ d v g) [(0, .ref (d 0)), (1, .int x1), (2, .int x2)] []) → ∀ (K176 : Lf → Int32 → Int32 → Int32 → Prop), (∀ (v : Lf) (x2 : Int32) (x4 : Int32) (x5 : Int32), K176 v x2 x4 x5 → ZZ p l e rmX10_clause s m args below meth c D A 6 0 0 QQ 176 (wX10 cI cJ d v g) [(0, .ref (d 0)), (1, .int x1), (2, .int x2), (4, .int x4), (5, .int x5)] []) → ∀ (v : Lf) (x2 : Int32) (x4 : Int32) (x5 : Int32), pX10_clause_J207 x1 Q K70 K176 v x2 x4 x5 → ZZ p l e rmX10_clause s m args below meth c D A 6 0 0 QQ 207 (wX10 cI cJ d v g) [(0, .ref (d 0)), (1, .int x1), (2, .int x2), (4, .int x4), (5, .int x5)] [] := by
    intro K70 hK70 K176 hK176 v x2 x4 x5 h
    refine z_iinc (pc := 207) (v := (x5 + 1)) (lv' := [(5, .int (x5 + 1)), (0, .ref (d 0)), (1, .int x1), (2, .int x2), (4, .int x4)]) C 4 dX10_clause_207 rfl rfl (by decide) rfl ?_
    refine z_goto (pc := 210) (tgt := 176) C dX10_clause_210 (by decide) ?_
    refine z_sub (lv' := [(0, .ref (d 0)), (1, .int x1), (2, .int x2), (4, .int x4), (5, .int (x5 + 1))]) [1, 2, 3, 4, 0] rfl ?_
    exact hK176 v x2 x4 (x5 + 1) h
  have L176 : ∀ (K70 : Lf → Int32 → Prop), (∀ (v : Lf) (x2 : Int32), K70 v x2 → ZZ p l e rmX10_clause s m args below meth c D A 6 0 0 QQ 70 (wX10 cI cJ d v g) [(0, .ref (d 0)), (1, .int x1), (2, .int x2)] []) → ∀ (n176 : Nat) (v : Lf) (x2 : Int32) (x4 : Int32) (x5 : Int32), pX10_clause_L176 x1 Q K70 n176 v x2 x4 x5 → ZZ p l e rmX10_clause s m args below meth c D A 6 0 0 QQ 176 (wX10 cI cJ d v g) [(0, .ref (d 0)), (1, .int x1), (2, .int x2), (4, .int x4), (5, .int x5)] [] := by
    intro K70 hK70
    intro n176
    induction n176 with
    | zero => intro v x2 x4 x5 h; exact False.elim h
    | succ n176 ih176 =>
      intro v x2 x4 x5 h
      refine z_iload (pc := 176) C 4 dX10_clause_176 rfl ?_
      refine z_iload_n (pc := 178) C 2 dX10_clause_178 rfl ?_
      refine z_icmp_ge (pc := 179) (tgt := 213) C dX10_clause_179 (by decide) (fun c12 => ?_) (fun c12 => ?_)
      · have h := h.1 c12
        refine z_aload_n (pc := 213) C 0 dX10_clause_213 rfl ?_
        refine z_dup (pc := 214) C dX10_clause_214 rfl ?_
        refine z_get (pc := 215) C uw10 0 rfl rfl 10 (by decide) wq886 rfl dX10_clause_215 ?_
        refine z_iconst (pc := 218) (v := 1) C dX10_clause_218 (by decide) ?_
        refine z_iadd (pc := 219) C dX10_clause_219 ?_
        refine z_put (pc := 220) (ws' := (wX10 cI cJ d (st v 0 10 ((v 0 10) + (1 : Int32))) g)) C uw10 tyX10 tyX10_ok nmX10 0 rfl rfl 10 (by decide) wq886 rfl rfl rfl (Nat.le_of_ble_eq_true rfl) dX10_clause_220 sX10_f10 ?_
        refine z_aload_n (pc := 223) C 0 dX10_clause_223 rfl ?_
        refine z_get (pc := 224) C uw10 0 rfl rfl 8 (by decide) wq840 rfl dX10_clause_224 ?_
        refine z_iload_n (pc := 227) C 1 dX10_clause_227 rfl ?_
        refine z_bipush (pc := 228) (v := 6) C dX10_clause_228 (by decide) ?_
        refine z_iadd (pc := 230) C dX10_clause_230 ?_
        refine z_iload_n (pc := 231) C 2 dX10_clause_231 rfl ?_
        refine z_iadd (pc := 232) C dX10_clause_232 ?_
        refine z_iload (pc := 233) C 3 dX10_clause_233 rfl ?_
        obtain ⟨g13, h⟩ := h
        refine z_iast (pc := 235) (ws' := (wX10 cI cJ d (st (st v 0 10 ((v 0 10) + (1 : Int32))) 7 (((x1 + (6 : Int32)) + x2).toNatClampNeg) x4) g)) C 7 0 rfl rfl g13 dX10_clause_235 rfl sX10_a7 ?_
        refine z_iinc (pc := 236) (v := (x2 + 1)) (lv' := [(2, .int (x2 + 1)), (0, .ref (d 0)), (1, .int x1), (4, .int x4), (5, .int x5)]) C 2 dX10_clause_236 rfl rfl (by decide) rfl ?_
        refine z_aload_n (pc := 239) C 1 dX10_clause_239 rfl ?_
        refine z_get (pc := 240) C uw10 0 rfl rfl 8 (by decide) wq840 rfl dX10_clause_240 ?_
        refine z_iload_n (pc := 243) C 2 dX10_clause_243 rfl ?_
        refine z_iconst (pc := 244) (v := 5) C dX10_clause_244 (by decide) ?_
        refine z_iadd (pc := 245) C dX10_clause_245 ?_
        refine z_iload_n (pc := 246) C 0 dX10_clause_246 rfl ?_
        obtain ⟨g14, h⟩ := h
        refine z_iast (pc := 247) (ws' := (wX10 cI cJ d (st (st (st v 0 10 ((v 0 10) + (1 : Int32))) 7 (((x1 + (6 : Int32)) + x2).toNatClampNeg) x4) 7 ((x1 + (5 : Int32)).toNatClampNeg) (x2 + 1)) g)) C 7 0 rfl rfl g14 dX10_clause_247 rfl sX10_a7 ?_
        refine z_goto (pc := 248) (tgt := 70) C dX10_clause_248 (by decide) ?_
        refine z_sub (lv' := [(0, .ref (d 0)), (1, .int x1), (2, .int (x2 + 1))]) [1, 2, 0] rfl ?_
        exact hK70 (st (st (st v 0 10 ((v 0 10) + (1 : Int32))) 7 (((x1 + (6 : Int32)) + x2).toNatClampNeg) x4) 7 ((x1 + (5 : Int32)).toNatClampNeg) (x2 + 1)) (x2 + 1) h
      · have h := h.2 c12
        refine z_aload_n (pc := 182) C 0 dX10_clause_182 rfl ?_
        refine z_get (pc := 183) C uw10 0 rfl rfl 8 (by decide) wq840 rfl dX10_clause_183 ?_
        refine z_iload_n (pc := 186) C 1 dX10_clause_186 rfl ?_
        refine z_bipush (pc := 187) (v := 6) C dX10_clause_187 (by decide) ?_
        refine z_iadd (pc := 189) C dX10_clause_189 ?_
        refine z_iload (pc := 190) C 4 dX10_clause_190 rfl ?_
        refine z_iadd (pc := 192) C dX10_clause_192 ?_
        obtain ⟨g15, h⟩ := h
        refine z_iald (pc := 193) C 7 0 rfl rfl g15 (v 7 ((x1 + (6 : Int32)) + x5).toNatClampNeg) rfl dX10_clause_193 ?_
        refine z_iload (pc := 194) C 3 dX10_clause_194 rfl ?_
        refine z_icmp_ne (pc := 196) (tgt := 207) C dX10_clause_196 (by decide) (fun c16 => ?_) (fun c16 => ?_)
        · have h := h.1 c16
          exact J207 K70 hK70 (fun v x2 x4 x5 => pX10_clause_L176 x1 Q K70 n176 v x2 x4 x5) ih176 v x2 x4 x5 h
        · have h := h.2 c16
          refine z_aload_n (pc := 199) C 0 dX10_clause_199 rfl ?_
          refine z_aload_n (pc := 200) C 0 dX10_clause_200 rfl ?_
          refine z_get (pc := 201) C uw10 0 rfl rfl 10 (by decide) wq886 rfl dX10_clause_201 ?_
          refine z_callv (pc := 204) (wr := ([] : va_W)) (w1 := fun (u : Lf) => (wX10 cI cJ d u g)) (w2 := fun (u : Lf) => (wX10 cI cJ d u g)) C (z_runV (pc := 204) (wc := (wX10 cI cJ d v g)) (As := [.int (v 0 10)]) C (fun sz => kX10_fails d v g (v 0 10) sz h) [0, 1, 2, 3, 4, 5, 6, 7, 8, 9, 10, 11] rfl (by decide) (gdV wq883 wq892 wq893 wq894 wq814) rfl rfl rfl hdX10_fails 0 rfl rfl rfl ⟨Nat.le_of_ble_eq_true rfl, Nat.le_of_ble_eq_true rfl⟩ rfl (Nat.le_of_ble_eq_true rfl) ⟨Nat.zero_le _, Nat.zero_le _⟩ dX10_clause_204) [0, 1, 2, 3, 4, 5, 6, 7, 8, 9, 10, 11] [] [0, 1, 2, 3, 4, 5, 6, 7, 8, 9, 10, 11] rfl rfl (by decide) (by decide) (fun _ => rfl) (by decide) (fun u17 h => ?_)
          obtain ⟨v_17, hu17⟩ : ∃ z, z = u17 := ⟨_, rfl⟩
          subst hu17
          exact J207 K70 hK70 (fun v x2 x4 x5 => pX10_clause_L176 x1 Q K70 n176 v x2 x4 x5) ih176 v_17 x2 x4 x5 h
  have J91 : ∀ (K70 : Lf → Int32 → Prop), (∀ (v : Lf) (x2 : Int32), K70 v x2 → ZZ p l e rmX10_clause s m args below meth c D A 6 0 0 QQ 70 (wX10 cI cJ d v g) [(0, .ref (d 0)), (1, .int x1), (2, .int x2)] []) → ∀ (v : Lf) (x2 : Int32), pX10_clause_J91 x1 Q K70 v x2 → ZZ p l e rmX10_clause s m args below meth c D A 6 0 0 QQ 91 (wX10 cI cJ d v g) [(0, .ref (d 0)), (1, .int x1), (2, .int x2)] [] := by
    intro K70 hK70 v x2 h
    refine z_aload_n (pc := 91) C 0 dX10_clause_91 rfl ?_
    refine z_bipush (pc := 92) (v := 97) C dX10_clause_92 (by decide) ?_
    refine z_bipush (pc := 94) (v := 104) C dX10_clause_94 (by decide) ?_
    refine z_callRi (pc := 96) C (z_runV (pc := 96) (wc := (wX10 cI cJ d v g)) (As := [.int (97 : Int32), .int (104 : Int32)]) C (fun sz => kX10_sees d v g (97 : Int32) (104 : Int32) sz h) [0, 1, 2, 3, 4, 5, 6, 7, 8, 9, 10, 11] rfl (by decide) (gdV wq887 wq889 wq890 wq891 wq814) rfl rfl rfl hdX10_sees 0 rfl rfl rfl ⟨Nat.le_of_ble_eq_true rfl, Nat.le_of_ble_eq_true rfl⟩ rfl (Nat.le_of_ble_eq_true rfl) ⟨Nat.zero_le _, Nat.zero_le _⟩ dX10_clause_96) [0, 1, 2, 3, 4, 5, 6, 7, 8, 9, 10, 11] rfl (by decide) (fun r6 u6 h => ?_)
    refine z_if_ne (pc := 99) (tgt := 111) C dX10_clause_99 (by decide) (fun c7 => ?_) (fun c7 => ?_)
    · have h := h.1 c7
      refine z_aload_n (pc := 111) C 0 dX10_clause_111 rfl ?_
      refine z_get (pc := 112) C uw10 0 rfl rfl 7 (by decide) wq839 rfl dX10_clause_112 ?_
      refine z_aload_n (pc := 115) C 0 dX10_clause_115 rfl ?_
      refine z_get (pc := 116) C uw10 0 rfl rfl 10 (by decide) wq886 rfl dX10_clause_116 ?_
      obtain ⟨g8, h⟩ := h
      refine z_iald (pc := 119) C 6 0 rfl rfl g8 (v 6 (v 0 10).toNatClampNeg) rfl dX10_clause_119 ?_
      refine z_bipush (pc := 120) (v := 97) C dX10_clause_120 (by decide) ?_
      refine z_isub (pc := 122) C dX10_clause_122 ?_
      refine z_istore_n (pc := 123) (lv' := [(3, .int ((v 6 (v 0 10).toNatClampNeg) - (97 : Int32))), (0, .ref (d 0)), (1, .int x1), (2, .int x2)]) C dX10_clause_123 (by decide) rfl ?_
      refine z_aload_n (pc := 124) C 1 dX10_clause_124 rfl ?_
      refine z_dup (pc := 125) C dX10_clause_125 rfl ?_
      refine z_get (pc := 126) C uw10 0 rfl rfl 10 (by decide) wq886 rfl dX10_clause_126 ?_
      refine z_iconst (pc := 129) (v := 1) C dX10_clause_129 (by decide) ?_
      refine z_iadd (pc := 130) C dX10_clause_130 ?_
      refine z_put (pc := 131) (ws' := (wX10 cI cJ d (st v 0 10 ((v 0 10) + (1 : Int32))) g)) C uw10 tyX10 tyX10_ok nmX10 0 rfl rfl 10 (by decide) wq886 rfl rfl rfl (Nat.le_of_ble_eq_true rfl) dX10_clause_131 sX10_f10 ?_
      refine z_aload_n (pc := 134) C 1 dX10_clause_134 rfl ?_
      refine z_bipush (pc := 135) (v := 49) C dX10_clause_135 (by decide) ?_
      refine z_bipush (pc := 137) (v := 56) C dX10_clause_137 (by decide) ?_
      refine z_callRi (pc := 139) C (z_runV (pc := 139) (wc := (wX10 cI cJ d (st v 0 10 ((v 0 10) + (1 : Int32))) g)) (As := [.int (49 : Int32), .int (56 : Int32)]) C (fun sz => kX10_sees d (st v 0 10 ((v 0 10) + (1 : Int32))) g (49 : Int32) (56 : Int32) sz h) [0, 1, 2, 3, 4, 5, 6, 7, 8, 9, 10, 11] rfl (by decide) (gdV wq887 wq889 wq890 wq891 wq814) rfl rfl rfl hdX10_sees 0 rfl rfl rfl ⟨Nat.le_of_ble_eq_true rfl, Nat.le_of_ble_eq_true rfl⟩ rfl (Nat.le_of_ble_eq_true rfl) ⟨Nat.zero_le _, Nat.zero_le _⟩ dX10_clause_139) [0, 1, 2, 3, 4, 5, 6, 7, 8, 9, 10, 11] rfl (by decide) (fun r9 u9 h => ?_)
      refine z_if_ne (pc := 142) (tgt := 154) C dX10_clause_142 (by decide) (fun c10 => ?_) (fun c10 => ?_)
      · have h := h.1 c10
        refine z_iload_n (pc := 154) C 0 dX10_clause_154 rfl ?_
        refine z_bipush (pc := 155) (v := 8) C dX10_clause_155 (by decide) ?_
        refine z_aload_n (pc := 157) C 1 dX10_clause_157 rfl ?_
        refine z_get (pc := 158) C uw10 0 rfl rfl 7 (by decide) wq839 rfl dX10_clause_158 ?_
        refine z_aload_n (pc := 161) C 1 dX10_clause_161 rfl ?_
        refine z_get (pc := 162) C uw10 0 rfl rfl 10 (by decide) wq886 rfl dX10_clause_162 ?_
        obtain ⟨g11, h⟩ := h
        refine z_iald (pc := 165) C 6 0 rfl rfl g11 ((st v 0 10 ((v 0 10) + (1 : Int32))) 6 ((st v 0 10 ((v 0 10) + (1 : Int32))) 0 10).toNatClampNeg) rfl dX10_clause_165 ?_
        refine z_bipush (pc := 166) (v := 49) C dX10_clause_166 (by decide) ?_
        refine z_isub (pc := 168) C dX10_clause_168 ?_
        refine z_imul (pc := 169) C dX10_clause_169 ?_
        refine z_iadd (pc := 170) C dX10_clause_170 ?_
        refine z_istore (pc := 171) (lv' := [(4, .int (((v 6 (v 0 10).toNatClampNeg) - (97 : Int32)) + ((8 : Int32) * (((st v 0 10 ((v 0 10) + (1 : Int32))) 6 ((st v 0 10 ((v 0 10) + (1 : Int32))) 0 10).toNatClampNeg) - (49 : Int32))))), (3, .int ((v 6 (v 0 10).toNatClampNeg) - (97 : Int32))), (0, .ref (d 0)), (1, .int x1), (2, .int x2)]) C dX10_clause_171 (by decide) rfl ?_
        refine z_iconst (pc := 173) (v := 0) C dX10_clause_173 (by decide) ?_
        refine z_istore (pc := 174) (lv' := [(5, .int (0 : Int32)), (4, .int (((v 6 (v 0 10).toNatClampNeg) - (97 : Int32)) + ((8 : Int32) * (((st v 0 10 ((v 0 10) + (1 : Int32))) 6 ((st v 0 10 ((v 0 10) + (1 : Int32))) 0 10).toNatClampNeg) - (49 : Int32))))), (3, .int ((v 6 (v 0 10).toNatClampNeg) - (97 : Int32))), (0, .ref (d 0)), (1, .int x1), (2, .int x2)]) C dX10_clause_174 (by decide) rfl ?_
        obtain ⟨n176, h⟩ := h
        refine z_sub (lv' := [(0, .ref (d 0)), (1, .int x1), (2, .int x2), (4, .int (((v 6 (v 0 10).toNatClampNeg) - (97 : Int32)) + ((8 : Int32) * (((st v 0 10 ((v 0 10) + (1 : Int32))) 6 ((st v 0 10 ((v 0 10) + (1 : Int32))) 0 10).toNatClampNeg) - (49 : Int32))))), (5, .int (0 : Int32))]) [3, 4, 5, 1, 0] rfl ?_
        exact L176 K70 hK70 n176 (st v 0 10 ((v 0 10) + (1 : Int32))) x2 (((v 6 (v 0 10).toNatClampNeg) - (97 : Int32)) + ((8 : Int32) * (((st v 0 10 ((v 0 10) + (1 : Int32))) 6 ((st v 0 10 ((v 0 10) + (1 : Int32))) 0 10).toNatClampNeg) - (49 : Int32)))) (0 : Int32) h
      · have h := h.2 c10
        refine z_aload_n (pc := 145) C 1 dX10_clause_145 rfl ?_
        refine z_aload_n (pc := 146) C 1 dX10_clause_146 rfl ?_
        refine z_get (pc := 147) C uw10 0 rfl rfl 10 (by decide) wq886 rfl dX10_clause_147 ?_
        refine z_callv (pc := 150) (wr := ([] : va_W)) (w1 := fun (u : Lf) => (wX10 cI cJ d u g)) (w2 := fun (u : Lf) => (wX10 cI cJ d u g)) C (z_runV (pc := 150) (wc := (wX10 cI cJ d (st v 0 10 ((v 0 10) + (1 : Int32))) g)) (As := [.int ((st v 0 10 ((v 0 10) + (1 : Int32))) 0 10)]) C (fun sz => kX10_fails d (st v 0 10 ((v 0 10) + (1 : Int32))) g ((st v 0 10 ((v 0 10) + (1 : Int32))) 0 10) sz h) [0, 1, 2, 3, 4, 5, 6, 7, 8, 9, 10, 11] rfl (by decide) (gdV wq883 wq892 wq893 wq894 wq814) rfl rfl rfl hdX10_fails 0 rfl rfl rfl ⟨Nat.le_of_ble_eq_true rfl, Nat.le_of_ble_eq_true rfl⟩ rfl (Nat.le_of_ble_eq_true rfl) ⟨Nat.zero_le _, Nat.zero_le _⟩ dX10_clause_150) [0, 1, 2, 3, 4, 5, 6, 7, 8, 9, 10, 11] [] [0, 1, 2, 3, 4, 5, 6, 7, 8, 9, 10, 11] rfl rfl (by decide) (by decide) (fun _ => rfl) (by decide) (fun u18 h => ?_)
        obtain ⟨v_18, hu18⟩ : ∃ z, z = u18 := ⟨_, rfl⟩
        subst hu18
        exact hret 153 _ _ v_18 rfl h dX10_clause_153
    · have h := h.2 c7
      refine z_aload_n (pc := 102) C 0 dX10_clause_102 rfl ?_
      refine z_aload_n (pc := 103) C 0 dX10_clause_103 rfl ?_
      refine z_get (pc := 104) C uw10 0 rfl rfl 10 (by decide) wq886 rfl dX10_clause_104 ?_
      refine z_callv (pc := 107) (wr := ([] : va_W)) (w1 := fun (u : Lf) => (wX10 cI cJ d u g)) (w2 := fun (u : Lf) => (wX10 cI cJ d u g)) C (z_runV (pc := 107) (wc := (wX10 cI cJ d v g)) (As := [.int (v 0 10)]) C (fun sz => kX10_fails d v g (v 0 10) sz h) [0, 1, 2, 3, 4, 5, 6, 7, 8, 9, 10, 11] rfl (by decide) (gdV wq883 wq892 wq893 wq894 wq814) rfl rfl rfl hdX10_fails 0 rfl rfl rfl ⟨Nat.le_of_ble_eq_true rfl, Nat.le_of_ble_eq_true rfl⟩ rfl (Nat.le_of_ble_eq_true rfl) ⟨Nat.zero_le _, Nat.zero_le _⟩ dX10_clause_107) [0, 1, 2, 3, 4, 5, 6, 7, 8, 9, 10, 11] [] [0, 1, 2, 3, 4, 5, 6, 7, 8, 9, 10, 11] rfl rfl (by decide) (by decide) (fun _ => rfl) (by decide) (fun u19 h => ?_)
      obtain ⟨v_19, hu19⟩ : ∃ z, z = u19 := ⟨_, rfl⟩
      subst hu19
      exact hret 110 _ _ v_19 rfl h dX10_clause_110
  have J374 : ∀ (v : Lf) (t1 : Int32) (t2 : Int32), pX10_clause_J374 x1 Q v t1 t2 → ZZ p l e rmX10_clause s m args below meth c D A 6 0 0 QQ 374 (wX10 cI cJ d v g) [] [.int t2, .int t1, .ref (d 7)] := by
    intro  v t1 t2 h
    obtain ⟨g32, h⟩ := h
    refine z_iast (pc := 374) (ws' := (wX10 cI cJ d (st v 7 t1.toNatClampNeg t2) g)) C 7 0 rfl rfl g32 dX10_clause_374 rfl sX10_a7 ?_
    exact hret 375 _ _ (st v 7 t1.toNatClampNeg t2) rfl h dX10_clause_375
  have J345 : ∀ (v : Lf) (t1 : Int32) (t2 : Int32), pX10_clause_J345 x1 Q v t1 t2 → ZZ p l e rmX10_clause s m args below meth c D A 6 0 0 QQ 345 (wX10 cI cJ d v g) [(0, .ref (d 0)), (1, .int x1)] [.int t2, .int t1, .ref (d 7)] := by
    intro  v t1 t2 h
    obtain ⟨g29, h⟩ := h
    refine z_iast (pc := 345) (ws' := (wX10 cI cJ d (st v 7 t1.toNatClampNeg t2) g)) C 7 0 rfl rfl g29 dX10_clause_345 rfl sX10_a7 ?_
    refine z_aload_n (pc := 346) C 0 dX10_clause_346 rfl ?_
    refine z_get (pc := 347) C uw10 0 rfl rfl 8 (by decide) wq840 rfl dX10_clause_347 ?_
    refine z_iload_n (pc := 350) C 1 dX10_clause_350 rfl ?_
    refine z_iconst (pc := 351) (v := 4) C dX10_clause_351 (by decide) ?_
    refine z_iadd (pc := 352) C dX10_clause_352 ?_
    refine z_aload_n (pc := 353) C 0 dX10_clause_353 rfl ?_
    refine z_bipush (pc := 354) (v := 64) C dX10_clause_354 (by decide) ?_
    refine z_calli (pc := 356) (wr := ([] : va_W)) (w1 := fun (u : Lf) => (wX10 cI cJ d u g)) (w2 := fun (u : Lf) => (wX10 cI cJ d u g)) C (z_runV (pc := 356) (wc := (wX10 cI cJ d (st v 7 t1.toNatClampNeg t2) g)) (As := [.int (64 : Int32)]) C (fun sz => kX10_takes d (st v 7 t1.toNatClampNeg t2) g (64 : Int32) sz h) [0, 1, 2, 3, 4, 5, 6, 7, 8, 9, 10, 11] rfl (by decide) (gdV wq885 wq898 wq899 wq900 wq814) rfl rfl rfl hdX10_takes 0 rfl rfl rfl ⟨Nat.le_of_ble_eq_true rfl, Nat.le_of_ble_eq_true rfl⟩ rfl (Nat.le_of_ble_eq_true rfl) ⟨Nat.zero_le _, Nat.zero_le _⟩ dX10_clause_356) [0, 1, 2, 3, 4, 5, 6, 7, 8, 9, 10, 11] [] [0, 1, 2, 3, 4, 5, 6, 7, 8, 9, 10, 11] rfl rfl (by decide) (by decide) (fun _ => rfl) (by decide) (fun r30 u30 h => ?_)
    obtain ⟨v_30, hu30⟩ : ∃ z, z = u30 := ⟨_, rfl⟩
    subst hu30
    refine z_if_eq (pc := 359) (tgt := 373) C dX10_clause_359 (by decide) (fun c31 => ?_) (fun c31 => ?_)
    · have h := h.1 c31
      refine z_iconst (pc := 373) (v := 0) C dX10_clause_373 (by decide) ?_
      refine z_sub (lv' := []) [] rfl ?_
      exact J374  v_30 (x1 + (4 : Int32)) (0 : Int32) h
    · have h := h.2 c31
      refine z_aload_n (pc := 362) C 0 dX10_clause_362 rfl ?_
      refine z_iconst (pc := 363) (v := 2) C dX10_clause_363 (by decide) ?_
      refine z_iconst (pc := 364) (v := 0) C dX10_clause_364 (by decide) ?_
      refine z_bipush (pc := 365) (v := 60) C dX10_clause_365 (by decide) ?_
      refine z_calli (pc := 367) (wr := ([] : va_W)) (w1 := fun (u : Lf) => (wX10 cI cJ d u g)) (w2 := fun (u : Lf) => (wX10 cI cJ d u g)) C (z_runV (pc := 367) (wc := (wX10 cI cJ d v_30 g)) (As := [.int (2 : Int32), .int (0 : Int32), .int (60 : Int32)]) C (fun sz => kX10_number d v_30 g (2 : Int32) (0 : Int32) (60 : Int32) sz h) [0, 1, 2, 3, 4, 5, 6, 7, 8, 9, 10, 11] rfl (by decide) (gdV wq888 wq901 wq902 wq903 wq814) rfl rfl rfl hdX10_number 0 rfl rfl rfl ⟨Nat.le_of_ble_eq_true rfl, Nat.le_of_ble_eq_true rfl⟩ rfl (Nat.le_of_ble_eq_true rfl) ⟨Nat.zero_le _, Nat.zero_le _⟩ dX10_clause_367) [0, 1, 2, 3, 4, 5, 6, 7, 8, 9, 10, 11] [] [0, 1, 2, 3, 4, 5, 6, 7, 8, 9, 10, 11] rfl rfl (by decide) (by decide) (fun _ => rfl) (by decide) (fun r33 u33 h => ?_)
      obtain ⟨v_33, hu33⟩ : ∃ z, z = u33 := ⟨_, rfl⟩
      subst hu33
      refine z_goto (pc := 370) (tgt := 374) C dX10_clause_370 (by decide) ?_
      refine z_sub (lv' := []) [] rfl ?_
      exact J374  v_33 (x1 + (4 : Int32)) r33 h
  have J316 : ∀ (v : Lf) (t1 : Int32) (t2 : Int32), pX10_clause_J316 x1 Q v t1 t2 → ZZ p l e rmX10_clause s m args below meth c D A 6 0 0 QQ 316 (wX10 cI cJ d v g) [(0, .ref (d 0)), (1, .int x1)] [.int t2, .int t1, .ref (d 7)] := by
    intro  v t1 t2 h
    obtain ⟨g26, h⟩ := h
    refine z_iast (pc := 316) (ws' := (wX10 cI cJ d (st v 7 t1.toNatClampNeg t2) g)) C 7 0 rfl rfl g26 dX10_clause_316 rfl sX10_a7 ?_
    refine z_aload_n (pc := 317) C 0 dX10_clause_317 rfl ?_
    refine z_get (pc := 318) C uw10 0 rfl rfl 8 (by decide) wq840 rfl dX10_clause_318 ?_
    refine z_iload_n (pc := 321) C 1 dX10_clause_321 rfl ?_
    refine z_iconst (pc := 322) (v := 3) C dX10_clause_322 (by decide) ?_
    refine z_iadd (pc := 323) C dX10_clause_323 ?_
    refine z_aload_n (pc := 324) C 0 dX10_clause_324 rfl ?_
    refine z_bipush (pc := 325) (v := 126) C dX10_clause_325 (by decide) ?_
    refine z_calli (pc := 327) (wr := ([] : va_W)) (w1 := fun (u : Lf) => (wX10 cI cJ d u g)) (w2 := fun (u : Lf) => (wX10 cI cJ d u g)) C (z_runV (pc := 327) (wc := (wX10 cI cJ d (st v 7 t1.toNatClampNeg t2) g)) (As := [.int (126 : Int32)]) C (fun sz => kX10_takes d (st v 7 t1.toNatClampNeg t2) g (126 : Int32) sz h) [0, 1, 2, 3, 4, 5, 6, 7, 8, 9, 10, 11] rfl (by decide) (gdV wq885 wq898 wq899 wq900 wq814) rfl rfl rfl hdX10_takes 0 rfl rfl rfl ⟨Nat.le_of_ble_eq_true rfl, Nat.le_of_ble_eq_true rfl⟩ rfl (Nat.le_of_ble_eq_true rfl) ⟨Nat.zero_le _, Nat.zero_le _⟩ dX10_clause_327) [0, 1, 2, 3, 4, 5, 6, 7, 8, 9, 10, 11] [] [0, 1, 2, 3, 4, 5, 6, 7, 8, 9, 10, 11] rfl rfl (by decide) (by decide) (fun _ => rfl) (by decide) (fun r27 u27 h => ?_)
    obtain ⟨v_27, hu27⟩ : ∃ z, z = u27 := ⟨_, rfl⟩
    subst hu27
    refine z_if_eq (pc := 330) (tgt := 344) C dX10_clause_330 (by decide) (fun c28 => ?_) (fun c28 => ?_)
    · have h := h.1 c28
      refine z_iconst (pc := 344) (v := 3) C dX10_clause_344 (by decide) ?_
      exact J345  v_27 (x1 + (3 : Int32)) (3 : Int32) h
    · have h := h.2 c28
      refine z_aload_n (pc := 333) C 0 dX10_clause_333 rfl ?_
      refine z_iconst (pc := 334) (v := 1) C dX10_clause_334 (by decide) ?_
      refine z_iconst (pc := 335) (v := 1) C dX10_clause_335 (by decide) ?_
      refine z_bipush (pc := 336) (v := 9) C dX10_clause_336 (by decide) ?_
      refine z_calli (pc := 338) (wr := ([] : va_W)) (w1 := fun (u : Lf) => (wX10 cI cJ d u g)) (w2 := fun (u : Lf) => (wX10 cI cJ d u g)) C (z_runV (pc := 338) (wc := (wX10 cI cJ d v_27 g)) (As := [.int (1 : Int32), .int (1 : Int32), .int (9 : Int32)]) C (fun sz => kX10_number d v_27 g (1 : Int32) (1 : Int32) (9 : Int32) sz h) [0, 1, 2, 3, 4, 5, 6, 7, 8, 9, 10, 11] rfl (by decide) (gdV wq888 wq901 wq902 wq903 wq814) rfl rfl rfl hdX10_number 0 rfl rfl rfl ⟨Nat.le_of_ble_eq_true rfl, Nat.le_of_ble_eq_true rfl⟩ rfl (Nat.le_of_ble_eq_true rfl) ⟨Nat.zero_le _, Nat.zero_le _⟩ dX10_clause_338) [0, 1, 2, 3, 4, 5, 6, 7, 8, 9, 10, 11] [] [0, 1, 2, 3, 4, 5, 6, 7, 8, 9, 10, 11] rfl rfl (by decide) (by decide) (fun _ => rfl) (by decide) (fun r34 u34 h => ?_)
      obtain ⟨v_34, hu34⟩ : ∃ z, z = u34 := ⟨_, rfl⟩
      subst hu34
      refine z_goto (pc := 341) (tgt := 345) C dX10_clause_341 (by decide) ?_
      exact J345  v_34 (x1 + (3 : Int32)) r34 h
  have J279 : ∀ (v : Lf) (t1 : Int32) (t2 : Int32), pX10_clause_J279 x1 Q v t1 t2 → ZZ p l e rmX10_clause s m args below meth c D A 6 0 0 QQ 279 (wX10 cI cJ d v g) [(0, .ref (d 0)), (1, .int x1)] [.int t2, .int t1, .ref (d 7)] := by
    intro  v t1 t2 h
    obtain ⟨g23, h⟩ := h
    refine z_iast (pc := 279) (ws' := (wX10 cI cJ d (st v 7 t1.toNatClampNeg t2) g)) C 7 0 rfl rfl g23 dX10_clause_279 rfl sX10_a7 ?_
    refine z_aload_n (pc := 280) C 0 dX10_clause_280 rfl ?_
    refine z_get (pc := 281) C uw10 0 rfl rfl 8 (by decide) wq840 rfl dX10_clause_281 ?_
    refine z_iload_n (pc := 284) C 1 dX10_clause_284 rfl ?_
    refine z_iconst (pc := 285) (v := 2) C dX10_clause_285 (by decide) ?_
    refine z_iadd (pc := 286) C dX10_clause_286 ?_
    refine z_aload_n (pc := 287) C 0 dX10_clause_287 rfl ?_
    refine z_bipush (pc := 288) (v := 47) C dX10_clause_288 (by decide) ?_
    refine z_calli (pc := 290) (wr := ([] : va_W)) (w1 := fun (u : Lf) => (wX10 cI cJ d u g)) (w2 := fun (u : Lf) => (wX10 cI cJ d u g)) C (z_runV (pc := 290) (wc := (wX10 cI cJ d (st v 7 t1.toNatClampNeg t2) g)) (As := [.int (47 : Int32)]) C (fun sz => kX10_takes d (st v 7 t1.toNatClampNeg t2) g (47 : Int32) sz h) [0, 1, 2, 3, 4, 5, 6, 7, 8, 9, 10, 11] rfl (by decide) (gdV wq885 wq898 wq899 wq900 wq814) rfl rfl rfl hdX10_takes 0 rfl rfl rfl ⟨Nat.le_of_ble_eq_true rfl, Nat.le_of_ble_eq_true rfl⟩ rfl (Nat.le_of_ble_eq_true rfl) ⟨Nat.zero_le _, Nat.zero_le _⟩ dX10_clause_290) [0, 1, 2, 3, 4, 5, 6, 7, 8, 9, 10, 11] [] [0, 1, 2, 3, 4, 5, 6, 7, 8, 9, 10, 11] rfl rfl (by decide) (by decide) (fun _ => rfl) (by decide) (fun r24 u24 h => ?_)
    obtain ⟨v_24, hu24⟩ : ∃ z, z = u24 := ⟨_, rfl⟩
    subst hu24
    refine z_if_eq (pc := 293) (tgt := 314) C dX10_clause_293 (by decide) (fun c25 => ?_) (fun c25 => ?_)
    · have h := h.1 c25
      refine z_bipush (pc := 314) (v := 40) C dX10_clause_314 (by decide) ?_
      exact J316  v_24 (x1 + (2 : Int32)) (40 : Int32) h
    · have h := h.2 c25
      refine z_aload_n (pc := 296) C 0 dX10_clause_296 rfl ?_
      refine z_iconst (pc := 297) (v := 2) C dX10_clause_297 (by decide) ?_
      refine z_aload_n (pc := 298) C 0 dX10_clause_298 rfl ?_
      refine z_get (pc := 299) C uw10 0 rfl rfl 8 (by decide) wq840 rfl dX10_clause_299 ?_
      refine z_iload_n (pc := 302) C 1 dX10_clause_302 rfl ?_
      refine z_iconst (pc := 303) (v := 1) C dX10_clause_303 (by decide) ?_
      refine z_iadd (pc := 304) C dX10_clause_304 ?_
      obtain ⟨g35, h⟩ := h
      refine z_iald (pc := 305) C 7 0 rfl rfl g35 (v_24 7 (x1 + (1 : Int32)).toNatClampNeg) rfl dX10_clause_305 ?_
      refine z_bipush (pc := 306) (v := 99) C dX10_clause_306 (by decide) ?_
      refine z_calli (pc := 308) (wr := ([] : va_W)) (w1 := fun (u : Lf) => (wX10 cI cJ d u g)) (w2 := fun (u : Lf) => (wX10 cI cJ d u g)) C (z_runV (pc := 308) (wc := (wX10 cI cJ d v_24 g)) (As := [.int (2 : Int32), .int (v_24 7 (x1 + (1 : Int32)).toNatClampNeg), .int (99 : Int32)]) C (fun sz => kX10_number d v_24 g (2 : Int32) (v_24 7 (x1 + (1 : Int32)).toNatClampNeg) (99 : Int32) sz h) [0, 1, 2, 3, 4, 5, 6, 7, 8, 9, 10, 11] rfl (by decide) (gdV wq888 wq901 wq902 wq903 wq814) rfl rfl rfl hdX10_number 0 rfl rfl rfl ⟨Nat.le_of_ble_eq_true rfl, Nat.le_of_ble_eq_true rfl⟩ rfl (Nat.le_of_ble_eq_true rfl) ⟨Nat.zero_le _, Nat.zero_le _⟩ dX10_clause_308) [0, 1, 2, 3, 4, 5, 6, 7, 8, 9, 10, 11] [] [0, 1, 2, 3, 4, 5, 6, 7, 8, 9, 10, 11] rfl rfl (by decide) (by decide) (fun _ => rfl) (by decide) (fun r36 u36 h => ?_)
      obtain ⟨v_36, hu36⟩ : ∃ z, z = u36 := ⟨_, rfl⟩
      subst hu36
      refine z_goto (pc := 311) (tgt := 316) C dX10_clause_311 (by decide) ?_
      exact J316  v_36 (x1 + (2 : Int32)) r36 h
  have J251 : ∀ (v : Lf), pX10_clause_J251 x1 Q v → ZZ p l e rmX10_clause s m args below meth c D A 6 0 0 QQ 251 (wX10 cI cJ d v g) [(0, .ref (d 0)), (1, .int x1)] [] := by
    intro  v h
    refine z_aload_n (pc := 251) C 0 dX10_clause_251 rfl ?_
    refine z_get (pc := 252) C uw10 0 rfl rfl 8 (by decide) wq840 rfl dX10_clause_252 ?_
    refine z_iload_n (pc := 255) C 1 dX10_clause_255 rfl ?_
    refine z_iconst (pc := 256) (v := 1) C dX10_clause_256 (by decide) ?_
    refine z_iadd (pc := 257) C dX10_clause_257 ?_
    refine z_aload_n (pc := 258) C 0 dX10_clause_258 rfl ?_
    refine z_bipush (pc := 259) (v := 42) C dX10_clause_259 (by decide) ?_
    refine z_calli (pc := 261) (wr := ([] : va_W)) (w1 := fun (u : Lf) => (wX10 cI cJ d u g)) (w2 := fun (u : Lf) => (wX10 cI cJ d u g)) C (z_runV (pc := 261) (wc := (wX10 cI cJ d v g)) (As := [.int (42 : Int32)]) C (fun sz => kX10_takes d v g (42 : Int32) sz h) [0, 1, 2, 3, 4, 5, 6, 7, 8, 9, 10, 11] rfl (by decide) (gdV wq885 wq898 wq899 wq900 wq814) rfl rfl rfl hdX10_takes 0 rfl rfl rfl ⟨Nat.le_of_ble_eq_true rfl, Nat.le_of_ble_eq_true rfl⟩ rfl (Nat.le_of_ble_eq_true rfl) ⟨Nat.zero_le _, Nat.zero_le _⟩ dX10_clause_261) [0, 1, 2, 3, 4, 5, 6, 7, 8, 9, 10, 11] [] [0, 1, 2, 3, 4, 5, 6, 7, 8, 9, 10, 11] rfl rfl (by decide) (by decide) (fun _ => rfl) (by decide) (fun r21 u21 h => ?_)
    obtain ⟨v_21, hu21⟩ : ∃ z, z = u21 := ⟨_, rfl⟩
    subst hu21
    refine z_if_eq (pc := 264) (tgt := 278) C dX10_clause_264 (by decide) (fun c22 => ?_) (fun c22 => ?_)
    · have h := h.1 c22
      refine z_iconst (pc := 278) (v := 5) C dX10_clause_278 (by decide) ?_
      exact J279  v_21 (x1 + (1 : Int32)) (5 : Int32) h
    · have h := h.2 c22
      refine z_aload_n (pc := 267) C 0 dX10_clause_267 rfl ?_
      refine z_iconst (pc := 268) (v := 2) C dX10_clause_268 (by decide) ?_
      refine z_iconst (pc := 269) (v := 1) C dX10_clause_269 (by decide) ?_
      refine z_bipush (pc := 270) (v := 20) C dX10_clause_270 (by decide) ?_
      refine z_calli (pc := 272) (wr := ([] : va_W)) (w1 := fun (u : Lf) => (wX10 cI cJ d u g)) (w2 := fun (u : Lf) => (wX10 cI cJ d u g)) C (z_runV (pc := 272) (wc := (wX10 cI cJ d v_21 g)) (As := [.int (2 : Int32), .int (1 : Int32), .int (20 : Int32)]) C (fun sz => kX10_number d v_21 g (2 : Int32) (1 : Int32) (20 : Int32) sz h) [0, 1, 2, 3, 4, 5, 6, 7, 8, 9, 10, 11] rfl (by decide) (gdV wq888 wq901 wq902 wq903 wq814) rfl rfl rfl hdX10_number 0 rfl rfl rfl ⟨Nat.le_of_ble_eq_true rfl, Nat.le_of_ble_eq_true rfl⟩ rfl (Nat.le_of_ble_eq_true rfl) ⟨Nat.zero_le _, Nat.zero_le _⟩ dX10_clause_272) [0, 1, 2, 3, 4, 5, 6, 7, 8, 9, 10, 11] [] [0, 1, 2, 3, 4, 5, 6, 7, 8, 9, 10, 11] rfl rfl (by decide) (by decide) (fun _ => rfl) (by decide) (fun r37 u37 h => ?_)
      obtain ⟨v_37, hu37⟩ : ∃ z, z = u37 := ⟨_, rfl⟩
      subst hu37
      refine z_goto (pc := 275) (tgt := 279) C dX10_clause_275 (by decide) ?_
      exact J279  v_37 (x1 + (1 : Int32)) r37 h
  have L70 : ∀ (n70 : Nat) (v : Lf) (x2 : Int32), pX10_clause_L70 x1 Q n70 v x2 → ZZ p l e rmX10_clause s m args below meth c D A 6 0 0 QQ 70 (wX10 cI cJ d v g) [(0, .ref (d 0)), (1, .int x1), (2, .int x2)] [] := by
    intro n70
    induction n70 with
    | zero => intro v x2 h; exact False.elim h
    | succ n70 ih70 =>
      intro v x2 h
      refine z_iload_n (pc := 70) C 2 dX10_clause_70 rfl ?_
      refine z_if_eq (pc := 71) (tgt := 91) C dX10_clause_71 (by decide) (fun c5 => ?_) (fun c5 => ?_)
      · have h := h.1 c5
        exact J91 (fun v x2 => pX10_clause_L70 x1 Q n70 v x2) ih70 v x2 h
      · have h := h.2 c5
        refine z_iload_n (pc := 74) C 2 dX10_clause_74 rfl ?_
        refine z_bipush (pc := 75) (v := 8) C dX10_clause_75 (by decide) ?_
        refine z_icmp_ge (pc := 77) (tgt := 251) C dX10_clause_77 (by decide) (fun c20 => ?_) (fun c20 => ?_)
        · have h := h.1 c20
          refine z_sub (lv' := [(0, .ref (d 0)), (1, .int x1)]) [0, 1] rfl ?_
          exact J251  v h
        · have h := h.2 c20
          refine z_aload_n (pc := 80) C 0 dX10_clause_80 rfl ?_
          refine z_bipush (pc := 81) (v := 97) C dX10_clause_81 (by decide) ?_
          refine z_bipush (pc := 83) (v := 104) C dX10_clause_83 (by decide) ?_
          refine z_callRi (pc := 85) C (z_runV (pc := 85) (wc := (wX10 cI cJ d v g)) (As := [.int (97 : Int32), .int (104 : Int32)]) C (fun sz => kX10_sees d v g (97 : Int32) (104 : Int32) sz h) [0, 1, 2, 3, 4, 5, 6, 7, 8, 9, 10, 11] rfl (by decide) (gdV wq887 wq889 wq890 wq891 wq814) rfl rfl rfl hdX10_sees 0 rfl rfl rfl ⟨Nat.le_of_ble_eq_true rfl, Nat.le_of_ble_eq_true rfl⟩ rfl (Nat.le_of_ble_eq_true rfl) ⟨Nat.zero_le _, Nat.zero_le _⟩ dX10_clause_85) [0, 1, 2, 3, 4, 5, 6, 7, 8, 9, 10, 11] rfl (by decide) (fun r38 u38 h => ?_)
          refine z_if_eq (pc := 88) (tgt := 251) C dX10_clause_88 (by decide) (fun c39 => ?_) (fun c39 => ?_)
          · have h := h.1 c39
            refine z_sub (lv' := [(0, .ref (d 0)), (1, .int x1)]) [0, 1] rfl ?_
            exact J251  v h
          · have h := h.2 c39
            exact J91 (fun v x2 => pX10_clause_L70 x1 Q n70 v x2) ih70 v x2 h
  have J39 : ∀ (v : Lf) (t1 : Int32) (t2 : Int32), pX10_clause_J39 x1 Q v t1 t2 → ZZ p l e rmX10_clause s m args below meth c D A 6 0 0 QQ 39 (wX10 cI cJ d v g) [(0, .ref (d 0)), (1, .int x1)] [.int t2, .int t1, .ref (d 7)] := by
    intro  v t1 t2 h
    obtain ⟨g2, h⟩ := h
    refine z_iast (pc := 39) (ws' := (wX10 cI cJ d (st v 7 t1.toNatClampNeg t2) g)) C 7 0 rfl rfl g2 dX10_clause_39 rfl sX10_a7 ?_
    refine z_aload_n (pc := 40) C 0 dX10_clause_40 rfl ?_
    refine z_get (pc := 41) C uw10 0 rfl rfl 8 (by decide) wq840 rfl dX10_clause_41 ?_
    refine z_iload_n (pc := 44) C 1 dX10_clause_44 rfl ?_
    obtain ⟨g3, h⟩ := h
    refine z_iald (pc := 45) C 7 0 rfl rfl g3 ((st v 7 t1.toNatClampNeg t2) 7 x1.toNatClampNeg) rfl dX10_clause_45 ?_
    refine z_if_ge (pc := 46) (tgt := 58) C dX10_clause_46 (by decide) (fun c4 => ?_) (fun c4 => ?_)
    · have h := h.1 c4
      refine z_aload_n (pc := 58) C 0 dX10_clause_58 rfl ?_
      refine z_dup (pc := 59) C dX10_clause_59 rfl ?_
      refine z_get (pc := 60) C uw10 0 rfl rfl 10 (by decide) wq886 rfl dX10_clause_60 ?_
      refine z_iconst (pc := 63) (v := 1) C dX10_clause_63 (by decide) ?_
      refine z_iadd (pc := 64) C dX10_clause_64 ?_
      refine z_put (pc := 65) (ws' := (wX10 cI cJ d (st (st v 7 t1.toNatClampNeg t2) 0 10 (((st v 7 t1.toNatClampNeg t2) 0 10) + (1 : Int32))) g)) C uw10 tyX10 tyX10_ok nmX10 0 rfl rfl 10 (by decide) wq886 rfl rfl rfl (Nat.le_of_ble_eq_true rfl) dX10_clause_65 sX10_f10 ?_
      refine z_iconst (pc := 68) (v := 0) C dX10_clause_68 (by decide) ?_
      refine z_istore_n (pc := 69) (lv' := [(2, .int (0 : Int32)), (0, .ref (d 0)), (1, .int x1)]) C dX10_clause_69 (by decide) rfl ?_
      obtain ⟨n70, h⟩ := h
      refine z_sub (lv' := [(0, .ref (d 0)), (1, .int x1), (2, .int (0 : Int32))]) [1, 2, 0] rfl ?_
      exact L70  n70 (st (st v 7 t1.toNatClampNeg t2) 0 10 (((st v 7 t1.toNatClampNeg t2) 0 10) + (1 : Int32))) (0 : Int32) h
    · have h := h.2 c4
      refine z_aload_n (pc := 49) C 0 dX10_clause_49 rfl ?_
      refine z_aload_n (pc := 50) C 0 dX10_clause_50 rfl ?_
      refine z_get (pc := 51) C uw10 0 rfl rfl 10 (by decide) wq886 rfl dX10_clause_51 ?_
      refine z_callv (pc := 54) (wr := ([] : va_W)) (w1 := fun (u : Lf) => (wX10 cI cJ d u g)) (w2 := fun (u : Lf) => (wX10 cI cJ d u g)) C (z_runV (pc := 54) (wc := (wX10 cI cJ d (st v 7 t1.toNatClampNeg t2) g)) (As := [.int ((st v 7 t1.toNatClampNeg t2) 0 10)]) C (fun sz => kX10_fails d (st v 7 t1.toNatClampNeg t2) g ((st v 7 t1.toNatClampNeg t2) 0 10) sz h) [0, 1, 2, 3, 4, 5, 6, 7, 8, 9, 10, 11] rfl (by decide) (gdV wq883 wq892 wq893 wq894 wq814) rfl rfl rfl hdX10_fails 0 rfl rfl rfl ⟨Nat.le_of_ble_eq_true rfl, Nat.le_of_ble_eq_true rfl⟩ rfl (Nat.le_of_ble_eq_true rfl) ⟨Nat.zero_le _, Nat.zero_le _⟩ dX10_clause_54) [0, 1, 2, 3, 4, 5, 6, 7, 8, 9, 10, 11] [] [0, 1, 2, 3, 4, 5, 6, 7, 8, 9, 10, 11] rfl rfl (by decide) (by decide) (fun _ => rfl) (by decide) (fun u40 h => ?_)
      obtain ⟨v_40, hu40⟩ : ∃ z, z = u40 := ⟨_, rfl⟩
      subst hu40
      exact hret 57 _ _ v_40 rfl h dX10_clause_57
  have J38 : ∀ (v : Lf) (t1 : Int32), pX10_clause_J38 x1 Q v t1 → ZZ p l e rmX10_clause s m args below meth c D A 6 0 0 QQ 38 (wX10 cI cJ d v g) [(0, .ref (d 0)), (1, .int x1)] [.int t1, .ref (d 7)] := by
    intro  v t1 h
    refine z_iconst (pc := 38) (v := -1) C dX10_clause_38 (by decide) ?_
    exact J39  v t1 (-1 : Int32) h
  refine z_aload_n (pc := 0) C 0 dX10_clause_0 rfl ?_
  refine z_get (pc := 1) C uw10 0 rfl rfl 8 (by decide) wq840 rfl dX10_clause_1 ?_
  refine z_iload_n (pc := 4) C 1 dX10_clause_4 rfl ?_
  refine z_aload_n (pc := 5) C 0 dX10_clause_5 rfl ?_
  refine z_get (pc := 6) C uw10 0 rfl rfl 11 (by decide) wq884 rfl dX10_clause_6 ?_
  refine z_if_ge (pc := 9) (tgt := 38) C dX10_clause_9 (by decide) (fun c1 => ?_) (fun c1 => ?_)
  · have h := h.1 c1
    exact J38  v x1 h
  · have h := h.2 c1
    refine z_aload_n (pc := 12) C 0 dX10_clause_12 rfl ?_
    refine z_get (pc := 13) C uw10 0 rfl rfl 10 (by decide) wq886 rfl dX10_clause_13 ?_
    refine z_aload_n (pc := 16) C 0 dX10_clause_16 rfl ?_
    refine z_get (pc := 17) C uw10 0 rfl rfl 9 (by decide) wq882 rfl dX10_clause_17 ?_
    refine z_icmp_ge (pc := 20) (tgt := 38) C dX10_clause_20 (by decide) (fun c41 => ?_) (fun c41 => ?_)
    · have h := h.1 c41
      exact J38  v x1 h
    · have h := h.2 c41
      refine z_aload_n (pc := 23) C 0 dX10_clause_23 rfl ?_
      refine z_get (pc := 24) C uw10 0 rfl rfl 7 (by decide) wq839 rfl dX10_clause_24 ?_
      refine z_aload_n (pc := 27) C 0 dX10_clause_27 rfl ?_
      refine z_get (pc := 28) C uw10 0 rfl rfl 10 (by decide) wq886 rfl dX10_clause_28 ?_
      obtain ⟨g42, h⟩ := h
      refine z_iald (pc := 31) C 6 0 rfl rfl g42 (v 6 (v 0 10).toNatClampNeg) rfl dX10_clause_31 ?_
      refine z_call0i (pc := 32) C (z_runS (pc := 32) (wc := ([] : va_W)) (As := [.int (v 6 (v 0 10).toNatClampNeg)]) C (fun sz => kX10_kindOf (v 6 (v 0 10).toNatClampNeg) sz h) [] rfl (by decide) (gdS wq895 wq896 wq897 wq814) rfl rfl rfl hdSX10_kindOf ⟨Nat.le_of_ble_eq_true rfl, Nat.le_of_ble_eq_true rfl⟩ rfl (Nat.le_of_ble_eq_true rfl) ⟨Nat.zero_le _, Nat.zero_le _⟩ dX10_clause_32) (fun r43 u43 h => ?_)
      refine z_goto (pc := 35) (tgt := 39) C dX10_clause_35 (by decide) ?_
      exact J39  v x1 r43 h

def pX10_read_L178 (Q : Int32 → Lf → Prop) (K117 : Lf → Int32 → Int32 → Prop) : Nat → Lf → Int32 → Int32 → Int32 → Int32 → Prop
  | 0, _, _, _, _, _ => False
  | n178 + 1, v, x2, x3, x4, x5 => (vp_in (x4 + (5 : Int32)) 56 ∧ (((v 7 (x4 + (5 : Int32)).toNatClampNeg) ≤ x5 → (K117 v x2 (x3 + 1))) ∧ (¬ (v 7 (x4 + (5 : Int32)).toNatClampNeg) ≤ x5 → (vp_in ((x4 + (6 : Int32)) + x5) 56 ∧ (pX10_goesOn v ((v 1 13) - (1 : Int32)) (v 7 ((x4 + (6 : Int32)) + x5).toNatClampNeg) (fun v_21 => (pX10_read_L178 Q K117 n178 v_21 x2 x3 x4 (x5 + 1))))))))
def pX10_read_L117 (Q : Int32 → Lf → Prop) : Nat → Lf → Int32 → Int32 → Prop
  | 0, _, _, _ => False
  | n117 + 1, v, x2, x3 => ((x2 ≤ x3 → (pX10_clears_ v (fun v_10 => (Q x2 v_10)))) ∧ (¬ x2 ≤ x3 → (vp_in ((14 : Int32) * x3) 56 ∧ (vp_in (((14 : Int32) * x3) + (1 : Int32)) 56 ∧ (vp_in (((14 : Int32) * x3) + (2 : Int32)) 56 ∧ (vp_in (((14 : Int32) * x3) + (3 : Int32)) 56 ∧ (vp_in (((14 : Int32) * x3) + (4 : Int32)) 56 ∧ (pX10_comes v (v 7 ((14 : Int32) * x3).toNatClampNeg) (v 7 (((14 : Int32) * x3) + (1 : Int32)).toNatClampNeg) (v 7 (((14 : Int32) * x3) + (2 : Int32)).toNatClampNeg) (v 7 (((14 : Int32) * x3) + (3 : Int32)).toNatClampNeg) (v 7 (((14 : Int32) * x3) + (4 : Int32)).toNatClampNeg) (fun v_16 => (∃ n178, pX10_read_L178  Q (fun v x2 x3 => pX10_read_L117 Q n117 v x2 x3) n178 v_16 x2 x3 ((14 : Int32) * x3) (0 : Int32)))))))))))
def pX10_read_J78 (Q : Int32 → Lf → Prop) (v : Lf) (x2 : Int32) : Prop := ((((st v 0 9 (0 : Int32)) 0 11) < 0 → (((((st v 0 9 (0 : Int32)) 1 13) + x2) ≤ (8 : Int32) → (∃ n117, pX10_read_L117  Q  n117 (st v 0 9 (0 : Int32)) x2 (0 : Int32))) ∧ (¬ (((st v 0 9 (0 : Int32)) 1 13) + x2) ≤ (8 : Int32) → (Q (-4 : Int32) (st v 0 9 (0 : Int32)))))) ∧ (¬ ((st v 0 9 (0 : Int32)) 0 11) < 0 → (Q ((-10 : Int32) - ((st v 0 9 (0 : Int32)) 0 11)) (st v 0 9 (0 : Int32)))))
def pX10_read_J62 (Q : Int32 → Lf → Prop) (v : Lf) (x1 : Int32) (x2 : Int32) : Prop := ((x1 ≤ (v 0 10) → (pX10_read_J78  Q  v x2)) ∧ (¬ x1 ≤ (v 0 10) → (pX10_fails v (v 0 10) (fun v_22 => (pX10_read_J78  Q  v_22 x2)))))
def pX10_read_L35 (Q : Int32 → Lf → Prop) : Nat → Lf → Int32 → Int32 → Prop
  | 0, _, _, _ => False
  | n35 + 1, v, x1, x2 => (pX10_clause v ((14 : Int32) * (x2 - x2 / (4 : Int32) * (4 : Int32))) (fun v_3 => (((4 : Int32) ≤ (x2 + 1) → (pX10_read_J62  Q  v_3 x1 (x2 + 1))) ∧ (¬ (4 : Int32) ≤ (x2 + 1) → (pX10_takes v_3 (59 : Int32) (fun r23 v_23 => ((¬ r23 = 0 → (pX10_read_L35 Q n35 v_23 x1 (x2 + 1))) ∧ (r23 = 0 → (pX10_read_J62  Q  v_23 x1 (x2 + 1))))))))))
def pX10_read (v : Lf)  (Q : Int32 → Lf → Prop) : Prop := ((¬ (v 1 2) = (1 : Int32) → (∃ n35, pX10_read_L35  Q  n35 (st (st v 0 10 (0 : Int32)) 0 11 (-1 : Int32)) (v 0 9) (0 : Int32))) ∧ ((v 1 2) = (1 : Int32) → (Q (-3 : Int32) (st v 0 9 (0 : Int32)))))
abbrev rmX10_read : Room := { frames := 4, cells := 0, slots := 0, locals := 94 }
abbrev wdX10_read : List Cond := Cond.code yX10_read cX10_read 6 (some .int) :: TB
theorem hdSX10_read : (yX10_read).cls ≠ "java/lang/invoke/MethodHandle" ∧ (yX10_read).cls ≠ "java/lang/invoke/VarHandle" ∧ (parseMethodDescriptor (yX10_read).desc).map (fun d => d.parameters.length) = some 0 := by decide +kernel
theorem hdX10_read : (yX10_read).cls = RX10 ∧ (yX10_read).cls ≠ "java/lang/invoke/MethodHandle" ∧ (yX10_read).cls ≠ "java/lang/invoke/VarHandle" ∧ (parseMethodDescriptor (yX10_read).desc).map (fun d => d.parameters.length) = some 0 := ⟨rfl, hdSX10_read⟩
set_option maxHeartbeats 4000000 in
set_option maxRecDepth 100000 in
theorem kX10_read {l : Launch} {D : va_G} {cI cJ cT : ClassId} (d : Nat → Nat)  (v : Lf) (g : Lg)  {Q : Int32 → Lf → Prop} (sz : Nat) (h : pX10_read v Q) : Met l yX10_read wdX10_read rmX10_read (Pz D (tyL cI cJ cT) [.ref (d 0)] (wX10 cI cJ d v g) sz) (va_Qi (fun (r : Int32) (u : Lf) => Q r u) (Bz D (tyL cI cJ cT) (wX10 cI cJ d v g) sz (fun (u : Lf) => (wX10 cI cJ d u g))) (va_A (wX10 cI cJ d v g) sz)) 0 0 (va_A (wX10 cI cJ d v g) sz) := by
  refine z_meti (cc := cX10_read) (maxL := 6) (own := RX10) (lv0 := [(0, .ref (d 0))]) (by decide) rfl rfl (Nat.le_of_ble_eq_true rfl) rfl ?_
  intro p e s m args below meth c A QQ C hin hret
  have L178 : ∀ (K117 : Lf → Int32 → Int32 → Prop), (∀ (v : Lf) (x2 : Int32) (x3 : Int32), K117 v x2 x3 → ZZ p l e rmX10_read s m args below meth c D A 6 0 0 QQ 117 (wX10 cI cJ d v g) [(0, .ref (d 0)), (2, .int x2), (3, .int x3)] []) → ∀ (n178 : Nat) (v : Lf) (x2 : Int32) (x3 : Int32) (x4 : Int32) (x5 : Int32), pX10_read_L178 Q K117 n178 v x2 x3 x4 x5 → ZZ p l e rmX10_read s m args below meth c D A 6 0 0 QQ 178 (wX10 cI cJ d v g) [(0, .ref (d 0)), (2, .int x2), (3, .int x3), (4, .int x4), (5, .int x5)] [] := by
    intro K117 hK117
    intro n178
    induction n178 with
    | zero => intro v x2 x3 x4 x5 h; exact False.elim h
    | succ n178 ih178 =>
      intro v x2 x3 x4 x5 h
      refine z_iload (pc := 178) C 4 dX10_read_178 rfl ?_
      refine z_aload_n (pc := 180) C 0 dX10_read_180 rfl ?_
      refine z_get (pc := 181) C uw10 0 rfl rfl 8 (by decide) wq840 rfl dX10_read_181 ?_
      refine z_iload (pc := 184) C 3 dX10_read_184 rfl ?_
      refine z_iconst (pc := 186) (v := 5) C dX10_read_186 (by decide) ?_
      refine z_iadd (pc := 187) C dX10_read_187 ?_
      obtain ⟨g17, h⟩ := h
      refine z_iald (pc := 188) C 7 0 rfl rfl g17 (v 7 (x4 + (5 : Int32)).toNatClampNeg) rfl dX10_read_188 ?_
      refine z_icmp_ge (pc := 189) (tgt := 224) C dX10_read_189 (by decide) (fun c18 => ?_) (fun c18 => ?_)
      · have h := h.1 c18
        refine z_iinc (pc := 224) (v := (x3 + 1)) (lv' := [(3, .int (x3 + 1)), (0, .ref (d 0)), (2, .int x2), (4, .int x4), (5, .int x5)]) C 2 dX10_read_224 rfl rfl (by decide) rfl ?_
        refine z_goto (pc := 227) (tgt := 117) C dX10_read_227 (by decide) ?_
        refine z_sub (lv' := [(0, .ref (d 0)), (2, .int x2), (3, .int (x3 + 1))]) [1, 2, 0] rfl ?_
        exact hK117 v x2 (x3 + 1) h
      · have h := h.2 c18
        refine z_aload_n (pc := 192) C 0 dX10_read_192 rfl ?_
        refine z_aload_n (pc := 193) C 0 dX10_read_193 rfl ?_
        refine z_get (pc := 194) C uw10 0 rfl rfl 0 (by decide) wq809 rfl dX10_read_194 ?_
        refine z_bipush (pc := 197) (v := 13) C dX10_read_197 (by decide) ?_
        refine z_iald (pc := 199) C 1 0 rfl rfl vi_13_372 (v 1 13) (congrArg _ cl_13) dX10_read_199 ?_
        refine z_iconst (pc := 200) (v := 1) C dX10_read_200 (by decide) ?_
        refine z_isub (pc := 201) C dX10_read_201 ?_
        refine z_aload_n (pc := 202) C 0 dX10_read_202 rfl ?_
        refine z_get (pc := 203) C uw10 0 rfl rfl 8 (by decide) wq840 rfl dX10_read_203 ?_
        refine z_iload (pc := 206) C 3 dX10_read_206 rfl ?_
        refine z_bipush (pc := 208) (v := 6) C dX10_read_208 (by decide) ?_
        refine z_iadd (pc := 210) C dX10_read_210 ?_
        refine z_iload (pc := 211) C 4 dX10_read_211 rfl ?_
        refine z_iadd (pc := 213) C dX10_read_213 ?_
        obtain ⟨g20, h⟩ := h
        refine z_iald (pc := 214) C 7 0 rfl rfl g20 (v 7 ((x4 + (6 : Int32)) + x5).toNatClampNeg) rfl dX10_read_214 ?_
        refine z_callv (pc := 215) (wr := ([] : va_W)) (w1 := fun (u : Lf) => (wX10 cI cJ d u g)) (w2 := fun (u : Lf) => (wX10 cI cJ d u g)) C (z_runV (pc := 215) (wc := (wX10 cI cJ d v g)) (As := [.int ((v 1 13) - (1 : Int32)), .int (v 7 ((x4 + (6 : Int32)) + x5).toNatClampNeg)]) C (fun sz => kX10_goesOn d v g ((v 1 13) - (1 : Int32)) (v 7 ((x4 + (6 : Int32)) + x5).toNatClampNeg) sz h) [0, 1, 2, 3, 4, 5, 6, 7, 8, 9, 10, 11] rfl (by decide) (gdV wq867 wq871 wq872 wq873 wq814) rfl rfl rfl hdX10_goesOn 0 rfl rfl rfl ⟨Nat.le_of_ble_eq_true rfl, Nat.le_of_ble_eq_true rfl⟩ rfl (Nat.le_of_ble_eq_true rfl) ⟨Nat.zero_le _, Nat.zero_le _⟩ dX10_read_215) [0, 1, 2, 3, 4, 5, 6, 7, 8, 9, 10, 11] [] [0, 1, 2, 3, 4, 5, 6, 7, 8, 9, 10, 11] rfl rfl (by decide) (by decide) (fun _ => rfl) (by decide) (fun u21 h => ?_)
        obtain ⟨v_21, hu21⟩ : ∃ z, z = u21 := ⟨_, rfl⟩
        subst hu21
        refine z_iinc (pc := 218) (v := (x5 + 1)) (lv' := [(5, .int (x5 + 1)), (0, .ref (d 0)), (2, .int x2), (3, .int x3), (4, .int x4)]) C 4 dX10_read_218 rfl rfl (by decide) rfl ?_
        refine z_goto (pc := 221) (tgt := 178) C dX10_read_221 (by decide) ?_
        refine z_sub (lv' := [(0, .ref (d 0)), (2, .int x2), (3, .int x3), (4, .int x4), (5, .int (x5 + 1))]) [1, 2, 3, 4, 0] rfl ?_
        exact ih178 v_21 x2 x3 x4 (x5 + 1) h
  have L117 : ∀ (n117 : Nat) (v : Lf) (x2 : Int32) (x3 : Int32), pX10_read_L117 Q n117 v x2 x3 → ZZ p l e rmX10_read s m args below meth c D A 6 0 0 QQ 117 (wX10 cI cJ d v g) [(0, .ref (d 0)), (2, .int x2), (3, .int x3)] [] := by
    intro n117
    induction n117 with
    | zero => intro v x2 x3 h; exact False.elim h
    | succ n117 ih117 =>
      intro v x2 x3 h
      refine z_iload_n (pc := 117) C 2 dX10_read_117 rfl ?_
      refine z_iload_n (pc := 118) C 1 dX10_read_118 rfl ?_
      refine z_icmp_ge (pc := 119) (tgt := 230) C dX10_read_119 (by decide) (fun c9 => ?_) (fun c9 => ?_)
      · have h := h.1 c9
        refine z_aload_n (pc := 230) C 0 dX10_read_230 rfl ?_
        refine z_callv (pc := 231) (wr := ([] : va_W)) (w1 := fun (u : Lf) => (wX10 cI cJ d u g)) (w2 := fun (u : Lf) => (wX10 cI cJ d u g)) C (z_runV (pc := 231) (wc := (wX10 cI cJ d v g)) (As := []) C (fun sz => kX10_clears_ d v g sz h) [0, 1, 2, 3, 4, 5, 6, 7, 8, 9, 10, 11] rfl (by decide) (gdV wq835 wq845 wq846 wq847 wq814) rfl rfl rfl hdX10_clears_ 0 rfl rfl rfl ⟨Nat.le_of_ble_eq_true rfl, Nat.le_of_ble_eq_true rfl⟩ rfl (Nat.le_of_ble_eq_true rfl) ⟨Nat.zero_le _, Nat.zero_le _⟩ dX10_read_231) [0, 1, 2, 3, 4, 5, 6, 7, 8, 9, 10, 11] [] [0, 1, 2, 3, 4, 5, 6, 7, 8, 9, 10, 11] rfl rfl (by decide) (by decide) (fun _ => rfl) (by decide) (fun u10 h => ?_)
        obtain ⟨v_10, hu10⟩ : ∃ z, z = u10 := ⟨_, rfl⟩
        subst hu10
        refine z_iload_n (pc := 234) C 1 dX10_read_234 rfl ?_
        exact hret 235 _ _ x2 v_10 rfl h dX10_read_235
      · have h := h.2 c9
        refine z_bipush (pc := 122) (v := 14) C dX10_read_122 (by decide) ?_
        refine z_iload_n (pc := 124) C 2 dX10_read_124 rfl ?_
        refine z_imul (pc := 125) C dX10_read_125 ?_
        refine z_istore (pc := 126) (lv' := [(4, .int ((14 : Int32) * x3)), (0, .ref (d 0)), (2, .int x2), (3, .int x3)]) C dX10_read_126 (by decide) rfl ?_
        refine z_aload_n (pc := 128) C 1 dX10_read_128 rfl ?_
        refine z_aload_n (pc := 129) C 1 dX10_read_129 rfl ?_
        refine z_get (pc := 130) C uw10 0 rfl rfl 8 (by decide) wq840 rfl dX10_read_130 ?_
        refine z_iload (pc := 133) C 0 dX10_read_133 rfl ?_
        obtain ⟨g11, h⟩ := h
        refine z_iald (pc := 135) C 7 0 rfl rfl g11 (v 7 ((14 : Int32) * x3).toNatClampNeg) rfl dX10_read_135 ?_
        refine z_aload_n (pc := 136) C 1 dX10_read_136 rfl ?_
        refine z_get (pc := 137) C uw10 0 rfl rfl 8 (by decide) wq840 rfl dX10_read_137 ?_
        refine z_iload (pc := 140) C 0 dX10_read_140 rfl ?_
        refine z_iconst (pc := 142) (v := 1) C dX10_read_142 (by decide) ?_
        refine z_iadd (pc := 143) C dX10_read_143 ?_
        obtain ⟨g12, h⟩ := h
        refine z_iald (pc := 144) C 7 0 rfl rfl g12 (v 7 (((14 : Int32) * x3) + (1 : Int32)).toNatClampNeg) rfl dX10_read_144 ?_
        refine z_aload_n (pc := 145) C 1 dX10_read_145 rfl ?_
        refine z_get (pc := 146) C uw10 0 rfl rfl 8 (by decide) wq840 rfl dX10_read_146 ?_
        refine z_iload (pc := 149) C 0 dX10_read_149 rfl ?_
        refine z_iconst (pc := 151) (v := 2) C dX10_read_151 (by decide) ?_
        refine z_iadd (pc := 152) C dX10_read_152 ?_
        obtain ⟨g13, h⟩ := h
        refine z_iald (pc := 153) C 7 0 rfl rfl g13 (v 7 (((14 : Int32) * x3) + (2 : Int32)).toNatClampNeg) rfl dX10_read_153 ?_
        refine z_aload_n (pc := 154) C 1 dX10_read_154 rfl ?_
        refine z_get (pc := 155) C uw10 0 rfl rfl 8 (by decide) wq840 rfl dX10_read_155 ?_
        refine z_iload (pc := 158) C 0 dX10_read_158 rfl ?_
        refine z_iconst (pc := 160) (v := 3) C dX10_read_160 (by decide) ?_
        refine z_iadd (pc := 161) C dX10_read_161 ?_
        obtain ⟨g14, h⟩ := h
        refine z_iald (pc := 162) C 7 0 rfl rfl g14 (v 7 (((14 : Int32) * x3) + (3 : Int32)).toNatClampNeg) rfl dX10_read_162 ?_
        refine z_aload_n (pc := 163) C 1 dX10_read_163 rfl ?_
        refine z_get (pc := 164) C uw10 0 rfl rfl 8 (by decide) wq840 rfl dX10_read_164 ?_
        refine z_iload (pc := 167) C 0 dX10_read_167 rfl ?_
        refine z_iconst (pc := 169) (v := 4) C dX10_read_169 (by decide) ?_
        refine z_iadd (pc := 170) C dX10_read_170 ?_
        obtain ⟨g15, h⟩ := h
        refine z_iald (pc := 171) C 7 0 rfl rfl g15 (v 7 (((14 : Int32) * x3) + (4 : Int32)).toNatClampNeg) rfl dX10_read_171 ?_
        refine z_callv (pc := 172) (wr := ([] : va_W)) (w1 := fun (u : Lf) => (wX10 cI cJ d u g)) (w2 := fun (u : Lf) => (wX10 cI cJ d u g)) C (z_runV (pc := 172) (wc := (wX10 cI cJ d v g)) (As := [.int (v 7 ((14 : Int32) * x3).toNatClampNeg), .int (v 7 (((14 : Int32) * x3) + (1 : Int32)).toNatClampNeg), .int (v 7 (((14 : Int32) * x3) + (2 : Int32)).toNatClampNeg), .int (v 7 (((14 : Int32) * x3) + (3 : Int32)).toNatClampNeg), .int (v 7 (((14 : Int32) * x3) + (4 : Int32)).toNatClampNeg)]) C (fun sz => kX10_comes d v g (v 7 ((14 : Int32) * x3).toNatClampNeg) (v 7 (((14 : Int32) * x3) + (1 : Int32)).toNatClampNeg) (v 7 (((14 : Int32) * x3) + (2 : Int32)).toNatClampNeg) (v 7 (((14 : Int32) * x3) + (3 : Int32)).toNatClampNeg) (v 7 (((14 : Int32) * x3) + (4 : Int32)).toNatClampNeg) sz h) [0, 1, 2, 3, 4, 5, 6, 7, 8, 9, 10, 11] rfl (by decide) (gdV wq863 wq868 wq869 wq870 wq814) rfl rfl rfl hdX10_comes 0 rfl rfl rfl ⟨Nat.le_of_ble_eq_true rfl, Nat.le_of_ble_eq_true rfl⟩ rfl (Nat.le_of_ble_eq_true rfl) ⟨Nat.zero_le _, Nat.zero_le _⟩ dX10_read_172) [0, 1, 2, 3, 4, 5, 6, 7, 8, 9, 10, 11] [] [0, 1, 2, 3, 4, 5, 6, 7, 8, 9, 10, 11] rfl rfl (by decide) (by decide) (fun _ => rfl) (by decide) (fun u16 h => ?_)
        obtain ⟨v_16, hu16⟩ : ∃ z, z = u16 := ⟨_, rfl⟩
        subst hu16
        refine z_iconst (pc := 175) (v := 0) C dX10_read_175 (by decide) ?_
        refine z_istore (pc := 176) (lv' := [(5, .int (0 : Int32)), (4, .int ((14 : Int32) * x3)), (0, .ref (d 0)), (2, .int x2), (3, .int x3)]) C dX10_read_176 (by decide) rfl ?_
        obtain ⟨n178, h⟩ := h
        refine z_sub (lv' := [(0, .ref (d 0)), (2, .int x2), (3, .int x3), (4, .int ((14 : Int32) * x3)), (5, .int (0 : Int32))]) [2, 3, 4, 1, 0] rfl ?_
        exact L178 (fun v x2 x3 => pX10_read_L117 Q n117 v x2 x3) ih117 n178 v_16 x2 x3 ((14 : Int32) * x3) (0 : Int32) h
  have J78 : ∀ (v : Lf) (x2 : Int32), pX10_read_J78 Q v x2 → ZZ p l e rmX10_read s m args below meth c D A 6 0 0 QQ 78 (wX10 cI cJ d v g) [(0, .ref (d 0)), (2, .int x2)] [] := by
    intro  v x2 h
    refine z_aload_n (pc := 78) C 0 dX10_read_78 rfl ?_
    refine z_iconst (pc := 79) (v := 0) C dX10_read_79 (by decide) ?_
    refine z_put (pc := 80) (ws' := (wX10 cI cJ d (st v 0 9 (0 : Int32)) g)) C uw10 tyX10 tyX10_ok nmX10 0 rfl rfl 9 (by decide) wq882 rfl rfl rfl (Nat.le_of_ble_eq_true rfl) dX10_read_80 sX10_f9 ?_
    refine z_aload_n (pc := 83) C 0 dX10_read_83 rfl ?_
    refine z_get (pc := 84) C uw10 0 rfl rfl 11 (by decide) wq884 rfl dX10_read_84 ?_
    refine z_if_lt (pc := 87) (tgt := 98) C dX10_read_87 (by decide) (fun c6 => ?_) (fun c6 => ?_)
    · have h := h.1 c6
      refine z_aload_n (pc := 98) C 0 dX10_read_98 rfl ?_
      refine z_get (pc := 99) C uw10 0 rfl rfl 0 (by decide) wq809 rfl dX10_read_99 ?_
      refine z_bipush (pc := 102) (v := 13) C dX10_read_102 (by decide) ?_
      refine z_iald (pc := 104) C 1 0 rfl rfl vi_13_372 ((st v 0 9 (0 : Int32)) 1 13) (congrArg _ cl_13) dX10_read_104 ?_
      refine z_iload_n (pc := 105) C 1 dX10_read_105 rfl ?_
      refine z_iadd (pc := 106) C dX10_read_106 ?_
      refine z_bipush (pc := 107) (v := 8) C dX10_read_107 (by decide) ?_
      refine z_icmp_le (pc := 109) (tgt := 115) C dX10_read_109 (by decide) (fun c8 => ?_) (fun c8 => ?_)
      · have h := h.1 c8
        refine z_iconst (pc := 115) (v := 0) C dX10_read_115 (by decide) ?_
        refine z_istore_n (pc := 116) (lv' := [(3, .int (0 : Int32)), (0, .ref (d 0)), (2, .int x2)]) C dX10_read_116 (by decide) rfl ?_
        obtain ⟨n117, h⟩ := h
        refine z_sub (lv' := [(0, .ref (d 0)), (2, .int x2), (3, .int (0 : Int32))]) [1, 2, 0] rfl ?_
        exact L117  n117 (st v 0 9 (0 : Int32)) x2 (0 : Int32) h
      · have h := h.2 c8
        refine z_bipush (pc := 112) (v := -4) C dX10_read_112 (by decide) ?_
        exact hret 114 _ _ (-4 : Int32) (st v 0 9 (0 : Int32)) rfl h dX10_read_114
    · have h := h.2 c6
      refine z_bipush (pc := 90) (v := -10) C dX10_read_90 (by decide) ?_
      refine z_aload_n (pc := 92) C 0 dX10_read_92 rfl ?_
      refine z_get (pc := 93) C uw10 0 rfl rfl 11 (by decide) wq884 rfl dX10_read_93 ?_
      refine z_isub (pc := 96) C dX10_read_96 ?_
      exact hret 97 _ _ ((-10 : Int32) - ((st v 0 9 (0 : Int32)) 0 11)) (st v 0 9 (0 : Int32)) rfl h dX10_read_97
  have J62 : ∀ (v : Lf) (x1 : Int32) (x2 : Int32), pX10_read_J62 Q v x1 x2 → ZZ p l e rmX10_read s m args below meth c D A 6 0 0 QQ 62 (wX10 cI cJ d v g) [(0, .ref (d 0)), (1, .int x1), (2, .int x2)] [] := by
    intro  v x1 x2 h
    refine z_aload_n (pc := 62) C 0 dX10_read_62 rfl ?_
    refine z_get (pc := 63) C uw10 0 rfl rfl 10 (by decide) wq886 rfl dX10_read_63 ?_
    refine z_iload_n (pc := 66) C 1 dX10_read_66 rfl ?_
    refine z_icmp_ge (pc := 67) (tgt := 78) C dX10_read_67 (by decide) (fun c5 => ?_) (fun c5 => ?_)
    · have h := h.1 c5
      refine z_sub (lv' := [(0, .ref (d 0)), (2, .int x2)]) [0, 2] rfl ?_
      exact J78  v x2 h
    · have h := h.2 c5
      refine z_aload_n (pc := 70) C 0 dX10_read_70 rfl ?_
      refine z_aload_n (pc := 71) C 0 dX10_read_71 rfl ?_
      refine z_get (pc := 72) C uw10 0 rfl rfl 10 (by decide) wq886 rfl dX10_read_72 ?_
      refine z_callv (pc := 75) (wr := ([] : va_W)) (w1 := fun (u : Lf) => (wX10 cI cJ d u g)) (w2 := fun (u : Lf) => (wX10 cI cJ d u g)) C (z_runV (pc := 75) (wc := (wX10 cI cJ d v g)) (As := [.int (v 0 10)]) C (fun sz => kX10_fails d v g (v 0 10) sz h) [0, 1, 2, 3, 4, 5, 6, 7, 8, 9, 10, 11] rfl (by decide) (gdV wq883 wq892 wq893 wq894 wq814) rfl rfl rfl hdX10_fails 0 rfl rfl rfl ⟨Nat.le_of_ble_eq_true rfl, Nat.le_of_ble_eq_true rfl⟩ rfl (Nat.le_of_ble_eq_true rfl) ⟨Nat.zero_le _, Nat.zero_le _⟩ dX10_read_75) [0, 1, 2, 3, 4, 5, 6, 7, 8, 9, 10, 11] [] [0, 1, 2, 3, 4, 5, 6, 7, 8, 9, 10, 11] rfl rfl (by decide) (by decide) (fun _ => rfl) (by decide) (fun u22 h => ?_)
      obtain ⟨v_22, hu22⟩ : ∃ z, z = u22 := ⟨_, rfl⟩
      subst hu22
      refine z_sub (lv' := [(0, .ref (d 0)), (2, .int x2)]) [0, 2] rfl ?_
      exact J78  v_22 x2 h
  have L35 : ∀ (n35 : Nat) (v : Lf) (x1 : Int32) (x2 : Int32), pX10_read_L35 Q n35 v x1 x2 → ZZ p l e rmX10_read s m args below meth c D A 6 0 0 QQ 35 (wX10 cI cJ d v g) [(0, .ref (d 0)), (1, .int x1), (2, .int x2)] [] := by
    intro n35
    induction n35 with
    | zero => intro v x1 x2 h; exact False.elim h
    | succ n35 ih35 =>
      intro v x1 x2 h
      refine z_aload_n (pc := 35) C 0 dX10_read_35 rfl ?_
      refine z_bipush (pc := 36) (v := 14) C dX10_read_36 (by decide) ?_
      refine z_iload_n (pc := 38) C 2 dX10_read_38 rfl ?_
      refine z_iconst (pc := 39) (v := 4) C dX10_read_39 (by decide) ?_
      refine z_irem (pc := 40) C dX10_read_40 (by decide) ?_
      refine z_imul (pc := 41) C dX10_read_41 ?_
      refine z_callv (pc := 42) (wr := ([] : va_W)) (w1 := fun (u : Lf) => (wX10 cI cJ d u g)) (w2 := fun (u : Lf) => (wX10 cI cJ d u g)) C (z_runV (pc := 42) (wc := (wX10 cI cJ d v g)) (As := [.int ((14 : Int32) * (x2 - x2 / (4 : Int32) * (4 : Int32)))]) C (fun sz => kX10_clause d v g ((14 : Int32) * (x2 - x2 / (4 : Int32) * (4 : Int32))) sz h) [0, 1, 2, 3, 4, 5, 6, 7, 8, 9, 10, 11] rfl (by decide) (gdV wq904 wq905 wq906 wq907 wq814) rfl rfl rfl hdX10_clause 0 rfl rfl rfl ⟨Nat.le_of_ble_eq_true rfl, Nat.le_of_ble_eq_true rfl⟩ rfl (Nat.le_of_ble_eq_true rfl) ⟨Nat.zero_le _, Nat.zero_le _⟩ dX10_read_42) [0, 1, 2, 3, 4, 5, 6, 7, 8, 9, 10, 11] [] [0, 1, 2, 3, 4, 5, 6, 7, 8, 9, 10, 11] rfl rfl (by decide) (by decide) (fun _ => rfl) (by decide) (fun u3 h => ?_)
      obtain ⟨v_3, hu3⟩ : ∃ z, z = u3 := ⟨_, rfl⟩
      subst hu3
      refine z_iinc (pc := 45) (v := (x2 + 1)) (lv' := [(2, .int (x2 + 1)), (0, .ref (d 0)), (1, .int x1)]) C 2 dX10_read_45 rfl rfl (by decide) rfl ?_
      refine z_iload_n (pc := 48) C 0 dX10_read_48 rfl ?_
      refine z_iconst (pc := 49) (v := 4) C dX10_read_49 (by decide) ?_
      refine z_icmp_ge (pc := 50) (tgt := 62) C dX10_read_50 (by decide) (fun c4 => ?_) (fun c4 => ?_)
      · have h := h.1 c4
        refine z_sub (lv' := [(0, .ref (d 0)), (1, .int x1), (2, .int (x2 + 1))]) [1, 2, 0] rfl ?_
        exact J62  v_3 x1 (x2 + 1) h
      · have h := h.2 c4
        refine z_aload_n (pc := 53) C 1 dX10_read_53 rfl ?_
        refine z_bipush (pc := 54) (v := 59) C dX10_read_54 (by decide) ?_
        refine z_calli (pc := 56) (wr := ([] : va_W)) (w1 := fun (u : Lf) => (wX10 cI cJ d u g)) (w2 := fun (u : Lf) => (wX10 cI cJ d u g)) C (z_runV (pc := 56) (wc := (wX10 cI cJ d v_3 g)) (As := [.int (59 : Int32)]) C (fun sz => kX10_takes d v_3 g (59 : Int32) sz h) [0, 1, 2, 3, 4, 5, 6, 7, 8, 9, 10, 11] rfl (by decide) (gdV wq885 wq898 wq899 wq900 wq814) rfl rfl rfl hdX10_takes 0 rfl rfl rfl ⟨Nat.le_of_ble_eq_true rfl, Nat.le_of_ble_eq_true rfl⟩ rfl (Nat.le_of_ble_eq_true rfl) ⟨Nat.zero_le _, Nat.zero_le _⟩ dX10_read_56) [0, 1, 2, 3, 4, 5, 6, 7, 8, 9, 10, 11] [] [0, 1, 2, 3, 4, 5, 6, 7, 8, 9, 10, 11] rfl rfl (by decide) (by decide) (fun _ => rfl) (by decide) (fun r23 u23 h => ?_)
        obtain ⟨v_23, hu23⟩ : ∃ z, z = u23 := ⟨_, rfl⟩
        subst hu23
        refine z_if_ne (pc := 59) (tgt := 35) C dX10_read_59 (by decide) (fun c24 => ?_) (fun c24 => ?_)
        · have h := h.1 c24
          refine z_sub (lv' := [(0, .ref (d 0)), (1, .int x1), (2, .int (x2 + 1))]) [1, 2, 0] rfl ?_
          exact ih35 v_23 x1 (x2 + 1) h
        · have h := h.2 c24
          refine z_sub (lv' := [(0, .ref (d 0)), (1, .int x1), (2, .int (x2 + 1))]) [1, 2, 0] rfl ?_
          exact J62  v_23 x1 (x2 + 1) h
  refine z_aload_n (pc := 0) C 0 dX10_read_0 rfl ?_
  refine z_get (pc := 1) C uw10 0 rfl rfl 9 (by decide) wq882 rfl dX10_read_1 ?_
  refine z_istore_n (pc := 4) (lv' := [(1, .int (v 0 9)), (0, .ref (d 0))]) C dX10_read_4 (by decide) rfl ?_
  refine z_aload_n (pc := 5) C 1 dX10_read_5 rfl ?_
  refine z_get (pc := 6) C uw10 0 rfl rfl 0 (by decide) wq809 rfl dX10_read_6 ?_
  refine z_iconst (pc := 9) (v := 2) C dX10_read_9 (by decide) ?_
  refine z_iald (pc := 10) C 1 0 rfl rfl vi_2_372 (v 1 2) (congrArg _ cl_2) dX10_read_10 ?_
  refine z_iconst (pc := 11) (v := 1) C dX10_read_11 (by decide) ?_
  refine z_icmp_ne (pc := 12) (tgt := 23) C dX10_read_12 (by decide) (fun c2 => ?_) (fun c2 => ?_)
  · have h := h.1 c2
    refine z_aload_n (pc := 23) C 1 dX10_read_23 rfl ?_
    refine z_iconst (pc := 24) (v := 0) C dX10_read_24 (by decide) ?_
    refine z_put (pc := 25) (ws' := (wX10 cI cJ d (st v 0 10 (0 : Int32)) g)) C uw10 tyX10 tyX10_ok nmX10 0 rfl rfl 10 (by decide) wq886 rfl rfl rfl (Nat.le_of_ble_eq_true rfl) dX10_read_25 sX10_f10 ?_
    refine z_aload_n (pc := 28) C 1 dX10_read_28 rfl ?_
    refine z_iconst (pc := 29) (v := -1) C dX10_read_29 (by decide) ?_
    refine z_put (pc := 30) (ws' := (wX10 cI cJ d (st (st v 0 10 (0 : Int32)) 0 11 (-1 : Int32)) g)) C uw10 tyX10 tyX10_ok nmX10 0 rfl rfl 11 (by decide) wq884 rfl rfl rfl (Nat.le_of_ble_eq_true rfl) dX10_read_30 sX10_f11 ?_
    refine z_iconst (pc := 33) (v := 0) C dX10_read_33 (by decide) ?_
    refine z_istore_n (pc := 34) (lv' := [(2, .int (0 : Int32)), (1, .int (v 0 9)), (0, .ref (d 0))]) C dX10_read_34 (by decide) rfl ?_
    obtain ⟨n35, h⟩ := h
    refine z_sub (lv' := [(0, .ref (d 0)), (1, .int (v 0 9)), (2, .int (0 : Int32))]) [2, 1, 0] rfl ?_
    exact L35  n35 (st (st v 0 10 (0 : Int32)) 0 11 (-1 : Int32)) (v 0 9) (0 : Int32) h
  · have h := h.2 c2
    refine z_aload_n (pc := 15) C 1 dX10_read_15 rfl ?_
    refine z_iconst (pc := 16) (v := 0) C dX10_read_16 (by decide) ?_
    refine z_put (pc := 17) (ws' := (wX10 cI cJ d (st v 0 9 (0 : Int32)) g)) C uw10 tyX10 tyX10_ok nmX10 0 rfl rfl 9 (by decide) wq882 rfl rfl rfl (Nat.le_of_ble_eq_true rfl) dX10_read_17 sX10_f9 ?_
    refine z_bipush (pc := 20) (v := -3) C dX10_read_20 (by decide) ?_
    exact hret 22 _ _ (-3 : Int32) (st v 0 9 (0 : Int32)) rfl h dX10_read_22

def pX10_safety (v : Lf) (x1 : Int32) (Q : Int32 → Lf → Prop) : Prop := (pX10_isIn x1 (0 : Int32) (5 : Int32) (fun r1 => ((¬ r1 = 0 → ((¬ (v 1 2) = (1 : Int32) → (pX10_clears_ (st v 1 1 x1) (fun v_7 => (Q (v 1 1) v_7)))) ∧ ((v 1 2) = (1 : Int32) → (Q (-3 : Int32) v)))) ∧ (r1 = 0 → (Q (-2 : Int32) v)))))
abbrev rmX10_safety : Room := { frames := 4, cells := 0, slots := 0, locals := 94 }
abbrev wdX10_safety : List Cond := Cond.code yX10_safety cX10_safety 3 (some .int) :: TB
theorem hdSX10_safety : (yX10_safety).cls ≠ "java/lang/invoke/MethodHandle" ∧ (yX10_safety).cls ≠ "java/lang/invoke/VarHandle" ∧ (parseMethodDescriptor (yX10_safety).desc).map (fun d => d.parameters.length) = some 1 := by decide +kernel
theorem hdX10_safety : (yX10_safety).cls = RX10 ∧ (yX10_safety).cls ≠ "java/lang/invoke/MethodHandle" ∧ (yX10_safety).cls ≠ "java/lang/invoke/VarHandle" ∧ (parseMethodDescriptor (yX10_safety).desc).map (fun d => d.parameters.length) = some 1 := ⟨rfl, hdSX10_safety⟩
set_option maxHeartbeats 4000000 in
set_option maxRecDepth 100000 in
theorem kX10_safety {l : Launch} {D : va_G} {cI cJ cT : ClassId} (d : Nat → Nat)  (v : Lf) (g : Lg) (x1 : Int32) {Q : Int32 → Lf → Prop} (sz : Nat) (h : pX10_safety v x1 Q) : Met l yX10_safety wdX10_safety rmX10_safety (Pz D (tyL cI cJ cT) [.ref (d 0), .int x1] (wX10 cI cJ d v g) sz) (va_Qi (fun (r : Int32) (u : Lf) => Q r u) (Bz D (tyL cI cJ cT) (wX10 cI cJ d v g) sz (fun (u : Lf) => (wX10 cI cJ d u g))) (va_A (wX10 cI cJ d v g) sz)) 0 0 (va_A (wX10 cI cJ d v g) sz) := by
  refine z_meti (cc := cX10_safety) (maxL := 3) (own := RX10) (lv0 := [(0, .ref (d 0)), (1, .int x1)]) (by decide) rfl rfl (Nat.le_of_ble_eq_true rfl) rfl ?_
  intro p e s m args below meth c A QQ C hin hret
  refine z_iload_n (pc := 0) C 1 dX10_safety_0 rfl ?_
  refine z_iconst (pc := 1) (v := 0) C dX10_safety_1 (by decide) ?_
  refine z_iconst (pc := 2) (v := 5) C dX10_safety_2 (by decide) ?_
  refine z_call0i (pc := 3) C (z_runS (pc := 3) (wc := ([] : va_W)) (As := [.int x1, .int (0 : Int32), .int (5 : Int32)]) C (fun sz => kX10_isIn x1 (0 : Int32) (5 : Int32) sz h) [] rfl (by decide) (gdS wq849 wq852 wq853 wq814) rfl rfl rfl hdSX10_isIn ⟨Nat.le_of_ble_eq_true rfl, Nat.le_of_ble_eq_true rfl⟩ rfl (Nat.le_of_ble_eq_true rfl) ⟨Nat.zero_le _, Nat.zero_le _⟩ dX10_safety_3) (fun r1 u1 h => ?_)
  refine z_if_ne (pc := 6) (tgt := 12) C dX10_safety_6 (by decide) (fun c2 => ?_) (fun c2 => ?_)
  · have h := h.1 c2
    refine z_aload_n (pc := 12) C 0 dX10_safety_12 rfl ?_
    refine z_get (pc := 13) C uw10 0 rfl rfl 0 (by decide) wq809 rfl dX10_safety_13 ?_
    refine z_iconst (pc := 16) (v := 2) C dX10_safety_16 (by decide) ?_
    refine z_iald (pc := 17) C 1 0 rfl rfl vi_2_372 (v 1 2) (congrArg _ cl_2) dX10_safety_17 ?_
    refine z_iconst (pc := 18) (v := 1) C dX10_safety_18 (by decide) ?_
    refine z_icmp_ne (pc := 19) (tgt := 25) C dX10_safety_19 (by decide) (fun c4 => ?_) (fun c4 => ?_)
    · have h := h.1 c4
      refine z_aload_n (pc := 25) C 0 dX10_safety_25 rfl ?_
      refine z_get (pc := 26) C uw10 0 rfl rfl 0 (by decide) wq809 rfl dX10_safety_26 ?_
      refine z_iconst (pc := 29) (v := 1) C dX10_safety_29 (by decide) ?_
      refine z_iald (pc := 30) C 1 0 rfl rfl vi_1_372 (v 1 1) (congrArg _ cl_1) dX10_safety_30 ?_
      refine z_istore_n (pc := 31) (lv' := [(2, .int (v 1 1)), (0, .ref (d 0)), (1, .int x1)]) C dX10_safety_31 (by decide) rfl ?_
      refine z_aload_n (pc := 32) C 1 dX10_safety_32 rfl ?_
      refine z_get (pc := 33) C uw10 0 rfl rfl 0 (by decide) wq809 rfl dX10_safety_33 ?_
      refine z_iconst (pc := 36) (v := 1) C dX10_safety_36 (by decide) ?_
      refine z_iload_n (pc := 37) C 2 dX10_safety_37 rfl ?_
      refine z_iast (pc := 38) (ws' := (wX10 cI cJ d (st v 1 1 x1) g)) C 1 0 rfl rfl vi_1_372 dX10_safety_38 cl_1 sX10_a1 ?_
      refine z_aload_n (pc := 39) C 1 dX10_safety_39 rfl ?_
      refine z_callv (pc := 40) (wr := ([] : va_W)) (w1 := fun (u : Lf) => (wX10 cI cJ d u g)) (w2 := fun (u : Lf) => (wX10 cI cJ d u g)) C (z_runV (pc := 40) (wc := (wX10 cI cJ d (st v 1 1 x1) g)) (As := []) C (fun sz => kX10_clears_ d (st v 1 1 x1) g sz h) [0, 1, 2, 3, 4, 5, 6, 7, 8, 9, 10, 11] rfl (by decide) (gdV wq835 wq845 wq846 wq847 wq814) rfl rfl rfl hdX10_clears_ 0 rfl rfl rfl ⟨Nat.le_of_ble_eq_true rfl, Nat.le_of_ble_eq_true rfl⟩ rfl (Nat.le_of_ble_eq_true rfl) ⟨Nat.zero_le _, Nat.zero_le _⟩ dX10_safety_40) [0, 1, 2, 3, 4, 5, 6, 7, 8, 9, 10, 11] [] [0, 1, 2, 3, 4, 5, 6, 7, 8, 9, 10, 11] rfl rfl (by decide) (by decide) (fun _ => rfl) (by decide) (fun u7 h => ?_)
      obtain ⟨v_7, hu7⟩ : ∃ z, z = u7 := ⟨_, rfl⟩
      subst hu7
      refine z_iload_n (pc := 43) C 0 dX10_safety_43 rfl ?_
      exact hret 44 _ _ (v 1 1) v_7 rfl h dX10_safety_44
    · have h := h.2 c4
      refine z_bipush (pc := 22) (v := -3) C dX10_safety_22 (by decide) ?_
      exact hret 24 _ _ (-3 : Int32) v rfl h dX10_safety_24
  · have h := h.2 c2
    refine z_bipush (pc := 9) (v := -2) C dX10_safety_9 (by decide) ?_
    exact hret 11 _ _ (-2 : Int32) v rfl h dX10_safety_11

def pX10_anyMeet_J33 (v : Lf) (x1 : Int32) (Q : Int32 → Prop) (K2 : Int32 → Prop) (x2 : Int32) : Prop := (K2 (x2 + 1))
def pX10_anyMeet_L2 (v : Lf) (x1 : Int32) (Q : Int32 → Prop) : Nat → Int32 → Prop
  | 0, _ => False
  | n2 + 1, x2 => (((v 1 13) ≤ x2 → (Q (0 : Int32) )) ∧ (¬ (v 1 13) ≤ x2 → (pX10_has x1 x2 (fun r3 => ((r3 = 0 → (pX10_anyMeet_J33 v x1 Q (fun x2 => pX10_anyMeet_L2 v x1 Q n2 x2) x2)) ∧ (¬ r3 = 0 → (pX10_meets v x2 (fun r5 => (((r5 &&& x1) = 0 → (pX10_anyMeet_J33 v x1 Q (fun x2 => pX10_anyMeet_L2 v x1 Q n2 x2) x2)) ∧ (¬ (r5 &&& x1) = 0 → (Q (1 : Int32) )))))))))))
def pX10_anyMeet (v : Lf) (x1 : Int32) (Q : Int32 → Prop) : Prop := (∃ n2, pX10_anyMeet_L2 v x1 Q  n2 (0 : Int32))
abbrev rmX10_anyMeet : Room := { frames := 2, cells := 0, slots := 0, locals := 45 }
abbrev wdX10_anyMeet : List Cond := Cond.code yX10_anyMeet cX10_anyMeet 3 (some .boolean) :: TB
theorem hdSX10_anyMeet : (yX10_anyMeet).cls ≠ "java/lang/invoke/MethodHandle" ∧ (yX10_anyMeet).cls ≠ "java/lang/invoke/VarHandle" ∧ (parseMethodDescriptor (yX10_anyMeet).desc).map (fun d => d.parameters.length) = some 1 := by decide +kernel
theorem hdX10_anyMeet : (yX10_anyMeet).cls = RX10 ∧ (yX10_anyMeet).cls ≠ "java/lang/invoke/MethodHandle" ∧ (yX10_anyMeet).cls ≠ "java/lang/invoke/VarHandle" ∧ (parseMethodDescriptor (yX10_anyMeet).desc).map (fun d => d.parameters.length) = some 1 := ⟨rfl, hdSX10_anyMeet⟩
set_option maxHeartbeats 4000000 in
set_option maxRecDepth 100000 in
theorem kX10_anyMeet {l : Launch} {D : va_G} {cI cJ cT : ClassId} (d : Nat → Nat)  (v : Lf) (g : Lg) (x1 : Int32) {Q : Int32 → Prop} (sz : Nat) (h : pX10_anyMeet v x1 Q) : Met l yX10_anyMeet wdX10_anyMeet rmX10_anyMeet (Pz D (tyL cI cJ cT) [.ref (d 0), .int x1] (wX10 cI cJ d v g) sz) (va_Qi (fun (r : Int32) (u : Unit) => Q r) (Bz D (tyL cI cJ cT) (wX10 cI cJ d v g) sz (fun (u : Unit) => (wX10 cI cJ d v g))) (va_A (wX10 cI cJ d v g) sz)) 0 0 (va_A (wX10 cI cJ d v g) sz) := by
  refine z_metz (cc := cX10_anyMeet) (maxL := 3) (own := RX10) (lv0 := [(0, .ref (d 0)), (1, .int x1)]) (by decide) rfl rfl (Nat.le_of_ble_eq_true rfl) rfl ?_
  intro p e s m args below meth c A QQ C hin hret
  have J33 : ∀ (K2 : Int32 → Prop), (∀ (x2 : Int32), K2 x2 → ZZ p l e rmX10_anyMeet s m args below meth c D A 3 0 0 QQ 2 (wX10 cI cJ d v g) [(0, .ref (d 0)), (1, .int x1), (2, .int x2)] []) → ∀ (x2 : Int32), pX10_anyMeet_J33 v x1 Q K2 x2 → ZZ p l e rmX10_anyMeet s m args below meth c D A 3 0 0 QQ 33 (wX10 cI cJ d v g) [(0, .ref (d 0)), (1, .int x1), (2, .int x2)] [] := by
    intro K2 hK2 x2 h
    refine z_iinc (pc := 33) (v := (x2 + 1)) (lv' := [(2, .int (x2 + 1)), (0, .ref (d 0)), (1, .int x1)]) C 2 dX10_anyMeet_33 rfl rfl (by decide) rfl ?_
    refine z_goto (pc := 36) (tgt := 2) C dX10_anyMeet_36 (by decide) ?_
    refine z_sub (lv' := [(0, .ref (d 0)), (1, .int x1), (2, .int (x2 + 1))]) [1, 2, 0] rfl ?_
    exact hK2 (x2 + 1) h
  have L2 : ∀ (n2 : Nat) (x2 : Int32), pX10_anyMeet_L2 v x1 Q n2 x2 → ZZ p l e rmX10_anyMeet s m args below meth c D A 3 0 0 QQ 2 (wX10 cI cJ d v g) [(0, .ref (d 0)), (1, .int x1), (2, .int x2)] [] := by
    intro n2
    induction n2 with
    | zero => intro x2 h; exact False.elim h
    | succ n2 ih2 =>
      intro x2 h
      refine z_iload_n (pc := 2) C 2 dX10_anyMeet_2 rfl ?_
      refine z_aload_n (pc := 3) C 0 dX10_anyMeet_3 rfl ?_
      refine z_get (pc := 4) C uw10 0 rfl rfl 0 (by decide) wq809 rfl dX10_anyMeet_4 ?_
      refine z_bipush (pc := 7) (v := 13) C dX10_anyMeet_7 (by decide) ?_
      refine z_iald (pc := 9) C 1 0 rfl rfl vi_13_372 (v 1 13) (congrArg _ cl_13) dX10_anyMeet_9 ?_
      refine z_icmp_ge (pc := 10) (tgt := 39) C dX10_anyMeet_10 (by decide) (fun c2 => ?_) (fun c2 => ?_)
      · have h := h.1 c2
        refine z_iconst (pc := 39) (v := 0) C dX10_anyMeet_39 (by decide) ?_
        exact hret 40 _ _ (0 : Int32) rfl () rfl h dX10_anyMeet_40
      · have h := h.2 c2
        refine z_iload_n (pc := 13) C 1 dX10_anyMeet_13 rfl ?_
        refine z_iload_n (pc := 14) C 2 dX10_anyMeet_14 rfl ?_
        refine z_call0i (pc := 15) C (z_runS (pc := 15) (wc := ([] : va_W)) (As := [.int x1, .int x2]) C (fun sz => kX10_has x1 x2 sz h) [] rfl (by decide) (gdS wq850 wq911 wq912 wq814) rfl rfl rfl hdSX10_has ⟨Nat.le_of_ble_eq_true rfl, Nat.le_of_ble_eq_true rfl⟩ rfl (Nat.le_of_ble_eq_true rfl) ⟨Nat.zero_le _, Nat.zero_le _⟩ dX10_anyMeet_15) (fun r3 u3 h => ?_)
        refine z_if_eq (pc := 18) (tgt := 33) C dX10_anyMeet_18 (by decide) (fun c4 => ?_) (fun c4 => ?_)
        · have h := h.1 c4
          exact J33 (fun x2 => pX10_anyMeet_L2 v x1 Q n2 x2) ih2 x2 h
        · have h := h.2 c4
          refine z_aload_n (pc := 21) C 0 dX10_anyMeet_21 rfl ?_
          refine z_iload_n (pc := 22) C 2 dX10_anyMeet_22 rfl ?_
          refine z_callRi (pc := 23) C (z_runV (pc := 23) (wc := (wX10 cI cJ d v g)) (As := [.int x2]) C (fun sz => kX10_meets d v g x2 sz h) [0, 1, 2, 3, 4, 5, 6, 7, 8, 9, 10, 11] rfl (by decide) (gdV wq859 wq913 wq914 wq915 wq814) rfl rfl rfl hdX10_meets 0 rfl rfl rfl ⟨Nat.le_of_ble_eq_true rfl, Nat.le_of_ble_eq_true rfl⟩ rfl (Nat.le_of_ble_eq_true rfl) ⟨Nat.zero_le _, Nat.zero_le _⟩ dX10_anyMeet_23) [0, 1, 2, 3, 4, 5, 6, 7, 8, 9, 10, 11] rfl (by decide) (fun r5 u5 h => ?_)
          refine z_iload_n (pc := 26) C 1 dX10_anyMeet_26 rfl ?_
          refine z_iand (pc := 27) C dX10_anyMeet_27 ?_
          refine z_if_eq (pc := 28) (tgt := 33) C dX10_anyMeet_28 (by decide) (fun c6 => ?_) (fun c6 => ?_)
          · have h := h.1 c6
            exact J33 (fun x2 => pX10_anyMeet_L2 v x1 Q n2 x2) ih2 x2 h
          · have h := h.2 c6
            refine z_iconst (pc := 31) (v := 1) C dX10_anyMeet_31 (by decide) ?_
            exact hret 32 _ _ (1 : Int32) rfl () rfl h dX10_anyMeet_32
  refine z_iconst (pc := 0) (v := 0) C dX10_anyMeet_0 (by decide) ?_
  refine z_istore_n (pc := 1) (lv' := [(2, .int (0 : Int32)), (0, .ref (d 0)), (1, .int x1)]) C dX10_anyMeet_1 (by decide) rfl ?_
  obtain ⟨n2, h⟩ := h
  refine z_sub (lv' := [(0, .ref (d 0)), (1, .int x1), (2, .int (0 : Int32))]) [1, 2, 0] rfl ?_
  exact L2  n2 (0 : Int32) h

def pX10_phase (v : Lf) (x1 : Int32) (x2 : Int32) (Q : Int32 → Lf → Prop) : Prop := (pX10_isIn x1 (1 : Int32) (((1 : Int32) <<< ((v 1 13) &&& 31)) - (1 : Int32)) (fun r2 => ((r2 = 0 → (Q (-2 : Int32) v)) ∧ (¬ r2 = 0 → (pX10_isIn x2 (0 : Int32) (239 : Int32) (fun r4 => ((¬ r4 = 0 → (((v 1 2) = (1 : Int32) → (Q (-3 : Int32) v)) ∧ (¬ (v 1 2) = (1 : Int32) → (pX10_anyMeet v x1 (fun r8 => ((r8 = 0 → ((¬ (v 1 14) = (6 : Int32) → (vp_in ((216 : Int32) + ((3 : Int32) * (v 1 14))) 372 ∧ (vp_in (((216 : Int32) + ((3 : Int32) * (v 1 14))) + (1 : Int32)) 372 ∧ (vp_in (((216 : Int32) + ((3 : Int32) * (v 1 14))) + (2 : Int32)) 372 ∧ (Q (((st (st (st (st v 1 (((216 : Int32) + ((3 : Int32) * (v 1 14))).toNatClampNeg) x1) 1 ((((216 : Int32) + ((3 : Int32) * (v 1 14))) + (1 : Int32)).toNatClampNeg) x2) 1 ((((216 : Int32) + ((3 : Int32) * (v 1 14))) + (2 : Int32)).toNatClampNeg) (0 : Int32)) 1 14 (((st (st (st v 1 (((216 : Int32) + ((3 : Int32) * (v 1 14))).toNatClampNeg) x1) 1 ((((216 : Int32) + ((3 : Int32) * (v 1 14))) + (1 : Int32)).toNatClampNeg) x2) 1 ((((216 : Int32) + ((3 : Int32) * (v 1 14))) + (2 : Int32)).toNatClampNeg) (0 : Int32)) 1 14) + (1 : Int32))) 1 14) - (1 : Int32)) (st (st (st (st v 1 (((216 : Int32) + ((3 : Int32) * (v 1 14))).toNatClampNeg) x1) 1 ((((216 : Int32) + ((3 : Int32) * (v 1 14))) + (1 : Int32)).toNatClampNeg) x2) 1 ((((216 : Int32) + ((3 : Int32) * (v 1 14))) + (2 : Int32)).toNatClampNeg) (0 : Int32)) 1 14 (((st (st (st v 1 (((216 : Int32) + ((3 : Int32) * (v 1 14))).toNatClampNeg) x1) 1 ((((216 : Int32) + ((3 : Int32) * (v 1 14))) + (1 : Int32)).toNatClampNeg) x2) 1 ((((216 : Int32) + ((3 : Int32) * (v 1 14))) + (2 : Int32)).toNatClampNeg) (0 : Int32)) 1 14) + (1 : Int32)))))))) ∧ ((v 1 14) = (6 : Int32) → (Q (-4 : Int32) v)))) ∧ (¬ r8 = 0 → (Q (-3 : Int32) v)))))))) ∧ (r4 = 0 → (Q (-2 : Int32) v)))))))))
abbrev rmX10_phase : Room := { frames := 3, cells := 0, slots := 0, locals := 67 }
abbrev wdX10_phase : List Cond := Cond.code yX10_phase cX10_phase 4 (some .int) :: TB
theorem hdSX10_phase : (yX10_phase).cls ≠ "java/lang/invoke/MethodHandle" ∧ (yX10_phase).cls ≠ "java/lang/invoke/VarHandle" ∧ (parseMethodDescriptor (yX10_phase).desc).map (fun d => d.parameters.length) = some 2 := by decide +kernel
theorem hdX10_phase : (yX10_phase).cls = RX10 ∧ (yX10_phase).cls ≠ "java/lang/invoke/MethodHandle" ∧ (yX10_phase).cls ≠ "java/lang/invoke/VarHandle" ∧ (parseMethodDescriptor (yX10_phase).desc).map (fun d => d.parameters.length) = some 2 := ⟨rfl, hdSX10_phase⟩
set_option maxHeartbeats 4000000 in
set_option maxRecDepth 100000 in
theorem kX10_phase {l : Launch} {D : va_G} {cI cJ cT : ClassId} (d : Nat → Nat)  (v : Lf) (g : Lg) (x1 : Int32) (x2 : Int32) {Q : Int32 → Lf → Prop} (sz : Nat) (h : pX10_phase v x1 x2 Q) : Met l yX10_phase wdX10_phase rmX10_phase (Pz D (tyL cI cJ cT) [.ref (d 0), .int x1, .int x2] (wX10 cI cJ d v g) sz) (va_Qi (fun (r : Int32) (u : Lf) => Q r u) (Bz D (tyL cI cJ cT) (wX10 cI cJ d v g) sz (fun (u : Lf) => (wX10 cI cJ d u g))) (va_A (wX10 cI cJ d v g) sz)) 0 0 (va_A (wX10 cI cJ d v g) sz) := by
  refine z_meti (cc := cX10_phase) (maxL := 4) (own := RX10) (lv0 := [(0, .ref (d 0)), (1, .int x1), (2, .int x2)]) (by decide) rfl rfl (Nat.le_of_ble_eq_true rfl) rfl ?_
  intro p e s m args below meth c A QQ C hin hret
  refine z_iload_n (pc := 0) C 1 dX10_phase_0 rfl ?_
  refine z_iconst (pc := 1) (v := 1) C dX10_phase_1 (by decide) ?_
  refine z_iconst (pc := 2) (v := 1) C dX10_phase_2 (by decide) ?_
  refine z_aload_n (pc := 3) C 0 dX10_phase_3 rfl ?_
  refine z_get (pc := 4) C uw10 0 rfl rfl 0 (by decide) wq809 rfl dX10_phase_4 ?_
  refine z_bipush (pc := 7) (v := 13) C dX10_phase_7 (by decide) ?_
  refine z_iald (pc := 9) C 1 0 rfl rfl vi_13_372 (v 1 13) (congrArg _ cl_13) dX10_phase_9 ?_
  refine z_ishl (pc := 10) C dX10_phase_10 ?_
  refine z_iconst (pc := 11) (v := 1) C dX10_phase_11 (by decide) ?_
  refine z_isub (pc := 12) C dX10_phase_12 ?_
  refine z_call0i (pc := 13) C (z_runS (pc := 13) (wc := ([] : va_W)) (As := [.int x1, .int (1 : Int32), .int (((1 : Int32) <<< ((v 1 13) &&& 31)) - (1 : Int32))]) C (fun sz => kX10_isIn x1 (1 : Int32) (((1 : Int32) <<< ((v 1 13) &&& 31)) - (1 : Int32)) sz h) [] rfl (by decide) (gdS wq849 wq852 wq853 wq814) rfl rfl rfl hdSX10_isIn ⟨Nat.le_of_ble_eq_true rfl, Nat.le_of_ble_eq_true rfl⟩ rfl (Nat.le_of_ble_eq_true rfl) ⟨Nat.zero_le _, Nat.zero_le _⟩ dX10_phase_13) (fun r2 u2 h => ?_)
  refine z_if_eq (pc := 16) (tgt := 30) C dX10_phase_16 (by decide) (fun c3 => ?_) (fun c3 => ?_)
  · have h := h.1 c3
    refine z_bipush (pc := 30) (v := -2) C dX10_phase_30 (by decide) ?_
    exact hret 32 _ _ (-2 : Int32) v rfl h dX10_phase_32
  · have h := h.2 c3
    refine z_iload_n (pc := 19) C 2 dX10_phase_19 rfl ?_
    refine z_iconst (pc := 20) (v := 0) C dX10_phase_20 (by decide) ?_
    refine z_sipush (pc := 21) (v := 239) C dX10_phase_21 (by decide) ?_
    refine z_call0i (pc := 24) C (z_runS (pc := 24) (wc := ([] : va_W)) (As := [.int x2, .int (0 : Int32), .int (239 : Int32)]) C (fun sz => kX10_isIn x2 (0 : Int32) (239 : Int32) sz h) [] rfl (by decide) (gdS wq849 wq852 wq853 wq814) rfl rfl rfl hdSX10_isIn ⟨Nat.le_of_ble_eq_true rfl, Nat.le_of_ble_eq_true rfl⟩ rfl (Nat.le_of_ble_eq_true rfl) ⟨Nat.zero_le _, Nat.zero_le _⟩ dX10_phase_24) (fun r4 u4 h => ?_)
    refine z_if_ne (pc := 27) (tgt := 33) C dX10_phase_27 (by decide) (fun c5 => ?_) (fun c5 => ?_)
    · have h := h.1 c5
      refine z_aload_n (pc := 33) C 0 dX10_phase_33 rfl ?_
      refine z_get (pc := 34) C uw10 0 rfl rfl 0 (by decide) wq809 rfl dX10_phase_34 ?_
      refine z_iconst (pc := 37) (v := 2) C dX10_phase_37 (by decide) ?_
      refine z_iald (pc := 38) C 1 0 rfl rfl vi_2_372 (v 1 2) (congrArg _ cl_2) dX10_phase_38 ?_
      refine z_iconst (pc := 39) (v := 1) C dX10_phase_39 (by decide) ?_
      refine z_icmp_eq (pc := 40) (tgt := 51) C dX10_phase_40 (by decide) (fun c7 => ?_) (fun c7 => ?_)
      · have h := h.1 c7
        refine z_bipush (pc := 51) (v := -3) C dX10_phase_51 (by decide) ?_
        exact hret 53 _ _ (-3 : Int32) v rfl h dX10_phase_53
      · have h := h.2 c7
        refine z_aload_n (pc := 43) C 0 dX10_phase_43 rfl ?_
        refine z_iload_n (pc := 44) C 1 dX10_phase_44 rfl ?_
        refine z_callRi (pc := 45) C (z_runV (pc := 45) (wc := (wX10 cI cJ d v g)) (As := [.int x1]) C (fun sz => kX10_anyMeet d v g x1 sz h) [0, 1, 2, 3, 4, 5, 6, 7, 8, 9, 10, 11] rfl (by decide) (gdV wq910 wq917 wq918 wq919 wq814) rfl rfl rfl hdX10_anyMeet 0 rfl rfl rfl ⟨Nat.le_of_ble_eq_true rfl, Nat.le_of_ble_eq_true rfl⟩ rfl (Nat.le_of_ble_eq_true rfl) ⟨Nat.zero_le _, Nat.zero_le _⟩ dX10_phase_45) [0, 1, 2, 3, 4, 5, 6, 7, 8, 9, 10, 11] rfl (by decide) (fun r8 u8 h => ?_)
        refine z_if_eq (pc := 48) (tgt := 54) C dX10_phase_48 (by decide) (fun c9 => ?_) (fun c9 => ?_)
        · have h := h.1 c9
          refine z_aload_n (pc := 54) C 0 dX10_phase_54 rfl ?_
          refine z_get (pc := 55) C uw10 0 rfl rfl 0 (by decide) wq809 rfl dX10_phase_55 ?_
          refine z_bipush (pc := 58) (v := 14) C dX10_phase_58 (by decide) ?_
          refine z_iald (pc := 60) C 1 0 rfl rfl vi_14_372 (v 1 14) (congrArg _ cl_14) dX10_phase_60 ?_
          refine z_bipush (pc := 61) (v := 6) C dX10_phase_61 (by decide) ?_
          refine z_icmp_ne (pc := 63) (tgt := 69) C dX10_phase_63 (by decide) (fun c11 => ?_) (fun c11 => ?_)
          · have h := h.1 c11
            refine z_sipush (pc := 69) (v := 216) C dX10_phase_69 (by decide) ?_
            refine z_iconst (pc := 72) (v := 3) C dX10_phase_72 (by decide) ?_
            refine z_aload_n (pc := 73) C 0 dX10_phase_73 rfl ?_
            refine z_get (pc := 74) C uw10 0 rfl rfl 0 (by decide) wq809 rfl dX10_phase_74 ?_
            refine z_bipush (pc := 77) (v := 14) C dX10_phase_77 (by decide) ?_
            refine z_iald (pc := 79) C 1 0 rfl rfl vi_14_372 (v 1 14) (congrArg _ cl_14) dX10_phase_79 ?_
            refine z_imul (pc := 80) C dX10_phase_80 ?_
            refine z_iadd (pc := 81) C dX10_phase_81 ?_
            refine z_istore_n (pc := 82) (lv' := [(3, .int ((216 : Int32) + ((3 : Int32) * (v 1 14)))), (0, .ref (d 0)), (1, .int x1), (2, .int x2)]) C dX10_phase_82 (by decide) rfl ?_
            refine z_aload_n (pc := 83) C 1 dX10_phase_83 rfl ?_
            refine z_get (pc := 84) C uw10 0 rfl rfl 0 (by decide) wq809 rfl dX10_phase_84 ?_
            refine z_iload_n (pc := 87) C 0 dX10_phase_87 rfl ?_
            refine z_iload_n (pc := 88) C 2 dX10_phase_88 rfl ?_
            obtain ⟨g13, h⟩ := h
            refine z_iast (pc := 89) (ws' := (wX10 cI cJ d (st v 1 (((216 : Int32) + ((3 : Int32) * (v 1 14))).toNatClampNeg) x1) g)) C 1 0 rfl rfl g13 dX10_phase_89 rfl sX10_a1 ?_
            refine z_aload_n (pc := 90) C 1 dX10_phase_90 rfl ?_
            refine z_get (pc := 91) C uw10 0 rfl rfl 0 (by decide) wq809 rfl dX10_phase_91 ?_
            refine z_iload_n (pc := 94) C 0 dX10_phase_94 rfl ?_
            refine z_iconst (pc := 95) (v := 1) C dX10_phase_95 (by decide) ?_
            refine z_iadd (pc := 96) C dX10_phase_96 ?_
            refine z_iload_n (pc := 97) C 3 dX10_phase_97 rfl ?_
            obtain ⟨g14, h⟩ := h
            refine z_iast (pc := 98) (ws' := (wX10 cI cJ d (st (st v 1 (((216 : Int32) + ((3 : Int32) * (v 1 14))).toNatClampNeg) x1) 1 ((((216 : Int32) + ((3 : Int32) * (v 1 14))) + (1 : Int32)).toNatClampNeg) x2) g)) C 1 0 rfl rfl g14 dX10_phase_98 rfl sX10_a1 ?_
            refine z_aload_n (pc := 99) C 1 dX10_phase_99 rfl ?_
            refine z_get (pc := 100) C uw10 0 rfl rfl 0 (by decide) wq809 rfl dX10_phase_100 ?_
            refine z_iload_n (pc := 103) C 0 dX10_phase_103 rfl ?_
            refine z_iconst (pc := 104) (v := 2) C dX10_phase_104 (by decide) ?_
            refine z_iadd (pc := 105) C dX10_phase_105 ?_
            refine z_iconst (pc := 106) (v := 0) C dX10_phase_106 (by decide) ?_
            obtain ⟨g15, h⟩ := h
            refine z_iast (pc := 107) (ws' := (wX10 cI cJ d (st (st (st v 1 (((216 : Int32) + ((3 : Int32) * (v 1 14))).toNatClampNeg) x1) 1 ((((216 : Int32) + ((3 : Int32) * (v 1 14))) + (1 : Int32)).toNatClampNeg) x2) 1 ((((216 : Int32) + ((3 : Int32) * (v 1 14))) + (2 : Int32)).toNatClampNeg) (0 : Int32)) g)) C 1 0 rfl rfl g15 dX10_phase_107 rfl sX10_a1 ?_
            refine z_aload_n (pc := 108) C 1 dX10_phase_108 rfl ?_
            refine z_get (pc := 109) C uw10 0 rfl rfl 0 (by decide) wq809 rfl dX10_phase_109 ?_
            refine z_bipush (pc := 112) (v := 14) C dX10_phase_112 (by decide) ?_
            refine z_dup2 (pc := 114) C dX10_phase_114 rfl rfl ?_
            refine z_iald (pc := 115) C 1 0 rfl rfl vi_14_372 ((st (st (st v 1 (((216 : Int32) + ((3 : Int32) * (v 1 14))).toNatClampNeg) x1) 1 ((((216 : Int32) + ((3 : Int32) * (v 1 14))) + (1 : Int32)).toNatClampNeg) x2) 1 ((((216 : Int32) + ((3 : Int32) * (v 1 14))) + (2 : Int32)).toNatClampNeg) (0 : Int32)) 1 14) (congrArg _ cl_14) dX10_phase_115 ?_
            refine z_iconst (pc := 116) (v := 1) C dX10_phase_116 (by decide) ?_
            refine z_iadd (pc := 117) C dX10_phase_117 ?_
            refine z_iast (pc := 118) (ws' := (wX10 cI cJ d (st (st (st (st v 1 (((216 : Int32) + ((3 : Int32) * (v 1 14))).toNatClampNeg) x1) 1 ((((216 : Int32) + ((3 : Int32) * (v 1 14))) + (1 : Int32)).toNatClampNeg) x2) 1 ((((216 : Int32) + ((3 : Int32) * (v 1 14))) + (2 : Int32)).toNatClampNeg) (0 : Int32)) 1 14 (((st (st (st v 1 (((216 : Int32) + ((3 : Int32) * (v 1 14))).toNatClampNeg) x1) 1 ((((216 : Int32) + ((3 : Int32) * (v 1 14))) + (1 : Int32)).toNatClampNeg) x2) 1 ((((216 : Int32) + ((3 : Int32) * (v 1 14))) + (2 : Int32)).toNatClampNeg) (0 : Int32)) 1 14) + (1 : Int32))) g)) C 1 0 rfl rfl vi_14_372 dX10_phase_118 cl_14 sX10_a1 ?_
            refine z_aload_n (pc := 119) C 1 dX10_phase_119 rfl ?_
            refine z_get (pc := 120) C uw10 0 rfl rfl 0 (by decide) wq809 rfl dX10_phase_120 ?_
            refine z_bipush (pc := 123) (v := 14) C dX10_phase_123 (by decide) ?_
            refine z_iald (pc := 125) C 1 0 rfl rfl vi_14_372 ((st (st (st (st v 1 (((216 : Int32) + ((3 : Int32) * (v 1 14))).toNatClampNeg) x1) 1 ((((216 : Int32) + ((3 : Int32) * (v 1 14))) + (1 : Int32)).toNatClampNeg) x2) 1 ((((216 : Int32) + ((3 : Int32) * (v 1 14))) + (2 : Int32)).toNatClampNeg) (0 : Int32)) 1 14 (((st (st (st v 1 (((216 : Int32) + ((3 : Int32) * (v 1 14))).toNatClampNeg) x1) 1 ((((216 : Int32) + ((3 : Int32) * (v 1 14))) + (1 : Int32)).toNatClampNeg) x2) 1 ((((216 : Int32) + ((3 : Int32) * (v 1 14))) + (2 : Int32)).toNatClampNeg) (0 : Int32)) 1 14) + (1 : Int32))) 1 14) (congrArg _ cl_14) dX10_phase_125 ?_
            refine z_iconst (pc := 126) (v := 1) C dX10_phase_126 (by decide) ?_
            refine z_isub (pc := 127) C dX10_phase_127 ?_
            exact hret 128 _ _ (((st (st (st (st v 1 (((216 : Int32) + ((3 : Int32) * (v 1 14))).toNatClampNeg) x1) 1 ((((216 : Int32) + ((3 : Int32) * (v 1 14))) + (1 : Int32)).toNatClampNeg) x2) 1 ((((216 : Int32) + ((3 : Int32) * (v 1 14))) + (2 : Int32)).toNatClampNeg) (0 : Int32)) 1 14 (((st (st (st v 1 (((216 : Int32) + ((3 : Int32) * (v 1 14))).toNatClampNeg) x1) 1 ((((216 : Int32) + ((3 : Int32) * (v 1 14))) + (1 : Int32)).toNatClampNeg) x2) 1 ((((216 : Int32) + ((3 : Int32) * (v 1 14))) + (2 : Int32)).toNatClampNeg) (0 : Int32)) 1 14) + (1 : Int32))) 1 14) - (1 : Int32)) (st (st (st (st v 1 (((216 : Int32) + ((3 : Int32) * (v 1 14))).toNatClampNeg) x1) 1 ((((216 : Int32) + ((3 : Int32) * (v 1 14))) + (1 : Int32)).toNatClampNeg) x2) 1 ((((216 : Int32) + ((3 : Int32) * (v 1 14))) + (2 : Int32)).toNatClampNeg) (0 : Int32)) 1 14 (((st (st (st v 1 (((216 : Int32) + ((3 : Int32) * (v 1 14))).toNatClampNeg) x1) 1 ((((216 : Int32) + ((3 : Int32) * (v 1 14))) + (1 : Int32)).toNatClampNeg) x2) 1 ((((216 : Int32) + ((3 : Int32) * (v 1 14))) + (2 : Int32)).toNatClampNeg) (0 : Int32)) 1 14) + (1 : Int32))) rfl h dX10_phase_128
          · have h := h.2 c11
            refine z_bipush (pc := 66) (v := -4) C dX10_phase_66 (by decide) ?_
            exact hret 68 _ _ (-4 : Int32) v rfl h dX10_phase_68
        · have h := h.2 c9
          refine z_bipush (pc := 51) (v := -3) C dX10_phase_51 (by decide) ?_
          exact hret 53 _ _ (-3 : Int32) v rfl h dX10_phase_53
    · have h := h.2 c5
      refine z_bipush (pc := 30) (v := -2) C dX10_phase_30 (by decide) ?_
      exact hret 32 _ _ (-2 : Int32) v rfl h dX10_phase_32

def qX10_common (Q : Int32 → Prop) : Nat → Int32 → Int32 → Prop
  | 0, _, _ => False
  | n + 1, x0, x1 => ((¬ x1 = 0 → (¬ x1 = 0 ∧ qX10_common (fun r => Q r) n x1 (x0 - x0 / x1 * x1))) ∧ (x1 = 0 → (Q x0)))
def pX10_common (x0 : Int32) (x1 : Int32) (Q : Int32 → Prop) : Prop := qX10_common Q 60 x0 x1
abbrev rmX10_common : Room := { frames := 60, cells := 0, slots := 0, locals := 1260 }
abbrev wdX10_common : List Cond := Cond.code yX10_common cX10_common 2 (some .int) :: TB
theorem hdSX10_common : (yX10_common).cls ≠ "java/lang/invoke/MethodHandle" ∧ (yX10_common).cls ≠ "java/lang/invoke/VarHandle" ∧ (parseMethodDescriptor (yX10_common).desc).map (fun d => d.parameters.length) = some 2 := by decide +kernel
set_option maxHeartbeats 4000000 in
set_option maxRecDepth 100000 in
theorem kqX10_common {l : Launch} {D : va_G} {cI cJ cT : ClassId} : ∀ (n : Nat) (x0 x1 : Int32) (Q : Int32 → Prop) (sz : Nat), qX10_common Q n x0 x1 → Met l yX10_common wdX10_common { frames := n, cells := 0, slots := 0, locals := 21 * n } (Pz D (tyL cI cJ cT) [.int x0, .int x1] ([] : va_W) sz) (va_Qi (fun (r : Int32) (u : Unit) => Q r) (Bz D (tyL cI cJ cT) ([] : va_W) sz (fun (u : Unit) => ([] : va_W))) (va_A ([] : va_W) sz)) 0 0 (va_A ([] : va_W) sz) := by
  intro n
  induction n with
  | zero => intro x0 x1 Q sz h; exact False.elim h
  | succ n ih =>
    intro x0 x1 Q sz h
    refine z_meti (cc := cX10_common) (maxL := 2) (own := RX10) (lv0 := [(0, .int x0), (1, .int x1)]) (by decide) rfl rfl (Nat.le_of_ble_eq_true rfl) rfl ?_
    intro p e s m args below meth c A QQ C hin hret
    refine z_iload_n (pc := 0) C 1 dX10_common_0 rfl ?_
    refine z_if_ne (pc := 1) (tgt := 8) C dX10_common_1 (by decide) (fun c1 => ?_) (fun c1 => ?_)
    · have h := h.1 c1
      refine z_iload_n (pc := 8) C 1 dX10_common_8 rfl ?_
      refine z_iload_n (pc := 9) C 0 dX10_common_9 rfl ?_
      refine z_iload_n (pc := 10) C 1 dX10_common_10 rfl ?_
      obtain ⟨g2, h⟩ := h
      refine z_irem (pc := 11) C dX10_common_11 g2 ?_
      refine z_call0i (pc := 12) C (z_runS (pc := 12) (wc := ([] : va_W)) (As := [.int x1, .int (x0 - x0 / x1 * x1)]) C (fun sz => ih x1 (x0 - x0 / x1 * x1) (fun r => Q r) sz h) [] rfl (by decide) (gdS wq1116 wq1117 wq1118 wq814) rfl rfl rfl hdSX10_common ⟨Nat.le_refl _, by show 8 + (2 + 11) + 21 * n ≤ 21 * (n + 1); omega⟩ rfl (Nat.le_of_ble_eq_true rfl) ⟨Nat.zero_le _, Nat.zero_le _⟩ dX10_common_12) (fun r3 u3 h => ?_)
      exact hret 15 _ _ r3 () rfl h dX10_common_15
    · have h := h.2 c1
      refine z_iload_n (pc := 4) C 0 dX10_common_4 rfl ?_
      refine z_goto (pc := 5) (tgt := 15) C dX10_common_5 (by decide) ?_
      exact hret 15 _ _ x0 () rfl h dX10_common_15
theorem kX10_common {l : Launch} {D : va_G} {cI cJ cT : ClassId} (x0 : Int32) (x1 : Int32) {Q : Int32 → Prop} (sz : Nat) (h : pX10_common x0 x1 Q) : Met l yX10_common wdX10_common rmX10_common (Pz D (tyL cI cJ cT) [.int x0, .int x1] ([] : va_W) sz) (va_Qi (fun (r : Int32) (u : Unit) => Q r) (Bz D (tyL cI cJ cT) ([] : va_W) sz (fun (u : Unit) => ([] : va_W))) (va_A ([] : va_W) sz)) 0 0 (va_A ([] : va_W) sz) := kqX10_common 60 x0 x1 Q sz h

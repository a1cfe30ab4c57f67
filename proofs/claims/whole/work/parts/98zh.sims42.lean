def A0 : AS := fun x i k => iX10 1 (fl x i k)
theorem iX10_1 : iX10 1 = upd (upd (upd (upd (upd (upd (fun _ => 0) 0 (1 : Int32)) 1 (1 : Int32)) 4 (-5 : Int32)) 5 (-5 : Int32)) 6 (-5 : Int32)) 16 (30 : Int32) := by
  unfold iX10
  rw [sa_ne _ _ (by decide), sa_self]
theorem a0_1 (a w : Nat) : A0 1 a w = 0 := by
  show iX10 1 (24 + 24 * a + w) = 0
  rw [iX10_1, upd_at, if_neg (by omega), upd_at, if_neg (by omega), upd_at, if_neg (by omega), upd_at, if_neg (by omega), upd_at, if_neg (by omega), upd_at, if_neg (by omega)]
theorem ab0 : Ab (iX10 1) A0 := fun _ _ _ _ => rfl
theorem no0 {P : Prop} {a : Nat} (h : a < 0) : P := absurd h (Nat.not_lt_zero a)
theorem ro0 : Ro A0 := ⟨0, by decide, rfl, fun i h => no0 h⟩
theorem ci0 : CoI 0 0 0 A0 :=
  ⟨by decide, by decide, rfl, rfl, rfl, .inl rfl, fun _ => ⟨rfl, rfl, rfl, fun a h => no0 h⟩, .inl rfl, .inl rfl, fun a h => no0 h, fun q h => no0 h, ⟨0, by decide, rfl, fun i h => no0 h⟩, .inl rfl, ⟨1, by decide, rfl⟩⟩
theorem z0 : ∀ a, 0 ≤ a → a < 8 → A0 1 a 11 = 0 := fun a _ _ => a0_1 a 11
theorem co0 : CoR 0 0 iX0 iX1 iX5 iX2 iX4_24 A0 := by
  refine ⟨⟨rfl, rfl, rfl, rfl, rfl, rfl, rfl, rfl, rfl, rfl, rfl, rfl⟩, ⟨rfl, rfl, fun a h => no0 h, fun a h => no0 h, fun a h => no0 h⟩, ⟨fun a h => no0 h, fun a h => no0 h, fun a h => no0 h, fun a h => no0 h, fun a h => no0 h, fun a h => no0 h, fun a h => no0 h, fun a h => no0 h, fun a _ _ => rfl, fun a _ h => ?_⟩, ⟨rfl, fun a h => no0 h, fun a h => no0 h, fun a h => no0 h, fun a _ _ => rfl⟩, ⟨rfl, rfl, fun m hm e i h => ?_⟩⟩
  · rw [show iX5 0 0 = 0 from rfl]
    simp [bt]
  · have e2 : (0 : Nat) = m := nI_inj (by decide) (by omega) (show nI 0 = nI m from e)
    exact no0 (e2 ▸ h)
theorem le8 {a : Nat} (h : a < 8) : a = 0 ∨ a = 1 ∨ a = 2 ∨ a = 3 ∨ a = 4 ∨ a = 5 ∨ a = 6 ∨ a = 7 := by omega
theorem sp0 : SpR 0 iX1 iX5 := by
  refine ⟨fun a _ _ => rfl, fun a h => ?_, fun a _ h => ?_, fun a _ h => ?_⟩
  · rcases le8 h with rfl | rfl | rfl | rfl | rfl | rfl | rfl | rfl <;> rfl
  · rcases le8 h with rfl | rfl | rfl | rfl | rfl | rfl | rfl | rfl <;> exact ⟨rfl, rfl, rfl, rfl⟩
  · rcases le8 h with rfl | rfl | rfl | rfl | rfl | rfl | rfl | rfl <;> exact ⟨rfl, rfl, rfl, rfl, rfl⟩
theorem wo0 {S : Nat → Int32} (h : Ab S A0) : Wo 0 0 0 0 A0 iX0 iX1 iX5 iX2 iX4_24 iX7 iX4_8 iX4_5 iX4_8 S :=
  ⟨h, by decide, co0, ci0, ⟨fun a b h => no0 h, fun a b h => no0 h⟩, fun _ => sp0, ⟨rfl, rfl, 30, by decide, by decide, rfl, 0, by decide, rfl, fun i h => no0 h⟩, ⟨rfl, rfl, 0, by decide, rfl, fun i h => no0 h⟩, ⟨rfl, rfl, 0, by decide, rfl, fun i h => no0 h⟩, ⟨rfl, rfl, 0, by decide, rfl, fun i h => no0 h⟩, z0, ⟨⟨0, by decide, rfl⟩, ⟨0, by decide, rfl⟩, ro0⟩⟩
theorem le6 {a : Nat} (h : a < 6) : a = 0 ∨ a = 1 ∨ a = 2 ∨ a = 3 ∨ a = 4 ∨ a = 5 := by omega
theorem hq0 : pX10_clears_ iX10 (fun vM => Inv (fun _ _ => 0) iX0 iX1 iX5 iX2 iX4_24 iX7 iX4_8 iX4_5 iX4_8 iX0 iX1 iX5 iX2 iX4_24 iX7 iX4_8 iX4_5 iX4_8 iX0 iX1 iX5 iX2 iX4_24 iX3 (fun _ => iX6) (fun _ => (fun _ _ => 0)) vM (fun _ _ => 0)) := by
  refine m_clears ci0 z0 ab0 (fun M o mt => ?_)
  have o0 : M 0 = iX10 0 := o 0 (by decide) (by decide)
  have o1 : M 1 = iX10 1 := o 1 (by decide) (by decide)
  have o8 : M 8 = iX10 8 := o 8 (by decide) (by decide)
  have o9 : M 9 = iX10 9 := o 9 (by decide) (by decide)
  refine ⟨0, 0, 0, 0, A0, wo0 (by rw [o1]; exact ab0), mt, by decide, rfl, by rw [o0]; rfl, by rw [o0]; rfl, .inl (by rw [o0]; rfl), ⟨rfl, rfl, rfl, rfl, rfl⟩, ⟨by rw [o0]; rfl, 0, by decide, by rw [o0]; rfl, fun i h => no0 h⟩, ⟨fun t h => .inl ?_, fun t h => ⟨?_, 0, by decide, ?_⟩, fun t h m hm e i hi => rfl⟩⟩
  · rw [o8, o9]
    rcases le6 h with rfl | rfl | rfl | rfl | rfl | rfl <;> exact ⟨rfl, rfl, rfl⟩
  · rw [o9]; rfl
  · rw [o9]; rfl

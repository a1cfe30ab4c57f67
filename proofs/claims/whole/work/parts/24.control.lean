def pX0_copyFrom (v : Lf) (vO : Lf) (vOj : Lf) (vOs : Lf) (vOp : Lf) (vOr : Lf) (vj : Lf) (vs : Lf) (vp : Lf) (vr : Lf)  (Q : Lf → Lf → Lf → Lf → Lf → Prop) : Prop := (pX1_copyFrom vj vOj (fun vj_1 => (pX5_copyFrom vs vOs (fun vs_2 => (pX2_copyFrom vp vOp (fun vp_3 => (pX4_copyFrom 72 72 vr vOr (fun vr_4 => ((narrow .boolean (.int (vO 0 4)) = .int (vO 0 4) ∧ fits .boolean (.int (vO 0 4)) = true) ∧ (Q (st (st (st (st (st (st (st (st (st (st (st (st v 0 4 (vO 0 4)) 0 5 (vO 0 5)) 0 6 (vO 0 6)) 0 7 (vO 0 7)) 0 8 (vO 0 8)) 0 9 (vO 0 9)) 0 10 (vO 0 10)) 0 11 (vO 0 11)) 0 12 (vO 0 12)) 0 13 (vO 0 13)) 0 14 (vO 0 14)) 0 15 (vO 0 15)) vj_1 vs_2 vp_3 vr_4))))))))))
abbrev rmX0_copyFrom : Room := { frames := 2, cells := 0, slots := 0, locals := 121 }
abbrev wdX0_copyFrom : List Cond := Cond.code yX0_copyFrom cX0_copyFrom 2 none :: TB
theorem hdSX0_copyFrom : (yX0_copyFrom).cls ≠ "java/lang/invoke/MethodHandle" ∧ (yX0_copyFrom).cls ≠ "java/lang/invoke/VarHandle" ∧ (parseMethodDescriptor (yX0_copyFrom).desc).map (fun d => d.parameters.length) = some 1 := by decide +kernel
theorem hdX0_copyFrom : (yX0_copyFrom).cls = RX0 ∧ (yX0_copyFrom).cls ≠ "java/lang/invoke/MethodHandle" ∧ (yX0_copyFrom).cls ≠ "java/lang/invoke/VarHandle" ∧ (parseMethodDescriptor (yX0_copyFrom).desc).map (fun d => d.parameters.length) = some 1 := ⟨rfl, hdSX0_copyFrom⟩
set_option maxHeartbeats 4000000 in
set_option maxRecDepth 100000 in
theorem kX0_copyFrom {l : Launch} {D : va_G} {cI cJ cT : ClassId} (d : Nat → Nat) (dj : Nat → Nat) (ds : Nat → Nat) (dp : Nat → Nat) (dr : Nat → Nat) (dO : Nat → Nat) (dOj : Nat → Nat) (dOs : Nat → Nat) (dOp : Nat → Nat) (dOr : Nat → Nat)  (v : Lf) (vO : Lf) (vOj : Lf) (vOs : Lf) (vOp : Lf) (vOr : Lf) (vj : Lf) (vs : Lf) (vp : Lf) (vr : Lf)  {Q : Lf → Lf → Lf → Lf → Lf → Prop} (sz : Nat) (h : pX0_copyFrom v vO vOj vOs vOp vOr vj vs vp vr Q) : Met l yX0_copyFrom wdX0_copyFrom rmX0_copyFrom (Pz D (tyL cI cJ cT) [.ref (d 0), .ref (dO 0)] ((wX0 d (dj 0) (ds 0) (dp 0) (dr 0) v) ++ ((wX0 dO (dOj 0) (dOs 0) (dOp 0) (dOr 0) vO) ++ ((wX1 cI dOj vOj) ++ ((wX5 cI dOs vOs) ++ ((wX2 cI dOp vOp) ++ ((wX4 cI 72 dOr vOr) ++ ((wX1 cI dj vj) ++ ((wX5 cI ds vs) ++ ((wX2 cI dp vp) ++ (wX4 cI 72 dr vr)))))))))) sz) (va_Qv (fun (u : Lf × Lf × Lf × Lf × Lf) => Q u.1 u.2.1 u.2.2.1 u.2.2.2.1 u.2.2.2.2) (Bz D (tyL cI cJ cT) ((wX0 d (dj 0) (ds 0) (dp 0) (dr 0) v) ++ ((wX0 dO (dOj 0) (dOs 0) (dOp 0) (dOr 0) vO) ++ ((wX1 cI dOj vOj) ++ ((wX5 cI dOs vOs) ++ ((wX2 cI dOp vOp) ++ ((wX4 cI 72 dOr vOr) ++ ((wX1 cI dj vj) ++ ((wX5 cI ds vs) ++ ((wX2 cI dp vp) ++ (wX4 cI 72 dr vr)))))))))) sz (fun (u : Lf × Lf × Lf × Lf × Lf) => ((wX0 d (dj 0) (ds 0) (dp 0) (dr 0) u.1) ++ ((wX0 dO (dOj 0) (dOs 0) (dOp 0) (dOr 0) vO) ++ ((wX1 cI dOj vOj) ++ ((wX5 cI dOs vOs) ++ ((wX2 cI dOp vOp) ++ ((wX4 cI 72 dOr vOr) ++ ((wX1 cI dj u.2.1) ++ ((wX5 cI ds u.2.2.1) ++ ((wX2 cI dp u.2.2.2.1) ++ (wX4 cI 72 dr u.2.2.2.2)))))))))))) (va_A ((wX0 d (dj 0) (ds 0) (dp 0) (dr 0) v) ++ ((wX0 dO (dOj 0) (dOs 0) (dOp 0) (dOr 0) vO) ++ ((wX1 cI dOj vOj) ++ ((wX5 cI dOs vOs) ++ ((wX2 cI dOp vOp) ++ ((wX4 cI 72 dOr vOr) ++ ((wX1 cI dj vj) ++ ((wX5 cI ds vs) ++ ((wX2 cI dp vp) ++ (wX4 cI 72 dr vr)))))))))) sz)) 0 0 (va_A ((wX0 d (dj 0) (ds 0) (dp 0) (dr 0) v) ++ ((wX0 dO (dOj 0) (dOs 0) (dOp 0) (dOr 0) vO) ++ ((wX1 cI dOj vOj) ++ ((wX5 cI dOs vOs) ++ ((wX2 cI dOp vOp) ++ ((wX4 cI 72 dOr vOr) ++ ((wX1 cI dj vj) ++ ((wX5 cI ds vs) ++ ((wX2 cI dp vp) ++ (wX4 cI 72 dr vr)))))))))) sz) := by
  refine z_metv (cc := cX0_copyFrom) (maxL := 2) (own := RX0) (lv0 := [(0, .ref (d 0)), (1, .ref (dO 0))]) (by decide) rfl rfl (Nat.le_of_ble_eq_true rfl) rfl ?_
  intro p e s m args below meth c A QQ C hin hret
  refine z_aload_n (pc := 0) C 0 dX0_copyFrom_0 rfl ?_
  refine z_get (pc := 1) C uw0 0 rfl rfl 0 (by decide) wq37 rfl dX0_copyFrom_1 ?_
  refine z_aload_n (pc := 4) C 1 dX0_copyFrom_4 rfl ?_
  refine z_get (pc := 5) C uw0 1 rfl rfl 0 (by decide) wq37 rfl dX0_copyFrom_5 ?_
  refine z_callv (pc := 8) (wr := ((wX0 d (dj 0) (ds 0) (dp 0) (dr 0) v) ++ ((wX0 dO (dOj 0) (dOs 0) (dOp 0) (dOr 0) vO) ++ ((wX5 cI dOs vOs) ++ ((wX2 cI dOp vOp) ++ ((wX4 cI 72 dOr vOr) ++ ((wX5 cI ds vs) ++ ((wX2 cI dp vp) ++ (wX4 cI 72 dr vr))))))))) (w1 := fun (u : Lf) => ((wX1 cI dj u) ++ (wX1 cI dOj vOj))) (w2 := fun (u : Lf) => ((wX0 d (dj 0) (ds 0) (dp 0) (dr 0) v) ++ ((wX0 dO (dOj 0) (dOs 0) (dOp 0) (dOr 0) vO) ++ ((wX1 cI dOj vOj) ++ ((wX5 cI dOs vOs) ++ ((wX2 cI dOp vOp) ++ ((wX4 cI 72 dOr vOr) ++ ((wX1 cI dj u) ++ ((wX5 cI ds vs) ++ ((wX2 cI dp vp) ++ (wX4 cI 72 dr vr))))))))))) C (z_runV (pc := 8) (wc := ((wX1 cI dj vj) ++ (wX1 cI dOj vOj))) (As := [.ref (dOj 0)]) C (fun sz => kX1_copyFrom dj dOj vj vOj sz h) [22, 23, 24, 25, 26, 27, 2, 3, 4, 5, 6, 7] rfl (by decide) (gdV wq62 wq89 wq90 wq91 wq36) rfl rfl rfl hdX1_copyFrom 22 rfl rfl rfl ⟨Nat.le_of_ble_eq_true rfl, Nat.le_of_ble_eq_true rfl⟩ rfl (Nat.le_of_ble_eq_true rfl) ⟨Nat.zero_le _, Nat.zero_le _⟩ dX0_copyFrom_8) [22, 23, 24, 25, 26, 27, 2, 3, 4, 5, 6, 7] [0, 1, 8, 9, 10, 11, 12, 13, 14, 15, 16, 17, 18, 19, 20, 21, 28, 29, 30, 31, 32, 33, 34, 35, 36, 37, 38, 39, 40, 41] [0, 1, 36, 37, 38, 39, 40, 41, 2, 3, 4, 5, 6, 7, 8, 9, 10, 11, 12, 13, 14, 15, 30, 31, 32, 33, 34, 35, 16, 17, 18, 19, 20, 21, 22, 23, 24, 25, 26, 27, 28, 29] rfl rfl (by decide) (by decide) (fun _ => rfl) (by decide) (fun u1 h => ?_)
  obtain ⟨vj_1, hu1⟩ : ∃ z, z = u1 := ⟨_, rfl⟩
  subst hu1
  refine z_aload_n (pc := 11) C 0 dX0_copyFrom_11 rfl ?_
  refine z_get (pc := 12) C uw0 0 rfl rfl 1 (by decide) wq41 rfl dX0_copyFrom_12 ?_
  refine z_aload_n (pc := 15) C 1 dX0_copyFrom_15 rfl ?_
  refine z_get (pc := 16) C uw0 1 rfl rfl 1 (by decide) wq41 rfl dX0_copyFrom_16 ?_
  refine z_callv (pc := 19) (wr := ((wX0 d (dj 0) (ds 0) (dp 0) (dr 0) v) ++ ((wX0 dO (dOj 0) (dOs 0) (dOp 0) (dOr 0) vO) ++ ((wX1 cI dOj vOj) ++ ((wX2 cI dOp vOp) ++ ((wX4 cI 72 dOr vOr) ++ ((wX1 cI dj vj_1) ++ ((wX2 cI dp vp) ++ (wX4 cI 72 dr vr))))))))) (w1 := fun (u : Lf) => ((wX5 cI ds u) ++ (wX5 cI dOs vOs))) (w2 := fun (u : Lf) => ((wX0 d (dj 0) (ds 0) (dp 0) (dr 0) v) ++ ((wX0 dO (dOj 0) (dOs 0) (dOp 0) (dOr 0) vO) ++ ((wX1 cI dOj vOj) ++ ((wX5 cI dOs vOs) ++ ((wX2 cI dOp vOp) ++ ((wX4 cI 72 dOr vOr) ++ ((wX1 cI dj vj_1) ++ ((wX5 cI ds u) ++ ((wX2 cI dp vp) ++ (wX4 cI 72 dr vr))))))))))) C (z_runV (pc := 19) (wc := ((wX5 cI ds vs) ++ (wX5 cI dOs vOs))) (As := [.ref (dOs 0)]) C (fun sz => kX5_copyFrom ds dOs vs vOs sz h) [28, 29, 30, 31, 32, 33, 34, 35, 8, 9, 10, 11, 12, 13, 14, 15] rfl (by decide) (gdV wq68 wq92 wq93 wq94 wq40) rfl rfl rfl hdX5_copyFrom 28 rfl rfl rfl ⟨Nat.le_of_ble_eq_true rfl, Nat.le_of_ble_eq_true rfl⟩ rfl (Nat.le_of_ble_eq_true rfl) ⟨Nat.zero_le _, Nat.zero_le _⟩ dX0_copyFrom_19) [28, 29, 30, 31, 32, 33, 34, 35, 8, 9, 10, 11, 12, 13, 14, 15] [0, 1, 2, 3, 4, 5, 6, 7, 16, 17, 18, 19, 20, 21, 22, 23, 24, 25, 26, 27, 36, 37, 38, 39, 40, 41] [0, 1, 2, 3, 4, 5, 6, 7, 34, 35, 36, 37, 38, 39, 40, 41, 8, 9, 10, 11, 12, 13, 14, 15, 16, 17, 18, 19, 26, 27, 28, 29, 30, 31, 32, 33, 20, 21, 22, 23, 24, 25] rfl rfl (by decide) (by decide) (fun _ => rfl) (by decide) (fun u2 h => ?_)
  obtain ⟨vs_2, hu2⟩ : ∃ z, z = u2 := ⟨_, rfl⟩
  subst hu2
  refine z_aload_n (pc := 22) C 0 dX0_copyFrom_22 rfl ?_
  refine z_get (pc := 23) C uw0 0 rfl rfl 2 (by decide) wq45 rfl dX0_copyFrom_23 ?_
  refine z_aload_n (pc := 26) C 1 dX0_copyFrom_26 rfl ?_
  refine z_get (pc := 27) C uw0 1 rfl rfl 2 (by decide) wq45 rfl dX0_copyFrom_27 ?_
  refine z_callv (pc := 30) (wr := ((wX0 d (dj 0) (ds 0) (dp 0) (dr 0) v) ++ ((wX0 dO (dOj 0) (dOs 0) (dOp 0) (dOr 0) vO) ++ ((wX1 cI dOj vOj) ++ ((wX5 cI dOs vOs) ++ ((wX4 cI 72 dOr vOr) ++ ((wX1 cI dj vj_1) ++ ((wX5 cI ds vs_2) ++ (wX4 cI 72 dr vr))))))))) (w1 := fun (u : Lf) => ((wX2 cI dp u) ++ (wX2 cI dOp vOp))) (w2 := fun (u : Lf) => ((wX0 d (dj 0) (ds 0) (dp 0) (dr 0) v) ++ ((wX0 dO (dOj 0) (dOs 0) (dOp 0) (dOr 0) vO) ++ ((wX1 cI dOj vOj) ++ ((wX5 cI dOs vOs) ++ ((wX2 cI dOp vOp) ++ ((wX4 cI 72 dOr vOr) ++ ((wX1 cI dj vj_1) ++ ((wX5 cI ds vs_2) ++ ((wX2 cI dp u) ++ (wX4 cI 72 dr vr))))))))))) C (z_runV (pc := 30) (wc := ((wX2 cI dp vp) ++ (wX2 cI dOp vOp))) (As := [.ref (dOp 0)]) C (fun sz => kX2_copyFrom dp dOp vp vOp sz h) [36, 37, 38, 39, 16, 17, 18, 19] rfl (by decide) (gdV wq71 wq95 wq96 wq97 wq44) rfl rfl rfl hdX2_copyFrom 36 rfl rfl rfl ⟨Nat.le_of_ble_eq_true rfl, Nat.le_of_ble_eq_true rfl⟩ rfl (Nat.le_of_ble_eq_true rfl) ⟨Nat.zero_le _, Nat.zero_le _⟩ dX0_copyFrom_30) [36, 37, 38, 39, 16, 17, 18, 19] [0, 1, 2, 3, 4, 5, 6, 7, 8, 9, 10, 11, 12, 13, 14, 15, 20, 21, 22, 23, 24, 25, 26, 27, 28, 29, 30, 31, 32, 33, 34, 35, 40, 41] [0, 1, 2, 3, 4, 5, 6, 7, 8, 9, 10, 11, 12, 13, 14, 15, 38, 39, 40, 41, 16, 17, 18, 19, 20, 21, 22, 23, 24, 25, 26, 27, 28, 29, 30, 31, 34, 35, 36, 37, 32, 33] rfl rfl (by decide) (by decide) (fun _ => rfl) (by decide) (fun u3 h => ?_)
  obtain ⟨vp_3, hu3⟩ : ∃ z, z = u3 := ⟨_, rfl⟩
  subst hu3
  refine z_aload_n (pc := 33) C 0 dX0_copyFrom_33 rfl ?_
  refine z_get (pc := 34) C uw0 0 rfl rfl 3 (by decide) wq49 rfl dX0_copyFrom_34 ?_
  refine z_aload_n (pc := 37) C 1 dX0_copyFrom_37 rfl ?_
  refine z_get (pc := 38) C uw0 1 rfl rfl 3 (by decide) wq49 rfl dX0_copyFrom_38 ?_
  refine z_callv (pc := 41) (wr := ((wX0 d (dj 0) (ds 0) (dp 0) (dr 0) v) ++ ((wX0 dO (dOj 0) (dOs 0) (dOp 0) (dOr 0) vO) ++ ((wX1 cI dOj vOj) ++ ((wX5 cI dOs vOs) ++ ((wX2 cI dOp vOp) ++ ((wX1 cI dj vj_1) ++ ((wX5 cI ds vs_2) ++ (wX2 cI dp vp_3))))))))) (w1 := fun (u : Lf) => ((wX4 cI 72 dr u) ++ (wX4 cI 72 dOr vOr))) (w2 := fun (u : Lf) => ((wX0 d (dj 0) (ds 0) (dp 0) (dr 0) v) ++ ((wX0 dO (dOj 0) (dOs 0) (dOp 0) (dOr 0) vO) ++ ((wX1 cI dOj vOj) ++ ((wX5 cI dOs vOs) ++ ((wX2 cI dOp vOp) ++ ((wX4 cI 72 dOr vOr) ++ ((wX1 cI dj vj_1) ++ ((wX5 cI ds vs_2) ++ ((wX2 cI dp vp_3) ++ (wX4 cI 72 dr u))))))))))) C (z_runV (pc := 41) (wc := ((wX4 cI 72 dr vr) ++ (wX4 cI 72 dOr vOr))) (As := [.ref (dOr 0)]) C (fun sz => kX4_copyFrom dr dOr 72 72 vr vOr sz h) [40, 41, 20, 21] rfl (by decide) (gdV wq74 wq98 wq99 wq100 wq48) rfl rfl rfl hdX4_copyFrom 40 rfl rfl rfl ⟨Nat.le_of_ble_eq_true rfl, Nat.le_of_ble_eq_true rfl⟩ rfl (Nat.le_of_ble_eq_true rfl) ⟨Nat.zero_le _, Nat.zero_le _⟩ dX0_copyFrom_41) [40, 41, 20, 21] [0, 1, 2, 3, 4, 5, 6, 7, 8, 9, 10, 11, 12, 13, 14, 15, 16, 17, 18, 19, 22, 23, 24, 25, 26, 27, 28, 29, 30, 31, 32, 33, 34, 35, 36, 37, 38, 39] [0, 1, 2, 3, 4, 5, 6, 7, 8, 9, 10, 11, 12, 13, 14, 15, 16, 17, 18, 19, 40, 41, 20, 21, 22, 23, 24, 25, 26, 27, 28, 29, 30, 31, 32, 33, 34, 35, 36, 37, 38, 39] rfl rfl (by decide) (by decide) (fun _ => rfl) (by decide) (fun u4 h => ?_)
  obtain ⟨vr_4, hu4⟩ : ∃ z, z = u4 := ⟨_, rfl⟩
  subst hu4
  refine z_aload_n (pc := 44) C 0 dX0_copyFrom_44 rfl ?_
  refine z_aload_n (pc := 45) C 1 dX0_copyFrom_45 rfl ?_
  refine z_get (pc := 46) C uw0 1 rfl rfl 4 (by decide) wq81 rfl dX0_copyFrom_46 ?_
  obtain ⟨g5, h⟩ := h
  refine z_put (pc := 49) (ws' := ((wX0 d (dj 0) (ds 0) (dp 0) (dr 0) (st v 0 4 (vO 0 4))) ++ ((wX0 dO (dOj 0) (dOs 0) (dOp 0) (dOr 0) vO) ++ ((wX1 cI dOj vOj) ++ ((wX5 cI dOs vOs) ++ ((wX2 cI dOp vOp) ++ ((wX4 cI 72 dOr vOr) ++ ((wX1 cI dj vj_1) ++ ((wX5 cI ds vs_2) ++ ((wX2 cI dp vp_3) ++ (wX4 cI 72 dr vr_4))))))))))) C uw0 tyX0 tyX0_ok nmX0 0 rfl rfl 4 (by decide) wq81 rfl g5.1 g5.2 (Nat.le_of_ble_eq_true rfl) dX0_copyFrom_49 (set_l (Nat.le_of_ble_eq_true rfl) sX0_f4) ?_
  refine z_aload_n (pc := 52) C 0 dX0_copyFrom_52 rfl ?_
  refine z_aload_n (pc := 53) C 1 dX0_copyFrom_53 rfl ?_
  refine z_get (pc := 54) C uw0 1 rfl rfl 5 (by decide) wq82 rfl dX0_copyFrom_54 ?_
  refine z_put (pc := 57) (ws' := ((wX0 d (dj 0) (ds 0) (dp 0) (dr 0) (st (st v 0 4 (vO 0 4)) 0 5 (vO 0 5))) ++ ((wX0 dO (dOj 0) (dOs 0) (dOp 0) (dOr 0) vO) ++ ((wX1 cI dOj vOj) ++ ((wX5 cI dOs vOs) ++ ((wX2 cI dOp vOp) ++ ((wX4 cI 72 dOr vOr) ++ ((wX1 cI dj vj_1) ++ ((wX5 cI ds vs_2) ++ ((wX2 cI dp vp_3) ++ (wX4 cI 72 dr vr_4))))))))))) C uw0 tyX0 tyX0_ok nmX0 0 rfl rfl 5 (by decide) wq82 rfl rfl rfl (Nat.le_of_ble_eq_true rfl) dX0_copyFrom_57 (set_l (Nat.le_of_ble_eq_true rfl) sX0_f5) ?_
  refine z_aload_n (pc := 60) C 0 dX0_copyFrom_60 rfl ?_
  refine z_aload_n (pc := 61) C 1 dX0_copyFrom_61 rfl ?_
  refine z_get (pc := 62) C uw0 1 rfl rfl 6 (by decide) wq50 rfl dX0_copyFrom_62 ?_
  refine z_put (pc := 65) (ws' := ((wX0 d (dj 0) (ds 0) (dp 0) (dr 0) (st (st (st v 0 4 (vO 0 4)) 0 5 (vO 0 5)) 0 6 (vO 0 6))) ++ ((wX0 dO (dOj 0) (dOs 0) (dOp 0) (dOr 0) vO) ++ ((wX1 cI dOj vOj) ++ ((wX5 cI dOs vOs) ++ ((wX2 cI dOp vOp) ++ ((wX4 cI 72 dOr vOr) ++ ((wX1 cI dj vj_1) ++ ((wX5 cI ds vs_2) ++ ((wX2 cI dp vp_3) ++ (wX4 cI 72 dr vr_4))))))))))) C uw0 tyX0 tyX0_ok nmX0 0 rfl rfl 6 (by decide) wq50 rfl rfl rfl (Nat.le_of_ble_eq_true rfl) dX0_copyFrom_65 (set_l (Nat.le_of_ble_eq_true rfl) sX0_f6) ?_
  refine z_aload_n (pc := 68) C 0 dX0_copyFrom_68 rfl ?_
  refine z_aload_n (pc := 69) C 1 dX0_copyFrom_69 rfl ?_
  refine z_get (pc := 70) C uw0 1 rfl rfl 7 (by decide) wq51 rfl dX0_copyFrom_70 ?_
  refine z_put (pc := 73) (ws' := ((wX0 d (dj 0) (ds 0) (dp 0) (dr 0) (st (st (st (st v 0 4 (vO 0 4)) 0 5 (vO 0 5)) 0 6 (vO 0 6)) 0 7 (vO 0 7))) ++ ((wX0 dO (dOj 0) (dOs 0) (dOp 0) (dOr 0) vO) ++ ((wX1 cI dOj vOj) ++ ((wX5 cI dOs vOs) ++ ((wX2 cI dOp vOp) ++ ((wX4 cI 72 dOr vOr) ++ ((wX1 cI dj vj_1) ++ ((wX5 cI ds vs_2) ++ ((wX2 cI dp vp_3) ++ (wX4 cI 72 dr vr_4))))))))))) C uw0 tyX0 tyX0_ok nmX0 0 rfl rfl 7 (by decide) wq51 rfl rfl rfl (Nat.le_of_ble_eq_true rfl) dX0_copyFrom_73 (set_l (Nat.le_of_ble_eq_true rfl) sX0_f7) ?_
  refine z_aload_n (pc := 76) C 0 dX0_copyFrom_76 rfl ?_
  refine z_aload_n (pc := 77) C 1 dX0_copyFrom_77 rfl ?_
  refine z_get (pc := 78) C uw0 1 rfl rfl 8 (by decide) wq52 rfl dX0_copyFrom_78 ?_
  refine z_put (pc := 81) (ws' := ((wX0 d (dj 0) (ds 0) (dp 0) (dr 0) (st (st (st (st (st v 0 4 (vO 0 4)) 0 5 (vO 0 5)) 0 6 (vO 0 6)) 0 7 (vO 0 7)) 0 8 (vO 0 8))) ++ ((wX0 dO (dOj 0) (dOs 0) (dOp 0) (dOr 0) vO) ++ ((wX1 cI dOj vOj) ++ ((wX5 cI dOs vOs) ++ ((wX2 cI dOp vOp) ++ ((wX4 cI 72 dOr vOr) ++ ((wX1 cI dj vj_1) ++ ((wX5 cI ds vs_2) ++ ((wX2 cI dp vp_3) ++ (wX4 cI 72 dr vr_4))))))))))) C uw0 tyX0 tyX0_ok nmX0 0 rfl rfl 8 (by decide) wq52 rfl rfl rfl (Nat.le_of_ble_eq_true rfl) dX0_copyFrom_81 (set_l (Nat.le_of_ble_eq_true rfl) sX0_f8) ?_
  refine z_aload_n (pc := 84) C 0 dX0_copyFrom_84 rfl ?_
  refine z_aload_n (pc := 85) C 1 dX0_copyFrom_85 rfl ?_
  refine z_get (pc := 86) C uw0 1 rfl rfl 9 (by decide) wq83 rfl dX0_copyFrom_86 ?_
  refine z_put (pc := 89) (ws' := ((wX0 d (dj 0) (ds 0) (dp 0) (dr 0) (st (st (st (st (st (st v 0 4 (vO 0 4)) 0 5 (vO 0 5)) 0 6 (vO 0 6)) 0 7 (vO 0 7)) 0 8 (vO 0 8)) 0 9 (vO 0 9))) ++ ((wX0 dO (dOj 0) (dOs 0) (dOp 0) (dOr 0) vO) ++ ((wX1 cI dOj vOj) ++ ((wX5 cI dOs vOs) ++ ((wX2 cI dOp vOp) ++ ((wX4 cI 72 dOr vOr) ++ ((wX1 cI dj vj_1) ++ ((wX5 cI ds vs_2) ++ ((wX2 cI dp vp_3) ++ (wX4 cI 72 dr vr_4))))))))))) C uw0 tyX0 tyX0_ok nmX0 0 rfl rfl 9 (by decide) wq83 rfl rfl rfl (Nat.le_of_ble_eq_true rfl) dX0_copyFrom_89 (set_l (Nat.le_of_ble_eq_true rfl) sX0_f9) ?_
  refine z_aload_n (pc := 92) C 0 dX0_copyFrom_92 rfl ?_
  refine z_aload_n (pc := 93) C 1 dX0_copyFrom_93 rfl ?_
  refine z_get (pc := 94) C uw0 1 rfl rfl 10 (by decide) wq84 rfl dX0_copyFrom_94 ?_
  refine z_put (pc := 97) (ws' := ((wX0 d (dj 0) (ds 0) (dp 0) (dr 0) (st (st (st (st (st (st (st v 0 4 (vO 0 4)) 0 5 (vO 0 5)) 0 6 (vO 0 6)) 0 7 (vO 0 7)) 0 8 (vO 0 8)) 0 9 (vO 0 9)) 0 10 (vO 0 10))) ++ ((wX0 dO (dOj 0) (dOs 0) (dOp 0) (dOr 0) vO) ++ ((wX1 cI dOj vOj) ++ ((wX5 cI dOs vOs) ++ ((wX2 cI dOp vOp) ++ ((wX4 cI 72 dOr vOr) ++ ((wX1 cI dj vj_1) ++ ((wX5 cI ds vs_2) ++ ((wX2 cI dp vp_3) ++ (wX4 cI 72 dr vr_4))))))))))) C uw0 tyX0 tyX0_ok nmX0 0 rfl rfl 10 (by decide) wq84 rfl rfl rfl (Nat.le_of_ble_eq_true rfl) dX0_copyFrom_97 (set_l (Nat.le_of_ble_eq_true rfl) sX0_f10) ?_
  refine z_aload_n (pc := 100) C 0 dX0_copyFrom_100 rfl ?_
  refine z_aload_n (pc := 101) C 1 dX0_copyFrom_101 rfl ?_
  refine z_get (pc := 102) C uw0 1 rfl rfl 11 (by decide) wq85 rfl dX0_copyFrom_102 ?_
  refine z_put (pc := 105) (ws' := ((wX0 d (dj 0) (ds 0) (dp 0) (dr 0) (st (st (st (st (st (st (st (st v 0 4 (vO 0 4)) 0 5 (vO 0 5)) 0 6 (vO 0 6)) 0 7 (vO 0 7)) 0 8 (vO 0 8)) 0 9 (vO 0 9)) 0 10 (vO 0 10)) 0 11 (vO 0 11))) ++ ((wX0 dO (dOj 0) (dOs 0) (dOp 0) (dOr 0) vO) ++ ((wX1 cI dOj vOj) ++ ((wX5 cI dOs vOs) ++ ((wX2 cI dOp vOp) ++ ((wX4 cI 72 dOr vOr) ++ ((wX1 cI dj vj_1) ++ ((wX5 cI ds vs_2) ++ ((wX2 cI dp vp_3) ++ (wX4 cI 72 dr vr_4))))))))))) C uw0 tyX0 tyX0_ok nmX0 0 rfl rfl 11 (by decide) wq85 rfl rfl rfl (Nat.le_of_ble_eq_true rfl) dX0_copyFrom_105 (set_l (Nat.le_of_ble_eq_true rfl) sX0_f11) ?_
  refine z_aload_n (pc := 108) C 0 dX0_copyFrom_108 rfl ?_
  refine z_aload_n (pc := 109) C 1 dX0_copyFrom_109 rfl ?_
  refine z_get (pc := 110) C uw0 1 rfl rfl 12 (by decide) wq53 rfl dX0_copyFrom_110 ?_
  refine z_put (pc := 113) (ws' := ((wX0 d (dj 0) (ds 0) (dp 0) (dr 0) (st (st (st (st (st (st (st (st (st v 0 4 (vO 0 4)) 0 5 (vO 0 5)) 0 6 (vO 0 6)) 0 7 (vO 0 7)) 0 8 (vO 0 8)) 0 9 (vO 0 9)) 0 10 (vO 0 10)) 0 11 (vO 0 11)) 0 12 (vO 0 12))) ++ ((wX0 dO (dOj 0) (dOs 0) (dOp 0) (dOr 0) vO) ++ ((wX1 cI dOj vOj) ++ ((wX5 cI dOs vOs) ++ ((wX2 cI dOp vOp) ++ ((wX4 cI 72 dOr vOr) ++ ((wX1 cI dj vj_1) ++ ((wX5 cI ds vs_2) ++ ((wX2 cI dp vp_3) ++ (wX4 cI 72 dr vr_4))))))))))) C uw0 tyX0 tyX0_ok nmX0 0 rfl rfl 12 (by decide) wq53 rfl rfl rfl (Nat.le_of_ble_eq_true rfl) dX0_copyFrom_113 (set_l (Nat.le_of_ble_eq_true rfl) sX0_f12) ?_
  refine z_aload_n (pc := 116) C 0 dX0_copyFrom_116 rfl ?_
  refine z_aload_n (pc := 117) C 1 dX0_copyFrom_117 rfl ?_
  refine z_get (pc := 118) C uw0 1 rfl rfl 13 (by decide) wq86 rfl dX0_copyFrom_118 ?_
  refine z_put (pc := 121) (ws' := ((wX0 d (dj 0) (ds 0) (dp 0) (dr 0) (st (st (st (st (st (st (st (st (st (st v 0 4 (vO 0 4)) 0 5 (vO 0 5)) 0 6 (vO 0 6)) 0 7 (vO 0 7)) 0 8 (vO 0 8)) 0 9 (vO 0 9)) 0 10 (vO 0 10)) 0 11 (vO 0 11)) 0 12 (vO 0 12)) 0 13 (vO 0 13))) ++ ((wX0 dO (dOj 0) (dOs 0) (dOp 0) (dOr 0) vO) ++ ((wX1 cI dOj vOj) ++ ((wX5 cI dOs vOs) ++ ((wX2 cI dOp vOp) ++ ((wX4 cI 72 dOr vOr) ++ ((wX1 cI dj vj_1) ++ ((wX5 cI ds vs_2) ++ ((wX2 cI dp vp_3) ++ (wX4 cI 72 dr vr_4))))))))))) C uw0 tyX0 tyX0_ok nmX0 0 rfl rfl 13 (by decide) wq86 rfl rfl rfl (Nat.le_of_ble_eq_true rfl) dX0_copyFrom_121 (set_l (Nat.le_of_ble_eq_true rfl) sX0_f13) ?_
  refine z_aload_n (pc := 124) C 0 dX0_copyFrom_124 rfl ?_
  refine z_aload_n (pc := 125) C 1 dX0_copyFrom_125 rfl ?_
  refine z_get (pc := 126) C uw0 1 rfl rfl 14 (by decide) wq87 rfl dX0_copyFrom_126 ?_
  refine z_put (pc := 129) (ws' := ((wX0 d (dj 0) (ds 0) (dp 0) (dr 0) (st (st (st (st (st (st (st (st (st (st (st v 0 4 (vO 0 4)) 0 5 (vO 0 5)) 0 6 (vO 0 6)) 0 7 (vO 0 7)) 0 8 (vO 0 8)) 0 9 (vO 0 9)) 0 10 (vO 0 10)) 0 11 (vO 0 11)) 0 12 (vO 0 12)) 0 13 (vO 0 13)) 0 14 (vO 0 14))) ++ ((wX0 dO (dOj 0) (dOs 0) (dOp 0) (dOr 0) vO) ++ ((wX1 cI dOj vOj) ++ ((wX5 cI dOs vOs) ++ ((wX2 cI dOp vOp) ++ ((wX4 cI 72 dOr vOr) ++ ((wX1 cI dj vj_1) ++ ((wX5 cI ds vs_2) ++ ((wX2 cI dp vp_3) ++ (wX4 cI 72 dr vr_4))))))))))) C uw0 tyX0 tyX0_ok nmX0 0 rfl rfl 14 (by decide) wq87 rfl rfl rfl (Nat.le_of_ble_eq_true rfl) dX0_copyFrom_129 (set_l (Nat.le_of_ble_eq_true rfl) sX0_f14) ?_
  refine z_aload_n (pc := 132) C 0 dX0_copyFrom_132 rfl ?_
  refine z_aload_n (pc := 133) C 1 dX0_copyFrom_133 rfl ?_
  refine z_get (pc := 134) C uw0 1 rfl rfl 15 (by decide) wq88 rfl dX0_copyFrom_134 ?_
  refine z_put (pc := 137) (ws' := ((wX0 d (dj 0) (ds 0) (dp 0) (dr 0) (st (st (st (st (st (st (st (st (st (st (st (st v 0 4 (vO 0 4)) 0 5 (vO 0 5)) 0 6 (vO 0 6)) 0 7 (vO 0 7)) 0 8 (vO 0 8)) 0 9 (vO 0 9)) 0 10 (vO 0 10)) 0 11 (vO 0 11)) 0 12 (vO 0 12)) 0 13 (vO 0 13)) 0 14 (vO 0 14)) 0 15 (vO 0 15))) ++ ((wX0 dO (dOj 0) (dOs 0) (dOp 0) (dOr 0) vO) ++ ((wX1 cI dOj vOj) ++ ((wX5 cI dOs vOs) ++ ((wX2 cI dOp vOp) ++ ((wX4 cI 72 dOr vOr) ++ ((wX1 cI dj vj_1) ++ ((wX5 cI ds vs_2) ++ ((wX2 cI dp vp_3) ++ (wX4 cI 72 dr vr_4))))))))))) C uw0 tyX0 tyX0_ok nmX0 0 rfl rfl 15 (by decide) wq88 rfl rfl rfl (Nat.le_of_ble_eq_true rfl) dX0_copyFrom_137 (set_l (Nat.le_of_ble_eq_true rfl) sX0_f15) ?_
  exact hret 140 _ _ ((st (st (st (st (st (st (st (st (st (st (st (st v 0 4 (vO 0 4)) 0 5 (vO 0 5)) 0 6 (vO 0 6)) 0 7 (vO 0 7)) 0 8 (vO 0 8)) 0 9 (vO 0 9)) 0 10 (vO 0 10)) 0 11 (vO 0 11)) 0 12 (vO 0 12)) 0 13 (vO 0 13)) 0 14 (vO 0 14)) 0 15 (vO 0 15)), vj_1, vs_2, vp_3, vr_4) rfl h dX0_copyFrom_140

def pX0_comeOn (v : Lf) (vp : Lf) (x1 : Int32) (Q : Lf → Lf → Prop) : Prop := (vp_in x1 6 ∧ (vp_in x1 6 ∧ (Q (st v 0 6 x1) (st vp 3 x1.toNatClampNeg ((vp 3 x1.toNatClampNeg) + (1 : Int32))))))
abbrev rmX0_comeOn : Room := { frames := 0, cells := 0, slots := 0, locals := 0 }
abbrev wdX0_comeOn : List Cond := Cond.code yX0_comeOn cX0_comeOn 2 none :: TB
theorem hdSX0_comeOn : (yX0_comeOn).cls ≠ "java/lang/invoke/MethodHandle" ∧ (yX0_comeOn).cls ≠ "java/lang/invoke/VarHandle" ∧ (parseMethodDescriptor (yX0_comeOn).desc).map (fun d => d.parameters.length) = some 1 := by decide +kernel
theorem hdX0_comeOn : (yX0_comeOn).cls = RX0 ∧ (yX0_comeOn).cls ≠ "java/lang/invoke/MethodHandle" ∧ (yX0_comeOn).cls ≠ "java/lang/invoke/VarHandle" ∧ (parseMethodDescriptor (yX0_comeOn).desc).map (fun d => d.parameters.length) = some 1 := ⟨rfl, hdSX0_comeOn⟩
set_option maxHeartbeats 4000000 in
set_option maxRecDepth 100000 in
theorem kX0_comeOn {l : Launch} {D : va_G} {cI cJ cT : ClassId} (d : Nat → Nat) (dj : Nat → Nat) (ds : Nat → Nat) (dp : Nat → Nat) (dr : Nat → Nat)  (v : Lf) (vp : Lf) (x1 : Int32) {Q : Lf → Lf → Prop} (sz : Nat) (h : pX0_comeOn v vp x1 Q) : Met l yX0_comeOn wdX0_comeOn rmX0_comeOn (Pz D (tyL cI cJ cT) [.ref (d 0), .int x1] ((wX0 d (dj 0) (ds 0) (dp 0) (dr 0) v) ++ (wX2 cI dp vp)) sz) (va_Qv (fun (u : Lf × Lf) => Q u.1 u.2) (Bz D (tyL cI cJ cT) ((wX0 d (dj 0) (ds 0) (dp 0) (dr 0) v) ++ (wX2 cI dp vp)) sz (fun (u : Lf × Lf) => ((wX0 d (dj 0) (ds 0) (dp 0) (dr 0) u.1) ++ (wX2 cI dp u.2)))) (va_A ((wX0 d (dj 0) (ds 0) (dp 0) (dr 0) v) ++ (wX2 cI dp vp)) sz)) 0 0 (va_A ((wX0 d (dj 0) (ds 0) (dp 0) (dr 0) v) ++ (wX2 cI dp vp)) sz) := by
  refine z_metv (cc := cX0_comeOn) (maxL := 2) (own := RX0) (lv0 := [(0, .ref (d 0)), (1, .int x1)]) (by decide) rfl rfl (Nat.le_of_ble_eq_true rfl) rfl ?_
  intro p e s m args below meth c A QQ C hin hret
  refine z_aload_n (pc := 0) C 0 dX0_comeOn_0 rfl ?_
  refine z_iload_n (pc := 1) C 1 dX0_comeOn_1 rfl ?_
  refine z_put (pc := 2) (ws' := ((wX0 d (dj 0) (ds 0) (dp 0) (dr 0) (st v 0 6 x1)) ++ (wX2 cI dp vp))) C uw0 tyX0 tyX0_ok nmX0 0 rfl rfl 6 (by decide) wq50 rfl rfl rfl (Nat.le_of_ble_eq_true rfl) dX0_comeOn_2 (set_l (Nat.le_of_ble_eq_true rfl) sX0_f6) ?_
  refine z_aload_n (pc := 5) C 0 dX0_comeOn_5 rfl ?_
  refine z_get (pc := 6) C uw0 0 rfl rfl 2 (by decide) wq45 rfl dX0_comeOn_6 ?_
  refine z_get (pc := 9) C uw2 1 rfl rfl 3 (by decide) wq103 rfl dX0_comeOn_9 ?_
  refine z_iload_n (pc := 12) C 1 dX0_comeOn_12 rfl ?_
  refine z_dup2 (pc := 13) C dX0_comeOn_13 rfl rfl ?_
  obtain ⟨g1, h⟩ := h
  refine z_iald (pc := 14) C 4 0 rfl rfl g1 (vp 3 x1.toNatClampNeg) rfl dX0_comeOn_14 ?_
  refine z_iconst (pc := 15) (v := 1) C dX0_comeOn_15 (by decide) ?_
  refine z_iadd (pc := 16) C dX0_comeOn_16 ?_
  obtain ⟨g2, h⟩ := h
  refine z_iast (pc := 17) (ws' := ((wX0 d (dj 0) (ds 0) (dp 0) (dr 0) (st v 0 6 x1)) ++ (wX2 cI dp (st vp 3 x1.toNatClampNeg ((vp 3 x1.toNatClampNeg) + (1 : Int32)))))) C 4 0 rfl rfl g2 dX0_comeOn_17 rfl (set_r (k := 1) (i := 3) rfl sX2_a3) ?_
  exact hret 18 _ _ ((st v 0 6 x1), (st vp 3 x1.toNatClampNeg ((vp 3 x1.toNatClampNeg) + (1 : Int32)))) rfl h dX0_comeOn_18

def pX0_begin (v : Lf) (vp : Lf)  (Q : Lf → Lf → Prop) : Prop := (pX0_comeOn (st v 0 4 (1 : Int32)) vp (0 : Int32) (fun v_1 vp_1 => (Q v_1 vp_1)))
abbrev rmX0_begin : Room := { frames := 1, cells := 0, slots := 0, locals := 21 }
abbrev wdX0_begin : List Cond := Cond.code yX0_begin cX0_begin 1 none :: TB
theorem hdSX0_begin : (yX0_begin).cls ≠ "java/lang/invoke/MethodHandle" ∧ (yX0_begin).cls ≠ "java/lang/invoke/VarHandle" ∧ (parseMethodDescriptor (yX0_begin).desc).map (fun d => d.parameters.length) = some 0 := by decide +kernel
theorem hdX0_begin : (yX0_begin).cls = RX0 ∧ (yX0_begin).cls ≠ "java/lang/invoke/MethodHandle" ∧ (yX0_begin).cls ≠ "java/lang/invoke/VarHandle" ∧ (parseMethodDescriptor (yX0_begin).desc).map (fun d => d.parameters.length) = some 0 := ⟨rfl, hdSX0_begin⟩
set_option maxHeartbeats 4000000 in
set_option maxRecDepth 100000 in
theorem kX0_begin {l : Launch} {D : va_G} {cI cJ cT : ClassId} (d : Nat → Nat) (dj : Nat → Nat) (ds : Nat → Nat) (dp : Nat → Nat) (dr : Nat → Nat)  (v : Lf) (vp : Lf)  {Q : Lf → Lf → Prop} (sz : Nat) (h : pX0_begin v vp Q) : Met l yX0_begin wdX0_begin rmX0_begin (Pz D (tyL cI cJ cT) [.ref (d 0)] ((wX0 d (dj 0) (ds 0) (dp 0) (dr 0) v) ++ (wX2 cI dp vp)) sz) (va_Qv (fun (u : Lf × Lf) => Q u.1 u.2) (Bz D (tyL cI cJ cT) ((wX0 d (dj 0) (ds 0) (dp 0) (dr 0) v) ++ (wX2 cI dp vp)) sz (fun (u : Lf × Lf) => ((wX0 d (dj 0) (ds 0) (dp 0) (dr 0) u.1) ++ (wX2 cI dp u.2)))) (va_A ((wX0 d (dj 0) (ds 0) (dp 0) (dr 0) v) ++ (wX2 cI dp vp)) sz)) 0 0 (va_A ((wX0 d (dj 0) (ds 0) (dp 0) (dr 0) v) ++ (wX2 cI dp vp)) sz) := by
  refine z_metv (cc := cX0_begin) (maxL := 1) (own := RX0) (lv0 := [(0, .ref (d 0))]) (by decide) rfl rfl (Nat.le_of_ble_eq_true rfl) rfl ?_
  intro p e s m args below meth c A QQ C hin hret
  refine z_aload_n (pc := 0) C 0 dX0_begin_0 rfl ?_
  refine z_iconst (pc := 1) (v := 1) C dX0_begin_1 (by decide) ?_
  refine z_put (pc := 2) (ws' := ((wX0 d (dj 0) (ds 0) (dp 0) (dr 0) (st v 0 4 (1 : Int32))) ++ (wX2 cI dp vp))) C uw0 tyX0 tyX0_ok nmX0 0 rfl rfl 4 (by decide) wq81 rfl rfl rfl (Nat.le_of_ble_eq_true rfl) dX0_begin_2 (set_l (Nat.le_of_ble_eq_true rfl) sX0_f4) ?_
  refine z_aload_n (pc := 5) C 0 dX0_begin_5 rfl ?_
  refine z_iconst (pc := 6) (v := 0) C dX0_begin_6 (by decide) ?_
  refine z_callv (pc := 7) (wr := ([] : va_W)) (w1 := fun (u : Lf × Lf) => ((wX0 d (dj 0) (ds 0) (dp 0) (dr 0) u.1) ++ (wX2 cI dp u.2))) (w2 := fun (u : Lf × Lf) => ((wX0 d (dj 0) (ds 0) (dp 0) (dr 0) u.1) ++ (wX2 cI dp u.2))) C (z_runV (pc := 7) (wc := ((wX0 d (dj 0) (ds 0) (dp 0) (dr 0) (st v 0 4 (1 : Int32))) ++ (wX2 cI dp vp))) (As := [.int (0 : Int32)]) C (fun sz => kX0_comeOn d dj ds dp dr (st v 0 4 (1 : Int32)) vp (0 : Int32) sz h) [0, 1, 2, 3, 4] rfl (by decide) (gdV wq102 wq105 wq106 wq107 wq108) rfl rfl rfl hdX0_comeOn 0 rfl rfl rfl ⟨Nat.le_of_ble_eq_true rfl, Nat.le_of_ble_eq_true rfl⟩ rfl (Nat.le_of_ble_eq_true rfl) ⟨Nat.zero_le _, Nat.zero_le _⟩ dX0_begin_7) [0, 1, 2, 3, 4] [] [0, 1, 2, 3, 4] rfl rfl (by decide) (by decide) (fun _ => rfl) (by decide) (fun u1 h => ?_)
  obtain ⟨v_1, vp_1⟩ := u1
  dsimp only at h
  exact hret 10 _ _ (v_1, vp_1) rfl h dX0_begin_10

def pX0_declare (v : Lf) (vp : Lf) (x1 : Int32) (Q : Int32 → Lf → Prop) : Prop := (((v 0 4) = 0 → (Q (0 : Int32) v)) ∧ (¬ (v 0 4) = 0 → ((¬ (v 0 8) = (-5 : Int32) → (Q (0 : Int32) v)) ∧ ((v 0 8) = (-5 : Int32) → (pX2_firstWith vp x1 (fun r3 => ((¬ r3 = (-5 : Int32) → (Q (1 : Int32) (st v 0 8 x1))) ∧ (r3 = (-5 : Int32) → (Q (0 : Int32) v)))))))))
abbrev rmX0_declare : Room := { frames := 2, cells := 0, slots := 0, locals := 43 }
abbrev wdX0_declare : List Cond := Cond.code yX0_declare cX0_declare 2 (some .boolean) :: TB
theorem hdSX0_declare : (yX0_declare).cls ≠ "java/lang/invoke/MethodHandle" ∧ (yX0_declare).cls ≠ "java/lang/invoke/VarHandle" ∧ (parseMethodDescriptor (yX0_declare).desc).map (fun d => d.parameters.length) = some 1 := by decide +kernel
theorem hdX0_declare : (yX0_declare).cls = RX0 ∧ (yX0_declare).cls ≠ "java/lang/invoke/MethodHandle" ∧ (yX0_declare).cls ≠ "java/lang/invoke/VarHandle" ∧ (parseMethodDescriptor (yX0_declare).desc).map (fun d => d.parameters.length) = some 1 := ⟨rfl, hdSX0_declare⟩
set_option maxHeartbeats 4000000 in
set_option maxRecDepth 100000 in
theorem kX0_declare {l : Launch} {D : va_G} {cI cJ cT : ClassId} (d : Nat → Nat) (dj : Nat → Nat) (ds : Nat → Nat) (dp : Nat → Nat) (dr : Nat → Nat)  (v : Lf) (vp : Lf) (x1 : Int32) {Q : Int32 → Lf → Prop} (sz : Nat) (h : pX0_declare v vp x1 Q) : Met l yX0_declare wdX0_declare rmX0_declare (Pz D (tyL cI cJ cT) [.ref (d 0), .int x1] ((wX0 d (dj 0) (ds 0) (dp 0) (dr 0) v) ++ (wX2 cI dp vp)) sz) (va_Qi (fun (r : Int32) (u : Lf) => Q r u) (Bz D (tyL cI cJ cT) ((wX0 d (dj 0) (ds 0) (dp 0) (dr 0) v) ++ (wX2 cI dp vp)) sz (fun (u : Lf) => ((wX0 d (dj 0) (ds 0) (dp 0) (dr 0) u) ++ (wX2 cI dp vp)))) (va_A ((wX0 d (dj 0) (ds 0) (dp 0) (dr 0) v) ++ (wX2 cI dp vp)) sz)) 0 0 (va_A ((wX0 d (dj 0) (ds 0) (dp 0) (dr 0) v) ++ (wX2 cI dp vp)) sz) := by
  refine z_metz (cc := cX0_declare) (maxL := 2) (own := RX0) (lv0 := [(0, .ref (d 0)), (1, .int x1)]) (by decide) rfl rfl (Nat.le_of_ble_eq_true rfl) rfl ?_
  intro p e s m args below meth c A QQ C hin hret
  refine z_aload_n (pc := 0) C 0 dX0_declare_0 rfl ?_
  refine z_get (pc := 1) C uw0 0 rfl rfl 4 (by decide) wq81 rfl dX0_declare_1 ?_
  refine z_if_eq (pc := 4) (tgt := 29) C dX0_declare_4 (by decide) (fun c1 => ?_) (fun c1 => ?_)
  · have h := h.1 c1
    refine z_iconst (pc := 29) (v := 0) C dX0_declare_29 (by decide) ?_
    exact hret 30 _ _ (0 : Int32) rfl v rfl h dX0_declare_30
  · have h := h.2 c1
    refine z_aload_n (pc := 7) C 0 dX0_declare_7 rfl ?_
    refine z_get (pc := 8) C uw0 0 rfl rfl 8 (by decide) wq52 rfl dX0_declare_8 ?_
    refine z_bipush (pc := 11) (v := -5) C dX0_declare_11 (by decide) ?_
    refine z_icmp_ne (pc := 13) (tgt := 29) C dX0_declare_13 (by decide) (fun c2 => ?_) (fun c2 => ?_)
    · have h := h.1 c2
      refine z_iconst (pc := 29) (v := 0) C dX0_declare_29 (by decide) ?_
      exact hret 30 _ _ (0 : Int32) rfl v rfl h dX0_declare_30
    · have h := h.2 c2
      refine z_aload_n (pc := 16) C 0 dX0_declare_16 rfl ?_
      refine z_get (pc := 17) C uw0 0 rfl rfl 2 (by decide) wq45 rfl dX0_declare_17 ?_
      refine z_iload_n (pc := 20) C 1 dX0_declare_20 rfl ?_
      refine z_callRi (pc := 21) C (z_runV (pc := 21) (wc := (wX2 cI dp vp)) (As := [.int x1]) C (fun sz => kX2_firstWith dp vp x1 sz h) [1, 2, 3, 4] rfl (by decide) (gdV wq110 wq114 wq115 wq116 wq44) rfl rfl rfl hdX2_firstWith 1 rfl rfl rfl ⟨Nat.le_of_ble_eq_true rfl, Nat.le_of_ble_eq_true rfl⟩ rfl (Nat.le_of_ble_eq_true rfl) ⟨Nat.zero_le _, Nat.zero_le _⟩ dX0_declare_21) [1, 2, 3, 4] rfl (by decide) (fun r3 u3 h => ?_)
      refine z_bipush (pc := 24) (v := -5) C dX0_declare_24 (by decide) ?_
      refine z_icmp_ne (pc := 26) (tgt := 31) C dX0_declare_26 (by decide) (fun c4 => ?_) (fun c4 => ?_)
      · have h := h.1 c4
        refine z_aload_n (pc := 31) C 0 dX0_declare_31 rfl ?_
        refine z_iload_n (pc := 32) C 1 dX0_declare_32 rfl ?_
        refine z_put (pc := 33) (ws' := ((wX0 d (dj 0) (ds 0) (dp 0) (dr 0) (st v 0 8 x1)) ++ (wX2 cI dp vp))) C uw0 tyX0 tyX0_ok nmX0 0 rfl rfl 8 (by decide) wq52 rfl rfl rfl (Nat.le_of_ble_eq_true rfl) dX0_declare_33 (set_l (Nat.le_of_ble_eq_true rfl) sX0_f8) ?_
        refine z_iconst (pc := 36) (v := 1) C dX0_declare_36 (by decide) ?_
        exact hret 37 _ _ (1 : Int32) rfl (st v 0 8 x1) rfl h dX0_declare_37
      · have h := h.2 c4
        refine z_iconst (pc := 29) (v := 0) C dX0_declare_29 (by decide) ?_
        exact hret 30 _ _ (0 : Int32) rfl v rfl h dX0_declare_30

def pX0_drawBelow60 (v : Lf)  (Q : Int32 → Lf → Prop) : Prop := (Q ((((((st v 0 12 (((v 0 12) * (1103515245 : Int32)) + (12345 : Int32))) 0 12)).toUInt32 >>> (((9 : Int32)).toUInt32 &&& Int32.toUInt32 31)).toInt32) - (((((st v 0 12 (((v 0 12) * (1103515245 : Int32)) + (12345 : Int32))) 0 12)).toUInt32 >>> (((9 : Int32)).toUInt32 &&& Int32.toUInt32 31)).toInt32) / (60 : Int32) * (60 : Int32)) (st v 0 12 (((v 0 12) * (1103515245 : Int32)) + (12345 : Int32))))
abbrev rmX0_drawBelow60 : Room := { frames := 0, cells := 0, slots := 0, locals := 0 }
abbrev wdX0_drawBelow60 : List Cond := Cond.code yX0_drawBelow60 cX0_drawBelow60 1 (some .int) :: TB
theorem hdSX0_drawBelow60 : (yX0_drawBelow60).cls ≠ "java/lang/invoke/MethodHandle" ∧ (yX0_drawBelow60).cls ≠ "java/lang/invoke/VarHandle" ∧ (parseMethodDescriptor (yX0_drawBelow60).desc).map (fun d => d.parameters.length) = some 0 := by decide +kernel
theorem hdX0_drawBelow60 : (yX0_drawBelow60).cls = RX0 ∧ (yX0_drawBelow60).cls ≠ "java/lang/invoke/MethodHandle" ∧ (yX0_drawBelow60).cls ≠ "java/lang/invoke/VarHandle" ∧ (parseMethodDescriptor (yX0_drawBelow60).desc).map (fun d => d.parameters.length) = some 0 := ⟨rfl, hdSX0_drawBelow60⟩
set_option maxHeartbeats 4000000 in
set_option maxRecDepth 100000 in
theorem kX0_drawBelow60 {l : Launch} {D : va_G} {cI cJ cT : ClassId} (d : Nat → Nat) (dj : Nat → Nat) (ds : Nat → Nat) (dp : Nat → Nat) (dr : Nat → Nat)  (v : Lf)  {Q : Int32 → Lf → Prop} (sz : Nat) (h : pX0_drawBelow60 v Q) : Met l yX0_drawBelow60 wdX0_drawBelow60 rmX0_drawBelow60 (Pz D (tyL cI cJ cT) [.ref (d 0)] (wX0 d (dj 0) (ds 0) (dp 0) (dr 0) v) sz) (va_Qi (fun (r : Int32) (u : Lf) => Q r u) (Bz D (tyL cI cJ cT) (wX0 d (dj 0) (ds 0) (dp 0) (dr 0) v) sz (fun (u : Lf) => (wX0 d (dj 0) (ds 0) (dp 0) (dr 0) u))) (va_A (wX0 d (dj 0) (ds 0) (dp 0) (dr 0) v) sz)) 0 0 (va_A (wX0 d (dj 0) (ds 0) (dp 0) (dr 0) v) sz) := by
  refine z_meti (cc := cX0_drawBelow60) (maxL := 1) (own := RX0) (lv0 := [(0, .ref (d 0))]) (by decide) rfl rfl (Nat.le_of_ble_eq_true rfl) rfl ?_
  intro p e s m args below meth c A QQ C hin hret
  refine z_aload_n (pc := 0) C 0 dX0_drawBelow60_0 rfl ?_
  refine z_aload_n (pc := 1) C 0 dX0_drawBelow60_1 rfl ?_
  refine z_get (pc := 2) C uw0 0 rfl rfl 12 (by decide) wq53 rfl dX0_drawBelow60_2 ?_
  refine z_ldc (pc := 5) C wq119 dX0_drawBelow60_5 ?_
  refine z_imul (pc := 7) C dX0_drawBelow60_7 ?_
  refine z_sipush (pc := 8) (v := 12345) C dX0_drawBelow60_8 (by decide) ?_
  refine z_iadd (pc := 11) C dX0_drawBelow60_11 ?_
  refine z_put (pc := 12) (ws' := (wX0 d (dj 0) (ds 0) (dp 0) (dr 0) (st v 0 12 (((v 0 12) * (1103515245 : Int32)) + (12345 : Int32))))) C uw0 tyX0 tyX0_ok nmX0 0 rfl rfl 12 (by decide) wq53 rfl rfl rfl (Nat.le_of_ble_eq_true rfl) dX0_drawBelow60_12 sX0_f12 ?_
  refine z_aload_n (pc := 15) C 0 dX0_drawBelow60_15 rfl ?_
  refine z_get (pc := 16) C uw0 0 rfl rfl 12 (by decide) wq53 rfl dX0_drawBelow60_16 ?_
  refine z_bipush (pc := 19) (v := 9) C dX0_drawBelow60_19 (by decide) ?_
  refine z_iushr (pc := 21) C dX0_drawBelow60_21 ?_
  refine z_bipush (pc := 22) (v := 60) C dX0_drawBelow60_22 (by decide) ?_
  refine z_irem (pc := 24) C dX0_drawBelow60_24 (by decide) ?_
  exact hret 25 _ _ ((((((st v 0 12 (((v 0 12) * (1103515245 : Int32)) + (12345 : Int32))) 0 12)).toUInt32 >>> (((9 : Int32)).toUInt32 &&& Int32.toUInt32 31)).toInt32) - (((((st v 0 12 (((v 0 12) * (1103515245 : Int32)) + (12345 : Int32))) 0 12)).toUInt32 >>> (((9 : Int32)).toUInt32 &&& Int32.toUInt32 31)).toInt32) / (60 : Int32) * (60 : Int32)) (st v 0 12 (((v 0 12) * (1103515245 : Int32)) + (12345 : Int32))) rfl h dX0_drawBelow60_25

def pX0_letCome_J78 (vj : Lf) (Q : Lf → Lf → Prop) (K2 : Lf → Lf → Int32 → Prop) (v : Lf) (vs : Lf) (x1 : Int32) : Prop := (K2 v vs (x1 + 1))
def pX0_letCome_J53 (vj : Lf) (Q : Lf → Lf → Prop) (K2 : Lf → Lf → Int32 → Prop) (v : Lf) (vs : Lf) (x1 : Int32) : Prop := (vp_in x1 8 ∧ (((vs 2 x1.toNatClampNeg) ≤ 0 → (pX0_letCome_J78 vj Q K2 v vs x1)) ∧ (¬ (vs 2 x1.toNatClampNeg) ≤ 0 → (vp_in x1 8 ∧ (pX0_letCome_J78 vj Q K2 v (st vs 3 x1.toNatClampNeg (v 0 5)) x1)))))
def pX0_letCome_L2 (vj : Lf) (Q : Lf → Lf → Prop) : Nat → Lf → Lf → Int32 → Prop
  | 0, _, _, _ => False
  | n2 + 1, v, vs, x1 => (((vj 0 0) ≤ x1 → (Q v vs)) ∧ (¬ (vj 0 0) ≤ x1 → (pX5_rule vs x1 (3 : Int32) (fun r2 => ((r2 ≤ 0 → (pX0_letCome_J53 vj Q (fun v vs x1 => pX0_letCome_L2 vj Q n2 v vs x1) v vs x1)) ∧ (¬ r2 ≤ 0 → (pX0_drawBelow60 v (fun r7 v_7 => ((r2 ≤ r7 → (pX0_letCome_J53 vj Q (fun v vs x1 => pX0_letCome_L2 vj Q n2 v vs x1) v_7 vs x1)) ∧ (¬ r2 ≤ r7 → (pX5_join vs x1 (1 : Int32) (fun r9 vs_9 => (pX0_letCome_J53 vj Q (fun v vs x1 => pX0_letCome_L2 vj Q n2 v vs x1) (st v_7 0 11 ((v_7 0 11) + r9)) vs_9 x1)))))))))))))
def pX0_letCome (v : Lf) (vj : Lf) (vs : Lf)  (Q : Lf → Lf → Prop) : Prop := (∃ n2, pX0_letCome_L2 vj Q  n2 v vs (0 : Int32))
abbrev rmX0_letCome : Room := { frames := 2, cells := 0, slots := 0, locals := 63 }
abbrev wdX0_letCome : List Cond := Cond.code yX0_letCome cX0_letCome 3 none :: TB
theorem hdSX0_letCome : (yX0_letCome).cls ≠ "java/lang/invoke/MethodHandle" ∧ (yX0_letCome).cls ≠ "java/lang/invoke/VarHandle" ∧ (parseMethodDescriptor (yX0_letCome).desc).map (fun d => d.parameters.length) = some 0 := by decide +kernel
theorem hdX0_letCome : (yX0_letCome).cls = RX0 ∧ (yX0_letCome).cls ≠ "java/lang/invoke/MethodHandle" ∧ (yX0_letCome).cls ≠ "java/lang/invoke/VarHandle" ∧ (parseMethodDescriptor (yX0_letCome).desc).map (fun d => d.parameters.length) = some 0 := ⟨rfl, hdSX0_letCome⟩
set_option maxHeartbeats 4000000 in
set_option maxRecDepth 100000 in
theorem kX0_letCome {l : Launch} {D : va_G} {cI cJ cT : ClassId} (d : Nat → Nat) (dj : Nat → Nat) (ds : Nat → Nat) (dp : Nat → Nat) (dr : Nat → Nat)  (v : Lf) (vj : Lf) (vs : Lf)  {Q : Lf → Lf → Prop} (sz : Nat) (h : pX0_letCome v vj vs Q) : Met l yX0_letCome wdX0_letCome rmX0_letCome (Pz D (tyL cI cJ cT) [.ref (d 0)] ((wX0 d (dj 0) (ds 0) (dp 0) (dr 0) v) ++ ((wX1 cI dj vj) ++ (wX5 cI ds vs))) sz) (va_Qv (fun (u : Lf × Lf) => Q u.1 u.2) (Bz D (tyL cI cJ cT) ((wX0 d (dj 0) (ds 0) (dp 0) (dr 0) v) ++ ((wX1 cI dj vj) ++ (wX5 cI ds vs))) sz (fun (u : Lf × Lf) => ((wX0 d (dj 0) (ds 0) (dp 0) (dr 0) u.1) ++ ((wX1 cI dj vj) ++ (wX5 cI ds u.2))))) (va_A ((wX0 d (dj 0) (ds 0) (dp 0) (dr 0) v) ++ ((wX1 cI dj vj) ++ (wX5 cI ds vs))) sz)) 0 0 (va_A ((wX0 d (dj 0) (ds 0) (dp 0) (dr 0) v) ++ ((wX1 cI dj vj) ++ (wX5 cI ds vs))) sz) := by
  refine z_metv (cc := cX0_letCome) (maxL := 3) (own := RX0) (lv0 := [(0, .ref (d 0))]) (by decide) rfl rfl (Nat.le_of_ble_eq_true rfl) rfl ?_
  intro p e s m args below meth c A QQ C hin hret
  have J78 : ∀ (K2 : Lf → Lf → Int32 → Prop), (∀ (v : Lf) (vs : Lf) (x1 : Int32), K2 v vs x1 → ZZ p l e rmX0_letCome s m args below meth c D A 3 0 0 QQ 2 ((wX0 d (dj 0) (ds 0) (dp 0) (dr 0) v) ++ ((wX1 cI dj vj) ++ (wX5 cI ds vs))) [(0, .ref (d 0)), (1, .int x1)] []) → ∀ (v : Lf) (vs : Lf) (x1 : Int32), pX0_letCome_J78 vj Q K2 v vs x1 → ZZ p l e rmX0_letCome s m args below meth c D A 3 0 0 QQ 78 ((wX0 d (dj 0) (ds 0) (dp 0) (dr 0) v) ++ ((wX1 cI dj vj) ++ (wX5 cI ds vs))) [(0, .ref (d 0)), (1, .int x1)] [] := by
    intro K2 hK2 v vs x1 h
    refine z_iinc (pc := 78) (v := (x1 + 1)) (lv' := [(1, .int (x1 + 1)), (0, .ref (d 0))]) C 1 dX0_letCome_78 rfl rfl (by decide) rfl ?_
    refine z_goto (pc := 81) (tgt := 2) C dX0_letCome_81 (by decide) ?_
    refine z_sub (lv' := [(0, .ref (d 0)), (1, .int (x1 + 1))]) [1, 0] rfl ?_
    exact hK2 v vs (x1 + 1) h
  have J53 : ∀ (K2 : Lf → Lf → Int32 → Prop), (∀ (v : Lf) (vs : Lf) (x1 : Int32), K2 v vs x1 → ZZ p l e rmX0_letCome s m args below meth c D A 3 0 0 QQ 2 ((wX0 d (dj 0) (ds 0) (dp 0) (dr 0) v) ++ ((wX1 cI dj vj) ++ (wX5 cI ds vs))) [(0, .ref (d 0)), (1, .int x1)] []) → ∀ (v : Lf) (vs : Lf) (x1 : Int32), pX0_letCome_J53 vj Q K2 v vs x1 → ZZ p l e rmX0_letCome s m args below meth c D A 3 0 0 QQ 53 ((wX0 d (dj 0) (ds 0) (dp 0) (dr 0) v) ++ ((wX1 cI dj vj) ++ (wX5 cI ds vs))) [(0, .ref (d 0)), (1, .int x1)] [] := by
    intro K2 hK2 v vs x1 h
    refine z_aload_n (pc := 53) C 0 dX0_letCome_53 rfl ?_
    refine z_get (pc := 54) C uw0 0 rfl rfl 1 (by decide) wq41 rfl dX0_letCome_54 ?_
    refine z_get (pc := 57) C uw5 7 rfl rfl 2 (by decide) wq123 rfl dX0_letCome_57 ?_
    refine z_iload_n (pc := 60) C 1 dX0_letCome_60 rfl ?_
    obtain ⟨g4, h⟩ := h
    refine z_iald (pc := 61) C 9 0 rfl rfl g4 (vs 2 x1.toNatClampNeg) rfl dX0_letCome_61 ?_
    refine z_if_le (pc := 62) (tgt := 78) C dX0_letCome_62 (by decide) (fun c5 => ?_) (fun c5 => ?_)
    · have h := h.1 c5
      exact J78 K2 hK2 v vs x1 h
    · have h := h.2 c5
      refine z_aload_n (pc := 65) C 0 dX0_letCome_65 rfl ?_
      refine z_get (pc := 66) C uw0 0 rfl rfl 1 (by decide) wq41 rfl dX0_letCome_66 ?_
      refine z_get (pc := 69) C uw5 7 rfl rfl 3 (by decide) wq124 rfl dX0_letCome_69 ?_
      refine z_iload_n (pc := 72) C 1 dX0_letCome_72 rfl ?_
      refine z_aload_n (pc := 73) C 0 dX0_letCome_73 rfl ?_
      refine z_get (pc := 74) C uw0 0 rfl rfl 5 (by decide) wq82 rfl dX0_letCome_74 ?_
      obtain ⟨g6, h⟩ := h
      refine z_iast (pc := 77) (ws' := ((wX0 d (dj 0) (ds 0) (dp 0) (dr 0) v) ++ ((wX1 cI dj vj) ++ (wX5 cI ds (st vs 3 x1.toNatClampNeg (v 0 5)))))) C 10 0 rfl rfl g6 dX0_letCome_77 rfl (set_r (k := 1) (i := 9) rfl (set_r (k := 6) (i := 3) rfl sX5_a3)) ?_
      exact J78 K2 hK2 v (st vs 3 x1.toNatClampNeg (v 0 5)) x1 h
  have L2 : ∀ (n2 : Nat) (v : Lf) (vs : Lf) (x1 : Int32), pX0_letCome_L2 vj Q n2 v vs x1 → ZZ p l e rmX0_letCome s m args below meth c D A 3 0 0 QQ 2 ((wX0 d (dj 0) (ds 0) (dp 0) (dr 0) v) ++ ((wX1 cI dj vj) ++ (wX5 cI ds vs))) [(0, .ref (d 0)), (1, .int x1)] [] := by
    intro n2
    induction n2 with
    | zero => intro v vs x1 h; exact False.elim h
    | succ n2 ih2 =>
      intro v vs x1 h
      refine z_iload_n (pc := 2) C 1 dX0_letCome_2 rfl ?_
      refine z_aload_n (pc := 3) C 0 dX0_letCome_3 rfl ?_
      refine z_get (pc := 4) C uw0 0 rfl rfl 0 (by decide) wq37 rfl dX0_letCome_4 ?_
      refine z_get (pc := 7) C uw1 1 rfl rfl 0 (by decide) wq122 rfl dX0_letCome_7 ?_
      refine z_icmp_ge (pc := 10) (tgt := 84) C dX0_letCome_10 (by decide) (fun c1 => ?_) (fun c1 => ?_)
      · have h := h.1 c1
        exact hret 84 _ _ (v, vs) rfl h dX0_letCome_84
      · have h := h.2 c1
        refine z_aload_n (pc := 13) C 0 dX0_letCome_13 rfl ?_
        refine z_get (pc := 14) C uw0 0 rfl rfl 1 (by decide) wq41 rfl dX0_letCome_14 ?_
        refine z_iload_n (pc := 17) C 1 dX0_letCome_17 rfl ?_
        refine z_iconst (pc := 18) (v := 3) C dX0_letCome_18 (by decide) ?_
        refine z_callRi (pc := 19) C (z_runV (pc := 19) (wc := (wX5 cI ds vs)) (As := [.int x1, .int (3 : Int32)]) C (fun sz => kX5_rule ds vs x1 (3 : Int32) sz h) [7, 8, 9, 10, 11, 12, 13, 14] rfl (by decide) (gdV wq117 wq125 wq126 wq127 wq40) rfl rfl rfl hdX5_rule 7 rfl rfl rfl ⟨Nat.le_of_ble_eq_true rfl, Nat.le_of_ble_eq_true rfl⟩ rfl (Nat.le_of_ble_eq_true rfl) ⟨Nat.zero_le _, Nat.zero_le _⟩ dX0_letCome_19) [7, 8, 9, 10, 11, 12, 13, 14] rfl (by decide) (fun r2 u2 h => ?_)
        refine z_istore_n (pc := 22) (lv' := [(2, .int r2), (0, .ref (d 0)), (1, .int x1)]) C dX0_letCome_22 (by decide) rfl ?_
        refine z_iload_n (pc := 23) C 0 dX0_letCome_23 rfl ?_
        refine z_if_le (pc := 24) (tgt := 53) C dX0_letCome_24 (by decide) (fun c3 => ?_) (fun c3 => ?_)
        · have h := h.1 c3
          refine z_sub (lv' := [(0, .ref (d 0)), (1, .int x1)]) [1, 2] rfl ?_
          exact J53 (fun v vs x1 => pX0_letCome_L2 vj Q n2 v vs x1) ih2 v vs x1 h
        · have h := h.2 c3
          refine z_aload_n (pc := 27) C 1 dX0_letCome_27 rfl ?_
          refine z_calli (pc := 28) (wr := ((wX1 cI dj vj) ++ (wX5 cI ds vs))) (w1 := fun (u : Lf) => (wX0 d (dj 0) (ds 0) (dp 0) (dr 0) u)) (w2 := fun (u : Lf) => ((wX0 d (dj 0) (ds 0) (dp 0) (dr 0) u) ++ ((wX1 cI dj vj) ++ (wX5 cI ds vs)))) C (z_runV (pc := 28) (wc := (wX0 d (dj 0) (ds 0) (dp 0) (dr 0) v)) (As := []) C (fun sz => kX0_drawBelow60 d dj ds dp dr v sz h) [0] rfl (by decide) (gdV wq118 wq128 wq129 wq130 wq108) rfl rfl rfl hdX0_drawBelow60 0 rfl rfl rfl ⟨Nat.le_of_ble_eq_true rfl, Nat.le_of_ble_eq_true rfl⟩ rfl (Nat.le_of_ble_eq_true rfl) ⟨Nat.zero_le _, Nat.zero_le _⟩ dX0_letCome_28) [0] [1, 2, 3, 4, 5, 6, 7, 8, 9, 10, 11, 12, 13, 14] [14, 0, 1, 2, 3, 4, 5, 6, 7, 8, 9, 10, 11, 12, 13] rfl rfl (by decide) (by decide) (fun _ => rfl) (by decide) (fun r7 u7 h => ?_)
          obtain ⟨v_7, hu7⟩ : ∃ z, z = u7 := ⟨_, rfl⟩
          subst hu7
          refine z_iload_n (pc := 31) C 0 dX0_letCome_31 rfl ?_
          refine z_icmp_ge (pc := 32) (tgt := 53) C dX0_letCome_32 (by decide) (fun c8 => ?_) (fun c8 => ?_)
          · have h := h.1 c8
            refine z_sub (lv' := [(0, .ref (d 0)), (1, .int x1)]) [1, 2] rfl ?_
            exact J53 (fun v vs x1 => pX0_letCome_L2 vj Q n2 v vs x1) ih2 v_7 vs x1 h
          · have h := h.2 c8
            refine z_aload_n (pc := 35) C 1 dX0_letCome_35 rfl ?_
            refine z_dup (pc := 36) C dX0_letCome_36 rfl ?_
            refine z_get (pc := 37) C uw0 0 rfl rfl 11 (by decide) wq85 rfl dX0_letCome_37 ?_
            refine z_aload_n (pc := 40) C 1 dX0_letCome_40 rfl ?_
            refine z_get (pc := 41) C uw0 0 rfl rfl 1 (by decide) wq41 rfl dX0_letCome_41 ?_
            refine z_iload_n (pc := 44) C 2 dX0_letCome_44 rfl ?_
            refine z_iconst (pc := 45) (v := 1) C dX0_letCome_45 (by decide) ?_
            refine z_calli (pc := 46) (wr := ((wX0 d (dj 0) (ds 0) (dp 0) (dr 0) v_7) ++ (wX1 cI dj vj))) (w1 := fun (u : Lf) => (wX5 cI ds u)) (w2 := fun (u : Lf) => ((wX0 d (dj 0) (ds 0) (dp 0) (dr 0) v_7) ++ ((wX1 cI dj vj) ++ (wX5 cI ds u)))) C (z_runV (pc := 46) (wc := (wX5 cI ds vs)) (As := [.int x1, .int (1 : Int32)]) C (fun sz => kX5_join ds vs x1 (1 : Int32) sz h) [7, 8, 9, 10, 11, 12, 13, 14] rfl (by decide) (gdV wq120 wq131 wq132 wq133 wq40) rfl rfl rfl hdX5_join 7 rfl rfl rfl ⟨Nat.le_of_ble_eq_true rfl, Nat.le_of_ble_eq_true rfl⟩ rfl (Nat.le_of_ble_eq_true rfl) ⟨Nat.zero_le _, Nat.zero_le _⟩ dX0_letCome_46) [7, 8, 9, 10, 11, 12, 13, 14] [0, 1, 2, 3, 4, 5, 6] [0, 1, 2, 3, 4, 5, 6, 7, 8, 9, 10, 11, 12, 13, 14] rfl rfl (by decide) (by decide) (fun _ => rfl) (by decide) (fun r9 u9 h => ?_)
            obtain ⟨vs_9, hu9⟩ : ∃ z, z = u9 := ⟨_, rfl⟩
            subst hu9
            refine z_iadd (pc := 49) C dX0_letCome_49 ?_
            refine z_put (pc := 50) (ws' := ((wX0 d (dj 0) (ds 0) (dp 0) (dr 0) (st v_7 0 11 ((v_7 0 11) + r9))) ++ ((wX1 cI dj vj) ++ (wX5 cI ds vs_9)))) C uw0 tyX0 tyX0_ok nmX0 0 rfl rfl 11 (by decide) wq85 rfl rfl rfl (Nat.le_of_ble_eq_true rfl) dX0_letCome_50 (set_l (Nat.le_of_ble_eq_true rfl) sX0_f11) ?_
            refine z_sub (lv' := [(0, .ref (d 0)), (1, .int x1)]) [1, 2] rfl ?_
            exact J53 (fun v vs x1 => pX0_letCome_L2 vj Q n2 v vs x1) ih2 (st v_7 0 11 ((v_7 0 11) + r9)) vs_9 x1 h
  refine z_iconst (pc := 0) (v := 0) C dX0_letCome_0 (by decide) ?_
  refine z_istore_n (pc := 1) (lv' := [(1, .int (0 : Int32)), (0, .ref (d 0))]) C dX0_letCome_1 (by decide) rfl ?_
  obtain ⟨n2, h⟩ := h
  refine z_sub (lv' := [(0, .ref (d 0)), (1, .int (0 : Int32))]) [1, 0] rfl ?_
  exact L2  n2 v vs (0 : Int32) h

def pX0_isOneTooFreshToCut_J58 (v : Lf) (vj : Lf) (vs : Lf) (Q : Int32 → Prop) (K2 : Int32 → Prop) (x1 : Int32) : Prop := (K2 (x1 + 1))
def pX0_isOneTooFreshToCut_L2 (v : Lf) (vj : Lf) (vs : Lf) (Q : Int32 → Prop) : Nat → Int32 → Prop
  | 0, _ => False
  | n2 + 1, x1 => (((vj 0 0) ≤ x1 → (Q (0 : Int32) )) ∧ (¬ (vj 0 0) ≤ x1 → (pX5_rule vs x1 (0 : Int32) (fun r2 => (pX5_isGreen vs x1 (fun r3 => ((r3 = 0 → (pX0_isOneTooFreshToCut_J58 v vj vs Q (fun x1 => pX0_isOneTooFreshToCut_L2 v vj vs Q n2 x1) x1)) ∧ (¬ r3 = 0 → (vp_in x1 8 ∧ ((((r2 + (1 : Int32)) / (2 : Int32)) ≤ ((v 0 5) - (vs 5 x1.toNatClampNeg)) → (pX0_isOneTooFreshToCut_J58 v vj vs Q (fun x1 => pX0_isOneTooFreshToCut_L2 v vj vs Q n2 x1) x1)) ∧ (¬ ((r2 + (1 : Int32)) / (2 : Int32)) ≤ ((v 0 5) - (vs 5 x1.toNatClampNeg)) → (Q (1 : Int32) ))))))))))))
def pX0_isOneTooFreshToCut (v : Lf) (vj : Lf) (vs : Lf)  (Q : Int32 → Prop) : Prop := (∃ n2, pX0_isOneTooFreshToCut_L2 v vj vs Q  n2 (0 : Int32))
abbrev rmX0_isOneTooFreshToCut : Room := { frames := 1, cells := 0, slots := 0, locals := 22 }
abbrev wdX0_isOneTooFreshToCut : List Cond := Cond.code yX0_isOneTooFreshToCut cX0_isOneTooFreshToCut 3 (some .boolean) :: TB
theorem hdSX0_isOneTooFreshToCut : (yX0_isOneTooFreshToCut).cls ≠ "java/lang/invoke/MethodHandle" ∧ (yX0_isOneTooFreshToCut).cls ≠ "java/lang/invoke/VarHandle" ∧ (parseMethodDescriptor (yX0_isOneTooFreshToCut).desc).map (fun d => d.parameters.length) = some 0 := by decide +kernel
theorem hdX0_isOneTooFreshToCut : (yX0_isOneTooFreshToCut).cls = RX0 ∧ (yX0_isOneTooFreshToCut).cls ≠ "java/lang/invoke/MethodHandle" ∧ (yX0_isOneTooFreshToCut).cls ≠ "java/lang/invoke/VarHandle" ∧ (parseMethodDescriptor (yX0_isOneTooFreshToCut).desc).map (fun d => d.parameters.length) = some 0 := ⟨rfl, hdSX0_isOneTooFreshToCut⟩
set_option maxHeartbeats 4000000 in
set_option maxRecDepth 100000 in
theorem kX0_isOneTooFreshToCut {l : Launch} {D : va_G} {cI cJ cT : ClassId} (d : Nat → Nat) (dj : Nat → Nat) (ds : Nat → Nat) (dp : Nat → Nat) (dr : Nat → Nat)  (v : Lf) (vj : Lf) (vs : Lf)  {Q : Int32 → Prop} (sz : Nat) (h : pX0_isOneTooFreshToCut v vj vs Q) : Met l yX0_isOneTooFreshToCut wdX0_isOneTooFreshToCut rmX0_isOneTooFreshToCut (Pz D (tyL cI cJ cT) [.ref (d 0)] ((wX0 d (dj 0) (ds 0) (dp 0) (dr 0) v) ++ ((wX1 cI dj vj) ++ (wX5 cI ds vs))) sz) (va_Qi (fun (r : Int32) (u : Unit) => Q r) (Bz D (tyL cI cJ cT) ((wX0 d (dj 0) (ds 0) (dp 0) (dr 0) v) ++ ((wX1 cI dj vj) ++ (wX5 cI ds vs))) sz (fun (u : Unit) => ((wX0 d (dj 0) (ds 0) (dp 0) (dr 0) v) ++ ((wX1 cI dj vj) ++ (wX5 cI ds vs))))) (va_A ((wX0 d (dj 0) (ds 0) (dp 0) (dr 0) v) ++ ((wX1 cI dj vj) ++ (wX5 cI ds vs))) sz)) 0 0 (va_A ((wX0 d (dj 0) (ds 0) (dp 0) (dr 0) v) ++ ((wX1 cI dj vj) ++ (wX5 cI ds vs))) sz) := by
  refine z_metz (cc := cX0_isOneTooFreshToCut) (maxL := 3) (own := RX0) (lv0 := [(0, .ref (d 0))]) (by decide) rfl rfl (Nat.le_of_ble_eq_true rfl) rfl ?_
  intro p e s m args below meth c A QQ C hin hret
  have J58 : ∀ (K2 : Int32 → Prop), (∀ (x1 : Int32), K2 x1 → ZZ p l e rmX0_isOneTooFreshToCut s m args below meth c D A 3 0 0 QQ 2 ((wX0 d (dj 0) (ds 0) (dp 0) (dr 0) v) ++ ((wX1 cI dj vj) ++ (wX5 cI ds vs))) [(0, .ref (d 0)), (1, .int x1)] []) → ∀ (x1 : Int32), pX0_isOneTooFreshToCut_J58 v vj vs Q K2 x1 → ZZ p l e rmX0_isOneTooFreshToCut s m args below meth c D A 3 0 0 QQ 58 ((wX0 d (dj 0) (ds 0) (dp 0) (dr 0) v) ++ ((wX1 cI dj vj) ++ (wX5 cI ds vs))) [(0, .ref (d 0)), (1, .int x1)] [] := by
    intro K2 hK2 x1 h
    refine z_iinc (pc := 58) (v := (x1 + 1)) (lv' := [(1, .int (x1 + 1)), (0, .ref (d 0))]) C 1 dX0_isOneTooFreshToCut_58 rfl rfl (by decide) rfl ?_
    refine z_goto (pc := 61) (tgt := 2) C dX0_isOneTooFreshToCut_61 (by decide) ?_
    refine z_sub (lv' := [(0, .ref (d 0)), (1, .int (x1 + 1))]) [1, 0] rfl ?_
    exact hK2 (x1 + 1) h
  have L2 : ∀ (n2 : Nat) (x1 : Int32), pX0_isOneTooFreshToCut_L2 v vj vs Q n2 x1 → ZZ p l e rmX0_isOneTooFreshToCut s m args below meth c D A 3 0 0 QQ 2 ((wX0 d (dj 0) (ds 0) (dp 0) (dr 0) v) ++ ((wX1 cI dj vj) ++ (wX5 cI ds vs))) [(0, .ref (d 0)), (1, .int x1)] [] := by
    intro n2
    induction n2 with
    | zero => intro x1 h; exact False.elim h
    | succ n2 ih2 =>
      intro x1 h
      refine z_iload_n (pc := 2) C 1 dX0_isOneTooFreshToCut_2 rfl ?_
      refine z_aload_n (pc := 3) C 0 dX0_isOneTooFreshToCut_3 rfl ?_
      refine z_get (pc := 4) C uw0 0 rfl rfl 0 (by decide) wq37 rfl dX0_isOneTooFreshToCut_4 ?_
      refine z_get (pc := 7) C uw1 1 rfl rfl 0 (by decide) wq122 rfl dX0_isOneTooFreshToCut_7 ?_
      refine z_icmp_ge (pc := 10) (tgt := 64) C dX0_isOneTooFreshToCut_10 (by decide) (fun c1 => ?_) (fun c1 => ?_)
      · have h := h.1 c1
        refine z_iconst (pc := 64) (v := 0) C dX0_isOneTooFreshToCut_64 (by decide) ?_
        exact hret 65 _ _ (0 : Int32) rfl () rfl h dX0_isOneTooFreshToCut_65
      · have h := h.2 c1
        refine z_aload_n (pc := 13) C 0 dX0_isOneTooFreshToCut_13 rfl ?_
        refine z_get (pc := 14) C uw0 0 rfl rfl 1 (by decide) wq41 rfl dX0_isOneTooFreshToCut_14 ?_
        refine z_iload_n (pc := 17) C 1 dX0_isOneTooFreshToCut_17 rfl ?_
        refine z_iconst (pc := 18) (v := 0) C dX0_isOneTooFreshToCut_18 (by decide) ?_
        refine z_callRi (pc := 19) C (z_runV (pc := 19) (wc := (wX5 cI ds vs)) (As := [.int x1, .int (0 : Int32)]) C (fun sz => kX5_rule ds vs x1 (0 : Int32) sz h) [7, 8, 9, 10, 11, 12, 13, 14] rfl (by decide) (gdV wq117 wq125 wq126 wq127 wq40) rfl rfl rfl hdX5_rule 7 rfl rfl rfl ⟨Nat.le_of_ble_eq_true rfl, Nat.le_of_ble_eq_true rfl⟩ rfl (Nat.le_of_ble_eq_true rfl) ⟨Nat.zero_le _, Nat.zero_le _⟩ dX0_isOneTooFreshToCut_19) [7, 8, 9, 10, 11, 12, 13, 14] rfl (by decide) (fun r2 u2 h => ?_)
        refine z_iconst (pc := 22) (v := 1) C dX0_isOneTooFreshToCut_22 (by decide) ?_
        refine z_iadd (pc := 23) C dX0_isOneTooFreshToCut_23 ?_
        refine z_iconst (pc := 24) (v := 2) C dX0_isOneTooFreshToCut_24 (by decide) ?_
        refine z_idiv (pc := 25) C dX0_isOneTooFreshToCut_25 (by decide) ?_
        refine z_istore_n (pc := 26) (lv' := [(2, .int ((r2 + (1 : Int32)) / (2 : Int32))), (0, .ref (d 0)), (1, .int x1)]) C dX0_isOneTooFreshToCut_26 (by decide) rfl ?_
        refine z_aload_n (pc := 27) C 1 dX0_isOneTooFreshToCut_27 rfl ?_
        refine z_get (pc := 28) C uw0 0 rfl rfl 1 (by decide) wq41 rfl dX0_isOneTooFreshToCut_28 ?_
        refine z_iload_n (pc := 31) C 2 dX0_isOneTooFreshToCut_31 rfl ?_
        refine z_callRi (pc := 32) C (z_runV (pc := 32) (wc := (wX5 cI ds vs)) (As := [.int x1]) C (fun sz => kX5_isGreen ds vs x1 sz h) [7, 8, 9, 10, 11, 12, 13, 14] rfl (by decide) (gdV wq135 wq138 wq139 wq140 wq40) rfl rfl rfl hdX5_isGreen 7 rfl rfl rfl ⟨Nat.le_of_ble_eq_true rfl, Nat.le_of_ble_eq_true rfl⟩ rfl (Nat.le_of_ble_eq_true rfl) ⟨Nat.zero_le _, Nat.zero_le _⟩ dX0_isOneTooFreshToCut_32) [7, 8, 9, 10, 11, 12, 13, 14] rfl (by decide) (fun r3 u3 h => ?_)
        refine z_if_eq (pc := 35) (tgt := 58) C dX0_isOneTooFreshToCut_35 (by decide) (fun c4 => ?_) (fun c4 => ?_)
        · have h := h.1 c4
          refine z_sub (lv' := [(0, .ref (d 0)), (1, .int x1)]) [1, 2] rfl ?_
          exact J58 (fun x1 => pX0_isOneTooFreshToCut_L2 v vj vs Q n2 x1) ih2 x1 h
        · have h := h.2 c4
          refine z_aload_n (pc := 38) C 1 dX0_isOneTooFreshToCut_38 rfl ?_
          refine z_get (pc := 39) C uw0 0 rfl rfl 5 (by decide) wq82 rfl dX0_isOneTooFreshToCut_39 ?_
          refine z_aload_n (pc := 42) C 1 dX0_isOneTooFreshToCut_42 rfl ?_
          refine z_get (pc := 43) C uw0 0 rfl rfl 1 (by decide) wq41 rfl dX0_isOneTooFreshToCut_43 ?_
          refine z_get (pc := 46) C uw5 7 rfl rfl 5 (by decide) wq137 rfl dX0_isOneTooFreshToCut_46 ?_
          refine z_iload_n (pc := 49) C 2 dX0_isOneTooFreshToCut_49 rfl ?_
          obtain ⟨g5, h⟩ := h
          refine z_iald (pc := 50) C 12 0 rfl rfl g5 (vs 5 x1.toNatClampNeg) rfl dX0_isOneTooFreshToCut_50 ?_
          refine z_isub (pc := 51) C dX0_isOneTooFreshToCut_51 ?_
          refine z_iload_n (pc := 52) C 0 dX0_isOneTooFreshToCut_52 rfl ?_
          refine z_icmp_ge (pc := 53) (tgt := 58) C dX0_isOneTooFreshToCut_53 (by decide) (fun c6 => ?_) (fun c6 => ?_)
          · have h := h.1 c6
            refine z_sub (lv' := [(0, .ref (d 0)), (1, .int x1)]) [1, 2] rfl ?_
            exact J58 (fun x1 => pX0_isOneTooFreshToCut_L2 v vj vs Q n2 x1) ih2 x1 h
          · have h := h.2 c6
            refine z_iconst (pc := 56) (v := 1) C dX0_isOneTooFreshToCut_56 (by decide) ?_
            exact hret 57 _ _ (1 : Int32) rfl () rfl h dX0_isOneTooFreshToCut_57
  refine z_iconst (pc := 0) (v := 0) C dX0_isOneTooFreshToCut_0 (by decide) ?_
  refine z_istore_n (pc := 1) (lv' := [(1, .int (0 : Int32)), (0, .ref (d 0))]) C dX0_isOneTooFreshToCut_1 (by decide) rfl ?_
  obtain ⟨n2, h⟩ := h
  refine z_sub (lv' := [(0, .ref (d 0)), (1, .int (0 : Int32))]) [1, 0] rfl ?_
  exact L2  n2 (0 : Int32) h

def pX0_changeTo_J73 (vj : Lf) (x1 : Int32) (Q : Lf → Lf → Lf → Lf → Prop) (K2 : Lf → Lf → Lf → Lf → Int32 → Prop) (v : Lf) (vs : Lf) (vp : Lf) (vr : Lf) (x2 : Int32) : Prop := (K2 v vs vp vr (x2 + 1))
def pX0_changeTo_L2 (vj : Lf) (x1 : Int32) (Q : Lf → Lf → Lf → Lf → Prop) : Nat → Lf → Lf → Lf → Lf → Int32 → Prop
  | 0, _, _, _, _, _ => False
  | n2 + 1, v, vs, vp, vr, x2 => (((vj 0 0) ≤ x2 → (pX0_comeOn v vp x1 (fun v_2 vp_2 => (Q v_2 vs vp_2 vr)))) ∧ (¬ (vj 0 0) ≤ x2 → (pX5_isGreen vs x2 (fun r3 => ((r3 = 0 → (pX0_changeTo_J73 vj x1 Q (fun v vs vp vr x2 => pX0_changeTo_L2 vj x1 Q n2 v vs vp vr x2) v vs vp vr x2)) ∧ (¬ r3 = 0 → (vp_in x1 6 ∧ (pX9_isIn (vp 1 x1.toNatClampNeg) x2 (fun r6 => ((¬ r6 = 0 → (pX0_changeTo_J73 vj x1 Q (fun v vs vp vr x2 => pX0_changeTo_L2 vj x1 Q n2 v vs vp vr x2) v vs vp vr x2)) ∧ (r6 = 0 → (pX5_endGreen vs x2 (v 0 5) (fun vs_8 => (vp_in x2 8 ∧ (pX4_addAsLatest 72 vr x2 (vs_8 5 x2.toNatClampNeg) (v 0 5) (fun vr_10 => (pX0_changeTo_J73 vj x1 Q (fun v vs vp vr x2 => pX0_changeTo_L2 vj x1 Q n2 v vs vp vr x2) v vs_8 vp vr_10 x2)))))))))))))))))
def pX0_changeTo (v : Lf) (vj : Lf) (vs : Lf) (vp : Lf) (vr : Lf) (x1 : Int32) (Q : Lf → Lf → Lf → Lf → Prop) : Prop := (∃ n2, pX0_changeTo_L2 vj x1 Q  n2 v vs vp vr (0 : Int32))
abbrev rmX0_changeTo : Room := { frames := 2, cells := 0, slots := 0, locals := 123 }
abbrev wdX0_changeTo : List Cond := Cond.code yX0_changeTo cX0_changeTo 3 none :: TB
theorem hdSX0_changeTo : (yX0_changeTo).cls ≠ "java/lang/invoke/MethodHandle" ∧ (yX0_changeTo).cls ≠ "java/lang/invoke/VarHandle" ∧ (parseMethodDescriptor (yX0_changeTo).desc).map (fun d => d.parameters.length) = some 1 := by decide +kernel
theorem hdX0_changeTo : (yX0_changeTo).cls = RX0 ∧ (yX0_changeTo).cls ≠ "java/lang/invoke/MethodHandle" ∧ (yX0_changeTo).cls ≠ "java/lang/invoke/VarHandle" ∧ (parseMethodDescriptor (yX0_changeTo).desc).map (fun d => d.parameters.length) = some 1 := ⟨rfl, hdSX0_changeTo⟩
set_option maxHeartbeats 4000000 in
set_option maxRecDepth 100000 in
theorem kX0_changeTo {l : Launch} {D : va_G} {cI cJ cT : ClassId} (d : Nat → Nat) (dj : Nat → Nat) (ds : Nat → Nat) (dp : Nat → Nat) (dr : Nat → Nat)  (v : Lf) (vj : Lf) (vs : Lf) (vp : Lf) (vr : Lf) (x1 : Int32) {Q : Lf → Lf → Lf → Lf → Prop} (sz : Nat) (h : pX0_changeTo v vj vs vp vr x1 Q) : Met l yX0_changeTo wdX0_changeTo rmX0_changeTo (Pz D (tyL cI cJ cT) [.ref (d 0), .int x1] ((wX0 d (dj 0) (ds 0) (dp 0) (dr 0) v) ++ ((wX1 cI dj vj) ++ ((wX5 cI ds vs) ++ ((wX2 cI dp vp) ++ (wX4 cI 72 dr vr))))) sz) (va_Qv (fun (u : Lf × Lf × Lf × Lf) => Q u.1 u.2.1 u.2.2.1 u.2.2.2) (Bz D (tyL cI cJ cT) ((wX0 d (dj 0) (ds 0) (dp 0) (dr 0) v) ++ ((wX1 cI dj vj) ++ ((wX5 cI ds vs) ++ ((wX2 cI dp vp) ++ (wX4 cI 72 dr vr))))) sz (fun (u : Lf × Lf × Lf × Lf) => ((wX0 d (dj 0) (ds 0) (dp 0) (dr 0) u.1) ++ ((wX1 cI dj vj) ++ ((wX5 cI ds u.2.1) ++ ((wX2 cI dp u.2.2.1) ++ (wX4 cI 72 dr u.2.2.2))))))) (va_A ((wX0 d (dj 0) (ds 0) (dp 0) (dr 0) v) ++ ((wX1 cI dj vj) ++ ((wX5 cI ds vs) ++ ((wX2 cI dp vp) ++ (wX4 cI 72 dr vr))))) sz)) 0 0 (va_A ((wX0 d (dj 0) (ds 0) (dp 0) (dr 0) v) ++ ((wX1 cI dj vj) ++ ((wX5 cI ds vs) ++ ((wX2 cI dp vp) ++ (wX4 cI 72 dr vr))))) sz) := by
  refine z_metv (cc := cX0_changeTo) (maxL := 3) (own := RX0) (lv0 := [(0, .ref (d 0)), (1, .int x1)]) (by decide) rfl rfl (Nat.le_of_ble_eq_true rfl) rfl ?_
  intro p e s m args below meth c A QQ C hin hret
  have J73 : ∀ (K2 : Lf → Lf → Lf → Lf → Int32 → Prop), (∀ (v : Lf) (vs : Lf) (vp : Lf) (vr : Lf) (x2 : Int32), K2 v vs vp vr x2 → ZZ p l e rmX0_changeTo s m args below meth c D A 3 0 0 QQ 2 ((wX0 d (dj 0) (ds 0) (dp 0) (dr 0) v) ++ ((wX1 cI dj vj) ++ ((wX5 cI ds vs) ++ ((wX2 cI dp vp) ++ (wX4 cI 72 dr vr))))) [(0, .ref (d 0)), (1, .int x1), (2, .int x2)] []) → ∀ (v : Lf) (vs : Lf) (vp : Lf) (vr : Lf) (x2 : Int32), pX0_changeTo_J73 vj x1 Q K2 v vs vp vr x2 → ZZ p l e rmX0_changeTo s m args below meth c D A 3 0 0 QQ 73 ((wX0 d (dj 0) (ds 0) (dp 0) (dr 0) v) ++ ((wX1 cI dj vj) ++ ((wX5 cI ds vs) ++ ((wX2 cI dp vp) ++ (wX4 cI 72 dr vr))))) [(0, .ref (d 0)), (1, .int x1), (2, .int x2)] [] := by
    intro K2 hK2 v vs vp vr x2 h
    refine z_iinc (pc := 73) (v := (x2 + 1)) (lv' := [(2, .int (x2 + 1)), (0, .ref (d 0)), (1, .int x1)]) C 2 dX0_changeTo_73 rfl rfl (by decide) rfl ?_
    refine z_goto (pc := 76) (tgt := 2) C dX0_changeTo_76 (by decide) ?_
    refine z_sub (lv' := [(0, .ref (d 0)), (1, .int x1), (2, .int (x2 + 1))]) [1, 2, 0] rfl ?_
    exact hK2 v vs vp vr (x2 + 1) h
  have L2 : ∀ (n2 : Nat) (v : Lf) (vs : Lf) (vp : Lf) (vr : Lf) (x2 : Int32), pX0_changeTo_L2 vj x1 Q n2 v vs vp vr x2 → ZZ p l e rmX0_changeTo s m args below meth c D A 3 0 0 QQ 2 ((wX0 d (dj 0) (ds 0) (dp 0) (dr 0) v) ++ ((wX1 cI dj vj) ++ ((wX5 cI ds vs) ++ ((wX2 cI dp vp) ++ (wX4 cI 72 dr vr))))) [(0, .ref (d 0)), (1, .int x1), (2, .int x2)] [] := by
    intro n2
    induction n2 with
    | zero => intro v vs vp vr x2 h; exact False.elim h
    | succ n2 ih2 =>
      intro v vs vp vr x2 h
      refine z_iload_n (pc := 2) C 2 dX0_changeTo_2 rfl ?_
      refine z_aload_n (pc := 3) C 0 dX0_changeTo_3 rfl ?_
      refine z_get (pc := 4) C uw0 0 rfl rfl 0 (by decide) wq37 rfl dX0_changeTo_4 ?_
      refine z_get (pc := 7) C uw1 1 rfl rfl 0 (by decide) wq122 rfl dX0_changeTo_7 ?_
      refine z_icmp_ge (pc := 10) (tgt := 79) C dX0_changeTo_10 (by decide) (fun c1 => ?_) (fun c1 => ?_)
      · have h := h.1 c1
        refine z_aload_n (pc := 79) C 0 dX0_changeTo_79 rfl ?_
        refine z_iload_n (pc := 80) C 1 dX0_changeTo_80 rfl ?_
        refine z_callv (pc := 81) (wr := ((wX1 cI dj vj) ++ ((wX5 cI ds vs) ++ (wX4 cI 72 dr vr)))) (w1 := fun (u : Lf × Lf) => ((wX0 d (dj 0) (ds 0) (dp 0) (dr 0) u.1) ++ (wX2 cI dp u.2))) (w2 := fun (u : Lf × Lf) => ((wX0 d (dj 0) (ds 0) (dp 0) (dr 0) u.1) ++ ((wX1 cI dj vj) ++ ((wX5 cI ds vs) ++ ((wX2 cI dp u.2) ++ (wX4 cI 72 dr vr)))))) C (z_runV (pc := 81) (wc := ((wX0 d (dj 0) (ds 0) (dp 0) (dr 0) v) ++ (wX2 cI dp vp))) (As := [.int x1]) C (fun sz => kX0_comeOn d dj ds dp dr v vp x1 sz h) [0, 15, 16, 17, 18] rfl (by decide) (gdV wq102 wq105 wq106 wq107 wq108) rfl rfl rfl hdX0_comeOn 0 rfl rfl rfl ⟨Nat.le_of_ble_eq_true rfl, Nat.le_of_ble_eq_true rfl⟩ rfl (Nat.le_of_ble_eq_true rfl) ⟨Nat.zero_le _, Nat.zero_le _⟩ dX0_changeTo_81) [0, 15, 16, 17, 18] [1, 2, 3, 4, 5, 6, 7, 8, 9, 10, 11, 12, 13, 14, 19, 20] [16, 0, 1, 2, 3, 4, 5, 6, 7, 8, 9, 10, 11, 12, 13, 17, 18, 19, 20, 14, 15] rfl rfl (by decide) (by decide) (fun _ => rfl) (by decide) (fun u2 h => ?_)
        obtain ⟨v_2, vp_2⟩ := u2
        dsimp only at h
        exact hret 84 _ _ (v_2, vs, vp_2, vr) rfl h dX0_changeTo_84
      · have h := h.2 c1
        refine z_aload_n (pc := 13) C 0 dX0_changeTo_13 rfl ?_
        refine z_get (pc := 14) C uw0 0 rfl rfl 1 (by decide) wq41 rfl dX0_changeTo_14 ?_
        refine z_iload_n (pc := 17) C 2 dX0_changeTo_17 rfl ?_
        refine z_callRi (pc := 18) C (z_runV (pc := 18) (wc := (wX5 cI ds vs)) (As := [.int x2]) C (fun sz => kX5_isGreen ds vs x2 sz h) [7, 8, 9, 10, 11, 12, 13, 14] rfl (by decide) (gdV wq135 wq138 wq139 wq140 wq40) rfl rfl rfl hdX5_isGreen 7 rfl rfl rfl ⟨Nat.le_of_ble_eq_true rfl, Nat.le_of_ble_eq_true rfl⟩ rfl (Nat.le_of_ble_eq_true rfl) ⟨Nat.zero_le _, Nat.zero_le _⟩ dX0_changeTo_18) [7, 8, 9, 10, 11, 12, 13, 14] rfl (by decide) (fun r3 u3 h => ?_)
        refine z_if_eq (pc := 21) (tgt := 73) C dX0_changeTo_21 (by decide) (fun c4 => ?_) (fun c4 => ?_)
        · have h := h.1 c4
          exact J73 (fun v vs vp vr x2 => pX0_changeTo_L2 vj x1 Q n2 v vs vp vr x2) ih2 v vs vp vr x2 h
        · have h := h.2 c4
          refine z_aload_n (pc := 24) C 0 dX0_changeTo_24 rfl ?_
          refine z_get (pc := 25) C uw0 0 rfl rfl 2 (by decide) wq45 rfl dX0_changeTo_25 ?_
          refine z_get (pc := 28) C uw2 15 rfl rfl 1 (by decide) wq147 rfl dX0_changeTo_28 ?_
          refine z_iload_n (pc := 31) C 1 dX0_changeTo_31 rfl ?_
          obtain ⟨g5, h⟩ := h
          refine z_iald (pc := 32) C 16 0 rfl rfl g5 (vp 1 x1.toNatClampNeg) rfl dX0_changeTo_32 ?_
          refine z_iload_n (pc := 33) C 2 dX0_changeTo_33 rfl ?_
          refine z_call0i (pc := 34) C (z_runSN (pc := 34) (wc := ([] : va_W)) (As := [.int (vp 1 x1.toNatClampNeg), .int x2]) (host := "SafeClears") C (fun sz => kX9_isIn (vp 1 x1.toNatClampNeg) x2 sz h) [] rfl (by decide) (gdC wq109) (by decide +kernel) rfl rfl rfl wq111 wq112 hdSX9_isIn ⟨Nat.le_of_ble_eq_true rfl, Nat.le_of_ble_eq_true rfl⟩ rfl (Nat.le_of_ble_eq_true rfl) ⟨Nat.zero_le _, Nat.zero_le _⟩ dX0_changeTo_34) (fun r6 u6 h => ?_)
          refine z_if_ne (pc := 37) (tgt := 73) C dX0_changeTo_37 (by decide) (fun c7 => ?_) (fun c7 => ?_)
          · have h := h.1 c7
            exact J73 (fun v vs vp vr x2 => pX0_changeTo_L2 vj x1 Q n2 v vs vp vr x2) ih2 v vs vp vr x2 h
          · have h := h.2 c7
            refine z_aload_n (pc := 40) C 0 dX0_changeTo_40 rfl ?_
            refine z_get (pc := 41) C uw0 0 rfl rfl 1 (by decide) wq41 rfl dX0_changeTo_41 ?_
            refine z_iload_n (pc := 44) C 2 dX0_changeTo_44 rfl ?_
            refine z_aload_n (pc := 45) C 0 dX0_changeTo_45 rfl ?_
            refine z_get (pc := 46) C uw0 0 rfl rfl 5 (by decide) wq82 rfl dX0_changeTo_46 ?_
            refine z_callv (pc := 49) (wr := ((wX0 d (dj 0) (ds 0) (dp 0) (dr 0) v) ++ ((wX1 cI dj vj) ++ ((wX2 cI dp vp) ++ (wX4 cI 72 dr vr))))) (w1 := fun (u : Lf) => (wX5 cI ds u)) (w2 := fun (u : Lf) => ((wX0 d (dj 0) (ds 0) (dp 0) (dr 0) v) ++ ((wX1 cI dj vj) ++ ((wX5 cI ds u) ++ ((wX2 cI dp vp) ++ (wX4 cI 72 dr vr)))))) C (z_runV (pc := 49) (wc := (wX5 cI ds vs)) (As := [.int x2, .int (v 0 5)]) C (fun sz => kX5_endGreen ds vs x2 (v 0 5) sz h) [7, 8, 9, 10, 11, 12, 13, 14] rfl (by decide) (gdV wq141 wq148 wq149 wq150 wq40) rfl rfl rfl hdX5_endGreen 7 rfl rfl rfl ⟨Nat.le_of_ble_eq_true rfl, Nat.le_of_ble_eq_true rfl⟩ rfl (Nat.le_of_ble_eq_true rfl) ⟨Nat.zero_le _, Nat.zero_le _⟩ dX0_changeTo_49) [7, 8, 9, 10, 11, 12, 13, 14] [0, 1, 2, 3, 4, 5, 6, 15, 16, 17, 18, 19, 20] [0, 1, 2, 3, 4, 5, 6, 13, 14, 15, 16, 17, 18, 19, 20, 7, 8, 9, 10, 11, 12] rfl rfl (by decide) (by decide) (fun _ => rfl) (by decide) (fun u8 h => ?_)
            obtain ⟨vs_8, hu8⟩ : ∃ z, z = u8 := ⟨_, rfl⟩
            subst hu8
            refine z_aload_n (pc := 52) C 0 dX0_changeTo_52 rfl ?_
            refine z_get (pc := 53) C uw0 0 rfl rfl 3 (by decide) wq49 rfl dX0_changeTo_53 ?_
            refine z_iload_n (pc := 56) C 2 dX0_changeTo_56 rfl ?_
            refine z_aload_n (pc := 57) C 0 dX0_changeTo_57 rfl ?_
            refine z_get (pc := 58) C uw0 0 rfl rfl 1 (by decide) wq41 rfl dX0_changeTo_58 ?_
            refine z_get (pc := 61) C uw5 7 rfl rfl 5 (by decide) wq137 rfl dX0_changeTo_61 ?_
            refine z_iload_n (pc := 64) C 2 dX0_changeTo_64 rfl ?_
            obtain ⟨g9, h⟩ := h
            refine z_iald (pc := 65) C 12 0 rfl rfl g9 (vs_8 5 x2.toNatClampNeg) rfl dX0_changeTo_65 ?_
            refine z_aload_n (pc := 66) C 0 dX0_changeTo_66 rfl ?_
            refine z_get (pc := 67) C uw0 0 rfl rfl 5 (by decide) wq82 rfl dX0_changeTo_67 ?_
            refine z_callv (pc := 70) (wr := ((wX0 d (dj 0) (ds 0) (dp 0) (dr 0) v) ++ ((wX1 cI dj vj) ++ ((wX5 cI ds vs_8) ++ (wX2 cI dp vp))))) (w1 := fun (u : Lf) => (wX4 cI 72 dr u)) (w2 := fun (u : Lf) => ((wX0 d (dj 0) (ds 0) (dp 0) (dr 0) v) ++ ((wX1 cI dj vj) ++ ((wX5 cI ds vs_8) ++ ((wX2 cI dp vp) ++ (wX4 cI 72 dr u)))))) C (z_runV (pc := 70) (wc := (wX4 cI 72 dr vr)) (As := [.int x2, .int (vs_8 5 x2.toNatClampNeg), .int (v 0 5)]) C (fun sz => kX4_addAsLatest dr 72 vr x2 (vs_8 5 x2.toNatClampNeg) (v 0 5) sz h) [19, 20] rfl (by decide) (gdV wq143 wq151 wq152 wq153 wq48) rfl rfl rfl hdX4_addAsLatest 19 rfl rfl rfl ⟨Nat.le_of_ble_eq_true rfl, Nat.le_of_ble_eq_true rfl⟩ rfl (Nat.le_of_ble_eq_true rfl) ⟨Nat.zero_le _, Nat.zero_le _⟩ dX0_changeTo_70) [19, 20] [0, 1, 2, 3, 4, 5, 6, 7, 8, 9, 10, 11, 12, 13, 14, 15, 16, 17, 18] [0, 1, 2, 3, 4, 5, 6, 7, 8, 9, 10, 11, 12, 13, 14, 15, 16, 17, 18, 19, 20] rfl rfl (by decide) (by decide) (fun _ => rfl) (by decide) (fun u10 h => ?_)
            obtain ⟨vr_10, hu10⟩ : ∃ z, z = u10 := ⟨_, rfl⟩
            subst hu10
            exact J73 (fun v vs vp vr x2 => pX0_changeTo_L2 vj x1 Q n2 v vs vp vr x2) ih2 v vs_8 vp vr_10 x2 h
  refine z_iconst (pc := 0) (v := 0) C dX0_changeTo_0 (by decide) ?_
  refine z_istore_n (pc := 1) (lv' := [(2, .int (0 : Int32)), (0, .ref (d 0)), (1, .int x1)]) C dX0_changeTo_1 (by decide) rfl ?_
  obtain ⟨n2, h⟩ := h
  refine z_sub (lv' := [(0, .ref (d 0)), (1, .int x1), (2, .int (0 : Int32))]) [1, 2, 0] rfl ?_
  exact L2  n2 v vs vp vr (0 : Int32) h

def pX0_changeForEmergency_J66 (vj : Lf) (Q : Lf → Lf → Lf → Lf → Prop) (v : Lf) (vs : Lf) (vp : Lf) (vr : Lf) (x1 : Int32) : Prop := (pX0_changeTo v vj vs vp vr x1 (fun v_9 vs_9 vp_9 vr_9 => (Q v_9 vs_9 vp_9 vr_9)))
def pX0_changeForEmergency (v : Lf) (vj : Lf) (vs : Lf) (vp : Lf) (vr : Lf)  (Q : Lf → Lf → Lf → Lf → Prop) : Prop := (vp_in (v 0 6) 6 ∧ (pX9_isIn (vp 1 (v 0 6).toNatClampNeg) (v 0 8) (fun r2 => ((¬ r2 = 0 → (Q v vs vp vr)) ∧ (r2 = 0 → (pX0_isOneTooFreshToCut v vj vs (fun r4 => ((r4 = 0 → (pX2_firstWith vp (v 0 8) (fun r6 => ((¬ r6 = (-5 : Int32) → ((¬ (v 0 7) = (-5 : Int32) → (pX0_changeForEmergency_J66 vj Q  v vs vp vr r6)) ∧ ((v 0 7) = (-5 : Int32) → (pX0_changeForEmergency_J66 vj Q  (st v 0 7 (v 0 6)) vs vp vr r6)))) ∧ (r6 = (-5 : Int32) → (Q v vs vp vr)))))) ∧ (¬ r4 = 0 → (Q v vs vp vr))))))))))
abbrev rmX0_changeForEmergency : Room := { frames := 3, cells := 0, slots := 0, locals := 145 }
abbrev wdX0_changeForEmergency : List Cond := Cond.code yX0_changeForEmergency cX0_changeForEmergency 2 none :: TB
theorem hdSX0_changeForEmergency : (yX0_changeForEmergency).cls ≠ "java/lang/invoke/MethodHandle" ∧ (yX0_changeForEmergency).cls ≠ "java/lang/invoke/VarHandle" ∧ (parseMethodDescriptor (yX0_changeForEmergency).desc).map (fun d => d.parameters.length) = some 0 := by decide +kernel
theorem hdX0_changeForEmergency : (yX0_changeForEmergency).cls = RX0 ∧ (yX0_changeForEmergency).cls ≠ "java/lang/invoke/MethodHandle" ∧ (yX0_changeForEmergency).cls ≠ "java/lang/invoke/VarHandle" ∧ (parseMethodDescriptor (yX0_changeForEmergency).desc).map (fun d => d.parameters.length) = some 0 := ⟨rfl, hdSX0_changeForEmergency⟩
set_option maxHeartbeats 4000000 in
set_option maxRecDepth 100000 in
theorem kX0_changeForEmergency {l : Launch} {D : va_G} {cI cJ cT : ClassId} (d : Nat → Nat) (dj : Nat → Nat) (ds : Nat → Nat) (dp : Nat → Nat) (dr : Nat → Nat)  (v : Lf) (vj : Lf) (vs : Lf) (vp : Lf) (vr : Lf)  {Q : Lf → Lf → Lf → Lf → Prop} (sz : Nat) (h : pX0_changeForEmergency v vj vs vp vr Q) : Met l yX0_changeForEmergency wdX0_changeForEmergency rmX0_changeForEmergency (Pz D (tyL cI cJ cT) [.ref (d 0)] ((wX0 d (dj 0) (ds 0) (dp 0) (dr 0) v) ++ ((wX1 cI dj vj) ++ ((wX5 cI ds vs) ++ ((wX2 cI dp vp) ++ (wX4 cI 72 dr vr))))) sz) (va_Qv (fun (u : Lf × Lf × Lf × Lf) => Q u.1 u.2.1 u.2.2.1 u.2.2.2) (Bz D (tyL cI cJ cT) ((wX0 d (dj 0) (ds 0) (dp 0) (dr 0) v) ++ ((wX1 cI dj vj) ++ ((wX5 cI ds vs) ++ ((wX2 cI dp vp) ++ (wX4 cI 72 dr vr))))) sz (fun (u : Lf × Lf × Lf × Lf) => ((wX0 d (dj 0) (ds 0) (dp 0) (dr 0) u.1) ++ ((wX1 cI dj vj) ++ ((wX5 cI ds u.2.1) ++ ((wX2 cI dp u.2.2.1) ++ (wX4 cI 72 dr u.2.2.2))))))) (va_A ((wX0 d (dj 0) (ds 0) (dp 0) (dr 0) v) ++ ((wX1 cI dj vj) ++ ((wX5 cI ds vs) ++ ((wX2 cI dp vp) ++ (wX4 cI 72 dr vr))))) sz)) 0 0 (va_A ((wX0 d (dj 0) (ds 0) (dp 0) (dr 0) v) ++ ((wX1 cI dj vj) ++ ((wX5 cI ds vs) ++ ((wX2 cI dp vp) ++ (wX4 cI 72 dr vr))))) sz) := by
  refine z_metv (cc := cX0_changeForEmergency) (maxL := 2) (own := RX0) (lv0 := [(0, .ref (d 0))]) (by decide) rfl rfl (Nat.le_of_ble_eq_true rfl) rfl ?_
  intro p e s m args below meth c A QQ C hin hret
  have J66 : ∀ (v : Lf) (vs : Lf) (vp : Lf) (vr : Lf) (x1 : Int32), pX0_changeForEmergency_J66 vj Q v vs vp vr x1 → ZZ p l e rmX0_changeForEmergency s m args below meth c D A 2 0 0 QQ 66 ((wX0 d (dj 0) (ds 0) (dp 0) (dr 0) v) ++ ((wX1 cI dj vj) ++ ((wX5 cI ds vs) ++ ((wX2 cI dp vp) ++ (wX4 cI 72 dr vr))))) [(0, .ref (d 0)), (1, .int x1)] [] := by
    intro  v vs vp vr x1 h
    refine z_aload_n (pc := 66) C 0 dX0_changeForEmergency_66 rfl ?_
    refine z_iload_n (pc := 67) C 1 dX0_changeForEmergency_67 rfl ?_
    refine z_callv (pc := 68) (wr := ([] : va_W)) (w1 := fun (u : Lf × Lf × Lf × Lf) => ((wX0 d (dj 0) (ds 0) (dp 0) (dr 0) u.1) ++ ((wX1 cI dj vj) ++ ((wX5 cI ds u.2.1) ++ ((wX2 cI dp u.2.2.1) ++ (wX4 cI 72 dr u.2.2.2)))))) (w2 := fun (u : Lf × Lf × Lf × Lf) => ((wX0 d (dj 0) (ds 0) (dp 0) (dr 0) u.1) ++ ((wX1 cI dj vj) ++ ((wX5 cI ds u.2.1) ++ ((wX2 cI dp u.2.2.1) ++ (wX4 cI 72 dr u.2.2.2)))))) C (z_runV (pc := 68) (wc := ((wX0 d (dj 0) (ds 0) (dp 0) (dr 0) v) ++ ((wX1 cI dj vj) ++ ((wX5 cI ds vs) ++ ((wX2 cI dp vp) ++ (wX4 cI 72 dr vr)))))) (As := [.int x1]) C (fun sz => kX0_changeTo d dj ds dp dr v vj vs vp vr x1 sz h) [0, 1, 2, 3, 4, 5, 6, 7, 8, 9, 10, 11, 12, 13, 14, 15, 16, 17, 18, 19, 20] rfl (by decide) (gdV wq154 wq158 wq159 wq160 wq108) rfl rfl rfl hdX0_changeTo 0 rfl rfl rfl ⟨Nat.le_of_ble_eq_true rfl, Nat.le_of_ble_eq_true rfl⟩ rfl (Nat.le_of_ble_eq_true rfl) ⟨Nat.zero_le _, Nat.zero_le _⟩ dX0_changeForEmergency_68) [0, 1, 2, 3, 4, 5, 6, 7, 8, 9, 10, 11, 12, 13, 14, 15, 16, 17, 18, 19, 20] [] [0, 1, 2, 3, 4, 5, 6, 7, 8, 9, 10, 11, 12, 13, 14, 15, 16, 17, 18, 19, 20] rfl rfl (by decide) (by decide) (fun _ => rfl) (by decide) (fun u9 h => ?_)
    obtain ⟨v_9, vs_9, vp_9, vr_9⟩ := u9
    dsimp only at h
    exact hret 71 _ _ (v_9, vs_9, vp_9, vr_9) rfl h dX0_changeForEmergency_71
  refine z_aload_n (pc := 0) C 0 dX0_changeForEmergency_0 rfl ?_
  refine z_get (pc := 1) C uw0 0 rfl rfl 2 (by decide) wq45 rfl dX0_changeForEmergency_1 ?_
  refine z_get (pc := 4) C uw2 15 rfl rfl 1 (by decide) wq147 rfl dX0_changeForEmergency_4 ?_
  refine z_aload_n (pc := 7) C 0 dX0_changeForEmergency_7 rfl ?_
  refine z_get (pc := 8) C uw0 0 rfl rfl 6 (by decide) wq50 rfl dX0_changeForEmergency_8 ?_
  obtain ⟨g1, h⟩ := h
  refine z_iald (pc := 11) C 16 0 rfl rfl g1 (vp 1 (v 0 6).toNatClampNeg) rfl dX0_changeForEmergency_11 ?_
  refine z_aload_n (pc := 12) C 0 dX0_changeForEmergency_12 rfl ?_
  refine z_get (pc := 13) C uw0 0 rfl rfl 8 (by decide) wq52 rfl dX0_changeForEmergency_13 ?_
  refine z_call0i (pc := 16) C (z_runSN (pc := 16) (wc := ([] : va_W)) (As := [.int (vp 1 (v 0 6).toNatClampNeg), .int (v 0 8)]) (host := "SafeClears") C (fun sz => kX9_isIn (vp 1 (v 0 6).toNatClampNeg) (v 0 8) sz h) [] rfl (by decide) (gdC wq109) (by decide +kernel) rfl rfl rfl wq111 wq112 hdSX9_isIn ⟨Nat.le_of_ble_eq_true rfl, Nat.le_of_ble_eq_true rfl⟩ rfl (Nat.le_of_ble_eq_true rfl) ⟨Nat.zero_le _, Nat.zero_le _⟩ dX0_changeForEmergency_16) (fun r2 u2 h => ?_)
  refine z_if_ne (pc := 19) (tgt := 29) C dX0_changeForEmergency_19 (by decide) (fun c3 => ?_) (fun c3 => ?_)
  · have h := h.1 c3
    exact hret 29 _ _ (v, vs, vp, vr) rfl h dX0_changeForEmergency_29
  · have h := h.2 c3
    refine z_aload_n (pc := 22) C 0 dX0_changeForEmergency_22 rfl ?_
    refine z_callRi (pc := 23) C (z_runV (pc := 23) (wc := ((wX0 d (dj 0) (ds 0) (dp 0) (dr 0) v) ++ ((wX1 cI dj vj) ++ (wX5 cI ds vs)))) (As := []) C (fun sz => kX0_isOneTooFreshToCut d dj ds dp dr v vj vs sz h) [0, 1, 2, 3, 4, 5, 6, 7, 8, 9, 10, 11, 12, 13, 14] rfl (by decide) (gdV wq136 wq155 wq156 wq157 wq108) rfl rfl rfl hdX0_isOneTooFreshToCut 0 rfl rfl rfl ⟨Nat.le_of_ble_eq_true rfl, Nat.le_of_ble_eq_true rfl⟩ rfl (Nat.le_of_ble_eq_true rfl) ⟨Nat.zero_le _, Nat.zero_le _⟩ dX0_changeForEmergency_23) [0, 1, 2, 3, 4, 5, 6, 7, 8, 9, 10, 11, 12, 13, 14] rfl (by decide) (fun r4 u4 h => ?_)
    refine z_if_eq (pc := 26) (tgt := 30) C dX0_changeForEmergency_26 (by decide) (fun c5 => ?_) (fun c5 => ?_)
    · have h := h.1 c5
      refine z_aload_n (pc := 30) C 0 dX0_changeForEmergency_30 rfl ?_
      refine z_get (pc := 31) C uw0 0 rfl rfl 2 (by decide) wq45 rfl dX0_changeForEmergency_31 ?_
      refine z_aload_n (pc := 34) C 0 dX0_changeForEmergency_34 rfl ?_
      refine z_get (pc := 35) C uw0 0 rfl rfl 8 (by decide) wq52 rfl dX0_changeForEmergency_35 ?_
      refine z_callRi (pc := 38) C (z_runV (pc := 38) (wc := (wX2 cI dp vp)) (As := [.int (v 0 8)]) C (fun sz => kX2_firstWith dp vp (v 0 8) sz h) [15, 16, 17, 18] rfl (by decide) (gdV wq110 wq114 wq115 wq116 wq44) rfl rfl rfl hdX2_firstWith 15 rfl rfl rfl ⟨Nat.le_of_ble_eq_true rfl, Nat.le_of_ble_eq_true rfl⟩ rfl (Nat.le_of_ble_eq_true rfl) ⟨Nat.zero_le _, Nat.zero_le _⟩ dX0_changeForEmergency_38) [15, 16, 17, 18] rfl (by decide) (fun r6 u6 h => ?_)
      refine z_istore_n (pc := 41) (lv' := [(1, .int r6), (0, .ref (d 0))]) C dX0_changeForEmergency_41 (by decide) rfl ?_
      refine z_iload_n (pc := 42) C 0 dX0_changeForEmergency_42 rfl ?_
      refine z_bipush (pc := 43) (v := -5) C dX0_changeForEmergency_43 (by decide) ?_
      refine z_icmp_ne (pc := 45) (tgt := 49) C dX0_changeForEmergency_45 (by decide) (fun c7 => ?_) (fun c7 => ?_)
      · have h := h.1 c7
        refine z_aload_n (pc := 49) C 1 dX0_changeForEmergency_49 rfl ?_
        refine z_get (pc := 50) C uw0 0 rfl rfl 7 (by decide) wq51 rfl dX0_changeForEmergency_50 ?_
        refine z_bipush (pc := 53) (v := -5) C dX0_changeForEmergency_53 (by decide) ?_
        refine z_icmp_ne (pc := 55) (tgt := 66) C dX0_changeForEmergency_55 (by decide) (fun c8 => ?_) (fun c8 => ?_)
        · have h := h.1 c8
          refine z_sub (lv' := [(0, .ref (d 0)), (1, .int r6)]) [1, 0] rfl ?_
          exact J66  v vs vp vr r6 h
        · have h := h.2 c8
          refine z_aload_n (pc := 58) C 1 dX0_changeForEmergency_58 rfl ?_
          refine z_aload_n (pc := 59) C 1 dX0_changeForEmergency_59 rfl ?_
          refine z_get (pc := 60) C uw0 0 rfl rfl 6 (by decide) wq50 rfl dX0_changeForEmergency_60 ?_
          refine z_put (pc := 63) (ws' := ((wX0 d (dj 0) (ds 0) (dp 0) (dr 0) (st v 0 7 (v 0 6))) ++ ((wX1 cI dj vj) ++ ((wX5 cI ds vs) ++ ((wX2 cI dp vp) ++ (wX4 cI 72 dr vr)))))) C uw0 tyX0 tyX0_ok nmX0 0 rfl rfl 7 (by decide) wq51 rfl rfl rfl (Nat.le_of_ble_eq_true rfl) dX0_changeForEmergency_63 (set_l (Nat.le_of_ble_eq_true rfl) sX0_f7) ?_
          refine z_sub (lv' := [(0, .ref (d 0)), (1, .int r6)]) [1, 0] rfl ?_
          exact J66  (st v 0 7 (v 0 6)) vs vp vr r6 h
      · have h := h.2 c7
        exact hret 48 _ _ (v, vs, vp, vr) rfl h dX0_changeForEmergency_48
    · have h := h.2 c5
      exact hret 29 _ _ (v, vs, vp, vr) rfl h dX0_changeForEmergency_29

def pX0_local (v : Lf)  (Q : Int32 → Prop) : Prop := (((v 0 13) ≤ 0 → (Q (-5 : Int32) )) ∧ (¬ (v 0 13) ≤ 0 → (pJ9_floorMod_7cf53 ((v 0 5) - (v 0 14)) (v 0 13) (fun r2 => (Q r2 )))))
abbrev rmX0_local : Room := { frames := 1, cells := 0, slots := 0, locals := 22 }
abbrev wdX0_local : List Cond := Cond.code yX0_local cX0_local 1 (some .int) :: TB
theorem hdSX0_local : (yX0_local).cls ≠ "java/lang/invoke/MethodHandle" ∧ (yX0_local).cls ≠ "java/lang/invoke/VarHandle" ∧ (parseMethodDescriptor (yX0_local).desc).map (fun d => d.parameters.length) = some 0 := by decide +kernel
theorem hdX0_local : (yX0_local).cls = RX0 ∧ (yX0_local).cls ≠ "java/lang/invoke/MethodHandle" ∧ (yX0_local).cls ≠ "java/lang/invoke/VarHandle" ∧ (parseMethodDescriptor (yX0_local).desc).map (fun d => d.parameters.length) = some 0 := ⟨rfl, hdSX0_local⟩
set_option maxHeartbeats 4000000 in
set_option maxRecDepth 100000 in
theorem kX0_local {l : Launch} {D : va_G} {cI cJ cT : ClassId} (d : Nat → Nat) (dj : Nat → Nat) (ds : Nat → Nat) (dp : Nat → Nat) (dr : Nat → Nat)  (v : Lf)  {Q : Int32 → Prop} (sz : Nat) (h : pX0_local v Q) : Met l yX0_local wdX0_local rmX0_local (Pz D (tyL cI cJ cT) [.ref (d 0)] (wX0 d (dj 0) (ds 0) (dp 0) (dr 0) v) sz) (va_Qi (fun (r : Int32) (u : Unit) => Q r) (Bz D (tyL cI cJ cT) (wX0 d (dj 0) (ds 0) (dp 0) (dr 0) v) sz (fun (u : Unit) => (wX0 d (dj 0) (ds 0) (dp 0) (dr 0) v))) (va_A (wX0 d (dj 0) (ds 0) (dp 0) (dr 0) v) sz)) 0 0 (va_A (wX0 d (dj 0) (ds 0) (dp 0) (dr 0) v) sz) := by
  refine z_meti (cc := cX0_local) (maxL := 1) (own := RX0) (lv0 := [(0, .ref (d 0))]) (by decide) rfl rfl (Nat.le_of_ble_eq_true rfl) rfl ?_
  intro p e s m args below meth c A QQ C hin hret
  refine z_aload_n (pc := 0) C 0 dX0_local_0 rfl ?_
  refine z_get (pc := 1) C uw0 0 rfl rfl 13 (by decide) wq86 rfl dX0_local_1 ?_
  refine z_if_le (pc := 4) (tgt := 26) C dX0_local_4 (by decide) (fun c1 => ?_) (fun c1 => ?_)
  · have h := h.1 c1
    refine z_bipush (pc := 26) (v := -5) C dX0_local_26 (by decide) ?_
    exact hret 28 _ _ (-5 : Int32) () rfl h dX0_local_28
  · have h := h.2 c1
    refine z_aload_n (pc := 7) C 0 dX0_local_7 rfl ?_
    refine z_get (pc := 8) C uw0 0 rfl rfl 5 (by decide) wq82 rfl dX0_local_8 ?_
    refine z_aload_n (pc := 11) C 0 dX0_local_11 rfl ?_
    refine z_get (pc := 12) C uw0 0 rfl rfl 14 (by decide) wq87 rfl dX0_local_12 ?_
    refine z_isub (pc := 15) C dX0_local_15 ?_
    refine z_aload_n (pc := 16) C 0 dX0_local_16 rfl ?_
    refine z_get (pc := 17) C uw0 0 rfl rfl 13 (by decide) wq86 rfl dX0_local_17 ?_
    refine z_call0i (pc := 20) C (z_runS (pc := 20) (wc := ([] : va_W)) (As := [.int ((v 0 5) - (v 0 14)), .int (v 0 13)]) C (fun sz => kJ9_floorMod_7cf53 ((v 0 5) - (v 0 14)) (v 0 13) sz h) [] rfl (by decide) (gdS wq162 wq164 wq165 wq78) rfl rfl rfl hdSJ9_floorMod_7cf53 ⟨Nat.le_of_ble_eq_true rfl, Nat.le_of_ble_eq_true rfl⟩ rfl (Nat.le_of_ble_eq_true rfl) ⟨Nat.zero_le _, Nat.zero_le _⟩ dX0_local_20) (fun r2 u2 h => ?_)
    refine z_goto (pc := 23) (tgt := 28) C dX0_local_23 (by decide) ?_
    exact hret 28 _ _ r2 () rfl h dX0_local_28

def pX0_isHeld (v : Lf)  (Q : Int32 → Prop) : Prop := (((v 0 13) ≤ 0 → (Q (0 : Int32) )) ∧ (¬ (v 0 13) ≤ 0 → ((¬ (v 0 6) = 0 → (Q (0 : Int32) )) ∧ ((v 0 6) = 0 → (pX0_local v (fun r3 => (((v 0 15) ≤ r3 → (Q (0 : Int32) )) ∧ (¬ (v 0 15) ≤ r3 → (Q (1 : Int32) )))))))))
abbrev rmX0_isHeld : Room := { frames := 2, cells := 0, slots := 0, locals := 42 }
abbrev wdX0_isHeld : List Cond := Cond.code yX0_isHeld cX0_isHeld 1 (some .boolean) :: TB
theorem hdSX0_isHeld : (yX0_isHeld).cls ≠ "java/lang/invoke/MethodHandle" ∧ (yX0_isHeld).cls ≠ "java/lang/invoke/VarHandle" ∧ (parseMethodDescriptor (yX0_isHeld).desc).map (fun d => d.parameters.length) = some 0 := by decide +kernel
theorem hdX0_isHeld : (yX0_isHeld).cls = RX0 ∧ (yX0_isHeld).cls ≠ "java/lang/invoke/MethodHandle" ∧ (yX0_isHeld).cls ≠ "java/lang/invoke/VarHandle" ∧ (parseMethodDescriptor (yX0_isHeld).desc).map (fun d => d.parameters.length) = some 0 := ⟨rfl, hdSX0_isHeld⟩
set_option maxHeartbeats 4000000 in
set_option maxRecDepth 100000 in
theorem kX0_isHeld {l : Launch} {D : va_G} {cI cJ cT : ClassId} (d : Nat → Nat) (dj : Nat → Nat) (ds : Nat → Nat) (dp : Nat → Nat) (dr : Nat → Nat)  (v : Lf)  {Q : Int32 → Prop} (sz : Nat) (h : pX0_isHeld v Q) : Met l yX0_isHeld wdX0_isHeld rmX0_isHeld (Pz D (tyL cI cJ cT) [.ref (d 0)] (wX0 d (dj 0) (ds 0) (dp 0) (dr 0) v) sz) (va_Qi (fun (r : Int32) (u : Unit) => Q r) (Bz D (tyL cI cJ cT) (wX0 d (dj 0) (ds 0) (dp 0) (dr 0) v) sz (fun (u : Unit) => (wX0 d (dj 0) (ds 0) (dp 0) (dr 0) v))) (va_A (wX0 d (dj 0) (ds 0) (dp 0) (dr 0) v) sz)) 0 0 (va_A (wX0 d (dj 0) (ds 0) (dp 0) (dr 0) v) sz) := by
  refine z_metz (cc := cX0_isHeld) (maxL := 1) (own := RX0) (lv0 := [(0, .ref (d 0))]) (by decide) rfl rfl (Nat.le_of_ble_eq_true rfl) rfl ?_
  intro p e s m args below meth c A QQ C hin hret
  refine z_aload_n (pc := 0) C 0 dX0_isHeld_0 rfl ?_
  refine z_get (pc := 1) C uw0 0 rfl rfl 13 (by decide) wq86 rfl dX0_isHeld_1 ?_
  refine z_if_le (pc := 4) (tgt := 29) C dX0_isHeld_4 (by decide) (fun c1 => ?_) (fun c1 => ?_)
  · have h := h.1 c1
    refine z_iconst (pc := 29) (v := 0) C dX0_isHeld_29 (by decide) ?_
    exact hret 30 _ _ (0 : Int32) rfl () rfl h dX0_isHeld_30
  · have h := h.2 c1
    refine z_aload_n (pc := 7) C 0 dX0_isHeld_7 rfl ?_
    refine z_get (pc := 8) C uw0 0 rfl rfl 6 (by decide) wq50 rfl dX0_isHeld_8 ?_
    refine z_if_ne (pc := 11) (tgt := 29) C dX0_isHeld_11 (by decide) (fun c2 => ?_) (fun c2 => ?_)
    · have h := h.1 c2
      refine z_iconst (pc := 29) (v := 0) C dX0_isHeld_29 (by decide) ?_
      exact hret 30 _ _ (0 : Int32) rfl () rfl h dX0_isHeld_30
    · have h := h.2 c2
      refine z_aload_n (pc := 14) C 0 dX0_isHeld_14 rfl ?_
      refine z_callRi (pc := 15) C (z_runV (pc := 15) (wc := (wX0 d (dj 0) (ds 0) (dp 0) (dr 0) v)) (As := []) C (fun sz => kX0_local d dj ds dp dr v sz h) [0] rfl (by decide) (gdV wq163 wq167 wq168 wq169 wq108) rfl rfl rfl hdX0_local 0 rfl rfl rfl ⟨Nat.le_of_ble_eq_true rfl, Nat.le_of_ble_eq_true rfl⟩ rfl (Nat.le_of_ble_eq_true rfl) ⟨Nat.zero_le _, Nat.zero_le _⟩ dX0_isHeld_15) [0] rfl (by decide) (fun r3 u3 h => ?_)
      refine z_aload_n (pc := 18) C 0 dX0_isHeld_18 rfl ?_
      refine z_get (pc := 19) C uw0 0 rfl rfl 15 (by decide) wq88 rfl dX0_isHeld_19 ?_
      refine z_icmp_ge (pc := 22) (tgt := 29) C dX0_isHeld_22 (by decide) (fun c4 => ?_) (fun c4 => ?_)
      · have h := h.1 c4
        refine z_iconst (pc := 29) (v := 0) C dX0_isHeld_29 (by decide) ?_
        exact hret 30 _ _ (0 : Int32) rfl () rfl h dX0_isHeld_30
      · have h := h.2 c4
        refine z_iconst (pc := 25) (v := 1) C dX0_isHeld_25 (by decide) ?_
        refine z_goto (pc := 26) (tgt := 30) C dX0_isHeld_26 (by decide) ?_
        exact hret 30 _ _ (1 : Int32) rfl () rfl h dX0_isHeld_30

def pX0_isInPhase (v : Lf) (vp : Lf) (x1 : Int32) (Q : Int32 → Prop) : Prop := (vp_in (v 0 6) 6 ∧ (pX9_isIn (vp 1 (v 0 6).toNatClampNeg) x1 (fun r2 => (narrow .boolean (.int r2) = .int r2 ∧ (Q r2 )))))
abbrev rmX0_isInPhase : Room := { frames := 1, cells := 0, slots := 0, locals := 21 }
abbrev wdX0_isInPhase : List Cond := Cond.code yX0_isInPhase cX0_isInPhase 2 (some .boolean) :: TB
theorem hdSX0_isInPhase : (yX0_isInPhase).cls ≠ "java/lang/invoke/MethodHandle" ∧ (yX0_isInPhase).cls ≠ "java/lang/invoke/VarHandle" ∧ (parseMethodDescriptor (yX0_isInPhase).desc).map (fun d => d.parameters.length) = some 1 := by decide +kernel
theorem hdX0_isInPhase : (yX0_isInPhase).cls = RX0 ∧ (yX0_isInPhase).cls ≠ "java/lang/invoke/MethodHandle" ∧ (yX0_isInPhase).cls ≠ "java/lang/invoke/VarHandle" ∧ (parseMethodDescriptor (yX0_isInPhase).desc).map (fun d => d.parameters.length) = some 1 := ⟨rfl, hdSX0_isInPhase⟩
set_option maxHeartbeats 4000000 in
set_option maxRecDepth 100000 in
theorem kX0_isInPhase {l : Launch} {D : va_G} {cI cJ cT : ClassId} (d : Nat → Nat) (dj : Nat → Nat) (ds : Nat → Nat) (dp : Nat → Nat) (dr : Nat → Nat)  (v : Lf) (vp : Lf) (x1 : Int32) {Q : Int32 → Prop} (sz : Nat) (h : pX0_isInPhase v vp x1 Q) : Met l yX0_isInPhase wdX0_isInPhase rmX0_isInPhase (Pz D (tyL cI cJ cT) [.ref (d 0), .int x1] ((wX0 d (dj 0) (ds 0) (dp 0) (dr 0) v) ++ (wX2 cI dp vp)) sz) (va_Qi (fun (r : Int32) (u : Unit) => Q r) (Bz D (tyL cI cJ cT) ((wX0 d (dj 0) (ds 0) (dp 0) (dr 0) v) ++ (wX2 cI dp vp)) sz (fun (u : Unit) => ((wX0 d (dj 0) (ds 0) (dp 0) (dr 0) v) ++ (wX2 cI dp vp)))) (va_A ((wX0 d (dj 0) (ds 0) (dp 0) (dr 0) v) ++ (wX2 cI dp vp)) sz)) 0 0 (va_A ((wX0 d (dj 0) (ds 0) (dp 0) (dr 0) v) ++ (wX2 cI dp vp)) sz) := by
  refine z_metz (cc := cX0_isInPhase) (maxL := 2) (own := RX0) (lv0 := [(0, .ref (d 0)), (1, .int x1)]) (by decide) rfl rfl (Nat.le_of_ble_eq_true rfl) rfl ?_
  intro p e s m args below meth c A QQ C hin hret
  refine z_aload_n (pc := 0) C 0 dX0_isInPhase_0 rfl ?_
  refine z_get (pc := 1) C uw0 0 rfl rfl 2 (by decide) wq45 rfl dX0_isInPhase_1 ?_
  refine z_get (pc := 4) C uw2 1 rfl rfl 1 (by decide) wq147 rfl dX0_isInPhase_4 ?_
  refine z_aload_n (pc := 7) C 0 dX0_isInPhase_7 rfl ?_
  refine z_get (pc := 8) C uw0 0 rfl rfl 6 (by decide) wq50 rfl dX0_isInPhase_8 ?_
  obtain ⟨g1, h⟩ := h
  refine z_iald (pc := 11) C 2 0 rfl rfl g1 (vp 1 (v 0 6).toNatClampNeg) rfl dX0_isInPhase_11 ?_
  refine z_iload_n (pc := 12) C 1 dX0_isInPhase_12 rfl ?_
  refine z_call0i (pc := 13) C (z_runSN (pc := 13) (wc := ([] : va_W)) (As := [.int (vp 1 (v 0 6).toNatClampNeg), .int x1]) (host := "SafeClears") C (fun sz => kX9_isIn (vp 1 (v 0 6).toNatClampNeg) x1 sz h) [] rfl (by decide) (gdC wq109) (by decide +kernel) rfl rfl rfl wq111 wq112 hdSX9_isIn ⟨Nat.le_of_ble_eq_true rfl, Nat.le_of_ble_eq_true rfl⟩ rfl (Nat.le_of_ble_eq_true rfl) ⟨Nat.zero_le _, Nat.zero_le _⟩ dX0_isInPhase_13) (fun r2 u2 h => ?_)
  obtain ⟨g3, h⟩ := h
  exact hret 16 _ _ r2 g3 () rfl h dX0_isInPhase_16

def pX0_isGreenFor (v : Lf) (vs : Lf) (x1 : Int32) (x2 : Int32) (Q : Int32 → Prop) : Prop := (pX5_isGreen vs x1 (fun r1 => ((r1 = 0 → (Q (0 : Int32) )) ∧ (¬ r1 = 0 → (vp_in x1 8 ∧ ((((v 0 5) - (vs 5 x1.toNatClampNeg)) < x2 → (Q (0 : Int32) )) ∧ (¬ ((v 0 5) - (vs 5 x1.toNatClampNeg)) < x2 → (Q (1 : Int32) ))))))))
abbrev rmX0_isGreenFor : Room := { frames := 1, cells := 0, slots := 0, locals := 21 }
abbrev wdX0_isGreenFor : List Cond := Cond.code yX0_isGreenFor cX0_isGreenFor 3 (some .boolean) :: TB
theorem hdSX0_isGreenFor : (yX0_isGreenFor).cls ≠ "java/lang/invoke/MethodHandle" ∧ (yX0_isGreenFor).cls ≠ "java/lang/invoke/VarHandle" ∧ (parseMethodDescriptor (yX0_isGreenFor).desc).map (fun d => d.parameters.length) = some 2 := by decide +kernel
theorem hdX0_isGreenFor : (yX0_isGreenFor).cls = RX0 ∧ (yX0_isGreenFor).cls ≠ "java/lang/invoke/MethodHandle" ∧ (yX0_isGreenFor).cls ≠ "java/lang/invoke/VarHandle" ∧ (parseMethodDescriptor (yX0_isGreenFor).desc).map (fun d => d.parameters.length) = some 2 := ⟨rfl, hdSX0_isGreenFor⟩
set_option maxHeartbeats 4000000 in
set_option maxRecDepth 100000 in
theorem kX0_isGreenFor {l : Launch} {D : va_G} {cI cJ cT : ClassId} (d : Nat → Nat) (dj : Nat → Nat) (ds : Nat → Nat) (dp : Nat → Nat) (dr : Nat → Nat)  (v : Lf) (vs : Lf) (x1 : Int32) (x2 : Int32) {Q : Int32 → Prop} (sz : Nat) (h : pX0_isGreenFor v vs x1 x2 Q) : Met l yX0_isGreenFor wdX0_isGreenFor rmX0_isGreenFor (Pz D (tyL cI cJ cT) [.ref (d 0), .int x1, .int x2] ((wX0 d (dj 0) (ds 0) (dp 0) (dr 0) v) ++ (wX5 cI ds vs)) sz) (va_Qi (fun (r : Int32) (u : Unit) => Q r) (Bz D (tyL cI cJ cT) ((wX0 d (dj 0) (ds 0) (dp 0) (dr 0) v) ++ (wX5 cI ds vs)) sz (fun (u : Unit) => ((wX0 d (dj 0) (ds 0) (dp 0) (dr 0) v) ++ (wX5 cI ds vs)))) (va_A ((wX0 d (dj 0) (ds 0) (dp 0) (dr 0) v) ++ (wX5 cI ds vs)) sz)) 0 0 (va_A ((wX0 d (dj 0) (ds 0) (dp 0) (dr 0) v) ++ (wX5 cI ds vs)) sz) := by
  refine z_metz (cc := cX0_isGreenFor) (maxL := 3) (own := RX0) (lv0 := [(0, .ref (d 0)), (1, .int x1), (2, .int x2)]) (by decide) rfl rfl (Nat.le_of_ble_eq_true rfl) rfl ?_
  intro p e s m args below meth c A QQ C hin hret
  refine z_aload_n (pc := 0) C 0 dX0_isGreenFor_0 rfl ?_
  refine z_get (pc := 1) C uw0 0 rfl rfl 1 (by decide) wq41 rfl dX0_isGreenFor_1 ?_
  refine z_iload_n (pc := 4) C 1 dX0_isGreenFor_4 rfl ?_
  refine z_callRi (pc := 5) C (z_runV (pc := 5) (wc := (wX5 cI ds vs)) (As := [.int x1]) C (fun sz => kX5_isGreen ds vs x1 sz h) [1, 2, 3, 4, 5, 6, 7, 8] rfl (by decide) (gdV wq135 wq138 wq139 wq140 wq40) rfl rfl rfl hdX5_isGreen 1 rfl rfl rfl ⟨Nat.le_of_ble_eq_true rfl, Nat.le_of_ble_eq_true rfl⟩ rfl (Nat.le_of_ble_eq_true rfl) ⟨Nat.zero_le _, Nat.zero_le _⟩ dX0_isGreenFor_5) [1, 2, 3, 4, 5, 6, 7, 8] rfl (by decide) (fun r1 u1 h => ?_)
  refine z_if_eq (pc := 8) (tgt := 33) C dX0_isGreenFor_8 (by decide) (fun c2 => ?_) (fun c2 => ?_)
  · have h := h.1 c2
    refine z_iconst (pc := 33) (v := 0) C dX0_isGreenFor_33 (by decide) ?_
    exact hret 34 _ _ (0 : Int32) rfl () rfl h dX0_isGreenFor_34
  · have h := h.2 c2
    refine z_aload_n (pc := 11) C 0 dX0_isGreenFor_11 rfl ?_
    refine z_get (pc := 12) C uw0 0 rfl rfl 5 (by decide) wq82 rfl dX0_isGreenFor_12 ?_
    refine z_aload_n (pc := 15) C 0 dX0_isGreenFor_15 rfl ?_
    refine z_get (pc := 16) C uw0 0 rfl rfl 1 (by decide) wq41 rfl dX0_isGreenFor_16 ?_
    refine z_get (pc := 19) C uw5 1 rfl rfl 5 (by decide) wq137 rfl dX0_isGreenFor_19 ?_
    refine z_iload_n (pc := 22) C 1 dX0_isGreenFor_22 rfl ?_
    obtain ⟨g3, h⟩ := h
    refine z_iald (pc := 23) C 6 0 rfl rfl g3 (vs 5 x1.toNatClampNeg) rfl dX0_isGreenFor_23 ?_
    refine z_isub (pc := 24) C dX0_isGreenFor_24 ?_
    refine z_iload_n (pc := 25) C 2 dX0_isGreenFor_25 rfl ?_
    refine z_icmp_lt (pc := 26) (tgt := 33) C dX0_isGreenFor_26 (by decide) (fun c4 => ?_) (fun c4 => ?_)
    · have h := h.1 c4
      refine z_iconst (pc := 33) (v := 0) C dX0_isGreenFor_33 (by decide) ?_
      exact hret 34 _ _ (0 : Int32) rfl () rfl h dX0_isGreenFor_34
    · have h := h.2 c4
      refine z_iconst (pc := 29) (v := 1) C dX0_isGreenFor_29 (by decide) ?_
      refine z_goto (pc := 30) (tgt := 34) C dX0_isGreenFor_30 (by decide) ?_
      exact hret 34 _ _ (1 : Int32) rfl () rfl h dX0_isGreenFor_34

def pX0_areAllGreenForLeast_J40 (v : Lf) (vj : Lf) (vs : Lf) (vp : Lf) (Q : Int32 → Prop) (K2 : Int32 → Prop) (x1 : Int32) : Prop := (K2 (x1 + 1))
def pX0_areAllGreenForLeast_L2 (v : Lf) (vj : Lf) (vs : Lf) (vp : Lf) (Q : Int32 → Prop) : Nat → Int32 → Prop
  | 0, _ => False
  | n2 + 1, x1 => (((vj 0 0) ≤ x1 → (Q (1 : Int32) )) ∧ (¬ (vj 0 0) ≤ x1 → (pX0_isInPhase v vp x1 (fun r2 => ((r2 = 0 → (pX0_areAllGreenForLeast_J40 v vj vs vp Q (fun x1 => pX0_areAllGreenForLeast_L2 v vj vs vp Q n2 x1) x1)) ∧ (¬ r2 = 0 → (pX5_rule vs x1 (0 : Int32) (fun r4 => (pX0_isGreenFor v vs x1 r4 (fun r5 => ((¬ r5 = 0 → (pX0_areAllGreenForLeast_J40 v vj vs vp Q (fun x1 => pX0_areAllGreenForLeast_L2 v vj vs vp Q n2 x1) x1)) ∧ (r5 = 0 → (Q (0 : Int32) )))))))))))))
def pX0_areAllGreenForLeast (v : Lf) (vj : Lf) (vs : Lf) (vp : Lf)  (Q : Int32 → Prop) : Prop := (∃ n2, pX0_areAllGreenForLeast_L2 v vj vs vp Q  n2 (0 : Int32))
abbrev rmX0_areAllGreenForLeast : Room := { frames := 2, cells := 0, slots := 0, locals := 43 }
abbrev wdX0_areAllGreenForLeast : List Cond := Cond.code yX0_areAllGreenForLeast cX0_areAllGreenForLeast 2 (some .boolean) :: TB
theorem hdSX0_areAllGreenForLeast : (yX0_areAllGreenForLeast).cls ≠ "java/lang/invoke/MethodHandle" ∧ (yX0_areAllGreenForLeast).cls ≠ "java/lang/invoke/VarHandle" ∧ (parseMethodDescriptor (yX0_areAllGreenForLeast).desc).map (fun d => d.parameters.length) = some 0 := by decide +kernel
theorem hdX0_areAllGreenForLeast : (yX0_areAllGreenForLeast).cls = RX0 ∧ (yX0_areAllGreenForLeast).cls ≠ "java/lang/invoke/MethodHandle" ∧ (yX0_areAllGreenForLeast).cls ≠ "java/lang/invoke/VarHandle" ∧ (parseMethodDescriptor (yX0_areAllGreenForLeast).desc).map (fun d => d.parameters.length) = some 0 := ⟨rfl, hdSX0_areAllGreenForLeast⟩
set_option maxHeartbeats 4000000 in
set_option maxRecDepth 100000 in
theorem kX0_areAllGreenForLeast {l : Launch} {D : va_G} {cI cJ cT : ClassId} (d : Nat → Nat) (dj : Nat → Nat) (ds : Nat → Nat) (dp : Nat → Nat) (dr : Nat → Nat)  (v : Lf) (vj : Lf) (vs : Lf) (vp : Lf)  {Q : Int32 → Prop} (sz : Nat) (h : pX0_areAllGreenForLeast v vj vs vp Q) : Met l yX0_areAllGreenForLeast wdX0_areAllGreenForLeast rmX0_areAllGreenForLeast (Pz D (tyL cI cJ cT) [.ref (d 0)] ((wX0 d (dj 0) (ds 0) (dp 0) (dr 0) v) ++ ((wX1 cI dj vj) ++ ((wX5 cI ds vs) ++ (wX2 cI dp vp)))) sz) (va_Qi (fun (r : Int32) (u : Unit) => Q r) (Bz D (tyL cI cJ cT) ((wX0 d (dj 0) (ds 0) (dp 0) (dr 0) v) ++ ((wX1 cI dj vj) ++ ((wX5 cI ds vs) ++ (wX2 cI dp vp)))) sz (fun (u : Unit) => ((wX0 d (dj 0) (ds 0) (dp 0) (dr 0) v) ++ ((wX1 cI dj vj) ++ ((wX5 cI ds vs) ++ (wX2 cI dp vp)))))) (va_A ((wX0 d (dj 0) (ds 0) (dp 0) (dr 0) v) ++ ((wX1 cI dj vj) ++ ((wX5 cI ds vs) ++ (wX2 cI dp vp)))) sz)) 0 0 (va_A ((wX0 d (dj 0) (ds 0) (dp 0) (dr 0) v) ++ ((wX1 cI dj vj) ++ ((wX5 cI ds vs) ++ (wX2 cI dp vp)))) sz) := by
  refine z_metz (cc := cX0_areAllGreenForLeast) (maxL := 2) (own := RX0) (lv0 := [(0, .ref (d 0))]) (by decide) rfl rfl (Nat.le_of_ble_eq_true rfl) rfl ?_
  intro p e s m args below meth c A QQ C hin hret
  have J40 : ∀ (K2 : Int32 → Prop), (∀ (x1 : Int32), K2 x1 → ZZ p l e rmX0_areAllGreenForLeast s m args below meth c D A 2 0 0 QQ 2 ((wX0 d (dj 0) (ds 0) (dp 0) (dr 0) v) ++ ((wX1 cI dj vj) ++ ((wX5 cI ds vs) ++ (wX2 cI dp vp)))) [(0, .ref (d 0)), (1, .int x1)] []) → ∀ (x1 : Int32), pX0_areAllGreenForLeast_J40 v vj vs vp Q K2 x1 → ZZ p l e rmX0_areAllGreenForLeast s m args below meth c D A 2 0 0 QQ 40 ((wX0 d (dj 0) (ds 0) (dp 0) (dr 0) v) ++ ((wX1 cI dj vj) ++ ((wX5 cI ds vs) ++ (wX2 cI dp vp)))) [(0, .ref (d 0)), (1, .int x1)] [] := by
    intro K2 hK2 x1 h
    refine z_iinc (pc := 40) (v := (x1 + 1)) (lv' := [(1, .int (x1 + 1)), (0, .ref (d 0))]) C 1 dX0_areAllGreenForLeast_40 rfl rfl (by decide) rfl ?_
    refine z_goto (pc := 43) (tgt := 2) C dX0_areAllGreenForLeast_43 (by decide) ?_
    refine z_sub (lv' := [(0, .ref (d 0)), (1, .int (x1 + 1))]) [1, 0] rfl ?_
    exact hK2 (x1 + 1) h
  have L2 : ∀ (n2 : Nat) (x1 : Int32), pX0_areAllGreenForLeast_L2 v vj vs vp Q n2 x1 → ZZ p l e rmX0_areAllGreenForLeast s m args below meth c D A 2 0 0 QQ 2 ((wX0 d (dj 0) (ds 0) (dp 0) (dr 0) v) ++ ((wX1 cI dj vj) ++ ((wX5 cI ds vs) ++ (wX2 cI dp vp)))) [(0, .ref (d 0)), (1, .int x1)] [] := by
    intro n2
    induction n2 with
    | zero => intro x1 h; exact False.elim h
    | succ n2 ih2 =>
      intro x1 h
      refine z_iload_n (pc := 2) C 1 dX0_areAllGreenForLeast_2 rfl ?_
      refine z_aload_n (pc := 3) C 0 dX0_areAllGreenForLeast_3 rfl ?_
      refine z_get (pc := 4) C uw0 0 rfl rfl 0 (by decide) wq37 rfl dX0_areAllGreenForLeast_4 ?_
      refine z_get (pc := 7) C uw1 1 rfl rfl 0 (by decide) wq122 rfl dX0_areAllGreenForLeast_7 ?_
      refine z_icmp_ge (pc := 10) (tgt := 46) C dX0_areAllGreenForLeast_10 (by decide) (fun c1 => ?_) (fun c1 => ?_)
      · have h := h.1 c1
        refine z_iconst (pc := 46) (v := 1) C dX0_areAllGreenForLeast_46 (by decide) ?_
        exact hret 47 _ _ (1 : Int32) rfl () rfl h dX0_areAllGreenForLeast_47
      · have h := h.2 c1
        refine z_aload_n (pc := 13) C 0 dX0_areAllGreenForLeast_13 rfl ?_
        refine z_iload_n (pc := 14) C 1 dX0_areAllGreenForLeast_14 rfl ?_
        refine z_callRi (pc := 15) C (z_runV (pc := 15) (wc := ((wX0 d (dj 0) (ds 0) (dp 0) (dr 0) v) ++ (wX2 cI dp vp))) (As := [.int x1]) C (fun sz => kX0_isInPhase d dj ds dp dr v vp x1 sz h) [0, 15, 16, 17, 18] rfl (by decide) (gdV wq170 wq172 wq173 wq174 wq108) rfl rfl rfl hdX0_isInPhase 0 rfl rfl rfl ⟨Nat.le_of_ble_eq_true rfl, Nat.le_of_ble_eq_true rfl⟩ rfl (Nat.le_of_ble_eq_true rfl) ⟨Nat.zero_le _, Nat.zero_le _⟩ dX0_areAllGreenForLeast_15) [0, 15, 16, 17, 18] rfl (by decide) (fun r2 u2 h => ?_)
        refine z_if_eq (pc := 18) (tgt := 40) C dX0_areAllGreenForLeast_18 (by decide) (fun c3 => ?_) (fun c3 => ?_)
        · have h := h.1 c3
          exact J40 (fun x1 => pX0_areAllGreenForLeast_L2 v vj vs vp Q n2 x1) ih2 x1 h
        · have h := h.2 c3
          refine z_aload_n (pc := 21) C 0 dX0_areAllGreenForLeast_21 rfl ?_
          refine z_iload_n (pc := 22) C 1 dX0_areAllGreenForLeast_22 rfl ?_
          refine z_aload_n (pc := 23) C 0 dX0_areAllGreenForLeast_23 rfl ?_
          refine z_get (pc := 24) C uw0 0 rfl rfl 1 (by decide) wq41 rfl dX0_areAllGreenForLeast_24 ?_
          refine z_iload_n (pc := 27) C 1 dX0_areAllGreenForLeast_27 rfl ?_
          refine z_iconst (pc := 28) (v := 0) C dX0_areAllGreenForLeast_28 (by decide) ?_
          refine z_callRi (pc := 29) C (z_runV (pc := 29) (wc := (wX5 cI ds vs)) (As := [.int x1, .int (0 : Int32)]) C (fun sz => kX5_rule ds vs x1 (0 : Int32) sz h) [7, 8, 9, 10, 11, 12, 13, 14] rfl (by decide) (gdV wq117 wq125 wq126 wq127 wq40) rfl rfl rfl hdX5_rule 7 rfl rfl rfl ⟨Nat.le_of_ble_eq_true rfl, Nat.le_of_ble_eq_true rfl⟩ rfl (Nat.le_of_ble_eq_true rfl) ⟨Nat.zero_le _, Nat.zero_le _⟩ dX0_areAllGreenForLeast_29) [7, 8, 9, 10, 11, 12, 13, 14] rfl (by decide) (fun r4 u4 h => ?_)
          refine z_callRi (pc := 32) C (z_runV (pc := 32) (wc := ((wX0 d (dj 0) (ds 0) (dp 0) (dr 0) v) ++ (wX5 cI ds vs))) (As := [.int x1, .int r4]) C (fun sz => kX0_isGreenFor d dj ds dp dr v vs x1 r4 sz h) [0, 7, 8, 9, 10, 11, 12, 13, 14] rfl (by decide) (gdV wq171 wq175 wq176 wq177 wq108) rfl rfl rfl hdX0_isGreenFor 0 rfl rfl rfl ⟨Nat.le_of_ble_eq_true rfl, Nat.le_of_ble_eq_true rfl⟩ rfl (Nat.le_of_ble_eq_true rfl) ⟨Nat.zero_le _, Nat.zero_le _⟩ dX0_areAllGreenForLeast_32) [0, 7, 8, 9, 10, 11, 12, 13, 14] rfl (by decide) (fun r5 u5 h => ?_)
          refine z_if_ne (pc := 35) (tgt := 40) C dX0_areAllGreenForLeast_35 (by decide) (fun c6 => ?_) (fun c6 => ?_)
          · have h := h.1 c6
            exact J40 (fun x1 => pX0_areAllGreenForLeast_L2 v vj vs vp Q n2 x1) ih2 x1 h
          · have h := h.2 c6
            refine z_iconst (pc := 38) (v := 0) C dX0_areAllGreenForLeast_38 (by decide) ?_
            exact hret 39 _ _ (0 : Int32) rfl () rfl h dX0_areAllGreenForLeast_39
  refine z_iconst (pc := 0) (v := 0) C dX0_areAllGreenForLeast_0 (by decide) ?_
  refine z_istore_n (pc := 1) (lv' := [(1, .int (0 : Int32)), (0, .ref (d 0))]) C dX0_areAllGreenForLeast_1 (by decide) rfl ?_
  obtain ⟨n2, h⟩ := h
  refine z_sub (lv' := [(0, .ref (d 0)), (1, .int (0 : Int32))]) [1, 0] rfl ?_
  exact L2  n2 (0 : Int32) h

def pX0_calledPhases_J83 (v : Lf) (vs : Lf) (vp : Lf) (Q : Int32 → Prop) (K21 : Int32 → Int32 → Int32 → Prop) (x1 : Int32) (x2 : Int32) (x3 : Int32) : Prop := (K21 x1 x2 (x3 + 1))
def pX0_calledPhases_J77 (v : Lf) (vs : Lf) (vp : Lf) (Q : Int32 → Prop) (K21 : Int32 → Int32 → Int32 → Prop) (x1 : Int32) (x2 : Int32) (x3 : Int32) : Prop := (pX0_calledPhases_J83 v vs vp Q K21 x1 (x2 ||| ((1 : Int32) <<< (x3 &&& 31))) x3)
def pX0_calledPhases_J48 (v : Lf) (vs : Lf) (vp : Lf) (Q : Int32 → Prop) (K21 : Int32 → Int32 → Int32 → Prop) (x1 : Int32) (x2 : Int32) (x3 : Int32) (t0 : Int32) : Prop := ((x3 = (v 0 6) → (pX0_calledPhases_J83 v vs vp Q K21 x1 x2 x3)) ∧ (¬ x3 = (v 0 6) → ((¬ t0 = 0 → (pX0_calledPhases_J77 v vs vp Q K21 x1 x2 x3)) ∧ (t0 = 0 → (vp_in x3 6 ∧ ((((vp 1 x3.toNatClampNeg) &&& x1) = 0 → (pX0_calledPhases_J83 v vs vp Q K21 x1 x2 x3)) ∧ (¬ ((vp 1 x3.toNatClampNeg) &&& x1) = 0 → (pX0_calledPhases_J77 v vs vp Q K21 x1 x2 x3))))))))
def pX0_calledPhases_J47 (v : Lf) (vs : Lf) (vp : Lf) (Q : Int32 → Prop) (K21 : Int32 → Int32 → Int32 → Prop) (x1 : Int32) (x2 : Int32) (x3 : Int32) : Prop := (pX0_calledPhases_J48 v vs vp Q K21 x1 x2 x3 (0 : Int32))
def pX0_calledPhases_L21 (v : Lf) (vs : Lf) (vp : Lf) (Q : Int32 → Prop) : Nat → Int32 → Int32 → Int32 → Prop
  | 0, _, _, _ => False
  | n21 + 1, x1, x2, x3 => (((vp 0 0) ≤ x3 → (Q x2 )) ∧ (¬ (vp 0 0) ≤ x3 → ((¬ x3 = 0 → (pX0_calledPhases_J47 v vs vp Q (fun x1 x2 x3 => pX0_calledPhases_L21 v vs vp Q n21 x1 x2 x3) x1 x2 x3)) ∧ (x3 = 0 → (((v 0 13) ≤ 0 → (pX0_calledPhases_J47 v vs vp Q (fun x1 x2 x3 => pX0_calledPhases_L21 v vs vp Q n21 x1 x2 x3) x1 x2 x3)) ∧ (¬ (v 0 13) ≤ 0 → (pX0_calledPhases_J48 v vs vp Q (fun x1 x2 x3 => pX0_calledPhases_L21 v vs vp Q n21 x1 x2 x3) x1 x2 x3 (1 : Int32))))))))
def pX0_calledPhases (v : Lf) (vs : Lf) (vp : Lf)  (Q : Int32 → Prop) : Prop := ((¬ (v 0 4) = 0 → (pX5_calling vs (fun r2 => (∃ n21, pX0_calledPhases_L21 v vs vp Q  n21 r2 (0 : Int32) (0 : Int32))))) ∧ ((v 0 4) = 0 → (Q (0 : Int32) )))
abbrev rmX0_calledPhases : Room := { frames := 2, cells := 0, slots := 0, locals := 43 }
abbrev wdX0_calledPhases : List Cond := Cond.code yX0_calledPhases cX0_calledPhases 5 (some .int) :: TB
theorem hdSX0_calledPhases : (yX0_calledPhases).cls ≠ "java/lang/invoke/MethodHandle" ∧ (yX0_calledPhases).cls ≠ "java/lang/invoke/VarHandle" ∧ (parseMethodDescriptor (yX0_calledPhases).desc).map (fun d => d.parameters.length) = some 0 := by decide +kernel
theorem hdX0_calledPhases : (yX0_calledPhases).cls = RX0 ∧ (yX0_calledPhases).cls ≠ "java/lang/invoke/MethodHandle" ∧ (yX0_calledPhases).cls ≠ "java/lang/invoke/VarHandle" ∧ (parseMethodDescriptor (yX0_calledPhases).desc).map (fun d => d.parameters.length) = some 0 := ⟨rfl, hdSX0_calledPhases⟩
set_option maxHeartbeats 4000000 in
set_option maxRecDepth 100000 in
theorem kX0_calledPhases {l : Launch} {D : va_G} {cI cJ cT : ClassId} (d : Nat → Nat) (dj : Nat → Nat) (ds : Nat → Nat) (dp : Nat → Nat) (dr : Nat → Nat)  (v : Lf) (vs : Lf) (vp : Lf)  {Q : Int32 → Prop} (sz : Nat) (h : pX0_calledPhases v vs vp Q) : Met l yX0_calledPhases wdX0_calledPhases rmX0_calledPhases (Pz D (tyL cI cJ cT) [.ref (d 0)] ((wX0 d (dj 0) (ds 0) (dp 0) (dr 0) v) ++ ((wX5 cI ds vs) ++ (wX2 cI dp vp))) sz) (va_Qi (fun (r : Int32) (u : Unit) => Q r) (Bz D (tyL cI cJ cT) ((wX0 d (dj 0) (ds 0) (dp 0) (dr 0) v) ++ ((wX5 cI ds vs) ++ (wX2 cI dp vp))) sz (fun (u : Unit) => ((wX0 d (dj 0) (ds 0) (dp 0) (dr 0) v) ++ ((wX5 cI ds vs) ++ (wX2 cI dp vp))))) (va_A ((wX0 d (dj 0) (ds 0) (dp 0) (dr 0) v) ++ ((wX5 cI ds vs) ++ (wX2 cI dp vp))) sz)) 0 0 (va_A ((wX0 d (dj 0) (ds 0) (dp 0) (dr 0) v) ++ ((wX5 cI ds vs) ++ (wX2 cI dp vp))) sz) := by
  refine z_meti (cc := cX0_calledPhases) (maxL := 5) (own := RX0) (lv0 := [(0, .ref (d 0))]) (by decide) rfl rfl (Nat.le_of_ble_eq_true rfl) rfl ?_
  intro p e s m args below meth c A QQ C hin hret
  have J83 : ∀ (K21 : Int32 → Int32 → Int32 → Prop), (∀ (x1 : Int32) (x2 : Int32) (x3 : Int32), K21 x1 x2 x3 → ZZ p l e rmX0_calledPhases s m args below meth c D A 5 0 0 QQ 21 ((wX0 d (dj 0) (ds 0) (dp 0) (dr 0) v) ++ ((wX5 cI ds vs) ++ (wX2 cI dp vp))) [(0, .ref (d 0)), (1, .int x1), (2, .int x2), (3, .int x3)] []) → ∀ (x1 : Int32) (x2 : Int32) (x3 : Int32), pX0_calledPhases_J83 v vs vp Q K21 x1 x2 x3 → ZZ p l e rmX0_calledPhases s m args below meth c D A 5 0 0 QQ 83 ((wX0 d (dj 0) (ds 0) (dp 0) (dr 0) v) ++ ((wX5 cI ds vs) ++ (wX2 cI dp vp))) [(0, .ref (d 0)), (1, .int x1), (2, .int x2), (3, .int x3)] [] := by
    intro K21 hK21 x1 x2 x3 h
    refine z_iinc (pc := 83) (v := (x3 + 1)) (lv' := [(3, .int (x3 + 1)), (0, .ref (d 0)), (1, .int x1), (2, .int x2)]) C 3 dX0_calledPhases_83 rfl rfl (by decide) rfl ?_
    refine z_goto (pc := 86) (tgt := 21) C dX0_calledPhases_86 (by decide) ?_
    refine z_sub (lv' := [(0, .ref (d 0)), (1, .int x1), (2, .int x2), (3, .int (x3 + 1))]) [1, 2, 3, 0] rfl ?_
    exact hK21 x1 x2 (x3 + 1) h
  have J77 : ∀ (K21 : Int32 → Int32 → Int32 → Prop), (∀ (x1 : Int32) (x2 : Int32) (x3 : Int32), K21 x1 x2 x3 → ZZ p l e rmX0_calledPhases s m args below meth c D A 5 0 0 QQ 21 ((wX0 d (dj 0) (ds 0) (dp 0) (dr 0) v) ++ ((wX5 cI ds vs) ++ (wX2 cI dp vp))) [(0, .ref (d 0)), (1, .int x1), (2, .int x2), (3, .int x3)] []) → ∀ (x1 : Int32) (x2 : Int32) (x3 : Int32), pX0_calledPhases_J77 v vs vp Q K21 x1 x2 x3 → ZZ p l e rmX0_calledPhases s m args below meth c D A 5 0 0 QQ 77 ((wX0 d (dj 0) (ds 0) (dp 0) (dr 0) v) ++ ((wX5 cI ds vs) ++ (wX2 cI dp vp))) [(0, .ref (d 0)), (1, .int x1), (2, .int x2), (3, .int x3)] [] := by
    intro K21 hK21 x1 x2 x3 h
    refine z_iload_n (pc := 77) C 2 dX0_calledPhases_77 rfl ?_
    refine z_iconst (pc := 78) (v := 1) C dX0_calledPhases_78 (by decide) ?_
    refine z_iload_n (pc := 79) C 3 dX0_calledPhases_79 rfl ?_
    refine z_ishl (pc := 80) C dX0_calledPhases_80 ?_
    refine z_ior (pc := 81) C dX0_calledPhases_81 ?_
    refine z_istore_n (pc := 82) (lv' := [(2, .int (x2 ||| ((1 : Int32) <<< (x3 &&& 31)))), (0, .ref (d 0)), (1, .int x1), (3, .int x3)]) C dX0_calledPhases_82 (by decide) rfl ?_
    refine z_sub (lv' := [(0, .ref (d 0)), (1, .int x1), (2, .int (x2 ||| ((1 : Int32) <<< (x3 &&& 31)))), (3, .int x3)]) [1, 2, 0, 3] rfl ?_
    exact J83 K21 hK21 x1 (x2 ||| ((1 : Int32) <<< (x3 &&& 31))) x3 h
  have J48 : ∀ (K21 : Int32 → Int32 → Int32 → Prop), (∀ (x1 : Int32) (x2 : Int32) (x3 : Int32), K21 x1 x2 x3 → ZZ p l e rmX0_calledPhases s m args below meth c D A 5 0 0 QQ 21 ((wX0 d (dj 0) (ds 0) (dp 0) (dr 0) v) ++ ((wX5 cI ds vs) ++ (wX2 cI dp vp))) [(0, .ref (d 0)), (1, .int x1), (2, .int x2), (3, .int x3)] []) → ∀ (x1 : Int32) (x2 : Int32) (x3 : Int32) (t0 : Int32), pX0_calledPhases_J48 v vs vp Q K21 x1 x2 x3 t0 → ZZ p l e rmX0_calledPhases s m args below meth c D A 5 0 0 QQ 48 ((wX0 d (dj 0) (ds 0) (dp 0) (dr 0) v) ++ ((wX5 cI ds vs) ++ (wX2 cI dp vp))) [(0, .ref (d 0)), (1, .int x1), (2, .int x2), (3, .int x3)] [.int t0] := by
    intro K21 hK21 x1 x2 x3 t0 h
    refine z_istore (pc := 48) (lv' := [(4, .int t0), (0, .ref (d 0)), (1, .int x1), (2, .int x2), (3, .int x3)]) C dX0_calledPhases_48 (by decide) rfl ?_
    refine z_iload_n (pc := 50) C 4 dX0_calledPhases_50 rfl ?_
    refine z_aload_n (pc := 51) C 1 dX0_calledPhases_51 rfl ?_
    refine z_get (pc := 52) C uw0 0 rfl rfl 6 (by decide) wq50 rfl dX0_calledPhases_52 ?_
    refine z_icmp_eq (pc := 55) (tgt := 83) C dX0_calledPhases_55 (by decide) (fun c5 => ?_) (fun c5 => ?_)
    · have h := h.1 c5
      refine z_sub (lv' := [(0, .ref (d 0)), (1, .int x1), (2, .int x2), (3, .int x3)]) [1, 2, 3, 4] rfl ?_
      exact J83 K21 hK21 x1 x2 x3 h
    · have h := h.2 c5
      refine z_iload (pc := 58) C 0 dX0_calledPhases_58 rfl ?_
      refine z_if_ne (pc := 60) (tgt := 77) C dX0_calledPhases_60 (by decide) (fun c6 => ?_) (fun c6 => ?_)
      · have h := h.1 c6
        refine z_sub (lv' := [(0, .ref (d 0)), (1, .int x1), (2, .int x2), (3, .int x3)]) [1, 2, 3, 4] rfl ?_
        exact J77 K21 hK21 x1 x2 x3 h
      · have h := h.2 c6
        refine z_aload_n (pc := 63) C 1 dX0_calledPhases_63 rfl ?_
        refine z_get (pc := 64) C uw0 0 rfl rfl 2 (by decide) wq45 rfl dX0_calledPhases_64 ?_
        refine z_get (pc := 67) C uw2 9 rfl rfl 1 (by decide) wq147 rfl dX0_calledPhases_67 ?_
        refine z_iload_n (pc := 70) C 4 dX0_calledPhases_70 rfl ?_
        obtain ⟨g7, h⟩ := h
        refine z_iald (pc := 71) C 10 0 rfl rfl g7 (vp 1 x3.toNatClampNeg) rfl dX0_calledPhases_71 ?_
        refine z_iload_n (pc := 72) C 2 dX0_calledPhases_72 rfl ?_
        refine z_iand (pc := 73) C dX0_calledPhases_73 ?_
        refine z_if_eq (pc := 74) (tgt := 83) C dX0_calledPhases_74 (by decide) (fun c8 => ?_) (fun c8 => ?_)
        · have h := h.1 c8
          refine z_sub (lv' := [(0, .ref (d 0)), (1, .int x1), (2, .int x2), (3, .int x3)]) [1, 2, 3, 4] rfl ?_
          exact J83 K21 hK21 x1 x2 x3 h
        · have h := h.2 c8
          refine z_sub (lv' := [(0, .ref (d 0)), (1, .int x1), (2, .int x2), (3, .int x3)]) [1, 2, 3, 4] rfl ?_
          exact J77 K21 hK21 x1 x2 x3 h
  have J47 : ∀ (K21 : Int32 → Int32 → Int32 → Prop), (∀ (x1 : Int32) (x2 : Int32) (x3 : Int32), K21 x1 x2 x3 → ZZ p l e rmX0_calledPhases s m args below meth c D A 5 0 0 QQ 21 ((wX0 d (dj 0) (ds 0) (dp 0) (dr 0) v) ++ ((wX5 cI ds vs) ++ (wX2 cI dp vp))) [(0, .ref (d 0)), (1, .int x1), (2, .int x2), (3, .int x3)] []) → ∀ (x1 : Int32) (x2 : Int32) (x3 : Int32), pX0_calledPhases_J47 v vs vp Q K21 x1 x2 x3 → ZZ p l e rmX0_calledPhases s m args below meth c D A 5 0 0 QQ 47 ((wX0 d (dj 0) (ds 0) (dp 0) (dr 0) v) ++ ((wX5 cI ds vs) ++ (wX2 cI dp vp))) [(0, .ref (d 0)), (1, .int x1), (2, .int x2), (3, .int x3)] [] := by
    intro K21 hK21 x1 x2 x3 h
    refine z_iconst (pc := 47) (v := 0) C dX0_calledPhases_47 (by decide) ?_
    exact J48 K21 hK21 x1 x2 x3 (0 : Int32) h
  have L21 : ∀ (n21 : Nat) (x1 : Int32) (x2 : Int32) (x3 : Int32), pX0_calledPhases_L21 v vs vp Q n21 x1 x2 x3 → ZZ p l e rmX0_calledPhases s m args below meth c D A 5 0 0 QQ 21 ((wX0 d (dj 0) (ds 0) (dp 0) (dr 0) v) ++ ((wX5 cI ds vs) ++ (wX2 cI dp vp))) [(0, .ref (d 0)), (1, .int x1), (2, .int x2), (3, .int x3)] [] := by
    intro n21
    induction n21 with
    | zero => intro x1 x2 x3 h; exact False.elim h
    | succ n21 ih21 =>
      intro x1 x2 x3 h
      refine z_iload_n (pc := 21) C 3 dX0_calledPhases_21 rfl ?_
      refine z_aload_n (pc := 22) C 0 dX0_calledPhases_22 rfl ?_
      refine z_get (pc := 23) C uw0 0 rfl rfl 2 (by decide) wq45 rfl dX0_calledPhases_23 ?_
      refine z_get (pc := 26) C uw2 9 rfl rfl 0 (by decide) wq182 rfl dX0_calledPhases_26 ?_
      refine z_icmp_ge (pc := 29) (tgt := 89) C dX0_calledPhases_29 (by decide) (fun c3 => ?_) (fun c3 => ?_)
      · have h := h.1 c3
        refine z_iload_n (pc := 89) C 2 dX0_calledPhases_89 rfl ?_
        exact hret 90 _ _ x2 () rfl h dX0_calledPhases_90
      · have h := h.2 c3
        refine z_iload_n (pc := 32) C 3 dX0_calledPhases_32 rfl ?_
        refine z_if_ne (pc := 33) (tgt := 47) C dX0_calledPhases_33 (by decide) (fun c4 => ?_) (fun c4 => ?_)
        · have h := h.1 c4
          exact J47 (fun x1 x2 x3 => pX0_calledPhases_L21 v vs vp Q n21 x1 x2 x3) ih21 x1 x2 x3 h
        · have h := h.2 c4
          refine z_aload_n (pc := 36) C 0 dX0_calledPhases_36 rfl ?_
          refine z_get (pc := 37) C uw0 0 rfl rfl 13 (by decide) wq86 rfl dX0_calledPhases_37 ?_
          refine z_if_le (pc := 40) (tgt := 47) C dX0_calledPhases_40 (by decide) (fun c9 => ?_) (fun c9 => ?_)
          · have h := h.1 c9
            exact J47 (fun x1 x2 x3 => pX0_calledPhases_L21 v vs vp Q n21 x1 x2 x3) ih21 x1 x2 x3 h
          · have h := h.2 c9
            refine z_iconst (pc := 43) (v := 1) C dX0_calledPhases_43 (by decide) ?_
            refine z_goto (pc := 44) (tgt := 48) C dX0_calledPhases_44 (by decide) ?_
            exact J48 (fun x1 x2 x3 => pX0_calledPhases_L21 v vs vp Q n21 x1 x2 x3) ih21 x1 x2 x3 (1 : Int32) h
  refine z_aload_n (pc := 0) C 0 dX0_calledPhases_0 rfl ?_
  refine z_get (pc := 1) C uw0 0 rfl rfl 4 (by decide) wq81 rfl dX0_calledPhases_1 ?_
  refine z_if_ne (pc := 4) (tgt := 9) C dX0_calledPhases_4 (by decide) (fun c1 => ?_) (fun c1 => ?_)
  · have h := h.1 c1
    refine z_aload_n (pc := 9) C 0 dX0_calledPhases_9 rfl ?_
    refine z_get (pc := 10) C uw0 0 rfl rfl 1 (by decide) wq41 rfl dX0_calledPhases_10 ?_
    refine z_callRi (pc := 13) C (z_runV (pc := 13) (wc := (wX5 cI ds vs)) (As := []) C (fun sz => kX5_calling ds vs sz h) [1, 2, 3, 4, 5, 6, 7, 8] rfl (by decide) (gdV wq179 wq183 wq184 wq185 wq40) rfl rfl rfl hdX5_calling 1 rfl rfl rfl ⟨Nat.le_of_ble_eq_true rfl, Nat.le_of_ble_eq_true rfl⟩ rfl (Nat.le_of_ble_eq_true rfl) ⟨Nat.zero_le _, Nat.zero_le _⟩ dX0_calledPhases_13) [1, 2, 3, 4, 5, 6, 7, 8] rfl (by decide) (fun r2 u2 h => ?_)
    refine z_istore_n (pc := 16) (lv' := [(1, .int r2), (0, .ref (d 0))]) C dX0_calledPhases_16 (by decide) rfl ?_
    refine z_iconst (pc := 17) (v := 0) C dX0_calledPhases_17 (by decide) ?_
    refine z_istore_n (pc := 18) (lv' := [(2, .int (0 : Int32)), (1, .int r2), (0, .ref (d 0))]) C dX0_calledPhases_18 (by decide) rfl ?_
    refine z_iconst (pc := 19) (v := 0) C dX0_calledPhases_19 (by decide) ?_
    refine z_istore_n (pc := 20) (lv' := [(3, .int (0 : Int32)), (2, .int (0 : Int32)), (1, .int r2), (0, .ref (d 0))]) C dX0_calledPhases_20 (by decide) rfl ?_
    obtain ⟨n21, h⟩ := h
    refine z_sub (lv' := [(0, .ref (d 0)), (1, .int r2), (2, .int (0 : Int32)), (3, .int (0 : Int32))]) [3, 2, 1, 0] rfl ?_
    exact L21  n21 r2 (0 : Int32) (0 : Int32) h
  · have h := h.2 c1
    refine z_iconst (pc := 7) (v := 0) C dX0_calledPhases_7 (by decide) ?_
    exact hret 8 _ _ (0 : Int32) () rfl h dX0_calledPhases_8

def pX0_isForced (v : Lf) (vp : Lf)  (Q : Int32 → Prop) : Prop := (((v 0 13) ≤ 0 → (Q (0 : Int32) )) ∧ (¬ (v 0 13) ≤ 0 → (((v 0 6) = 0 → (Q (0 : Int32) )) ∧ (¬ (v 0 6) = 0 → (pX0_local v (fun r3 => (vp_in (v 0 6) 6 ∧ ((r3 < (vp 2 (v 0 6).toNatClampNeg) → (Q (0 : Int32) )) ∧ (¬ r3 < (vp 2 (v 0 6).toNatClampNeg) → (Q (1 : Int32) ))))))))))
abbrev rmX0_isForced : Room := { frames := 2, cells := 0, slots := 0, locals := 42 }
abbrev wdX0_isForced : List Cond := Cond.code yX0_isForced cX0_isForced 1 (some .boolean) :: TB
theorem hdSX0_isForced : (yX0_isForced).cls ≠ "java/lang/invoke/MethodHandle" ∧ (yX0_isForced).cls ≠ "java/lang/invoke/VarHandle" ∧ (parseMethodDescriptor (yX0_isForced).desc).map (fun d => d.parameters.length) = some 0 := by decide +kernel
theorem hdX0_isForced : (yX0_isForced).cls = RX0 ∧ (yX0_isForced).cls ≠ "java/lang/invoke/MethodHandle" ∧ (yX0_isForced).cls ≠ "java/lang/invoke/VarHandle" ∧ (parseMethodDescriptor (yX0_isForced).desc).map (fun d => d.parameters.length) = some 0 := ⟨rfl, hdSX0_isForced⟩
set_option maxHeartbeats 4000000 in
set_option maxRecDepth 100000 in
theorem kX0_isForced {l : Launch} {D : va_G} {cI cJ cT : ClassId} (d : Nat → Nat) (dj : Nat → Nat) (ds : Nat → Nat) (dp : Nat → Nat) (dr : Nat → Nat)  (v : Lf) (vp : Lf)  {Q : Int32 → Prop} (sz : Nat) (h : pX0_isForced v vp Q) : Met l yX0_isForced wdX0_isForced rmX0_isForced (Pz D (tyL cI cJ cT) [.ref (d 0)] ((wX0 d (dj 0) (ds 0) (dp 0) (dr 0) v) ++ (wX2 cI dp vp)) sz) (va_Qi (fun (r : Int32) (u : Unit) => Q r) (Bz D (tyL cI cJ cT) ((wX0 d (dj 0) (ds 0) (dp 0) (dr 0) v) ++ (wX2 cI dp vp)) sz (fun (u : Unit) => ((wX0 d (dj 0) (ds 0) (dp 0) (dr 0) v) ++ (wX2 cI dp vp)))) (va_A ((wX0 d (dj 0) (ds 0) (dp 0) (dr 0) v) ++ (wX2 cI dp vp)) sz)) 0 0 (va_A ((wX0 d (dj 0) (ds 0) (dp 0) (dr 0) v) ++ (wX2 cI dp vp)) sz) := by
  refine z_metz (cc := cX0_isForced) (maxL := 1) (own := RX0) (lv0 := [(0, .ref (d 0))]) (by decide) rfl rfl (Nat.le_of_ble_eq_true rfl) rfl ?_
  intro p e s m args below meth c A QQ C hin hret
  refine z_aload_n (pc := 0) C 0 dX0_isForced_0 rfl ?_
  refine z_get (pc := 1) C uw0 0 rfl rfl 13 (by decide) wq86 rfl dX0_isForced_1 ?_
  refine z_if_le (pc := 4) (tgt := 37) C dX0_isForced_4 (by decide) (fun c1 => ?_) (fun c1 => ?_)
  · have h := h.1 c1
    refine z_iconst (pc := 37) (v := 0) C dX0_isForced_37 (by decide) ?_
    exact hret 38 _ _ (0 : Int32) rfl () rfl h dX0_isForced_38
  · have h := h.2 c1
    refine z_aload_n (pc := 7) C 0 dX0_isForced_7 rfl ?_
    refine z_get (pc := 8) C uw0 0 rfl rfl 6 (by decide) wq50 rfl dX0_isForced_8 ?_
    refine z_if_eq (pc := 11) (tgt := 37) C dX0_isForced_11 (by decide) (fun c2 => ?_) (fun c2 => ?_)
    · have h := h.1 c2
      refine z_iconst (pc := 37) (v := 0) C dX0_isForced_37 (by decide) ?_
      exact hret 38 _ _ (0 : Int32) rfl () rfl h dX0_isForced_38
    · have h := h.2 c2
      refine z_aload_n (pc := 14) C 0 dX0_isForced_14 rfl ?_
      refine z_callRi (pc := 15) C (z_runV (pc := 15) (wc := (wX0 d (dj 0) (ds 0) (dp 0) (dr 0) v)) (As := []) C (fun sz => kX0_local d dj ds dp dr v sz h) [0] rfl (by decide) (gdV wq163 wq167 wq168 wq169 wq108) rfl rfl rfl hdX0_local 0 rfl rfl rfl ⟨Nat.le_of_ble_eq_true rfl, Nat.le_of_ble_eq_true rfl⟩ rfl (Nat.le_of_ble_eq_true rfl) ⟨Nat.zero_le _, Nat.zero_le _⟩ dX0_isForced_15) [0] rfl (by decide) (fun r3 u3 h => ?_)
      refine z_aload_n (pc := 18) C 0 dX0_isForced_18 rfl ?_
      refine z_get (pc := 19) C uw0 0 rfl rfl 2 (by decide) wq45 rfl dX0_isForced_19 ?_
      refine z_get (pc := 22) C uw2 1 rfl rfl 2 (by decide) wq187 rfl dX0_isForced_22 ?_
      refine z_aload_n (pc := 25) C 0 dX0_isForced_25 rfl ?_
      refine z_get (pc := 26) C uw0 0 rfl rfl 6 (by decide) wq50 rfl dX0_isForced_26 ?_
      obtain ⟨g4, h⟩ := h
      refine z_iald (pc := 29) C 3 0 rfl rfl g4 (vp 2 (v 0 6).toNatClampNeg) rfl dX0_isForced_29 ?_
      refine z_icmp_lt (pc := 30) (tgt := 37) C dX0_isForced_30 (by decide) (fun c5 => ?_) (fun c5 => ?_)
      · have h := h.1 c5
        refine z_iconst (pc := 37) (v := 0) C dX0_isForced_37 (by decide) ?_
        exact hret 38 _ _ (0 : Int32) rfl () rfl h dX0_isForced_38
      · have h := h.2 c5
        refine z_iconst (pc := 33) (v := 1) C dX0_isForced_33 (by decide) ?_
        refine z_goto (pc := 34) (tgt := 38) C dX0_isForced_34 (by decide) ?_
        exact hret 38 _ _ (1 : Int32) rfl () rfl h dX0_isForced_38

def pX0_isOneGreenForMost_J40 (v : Lf) (vj : Lf) (vs : Lf) (vp : Lf) (Q : Int32 → Prop) (K2 : Int32 → Prop) (x1 : Int32) : Prop := (K2 (x1 + 1))
def pX0_isOneGreenForMost_L2 (v : Lf) (vj : Lf) (vs : Lf) (vp : Lf) (Q : Int32 → Prop) : Nat → Int32 → Prop
  | 0, _ => False
  | n2 + 1, x1 => (((vj 0 0) ≤ x1 → (Q (0 : Int32) )) ∧ (¬ (vj 0 0) ≤ x1 → (pX0_isInPhase v vp x1 (fun r2 => ((r2 = 0 → (pX0_isOneGreenForMost_J40 v vj vs vp Q (fun x1 => pX0_isOneGreenForMost_L2 v vj vs vp Q n2 x1) x1)) ∧ (¬ r2 = 0 → (pX5_rule vs x1 (1 : Int32) (fun r4 => (pX0_isGreenFor v vs x1 r4 (fun r5 => ((r5 = 0 → (pX0_isOneGreenForMost_J40 v vj vs vp Q (fun x1 => pX0_isOneGreenForMost_L2 v vj vs vp Q n2 x1) x1)) ∧ (¬ r5 = 0 → (Q (1 : Int32) )))))))))))))
def pX0_isOneGreenForMost (v : Lf) (vj : Lf) (vs : Lf) (vp : Lf)  (Q : Int32 → Prop) : Prop := (∃ n2, pX0_isOneGreenForMost_L2 v vj vs vp Q  n2 (0 : Int32))
abbrev rmX0_isOneGreenForMost : Room := { frames := 2, cells := 0, slots := 0, locals := 43 }
abbrev wdX0_isOneGreenForMost : List Cond := Cond.code yX0_isOneGreenForMost cX0_isOneGreenForMost 2 (some .boolean) :: TB
theorem hdSX0_isOneGreenForMost : (yX0_isOneGreenForMost).cls ≠ "java/lang/invoke/MethodHandle" ∧ (yX0_isOneGreenForMost).cls ≠ "java/lang/invoke/VarHandle" ∧ (parseMethodDescriptor (yX0_isOneGreenForMost).desc).map (fun d => d.parameters.length) = some 0 := by decide +kernel
theorem hdX0_isOneGreenForMost : (yX0_isOneGreenForMost).cls = RX0 ∧ (yX0_isOneGreenForMost).cls ≠ "java/lang/invoke/MethodHandle" ∧ (yX0_isOneGreenForMost).cls ≠ "java/lang/invoke/VarHandle" ∧ (parseMethodDescriptor (yX0_isOneGreenForMost).desc).map (fun d => d.parameters.length) = some 0 := ⟨rfl, hdSX0_isOneGreenForMost⟩
set_option maxHeartbeats 4000000 in
set_option maxRecDepth 100000 in
theorem kX0_isOneGreenForMost {l : Launch} {D : va_G} {cI cJ cT : ClassId} (d : Nat → Nat) (dj : Nat → Nat) (ds : Nat → Nat) (dp : Nat → Nat) (dr : Nat → Nat)  (v : Lf) (vj : Lf) (vs : Lf) (vp : Lf)  {Q : Int32 → Prop} (sz : Nat) (h : pX0_isOneGreenForMost v vj vs vp Q) : Met l yX0_isOneGreenForMost wdX0_isOneGreenForMost rmX0_isOneGreenForMost (Pz D (tyL cI cJ cT) [.ref (d 0)] ((wX0 d (dj 0) (ds 0) (dp 0) (dr 0) v) ++ ((wX1 cI dj vj) ++ ((wX5 cI ds vs) ++ (wX2 cI dp vp)))) sz) (va_Qi (fun (r : Int32) (u : Unit) => Q r) (Bz D (tyL cI cJ cT) ((wX0 d (dj 0) (ds 0) (dp 0) (dr 0) v) ++ ((wX1 cI dj vj) ++ ((wX5 cI ds vs) ++ (wX2 cI dp vp)))) sz (fun (u : Unit) => ((wX0 d (dj 0) (ds 0) (dp 0) (dr 0) v) ++ ((wX1 cI dj vj) ++ ((wX5 cI ds vs) ++ (wX2 cI dp vp)))))) (va_A ((wX0 d (dj 0) (ds 0) (dp 0) (dr 0) v) ++ ((wX1 cI dj vj) ++ ((wX5 cI ds vs) ++ (wX2 cI dp vp)))) sz)) 0 0 (va_A ((wX0 d (dj 0) (ds 0) (dp 0) (dr 0) v) ++ ((wX1 cI dj vj) ++ ((wX5 cI ds vs) ++ (wX2 cI dp vp)))) sz) := by
  refine z_metz (cc := cX0_isOneGreenForMost) (maxL := 2) (own := RX0) (lv0 := [(0, .ref (d 0))]) (by decide) rfl rfl (Nat.le_of_ble_eq_true rfl) rfl ?_
  intro p e s m args below meth c A QQ C hin hret
  have J40 : ∀ (K2 : Int32 → Prop), (∀ (x1 : Int32), K2 x1 → ZZ p l e rmX0_isOneGreenForMost s m args below meth c D A 2 0 0 QQ 2 ((wX0 d (dj 0) (ds 0) (dp 0) (dr 0) v) ++ ((wX1 cI dj vj) ++ ((wX5 cI ds vs) ++ (wX2 cI dp vp)))) [(0, .ref (d 0)), (1, .int x1)] []) → ∀ (x1 : Int32), pX0_isOneGreenForMost_J40 v vj vs vp Q K2 x1 → ZZ p l e rmX0_isOneGreenForMost s m args below meth c D A 2 0 0 QQ 40 ((wX0 d (dj 0) (ds 0) (dp 0) (dr 0) v) ++ ((wX1 cI dj vj) ++ ((wX5 cI ds vs) ++ (wX2 cI dp vp)))) [(0, .ref (d 0)), (1, .int x1)] [] := by
    intro K2 hK2 x1 h
    refine z_iinc (pc := 40) (v := (x1 + 1)) (lv' := [(1, .int (x1 + 1)), (0, .ref (d 0))]) C 1 dX0_isOneGreenForMost_40 rfl rfl (by decide) rfl ?_
    refine z_goto (pc := 43) (tgt := 2) C dX0_isOneGreenForMost_43 (by decide) ?_
    refine z_sub (lv' := [(0, .ref (d 0)), (1, .int (x1 + 1))]) [1, 0] rfl ?_
    exact hK2 (x1 + 1) h
  have L2 : ∀ (n2 : Nat) (x1 : Int32), pX0_isOneGreenForMost_L2 v vj vs vp Q n2 x1 → ZZ p l e rmX0_isOneGreenForMost s m args below meth c D A 2 0 0 QQ 2 ((wX0 d (dj 0) (ds 0) (dp 0) (dr 0) v) ++ ((wX1 cI dj vj) ++ ((wX5 cI ds vs) ++ (wX2 cI dp vp)))) [(0, .ref (d 0)), (1, .int x1)] [] := by
    intro n2
    induction n2 with
    | zero => intro x1 h; exact False.elim h
    | succ n2 ih2 =>
      intro x1 h
      refine z_iload_n (pc := 2) C 1 dX0_isOneGreenForMost_2 rfl ?_
      refine z_aload_n (pc := 3) C 0 dX0_isOneGreenForMost_3 rfl ?_
      refine z_get (pc := 4) C uw0 0 rfl rfl 0 (by decide) wq37 rfl dX0_isOneGreenForMost_4 ?_
      refine z_get (pc := 7) C uw1 1 rfl rfl 0 (by decide) wq122 rfl dX0_isOneGreenForMost_7 ?_
      refine z_icmp_ge (pc := 10) (tgt := 46) C dX0_isOneGreenForMost_10 (by decide) (fun c1 => ?_) (fun c1 => ?_)
      · have h := h.1 c1
        refine z_iconst (pc := 46) (v := 0) C dX0_isOneGreenForMost_46 (by decide) ?_
        exact hret 47 _ _ (0 : Int32) rfl () rfl h dX0_isOneGreenForMost_47
      · have h := h.2 c1
        refine z_aload_n (pc := 13) C 0 dX0_isOneGreenForMost_13 rfl ?_
        refine z_iload_n (pc := 14) C 1 dX0_isOneGreenForMost_14 rfl ?_
        refine z_callRi (pc := 15) C (z_runV (pc := 15) (wc := ((wX0 d (dj 0) (ds 0) (dp 0) (dr 0) v) ++ (wX2 cI dp vp))) (As := [.int x1]) C (fun sz => kX0_isInPhase d dj ds dp dr v vp x1 sz h) [0, 15, 16, 17, 18] rfl (by decide) (gdV wq170 wq172 wq173 wq174 wq108) rfl rfl rfl hdX0_isInPhase 0 rfl rfl rfl ⟨Nat.le_of_ble_eq_true rfl, Nat.le_of_ble_eq_true rfl⟩ rfl (Nat.le_of_ble_eq_true rfl) ⟨Nat.zero_le _, Nat.zero_le _⟩ dX0_isOneGreenForMost_15) [0, 15, 16, 17, 18] rfl (by decide) (fun r2 u2 h => ?_)
        refine z_if_eq (pc := 18) (tgt := 40) C dX0_isOneGreenForMost_18 (by decide) (fun c3 => ?_) (fun c3 => ?_)
        · have h := h.1 c3
          exact J40 (fun x1 => pX0_isOneGreenForMost_L2 v vj vs vp Q n2 x1) ih2 x1 h
        · have h := h.2 c3
          refine z_aload_n (pc := 21) C 0 dX0_isOneGreenForMost_21 rfl ?_
          refine z_iload_n (pc := 22) C 1 dX0_isOneGreenForMost_22 rfl ?_
          refine z_aload_n (pc := 23) C 0 dX0_isOneGreenForMost_23 rfl ?_
          refine z_get (pc := 24) C uw0 0 rfl rfl 1 (by decide) wq41 rfl dX0_isOneGreenForMost_24 ?_
          refine z_iload_n (pc := 27) C 1 dX0_isOneGreenForMost_27 rfl ?_
          refine z_iconst (pc := 28) (v := 1) C dX0_isOneGreenForMost_28 (by decide) ?_
          refine z_callRi (pc := 29) C (z_runV (pc := 29) (wc := (wX5 cI ds vs)) (As := [.int x1, .int (1 : Int32)]) C (fun sz => kX5_rule ds vs x1 (1 : Int32) sz h) [7, 8, 9, 10, 11, 12, 13, 14] rfl (by decide) (gdV wq117 wq125 wq126 wq127 wq40) rfl rfl rfl hdX5_rule 7 rfl rfl rfl ⟨Nat.le_of_ble_eq_true rfl, Nat.le_of_ble_eq_true rfl⟩ rfl (Nat.le_of_ble_eq_true rfl) ⟨Nat.zero_le _, Nat.zero_le _⟩ dX0_isOneGreenForMost_29) [7, 8, 9, 10, 11, 12, 13, 14] rfl (by decide) (fun r4 u4 h => ?_)
          refine z_callRi (pc := 32) C (z_runV (pc := 32) (wc := ((wX0 d (dj 0) (ds 0) (dp 0) (dr 0) v) ++ (wX5 cI ds vs))) (As := [.int x1, .int r4]) C (fun sz => kX0_isGreenFor d dj ds dp dr v vs x1 r4 sz h) [0, 7, 8, 9, 10, 11, 12, 13, 14] rfl (by decide) (gdV wq171 wq175 wq176 wq177 wq108) rfl rfl rfl hdX0_isGreenFor 0 rfl rfl rfl ⟨Nat.le_of_ble_eq_true rfl, Nat.le_of_ble_eq_true rfl⟩ rfl (Nat.le_of_ble_eq_true rfl) ⟨Nat.zero_le _, Nat.zero_le _⟩ dX0_isOneGreenForMost_32) [0, 7, 8, 9, 10, 11, 12, 13, 14] rfl (by decide) (fun r5 u5 h => ?_)
          refine z_if_eq (pc := 35) (tgt := 40) C dX0_isOneGreenForMost_35 (by decide) (fun c6 => ?_) (fun c6 => ?_)
          · have h := h.1 c6
            exact J40 (fun x1 => pX0_isOneGreenForMost_L2 v vj vs vp Q n2 x1) ih2 x1 h
          · have h := h.2 c6
            refine z_iconst (pc := 38) (v := 1) C dX0_isOneGreenForMost_38 (by decide) ?_
            exact hret 39 _ _ (1 : Int32) rfl () rfl h dX0_isOneGreenForMost_39
  refine z_iconst (pc := 0) (v := 0) C dX0_isOneGreenForMost_0 (by decide) ?_
  refine z_istore_n (pc := 1) (lv' := [(1, .int (0 : Int32)), (0, .ref (d 0))]) C dX0_isOneGreenForMost_1 (by decide) rfl ?_
  obtain ⟨n2, h⟩ := h
  refine z_sub (lv' := [(0, .ref (d 0)), (1, .int (0 : Int32))]) [1, 0] rfl ?_
  exact L2  n2 (0 : Int32) h

def pX0_areAllGapsOver_J57 (v : Lf) (vj : Lf) (vs : Lf) (vp : Lf) (Q : Int32 → Prop) (K2 : Int32 → Prop) (x1 : Int32) : Prop := (K2 (x1 + 1))
def pX0_areAllGapsOver_L2 (v : Lf) (vj : Lf) (vs : Lf) (vp : Lf) (Q : Int32 → Prop) : Nat → Int32 → Prop
  | 0, _ => False
  | n2 + 1, x1 => (((vj 0 0) ≤ x1 → (Q (1 : Int32) )) ∧ (¬ (vj 0 0) ≤ x1 → (vp_in x1 8 ∧ (pX0_isInPhase v vp x1 (fun r3 => ((r3 = 0 → (pX0_areAllGapsOver_J57 v vj vs vp Q (fun x1 => pX0_areAllGapsOver_L2 v vj vs vp Q n2 x1) x1)) ∧ (¬ r3 = 0 → (((vs 3 x1.toNatClampNeg) = (-5 : Int32) → (pX0_areAllGapsOver_J57 v vj vs vp Q (fun x1 => pX0_areAllGapsOver_L2 v vj vs vp Q n2 x1) x1)) ∧ (¬ (vs 3 x1.toNatClampNeg) = (-5 : Int32) → (pX5_rule vs x1 (2 : Int32) (fun r6 => ((r6 ≤ ((v 0 5) - (vs 3 x1.toNatClampNeg)) → (pX0_areAllGapsOver_J57 v vj vs vp Q (fun x1 => pX0_areAllGapsOver_L2 v vj vs vp Q n2 x1) x1)) ∧ (¬ r6 ≤ ((v 0 5) - (vs 3 x1.toNatClampNeg)) → (Q (0 : Int32) ))))))))))))))
def pX0_areAllGapsOver (v : Lf) (vj : Lf) (vs : Lf) (vp : Lf)  (Q : Int32 → Prop) : Prop := (∃ n2, pX0_areAllGapsOver_L2 v vj vs vp Q  n2 (0 : Int32))
abbrev rmX0_areAllGapsOver : Room := { frames := 2, cells := 0, slots := 0, locals := 42 }
abbrev wdX0_areAllGapsOver : List Cond := Cond.code yX0_areAllGapsOver cX0_areAllGapsOver 3 (some .boolean) :: TB
theorem hdSX0_areAllGapsOver : (yX0_areAllGapsOver).cls ≠ "java/lang/invoke/MethodHandle" ∧ (yX0_areAllGapsOver).cls ≠ "java/lang/invoke/VarHandle" ∧ (parseMethodDescriptor (yX0_areAllGapsOver).desc).map (fun d => d.parameters.length) = some 0 := by decide +kernel
theorem hdX0_areAllGapsOver : (yX0_areAllGapsOver).cls = RX0 ∧ (yX0_areAllGapsOver).cls ≠ "java/lang/invoke/MethodHandle" ∧ (yX0_areAllGapsOver).cls ≠ "java/lang/invoke/VarHandle" ∧ (parseMethodDescriptor (yX0_areAllGapsOver).desc).map (fun d => d.parameters.length) = some 0 := ⟨rfl, hdSX0_areAllGapsOver⟩
set_option maxHeartbeats 4000000 in
set_option maxRecDepth 100000 in
theorem kX0_areAllGapsOver {l : Launch} {D : va_G} {cI cJ cT : ClassId} (d : Nat → Nat) (dj : Nat → Nat) (ds : Nat → Nat) (dp : Nat → Nat) (dr : Nat → Nat)  (v : Lf) (vj : Lf) (vs : Lf) (vp : Lf)  {Q : Int32 → Prop} (sz : Nat) (h : pX0_areAllGapsOver v vj vs vp Q) : Met l yX0_areAllGapsOver wdX0_areAllGapsOver rmX0_areAllGapsOver (Pz D (tyL cI cJ cT) [.ref (d 0)] ((wX0 d (dj 0) (ds 0) (dp 0) (dr 0) v) ++ ((wX1 cI dj vj) ++ ((wX5 cI ds vs) ++ (wX2 cI dp vp)))) sz) (va_Qi (fun (r : Int32) (u : Unit) => Q r) (Bz D (tyL cI cJ cT) ((wX0 d (dj 0) (ds 0) (dp 0) (dr 0) v) ++ ((wX1 cI dj vj) ++ ((wX5 cI ds vs) ++ (wX2 cI dp vp)))) sz (fun (u : Unit) => ((wX0 d (dj 0) (ds 0) (dp 0) (dr 0) v) ++ ((wX1 cI dj vj) ++ ((wX5 cI ds vs) ++ (wX2 cI dp vp)))))) (va_A ((wX0 d (dj 0) (ds 0) (dp 0) (dr 0) v) ++ ((wX1 cI dj vj) ++ ((wX5 cI ds vs) ++ (wX2 cI dp vp)))) sz)) 0 0 (va_A ((wX0 d (dj 0) (ds 0) (dp 0) (dr 0) v) ++ ((wX1 cI dj vj) ++ ((wX5 cI ds vs) ++ (wX2 cI dp vp)))) sz) := by
  refine z_metz (cc := cX0_areAllGapsOver) (maxL := 3) (own := RX0) (lv0 := [(0, .ref (d 0))]) (by decide) rfl rfl (Nat.le_of_ble_eq_true rfl) rfl ?_
  intro p e s m args below meth c A QQ C hin hret
  have J57 : ∀ (K2 : Int32 → Prop), (∀ (x1 : Int32), K2 x1 → ZZ p l e rmX0_areAllGapsOver s m args below meth c D A 3 0 0 QQ 2 ((wX0 d (dj 0) (ds 0) (dp 0) (dr 0) v) ++ ((wX1 cI dj vj) ++ ((wX5 cI ds vs) ++ (wX2 cI dp vp)))) [(0, .ref (d 0)), (1, .int x1)] []) → ∀ (x1 : Int32), pX0_areAllGapsOver_J57 v vj vs vp Q K2 x1 → ZZ p l e rmX0_areAllGapsOver s m args below meth c D A 3 0 0 QQ 57 ((wX0 d (dj 0) (ds 0) (dp 0) (dr 0) v) ++ ((wX1 cI dj vj) ++ ((wX5 cI ds vs) ++ (wX2 cI dp vp)))) [(0, .ref (d 0)), (1, .int x1)] [] := by
    intro K2 hK2 x1 h
    refine z_iinc (pc := 57) (v := (x1 + 1)) (lv' := [(1, .int (x1 + 1)), (0, .ref (d 0))]) C 1 dX0_areAllGapsOver_57 rfl rfl (by decide) rfl ?_
    refine z_goto (pc := 60) (tgt := 2) C dX0_areAllGapsOver_60 (by decide) ?_
    refine z_sub (lv' := [(0, .ref (d 0)), (1, .int (x1 + 1))]) [1, 0] rfl ?_
    exact hK2 (x1 + 1) h
  have L2 : ∀ (n2 : Nat) (x1 : Int32), pX0_areAllGapsOver_L2 v vj vs vp Q n2 x1 → ZZ p l e rmX0_areAllGapsOver s m args below meth c D A 3 0 0 QQ 2 ((wX0 d (dj 0) (ds 0) (dp 0) (dr 0) v) ++ ((wX1 cI dj vj) ++ ((wX5 cI ds vs) ++ (wX2 cI dp vp)))) [(0, .ref (d 0)), (1, .int x1)] [] := by
    intro n2
    induction n2 with
    | zero => intro x1 h; exact False.elim h
    | succ n2 ih2 =>
      intro x1 h
      refine z_iload_n (pc := 2) C 1 dX0_areAllGapsOver_2 rfl ?_
      refine z_aload_n (pc := 3) C 0 dX0_areAllGapsOver_3 rfl ?_
      refine z_get (pc := 4) C uw0 0 rfl rfl 0 (by decide) wq37 rfl dX0_areAllGapsOver_4 ?_
      refine z_get (pc := 7) C uw1 1 rfl rfl 0 (by decide) wq122 rfl dX0_areAllGapsOver_7 ?_
      refine z_icmp_ge (pc := 10) (tgt := 63) C dX0_areAllGapsOver_10 (by decide) (fun c1 => ?_) (fun c1 => ?_)
      · have h := h.1 c1
        refine z_iconst (pc := 63) (v := 1) C dX0_areAllGapsOver_63 (by decide) ?_
        exact hret 64 _ _ (1 : Int32) rfl () rfl h dX0_areAllGapsOver_64
      · have h := h.2 c1
        refine z_aload_n (pc := 13) C 0 dX0_areAllGapsOver_13 rfl ?_
        refine z_get (pc := 14) C uw0 0 rfl rfl 1 (by decide) wq41 rfl dX0_areAllGapsOver_14 ?_
        refine z_get (pc := 17) C uw5 7 rfl rfl 3 (by decide) wq124 rfl dX0_areAllGapsOver_17 ?_
        refine z_iload_n (pc := 20) C 1 dX0_areAllGapsOver_20 rfl ?_
        obtain ⟨g2, h⟩ := h
        refine z_iald (pc := 21) C 10 0 rfl rfl g2 (vs 3 x1.toNatClampNeg) rfl dX0_areAllGapsOver_21 ?_
        refine z_istore_n (pc := 22) (lv' := [(2, .int (vs 3 x1.toNatClampNeg)), (0, .ref (d 0)), (1, .int x1)]) C dX0_areAllGapsOver_22 (by decide) rfl ?_
        refine z_aload_n (pc := 23) C 1 dX0_areAllGapsOver_23 rfl ?_
        refine z_iload_n (pc := 24) C 2 dX0_areAllGapsOver_24 rfl ?_
        refine z_callRi (pc := 25) C (z_runV (pc := 25) (wc := ((wX0 d (dj 0) (ds 0) (dp 0) (dr 0) v) ++ (wX2 cI dp vp))) (As := [.int x1]) C (fun sz => kX0_isInPhase d dj ds dp dr v vp x1 sz h) [0, 15, 16, 17, 18] rfl (by decide) (gdV wq170 wq172 wq173 wq174 wq108) rfl rfl rfl hdX0_isInPhase 0 rfl rfl rfl ⟨Nat.le_of_ble_eq_true rfl, Nat.le_of_ble_eq_true rfl⟩ rfl (Nat.le_of_ble_eq_true rfl) ⟨Nat.zero_le _, Nat.zero_le _⟩ dX0_areAllGapsOver_25) [0, 15, 16, 17, 18] rfl (by decide) (fun r3 u3 h => ?_)
        refine z_if_eq (pc := 28) (tgt := 57) C dX0_areAllGapsOver_28 (by decide) (fun c4 => ?_) (fun c4 => ?_)
        · have h := h.1 c4
          refine z_sub (lv' := [(0, .ref (d 0)), (1, .int x1)]) [1, 2] rfl ?_
          exact J57 (fun x1 => pX0_areAllGapsOver_L2 v vj vs vp Q n2 x1) ih2 x1 h
        · have h := h.2 c4
          refine z_iload_n (pc := 31) C 0 dX0_areAllGapsOver_31 rfl ?_
          refine z_bipush (pc := 32) (v := -5) C dX0_areAllGapsOver_32 (by decide) ?_
          refine z_icmp_eq (pc := 34) (tgt := 57) C dX0_areAllGapsOver_34 (by decide) (fun c5 => ?_) (fun c5 => ?_)
          · have h := h.1 c5
            refine z_sub (lv' := [(0, .ref (d 0)), (1, .int x1)]) [1, 2] rfl ?_
            exact J57 (fun x1 => pX0_areAllGapsOver_L2 v vj vs vp Q n2 x1) ih2 x1 h
          · have h := h.2 c5
            refine z_aload_n (pc := 37) C 1 dX0_areAllGapsOver_37 rfl ?_
            refine z_get (pc := 38) C uw0 0 rfl rfl 5 (by decide) wq82 rfl dX0_areAllGapsOver_38 ?_
            refine z_iload_n (pc := 41) C 0 dX0_areAllGapsOver_41 rfl ?_
            refine z_isub (pc := 42) C dX0_areAllGapsOver_42 ?_
            refine z_aload_n (pc := 43) C 1 dX0_areAllGapsOver_43 rfl ?_
            refine z_get (pc := 44) C uw0 0 rfl rfl 1 (by decide) wq41 rfl dX0_areAllGapsOver_44 ?_
            refine z_iload_n (pc := 47) C 2 dX0_areAllGapsOver_47 rfl ?_
            refine z_iconst (pc := 48) (v := 2) C dX0_areAllGapsOver_48 (by decide) ?_
            refine z_callRi (pc := 49) C (z_runV (pc := 49) (wc := (wX5 cI ds vs)) (As := [.int x1, .int (2 : Int32)]) C (fun sz => kX5_rule ds vs x1 (2 : Int32) sz h) [7, 8, 9, 10, 11, 12, 13, 14] rfl (by decide) (gdV wq117 wq125 wq126 wq127 wq40) rfl rfl rfl hdX5_rule 7 rfl rfl rfl ⟨Nat.le_of_ble_eq_true rfl, Nat.le_of_ble_eq_true rfl⟩ rfl (Nat.le_of_ble_eq_true rfl) ⟨Nat.zero_le _, Nat.zero_le _⟩ dX0_areAllGapsOver_49) [7, 8, 9, 10, 11, 12, 13, 14] rfl (by decide) (fun r6 u6 h => ?_)
            refine z_icmp_ge (pc := 52) (tgt := 57) C dX0_areAllGapsOver_52 (by decide) (fun c7 => ?_) (fun c7 => ?_)
            · have h := h.1 c7
              refine z_sub (lv' := [(0, .ref (d 0)), (1, .int x1)]) [1, 2] rfl ?_
              exact J57 (fun x1 => pX0_areAllGapsOver_L2 v vj vs vp Q n2 x1) ih2 x1 h
            · have h := h.2 c7
              refine z_iconst (pc := 55) (v := 0) C dX0_areAllGapsOver_55 (by decide) ?_
              exact hret 56 _ _ (0 : Int32) rfl () rfl h dX0_areAllGapsOver_56
  refine z_iconst (pc := 0) (v := 0) C dX0_areAllGapsOver_0 (by decide) ?_
  refine z_istore_n (pc := 1) (lv' := [(1, .int (0 : Int32)), (0, .ref (d 0))]) C dX0_areAllGapsOver_1 (by decide) rfl ?_
  obtain ⟨n2, h⟩ := h
  refine z_sub (lv' := [(0, .ref (d 0)), (1, .int (0 : Int32))]) [1, 0] rfl ?_
  exact L2  n2 (0 : Int32) h

def pX0_nextOf_L61 (v : Lf) (vp : Lf) (x1 : Int32) (Q : Int32 → Prop) : Nat → Int32 → Prop
  | 0, _ => False
  | n61 + 1, x2 => (((v 0 6) ≤ x2 → (Q (v 0 6) )) ∧ (¬ (v 0 6) ≤ x2 → (pX9_isIn x1 x2 (fun r4 => ((r4 = 0 → (pX0_nextOf_L61 v vp x1 Q n61 (x2 + 1))) ∧ (¬ r4 = 0 → (Q x2 )))))))
def pX0_nextOf_L32 (v : Lf) (vp : Lf) (x1 : Int32) (Q : Int32 → Prop) : Nat → Int32 → Prop
  | 0, _ => False
  | n32 + 1, x2 => (((vp 0 0) ≤ x2 → (∃ n61, pX0_nextOf_L61 v vp x1 Q  n61 (0 : Int32))) ∧ (¬ (vp 0 0) ≤ x2 → (pX9_isIn x1 x2 (fun r6 => ((r6 = 0 → (pX0_nextOf_L32 v vp x1 Q n32 (x2 + 1))) ∧ (¬ r6 = 0 → (Q x2 )))))))
def pX0_nextOf_J25 (v : Lf) (vp : Lf) (x1 : Int32) (Q : Int32 → Prop)  : Prop := (∃ n32, pX0_nextOf_L32 v vp x1 Q  n32 ((v 0 6) + (1 : Int32)))
def pX0_nextOf (v : Lf) (vp : Lf) (x1 : Int32) (Q : Int32 → Prop) : Prop := (((v 0 7) = (-5 : Int32) → (pX0_nextOf_J25 v vp x1 Q  )) ∧ (¬ (v 0 7) = (-5 : Int32) → (pX9_isIn x1 (v 0 7) (fun r8 => ((r8 = 0 → (pX0_nextOf_J25 v vp x1 Q  )) ∧ (¬ r8 = 0 → (Q (v 0 7) )))))))
abbrev rmX0_nextOf : Room := { frames := 1, cells := 0, slots := 0, locals := 21 }
abbrev wdX0_nextOf : List Cond := Cond.code yX0_nextOf cX0_nextOf 3 (some .int) :: TB
theorem hdSX0_nextOf : (yX0_nextOf).cls ≠ "java/lang/invoke/MethodHandle" ∧ (yX0_nextOf).cls ≠ "java/lang/invoke/VarHandle" ∧ (parseMethodDescriptor (yX0_nextOf).desc).map (fun d => d.parameters.length) = some 1 := by decide +kernel
theorem hdX0_nextOf : (yX0_nextOf).cls = RX0 ∧ (yX0_nextOf).cls ≠ "java/lang/invoke/MethodHandle" ∧ (yX0_nextOf).cls ≠ "java/lang/invoke/VarHandle" ∧ (parseMethodDescriptor (yX0_nextOf).desc).map (fun d => d.parameters.length) = some 1 := ⟨rfl, hdSX0_nextOf⟩
set_option maxHeartbeats 4000000 in
set_option maxRecDepth 100000 in
theorem kX0_nextOf {l : Launch} {D : va_G} {cI cJ cT : ClassId} (d : Nat → Nat) (dj : Nat → Nat) (ds : Nat → Nat) (dp : Nat → Nat) (dr : Nat → Nat)  (v : Lf) (vp : Lf) (x1 : Int32) {Q : Int32 → Prop} (sz : Nat) (h : pX0_nextOf v vp x1 Q) : Met l yX0_nextOf wdX0_nextOf rmX0_nextOf (Pz D (tyL cI cJ cT) [.ref (d 0), .int x1] ((wX0 d (dj 0) (ds 0) (dp 0) (dr 0) v) ++ (wX2 cI dp vp)) sz) (va_Qi (fun (r : Int32) (u : Unit) => Q r) (Bz D (tyL cI cJ cT) ((wX0 d (dj 0) (ds 0) (dp 0) (dr 0) v) ++ (wX2 cI dp vp)) sz (fun (u : Unit) => ((wX0 d (dj 0) (ds 0) (dp 0) (dr 0) v) ++ (wX2 cI dp vp)))) (va_A ((wX0 d (dj 0) (ds 0) (dp 0) (dr 0) v) ++ (wX2 cI dp vp)) sz)) 0 0 (va_A ((wX0 d (dj 0) (ds 0) (dp 0) (dr 0) v) ++ (wX2 cI dp vp)) sz) := by
  refine z_meti (cc := cX0_nextOf) (maxL := 3) (own := RX0) (lv0 := [(0, .ref (d 0)), (1, .int x1)]) (by decide) rfl rfl (Nat.le_of_ble_eq_true rfl) rfl ?_
  intro p e s m args below meth c A QQ C hin hret
  have L61 : ∀ (n61 : Nat) (x2 : Int32), pX0_nextOf_L61 v vp x1 Q n61 x2 → ZZ p l e rmX0_nextOf s m args below meth c D A 3 0 0 QQ 61 ((wX0 d (dj 0) (ds 0) (dp 0) (dr 0) v) ++ (wX2 cI dp vp)) [(0, .ref (d 0)), (1, .int x1), (2, .int x2)] [] := by
    intro n61
    induction n61 with
    | zero => intro x2 h; exact False.elim h
    | succ n61 ih61 =>
      intro x2 h
      refine z_iload_n (pc := 61) C 2 dX0_nextOf_61 rfl ?_
      refine z_aload_n (pc := 62) C 0 dX0_nextOf_62 rfl ?_
      refine z_get (pc := 63) C uw0 0 rfl rfl 6 (by decide) wq50 rfl dX0_nextOf_63 ?_
      refine z_icmp_ge (pc := 66) (tgt := 85) C dX0_nextOf_66 (by decide) (fun c3 => ?_) (fun c3 => ?_)
      · have h := h.1 c3
        refine z_aload_n (pc := 85) C 0 dX0_nextOf_85 rfl ?_
        refine z_get (pc := 86) C uw0 0 rfl rfl 6 (by decide) wq50 rfl dX0_nextOf_86 ?_
        exact hret 89 _ _ (v 0 6) () rfl h dX0_nextOf_89
      · have h := h.2 c3
        refine z_iload_n (pc := 69) C 1 dX0_nextOf_69 rfl ?_
        refine z_iload_n (pc := 70) C 2 dX0_nextOf_70 rfl ?_
        refine z_call0i (pc := 71) C (z_runSN (pc := 71) (wc := ([] : va_W)) (As := [.int x1, .int x2]) (host := "SafeClears") C (fun sz => kX9_isIn x1 x2 sz h) [] rfl (by decide) (gdC wq109) (by decide +kernel) rfl rfl rfl wq111 wq112 hdSX9_isIn ⟨Nat.le_of_ble_eq_true rfl, Nat.le_of_ble_eq_true rfl⟩ rfl (Nat.le_of_ble_eq_true rfl) ⟨Nat.zero_le _, Nat.zero_le _⟩ dX0_nextOf_71) (fun r4 u4 h => ?_)
        refine z_if_eq (pc := 74) (tgt := 79) C dX0_nextOf_74 (by decide) (fun c5 => ?_) (fun c5 => ?_)
        · have h := h.1 c5
          refine z_iinc (pc := 79) (v := (x2 + 1)) (lv' := [(2, .int (x2 + 1)), (0, .ref (d 0)), (1, .int x1)]) C 2 dX0_nextOf_79 rfl rfl (by decide) rfl ?_
          refine z_goto (pc := 82) (tgt := 61) C dX0_nextOf_82 (by decide) ?_
          refine z_sub (lv' := [(0, .ref (d 0)), (1, .int x1), (2, .int (x2 + 1))]) [1, 2, 0] rfl ?_
          exact ih61 (x2 + 1) h
        · have h := h.2 c5
          refine z_iload_n (pc := 77) C 2 dX0_nextOf_77 rfl ?_
          exact hret 78 _ _ x2 () rfl h dX0_nextOf_78
  have L32 : ∀ (n32 : Nat) (x2 : Int32), pX0_nextOf_L32 v vp x1 Q n32 x2 → ZZ p l e rmX0_nextOf s m args below meth c D A 3 0 0 QQ 32 ((wX0 d (dj 0) (ds 0) (dp 0) (dr 0) v) ++ (wX2 cI dp vp)) [(0, .ref (d 0)), (1, .int x1), (2, .int x2)] [] := by
    intro n32
    induction n32 with
    | zero => intro x2 h; exact False.elim h
    | succ n32 ih32 =>
      intro x2 h
      refine z_iload_n (pc := 32) C 2 dX0_nextOf_32 rfl ?_
      refine z_aload_n (pc := 33) C 0 dX0_nextOf_33 rfl ?_
      refine z_get (pc := 34) C uw0 0 rfl rfl 2 (by decide) wq45 rfl dX0_nextOf_34 ?_
      refine z_get (pc := 37) C uw2 1 rfl rfl 0 (by decide) wq182 rfl dX0_nextOf_37 ?_
      refine z_icmp_ge (pc := 40) (tgt := 59) C dX0_nextOf_40 (by decide) (fun c2 => ?_) (fun c2 => ?_)
      · have h := h.1 c2
        refine z_iconst (pc := 59) (v := 0) C dX0_nextOf_59 (by decide) ?_
        refine z_istore_n (pc := 60) (lv' := [(2, .int (0 : Int32)), (0, .ref (d 0)), (1, .int x1)]) C dX0_nextOf_60 (by decide) rfl ?_
        obtain ⟨n61, h⟩ := h
        refine z_sub (lv' := [(0, .ref (d 0)), (1, .int x1), (2, .int (0 : Int32))]) [1, 2, 0] rfl ?_
        exact L61  n61 (0 : Int32) h
      · have h := h.2 c2
        refine z_iload_n (pc := 43) C 1 dX0_nextOf_43 rfl ?_
        refine z_iload_n (pc := 44) C 2 dX0_nextOf_44 rfl ?_
        refine z_call0i (pc := 45) C (z_runSN (pc := 45) (wc := ([] : va_W)) (As := [.int x1, .int x2]) (host := "SafeClears") C (fun sz => kX9_isIn x1 x2 sz h) [] rfl (by decide) (gdC wq109) (by decide +kernel) rfl rfl rfl wq111 wq112 hdSX9_isIn ⟨Nat.le_of_ble_eq_true rfl, Nat.le_of_ble_eq_true rfl⟩ rfl (Nat.le_of_ble_eq_true rfl) ⟨Nat.zero_le _, Nat.zero_le _⟩ dX0_nextOf_45) (fun r6 u6 h => ?_)
        refine z_if_eq (pc := 48) (tgt := 53) C dX0_nextOf_48 (by decide) (fun c7 => ?_) (fun c7 => ?_)
        · have h := h.1 c7
          refine z_iinc (pc := 53) (v := (x2 + 1)) (lv' := [(2, .int (x2 + 1)), (0, .ref (d 0)), (1, .int x1)]) C 2 dX0_nextOf_53 rfl rfl (by decide) rfl ?_
          refine z_goto (pc := 56) (tgt := 32) C dX0_nextOf_56 (by decide) ?_
          refine z_sub (lv' := [(0, .ref (d 0)), (1, .int x1), (2, .int (x2 + 1))]) [1, 2, 0] rfl ?_
          exact ih32 (x2 + 1) h
        · have h := h.2 c7
          refine z_iload_n (pc := 51) C 2 dX0_nextOf_51 rfl ?_
          exact hret 52 _ _ x2 () rfl h dX0_nextOf_52
  have J25 :  pX0_nextOf_J25 v vp x1 Q  → ZZ p l e rmX0_nextOf s m args below meth c D A 3 0 0 QQ 25 ((wX0 d (dj 0) (ds 0) (dp 0) (dr 0) v) ++ (wX2 cI dp vp)) [(0, .ref (d 0)), (1, .int x1)] [] := by
    intro   h
    refine z_aload_n (pc := 25) C 0 dX0_nextOf_25 rfl ?_
    refine z_get (pc := 26) C uw0 0 rfl rfl 6 (by decide) wq50 rfl dX0_nextOf_26 ?_
    refine z_iconst (pc := 29) (v := 1) C dX0_nextOf_29 (by decide) ?_
    refine z_iadd (pc := 30) C dX0_nextOf_30 ?_
    refine z_istore_n (pc := 31) (lv' := [(2, .int ((v 0 6) + (1 : Int32))), (0, .ref (d 0)), (1, .int x1)]) C dX0_nextOf_31 (by decide) rfl ?_
    obtain ⟨n32, h⟩ := h
    refine z_sub (lv' := [(0, .ref (d 0)), (1, .int x1), (2, .int ((v 0 6) + (1 : Int32)))]) [1, 2, 0] rfl ?_
    exact L32  n32 ((v 0 6) + (1 : Int32)) h
  refine z_aload_n (pc := 0) C 0 dX0_nextOf_0 rfl ?_
  refine z_get (pc := 1) C uw0 0 rfl rfl 7 (by decide) wq51 rfl dX0_nextOf_1 ?_
  refine z_bipush (pc := 4) (v := -5) C dX0_nextOf_4 (by decide) ?_
  refine z_icmp_eq (pc := 6) (tgt := 25) C dX0_nextOf_6 (by decide) (fun c1 => ?_) (fun c1 => ?_)
  · have h := h.1 c1
    exact J25   h
  · have h := h.2 c1
    refine z_iload_n (pc := 9) C 1 dX0_nextOf_9 rfl ?_
    refine z_aload_n (pc := 10) C 0 dX0_nextOf_10 rfl ?_
    refine z_get (pc := 11) C uw0 0 rfl rfl 7 (by decide) wq51 rfl dX0_nextOf_11 ?_
    refine z_call0i (pc := 14) C (z_runSN (pc := 14) (wc := ([] : va_W)) (As := [.int x1, .int (v 0 7)]) (host := "SafeClears") C (fun sz => kX9_isIn x1 (v 0 7) sz h) [] rfl (by decide) (gdC wq109) (by decide +kernel) rfl rfl rfl wq111 wq112 hdSX9_isIn ⟨Nat.le_of_ble_eq_true rfl, Nat.le_of_ble_eq_true rfl⟩ rfl (Nat.le_of_ble_eq_true rfl) ⟨Nat.zero_le _, Nat.zero_le _⟩ dX0_nextOf_14) (fun r8 u8 h => ?_)
    refine z_if_eq (pc := 17) (tgt := 25) C dX0_nextOf_17 (by decide) (fun c9 => ?_) (fun c9 => ?_)
    · have h := h.1 c9
      exact J25   h
    · have h := h.2 c9
      refine z_aload_n (pc := 20) C 0 dX0_nextOf_20 rfl ?_
      refine z_get (pc := 21) C uw0 0 rfl rfl 7 (by decide) wq51 rfl dX0_nextOf_21 ?_
      exact hret 24 _ _ (v 0 7) () rfl h dX0_nextOf_24

def pX0_changeByCalls_J45 (vj : Lf) (Q : Lf → Lf → Lf → Lf → Prop) (v : Lf) (vs : Lf) (vp : Lf) (vr : Lf) (x1 : Int32) : Prop := (pX0_nextOf v vp x1 (fun r9 => (pX0_changeTo (st v 0 7 (-5 : Int32)) vj vs vp vr r9 (fun v_10 vs_10 vp_10 vr_10 => (Q v_10 vs_10 vp_10 vr_10)))))
def pX0_changeByCalls (v : Lf) (vj : Lf) (vs : Lf) (vp : Lf) (vr : Lf)  (Q : Lf → Lf → Lf → Lf → Prop) : Prop := (pX0_isHeld v (fun r1 => ((¬ r1 = 0 → (Q v vs vp vr)) ∧ (r1 = 0 → (pX0_areAllGreenForLeast v vj vs vp (fun r3 => ((¬ r3 = 0 → (pX0_calledPhases v vs vp (fun r5 => ((r5 = 0 → (Q v vs vp vr)) ∧ (¬ r5 = 0 → (pX0_isForced v vp (fun r7 => ((¬ r7 = 0 → (pX0_changeByCalls_J45 vj Q  v vs vp vr r5)) ∧ (r7 = 0 → (pX0_isOneGreenForMost v vj vs vp (fun r11 => ((¬ r11 = 0 → (pX0_changeByCalls_J45 vj Q  v vs vp vr r5)) ∧ (r11 = 0 → (pX0_areAllGapsOver v vj vs vp (fun r13 => ((r13 = 0 → (Q v vs vp vr)) ∧ (¬ r13 = 0 → (pX0_changeByCalls_J45 vj Q  v vs vp vr r5)))))))))))))))))) ∧ (r3 = 0 → (Q v vs vp vr)))))))))
abbrev rmX0_changeByCalls : Room := { frames := 3, cells := 0, slots := 0, locals := 145 }
abbrev wdX0_changeByCalls : List Cond := Cond.code yX0_changeByCalls cX0_changeByCalls 3 none :: TB
theorem hdSX0_changeByCalls : (yX0_changeByCalls).cls ≠ "java/lang/invoke/MethodHandle" ∧ (yX0_changeByCalls).cls ≠ "java/lang/invoke/VarHandle" ∧ (parseMethodDescriptor (yX0_changeByCalls).desc).map (fun d => d.parameters.length) = some 0 := by decide +kernel
theorem hdX0_changeByCalls : (yX0_changeByCalls).cls = RX0 ∧ (yX0_changeByCalls).cls ≠ "java/lang/invoke/MethodHandle" ∧ (yX0_changeByCalls).cls ≠ "java/lang/invoke/VarHandle" ∧ (parseMethodDescriptor (yX0_changeByCalls).desc).map (fun d => d.parameters.length) = some 0 := ⟨rfl, hdSX0_changeByCalls⟩
set_option maxHeartbeats 4000000 in
set_option maxRecDepth 100000 in
theorem kX0_changeByCalls {l : Launch} {D : va_G} {cI cJ cT : ClassId} (d : Nat → Nat) (dj : Nat → Nat) (ds : Nat → Nat) (dp : Nat → Nat) (dr : Nat → Nat)  (v : Lf) (vj : Lf) (vs : Lf) (vp : Lf) (vr : Lf)  {Q : Lf → Lf → Lf → Lf → Prop} (sz : Nat) (h : pX0_changeByCalls v vj vs vp vr Q) : Met l yX0_changeByCalls wdX0_changeByCalls rmX0_changeByCalls (Pz D (tyL cI cJ cT) [.ref (d 0)] ((wX0 d (dj 0) (ds 0) (dp 0) (dr 0) v) ++ ((wX1 cI dj vj) ++ ((wX5 cI ds vs) ++ ((wX2 cI dp vp) ++ (wX4 cI 72 dr vr))))) sz) (va_Qv (fun (u : Lf × Lf × Lf × Lf) => Q u.1 u.2.1 u.2.2.1 u.2.2.2) (Bz D (tyL cI cJ cT) ((wX0 d (dj 0) (ds 0) (dp 0) (dr 0) v) ++ ((wX1 cI dj vj) ++ ((wX5 cI ds vs) ++ ((wX2 cI dp vp) ++ (wX4 cI 72 dr vr))))) sz (fun (u : Lf × Lf × Lf × Lf) => ((wX0 d (dj 0) (ds 0) (dp 0) (dr 0) u.1) ++ ((wX1 cI dj vj) ++ ((wX5 cI ds u.2.1) ++ ((wX2 cI dp u.2.2.1) ++ (wX4 cI 72 dr u.2.2.2))))))) (va_A ((wX0 d (dj 0) (ds 0) (dp 0) (dr 0) v) ++ ((wX1 cI dj vj) ++ ((wX5 cI ds vs) ++ ((wX2 cI dp vp) ++ (wX4 cI 72 dr vr))))) sz)) 0 0 (va_A ((wX0 d (dj 0) (ds 0) (dp 0) (dr 0) v) ++ ((wX1 cI dj vj) ++ ((wX5 cI ds vs) ++ ((wX2 cI dp vp) ++ (wX4 cI 72 dr vr))))) sz) := by
  refine z_metv (cc := cX0_changeByCalls) (maxL := 3) (own := RX0) (lv0 := [(0, .ref (d 0))]) (by decide) rfl rfl (Nat.le_of_ble_eq_true rfl) rfl ?_
  intro p e s m args below meth c A QQ C hin hret
  have J45 : ∀ (v : Lf) (vs : Lf) (vp : Lf) (vr : Lf) (x1 : Int32), pX0_changeByCalls_J45 vj Q v vs vp vr x1 → ZZ p l e rmX0_changeByCalls s m args below meth c D A 3 0 0 QQ 45 ((wX0 d (dj 0) (ds 0) (dp 0) (dr 0) v) ++ ((wX1 cI dj vj) ++ ((wX5 cI ds vs) ++ ((wX2 cI dp vp) ++ (wX4 cI 72 dr vr))))) [(0, .ref (d 0)), (1, .int x1)] [] := by
    intro  v vs vp vr x1 h
    refine z_aload_n (pc := 45) C 0 dX0_changeByCalls_45 rfl ?_
    refine z_iload_n (pc := 46) C 1 dX0_changeByCalls_46 rfl ?_
    refine z_callRi (pc := 47) C (z_runV (pc := 47) (wc := ((wX0 d (dj 0) (ds 0) (dp 0) (dr 0) v) ++ (wX2 cI dp vp))) (As := [.int x1]) C (fun sz => kX0_nextOf d dj ds dp dr v vp x1 sz h) [0, 15, 16, 17, 18] rfl (by decide) (gdV wq190 wq209 wq210 wq211 wq108) rfl rfl rfl hdX0_nextOf 0 rfl rfl rfl ⟨Nat.le_of_ble_eq_true rfl, Nat.le_of_ble_eq_true rfl⟩ rfl (Nat.le_of_ble_eq_true rfl) ⟨Nat.zero_le _, Nat.zero_le _⟩ dX0_changeByCalls_47) [0, 15, 16, 17, 18] rfl (by decide) (fun r9 u9 h => ?_)
    refine z_istore_n (pc := 50) (lv' := [(2, .int r9), (0, .ref (d 0)), (1, .int x1)]) C dX0_changeByCalls_50 (by decide) rfl ?_
    refine z_aload_n (pc := 51) C 1 dX0_changeByCalls_51 rfl ?_
    refine z_bipush (pc := 52) (v := -5) C dX0_changeByCalls_52 (by decide) ?_
    refine z_put (pc := 54) (ws' := ((wX0 d (dj 0) (ds 0) (dp 0) (dr 0) (st v 0 7 (-5 : Int32))) ++ ((wX1 cI dj vj) ++ ((wX5 cI ds vs) ++ ((wX2 cI dp vp) ++ (wX4 cI 72 dr vr)))))) C uw0 tyX0 tyX0_ok nmX0 0 rfl rfl 7 (by decide) wq51 rfl rfl rfl (Nat.le_of_ble_eq_true rfl) dX0_changeByCalls_54 (set_l (Nat.le_of_ble_eq_true rfl) sX0_f7) ?_
    refine z_aload_n (pc := 57) C 1 dX0_changeByCalls_57 rfl ?_
    refine z_iload_n (pc := 58) C 0 dX0_changeByCalls_58 rfl ?_
    refine z_callv (pc := 59) (wr := ([] : va_W)) (w1 := fun (u : Lf × Lf × Lf × Lf) => ((wX0 d (dj 0) (ds 0) (dp 0) (dr 0) u.1) ++ ((wX1 cI dj vj) ++ ((wX5 cI ds u.2.1) ++ ((wX2 cI dp u.2.2.1) ++ (wX4 cI 72 dr u.2.2.2)))))) (w2 := fun (u : Lf × Lf × Lf × Lf) => ((wX0 d (dj 0) (ds 0) (dp 0) (dr 0) u.1) ++ ((wX1 cI dj vj) ++ ((wX5 cI ds u.2.1) ++ ((wX2 cI dp u.2.2.1) ++ (wX4 cI 72 dr u.2.2.2)))))) C (z_runV (pc := 59) (wc := ((wX0 d (dj 0) (ds 0) (dp 0) (dr 0) (st v 0 7 (-5 : Int32))) ++ ((wX1 cI dj vj) ++ ((wX5 cI ds vs) ++ ((wX2 cI dp vp) ++ (wX4 cI 72 dr vr)))))) (As := [.int r9]) C (fun sz => kX0_changeTo d dj ds dp dr (st v 0 7 (-5 : Int32)) vj vs vp vr r9 sz h) [0, 1, 2, 3, 4, 5, 6, 7, 8, 9, 10, 11, 12, 13, 14, 15, 16, 17, 18, 19, 20] rfl (by decide) (gdV wq154 wq158 wq159 wq160 wq108) rfl rfl rfl hdX0_changeTo 0 rfl rfl rfl ⟨Nat.le_of_ble_eq_true rfl, Nat.le_of_ble_eq_true rfl⟩ rfl (Nat.le_of_ble_eq_true rfl) ⟨Nat.zero_le _, Nat.zero_le _⟩ dX0_changeByCalls_59) [0, 1, 2, 3, 4, 5, 6, 7, 8, 9, 10, 11, 12, 13, 14, 15, 16, 17, 18, 19, 20] [] [0, 1, 2, 3, 4, 5, 6, 7, 8, 9, 10, 11, 12, 13, 14, 15, 16, 17, 18, 19, 20] rfl rfl (by decide) (by decide) (fun _ => rfl) (by decide) (fun u10 h => ?_)
    obtain ⟨v_10, vs_10, vp_10, vr_10⟩ := u10
    dsimp only at h
    exact hret 62 _ _ (v_10, vs_10, vp_10, vr_10) rfl h dX0_changeByCalls_62
  refine z_aload_n (pc := 0) C 0 dX0_changeByCalls_0 rfl ?_
  refine z_callRi (pc := 1) C (z_runV (pc := 1) (wc := (wX0 d (dj 0) (ds 0) (dp 0) (dr 0) v)) (As := []) C (fun sz => kX0_isHeld d dj ds dp dr v sz h) [0] rfl (by decide) (gdV wq166 wq191 wq192 wq193 wq108) rfl rfl rfl hdX0_isHeld 0 rfl rfl rfl ⟨Nat.le_of_ble_eq_true rfl, Nat.le_of_ble_eq_true rfl⟩ rfl (Nat.le_of_ble_eq_true rfl) ⟨Nat.zero_le _, Nat.zero_le _⟩ dX0_changeByCalls_1) [0] rfl (by decide) (fun r1 u1 h => ?_)
  refine z_if_ne (pc := 4) (tgt := 14) C dX0_changeByCalls_4 (by decide) (fun c2 => ?_) (fun c2 => ?_)
  · have h := h.1 c2
    exact hret 14 _ _ (v, vs, vp, vr) rfl h dX0_changeByCalls_14
  · have h := h.2 c2
    refine z_aload_n (pc := 7) C 0 dX0_changeByCalls_7 rfl ?_
    refine z_callRi (pc := 8) C (z_runV (pc := 8) (wc := ((wX0 d (dj 0) (ds 0) (dp 0) (dr 0) v) ++ ((wX1 cI dj vj) ++ ((wX5 cI ds vs) ++ (wX2 cI dp vp))))) (As := []) C (fun sz => kX0_areAllGreenForLeast d dj ds dp dr v vj vs vp sz h) [0, 1, 2, 3, 4, 5, 6, 7, 8, 9, 10, 11, 12, 13, 14, 15, 16, 17, 18] rfl (by decide) (gdV wq178 wq194 wq195 wq196 wq108) rfl rfl rfl hdX0_areAllGreenForLeast 0 rfl rfl rfl ⟨Nat.le_of_ble_eq_true rfl, Nat.le_of_ble_eq_true rfl⟩ rfl (Nat.le_of_ble_eq_true rfl) ⟨Nat.zero_le _, Nat.zero_le _⟩ dX0_changeByCalls_8) [0, 1, 2, 3, 4, 5, 6, 7, 8, 9, 10, 11, 12, 13, 14, 15, 16, 17, 18] rfl (by decide) (fun r3 u3 h => ?_)
    refine z_if_ne (pc := 11) (tgt := 15) C dX0_changeByCalls_11 (by decide) (fun c4 => ?_) (fun c4 => ?_)
    · have h := h.1 c4
      refine z_aload_n (pc := 15) C 0 dX0_changeByCalls_15 rfl ?_
      refine z_callRi (pc := 16) C (z_runV (pc := 16) (wc := ((wX0 d (dj 0) (ds 0) (dp 0) (dr 0) v) ++ ((wX5 cI ds vs) ++ (wX2 cI dp vp)))) (As := []) C (fun sz => kX0_calledPhases d dj ds dp dr v vs vp sz h) [0, 7, 8, 9, 10, 11, 12, 13, 14, 15, 16, 17, 18] rfl (by decide) (gdV wq181 wq197 wq198 wq199 wq108) rfl rfl rfl hdX0_calledPhases 0 rfl rfl rfl ⟨Nat.le_of_ble_eq_true rfl, Nat.le_of_ble_eq_true rfl⟩ rfl (Nat.le_of_ble_eq_true rfl) ⟨Nat.zero_le _, Nat.zero_le _⟩ dX0_changeByCalls_16) [0, 7, 8, 9, 10, 11, 12, 13, 14, 15, 16, 17, 18] rfl (by decide) (fun r5 u5 h => ?_)
      refine z_istore_n (pc := 19) (lv' := [(1, .int r5), (0, .ref (d 0))]) C dX0_changeByCalls_19 (by decide) rfl ?_
      refine z_iload_n (pc := 20) C 0 dX0_changeByCalls_20 rfl ?_
      refine z_if_eq (pc := 21) (tgt := 62) C dX0_changeByCalls_21 (by decide) (fun c6 => ?_) (fun c6 => ?_)
      · have h := h.1 c6
        exact hret 62 _ _ (v, vs, vp, vr) rfl h dX0_changeByCalls_62
      · have h := h.2 c6
        refine z_aload_n (pc := 24) C 1 dX0_changeByCalls_24 rfl ?_
        refine z_callRi (pc := 25) C (z_runV (pc := 25) (wc := ((wX0 d (dj 0) (ds 0) (dp 0) (dr 0) v) ++ (wX2 cI dp vp))) (As := []) C (fun sz => kX0_isForced d dj ds dp dr v vp sz h) [0, 15, 16, 17, 18] rfl (by decide) (gdV wq186 wq200 wq201 wq202 wq108) rfl rfl rfl hdX0_isForced 0 rfl rfl rfl ⟨Nat.le_of_ble_eq_true rfl, Nat.le_of_ble_eq_true rfl⟩ rfl (Nat.le_of_ble_eq_true rfl) ⟨Nat.zero_le _, Nat.zero_le _⟩ dX0_changeByCalls_25) [0, 15, 16, 17, 18] rfl (by decide) (fun r7 u7 h => ?_)
        refine z_if_ne (pc := 28) (tgt := 45) C dX0_changeByCalls_28 (by decide) (fun c8 => ?_) (fun c8 => ?_)
        · have h := h.1 c8
          refine z_sub (lv' := [(0, .ref (d 0)), (1, .int r5)]) [1, 0] rfl ?_
          exact J45  v vs vp vr r5 h
        · have h := h.2 c8
          refine z_aload_n (pc := 31) C 1 dX0_changeByCalls_31 rfl ?_
          refine z_callRi (pc := 32) C (z_runV (pc := 32) (wc := ((wX0 d (dj 0) (ds 0) (dp 0) (dr 0) v) ++ ((wX1 cI dj vj) ++ ((wX5 cI ds vs) ++ (wX2 cI dp vp))))) (As := []) C (fun sz => kX0_isOneGreenForMost d dj ds dp dr v vj vs vp sz h) [0, 1, 2, 3, 4, 5, 6, 7, 8, 9, 10, 11, 12, 13, 14, 15, 16, 17, 18] rfl (by decide) (gdV wq188 wq203 wq204 wq205 wq108) rfl rfl rfl hdX0_isOneGreenForMost 0 rfl rfl rfl ⟨Nat.le_of_ble_eq_true rfl, Nat.le_of_ble_eq_true rfl⟩ rfl (Nat.le_of_ble_eq_true rfl) ⟨Nat.zero_le _, Nat.zero_le _⟩ dX0_changeByCalls_32) [0, 1, 2, 3, 4, 5, 6, 7, 8, 9, 10, 11, 12, 13, 14, 15, 16, 17, 18] rfl (by decide) (fun r11 u11 h => ?_)
          refine z_if_ne (pc := 35) (tgt := 45) C dX0_changeByCalls_35 (by decide) (fun c12 => ?_) (fun c12 => ?_)
          · have h := h.1 c12
            refine z_sub (lv' := [(0, .ref (d 0)), (1, .int r5)]) [1, 0] rfl ?_
            exact J45  v vs vp vr r5 h
          · have h := h.2 c12
            refine z_aload_n (pc := 38) C 1 dX0_changeByCalls_38 rfl ?_
            refine z_callRi (pc := 39) C (z_runV (pc := 39) (wc := ((wX0 d (dj 0) (ds 0) (dp 0) (dr 0) v) ++ ((wX1 cI dj vj) ++ ((wX5 cI ds vs) ++ (wX2 cI dp vp))))) (As := []) C (fun sz => kX0_areAllGapsOver d dj ds dp dr v vj vs vp sz h) [0, 1, 2, 3, 4, 5, 6, 7, 8, 9, 10, 11, 12, 13, 14, 15, 16, 17, 18] rfl (by decide) (gdV wq189 wq206 wq207 wq208 wq108) rfl rfl rfl hdX0_areAllGapsOver 0 rfl rfl rfl ⟨Nat.le_of_ble_eq_true rfl, Nat.le_of_ble_eq_true rfl⟩ rfl (Nat.le_of_ble_eq_true rfl) ⟨Nat.zero_le _, Nat.zero_le _⟩ dX0_changeByCalls_39) [0, 1, 2, 3, 4, 5, 6, 7, 8, 9, 10, 11, 12, 13, 14, 15, 16, 17, 18] rfl (by decide) (fun r13 u13 h => ?_)
            refine z_if_eq (pc := 42) (tgt := 62) C dX0_changeByCalls_42 (by decide) (fun c14 => ?_) (fun c14 => ?_)
            · have h := h.1 c14
              exact hret 62 _ _ (v, vs, vp, vr) rfl h dX0_changeByCalls_62
            · have h := h.2 c14
              refine z_sub (lv' := [(0, .ref (d 0)), (1, .int r5)]) [1, 0] rfl ?_
              exact J45  v vs vp vr r5 h
    · have h := h.2 c4
      exact hret 14 _ _ (v, vs, vp, vr) rfl h dX0_changeByCalls_14

def pX0_isClearFor_J61 (v : Lf) (vj : Lf) (vs : Lf) (x1 : Int32) (Q : Int32 → Prop) (K2 : Int32 → Prop) (x2 : Int32) : Prop := (K2 (x2 + 1))
def pX0_isClearFor_L2 (v : Lf) (vj : Lf) (vs : Lf) (x1 : Int32) (Q : Int32 → Prop) : Nat → Int32 → Prop
  | 0, _ => False
  | n2 + 1, x2 => (((vj 0 0) ≤ x2 → (Q (1 : Int32) )) ∧ (¬ (vj 0 0) ≤ x2 → (vp_in x2 8 ∧ (((vs 6 x2.toNatClampNeg) = (-5 : Int32) → (pX0_isClearFor_J61 v vj vs x1 Q (fun x2 => pX0_isClearFor_L2 v vj vs x1 Q n2 x2) x2)) ∧ (¬ (vs 6 x2.toNatClampNeg) = (-5 : Int32) → (pX1_meet vj x2 x1 (fun r4 => ((r4 = 0 → (pX0_isClearFor_J61 v vj vs x1 Q (fun x2 => pX0_isClearFor_L2 v vj vs x1 Q n2 x2) x2)) ∧ (¬ r4 = 0 → (pX1_clearOf vj x2 x1 (fun r6 => ((r6 ≤ ((v 0 5) - (vs 6 x2.toNatClampNeg)) → (pX0_isClearFor_J61 v vj vs x1 Q (fun x2 => pX0_isClearFor_L2 v vj vs x1 Q n2 x2) x2)) ∧ (¬ r6 ≤ ((v 0 5) - (vs 6 x2.toNatClampNeg)) → (Q (0 : Int32) ))))))))))))))
def pX0_isClearFor (v : Lf) (vj : Lf) (vs : Lf) (x1 : Int32) (Q : Int32 → Prop) : Prop := (∃ n2, pX0_isClearFor_L2 v vj vs x1 Q  n2 (0 : Int32))
abbrev rmX0_isClearFor : Room := { frames := 1, cells := 0, slots := 0, locals := 22 }
abbrev wdX0_isClearFor : List Cond := Cond.code yX0_isClearFor cX0_isClearFor 4 (some .boolean) :: TB
theorem hdSX0_isClearFor : (yX0_isClearFor).cls ≠ "java/lang/invoke/MethodHandle" ∧ (yX0_isClearFor).cls ≠ "java/lang/invoke/VarHandle" ∧ (parseMethodDescriptor (yX0_isClearFor).desc).map (fun d => d.parameters.length) = some 1 := by decide +kernel
theorem hdX0_isClearFor : (yX0_isClearFor).cls = RX0 ∧ (yX0_isClearFor).cls ≠ "java/lang/invoke/MethodHandle" ∧ (yX0_isClearFor).cls ≠ "java/lang/invoke/VarHandle" ∧ (parseMethodDescriptor (yX0_isClearFor).desc).map (fun d => d.parameters.length) = some 1 := ⟨rfl, hdSX0_isClearFor⟩
set_option maxHeartbeats 4000000 in
set_option maxRecDepth 100000 in
theorem kX0_isClearFor {l : Launch} {D : va_G} {cI cJ cT : ClassId} (d : Nat → Nat) (dj : Nat → Nat) (ds : Nat → Nat) (dp : Nat → Nat) (dr : Nat → Nat)  (v : Lf) (vj : Lf) (vs : Lf) (x1 : Int32) {Q : Int32 → Prop} (sz : Nat) (h : pX0_isClearFor v vj vs x1 Q) : Met l yX0_isClearFor wdX0_isClearFor rmX0_isClearFor (Pz D (tyL cI cJ cT) [.ref (d 0), .int x1] ((wX0 d (dj 0) (ds 0) (dp 0) (dr 0) v) ++ ((wX1 cI dj vj) ++ (wX5 cI ds vs))) sz) (va_Qi (fun (r : Int32) (u : Unit) => Q r) (Bz D (tyL cI cJ cT) ((wX0 d (dj 0) (ds 0) (dp 0) (dr 0) v) ++ ((wX1 cI dj vj) ++ (wX5 cI ds vs))) sz (fun (u : Unit) => ((wX0 d (dj 0) (ds 0) (dp 0) (dr 0) v) ++ ((wX1 cI dj vj) ++ (wX5 cI ds vs))))) (va_A ((wX0 d (dj 0) (ds 0) (dp 0) (dr 0) v) ++ ((wX1 cI dj vj) ++ (wX5 cI ds vs))) sz)) 0 0 (va_A ((wX0 d (dj 0) (ds 0) (dp 0) (dr 0) v) ++ ((wX1 cI dj vj) ++ (wX5 cI ds vs))) sz) := by
  refine z_metz (cc := cX0_isClearFor) (maxL := 4) (own := RX0) (lv0 := [(0, .ref (d 0)), (1, .int x1)]) (by decide) rfl rfl (Nat.le_of_ble_eq_true rfl) rfl ?_
  intro p e s m args below meth c A QQ C hin hret
  have J61 : ∀ (K2 : Int32 → Prop), (∀ (x2 : Int32), K2 x2 → ZZ p l e rmX0_isClearFor s m args below meth c D A 4 0 0 QQ 2 ((wX0 d (dj 0) (ds 0) (dp 0) (dr 0) v) ++ ((wX1 cI dj vj) ++ (wX5 cI ds vs))) [(0, .ref (d 0)), (1, .int x1), (2, .int x2)] []) → ∀ (x2 : Int32), pX0_isClearFor_J61 v vj vs x1 Q K2 x2 → ZZ p l e rmX0_isClearFor s m args below meth c D A 4 0 0 QQ 61 ((wX0 d (dj 0) (ds 0) (dp 0) (dr 0) v) ++ ((wX1 cI dj vj) ++ (wX5 cI ds vs))) [(0, .ref (d 0)), (1, .int x1), (2, .int x2)] [] := by
    intro K2 hK2 x2 h
    refine z_iinc (pc := 61) (v := (x2 + 1)) (lv' := [(2, .int (x2 + 1)), (0, .ref (d 0)), (1, .int x1)]) C 2 dX0_isClearFor_61 rfl rfl (by decide) rfl ?_
    refine z_goto (pc := 64) (tgt := 2) C dX0_isClearFor_64 (by decide) ?_
    refine z_sub (lv' := [(0, .ref (d 0)), (1, .int x1), (2, .int (x2 + 1))]) [1, 2, 0] rfl ?_
    exact hK2 (x2 + 1) h
  have L2 : ∀ (n2 : Nat) (x2 : Int32), pX0_isClearFor_L2 v vj vs x1 Q n2 x2 → ZZ p l e rmX0_isClearFor s m args below meth c D A 4 0 0 QQ 2 ((wX0 d (dj 0) (ds 0) (dp 0) (dr 0) v) ++ ((wX1 cI dj vj) ++ (wX5 cI ds vs))) [(0, .ref (d 0)), (1, .int x1), (2, .int x2)] [] := by
    intro n2
    induction n2 with
    | zero => intro x2 h; exact False.elim h
    | succ n2 ih2 =>
      intro x2 h
      refine z_iload_n (pc := 2) C 2 dX0_isClearFor_2 rfl ?_
      refine z_aload_n (pc := 3) C 0 dX0_isClearFor_3 rfl ?_
      refine z_get (pc := 4) C uw0 0 rfl rfl 0 (by decide) wq37 rfl dX0_isClearFor_4 ?_
      refine z_get (pc := 7) C uw1 1 rfl rfl 0 (by decide) wq122 rfl dX0_isClearFor_7 ?_
      refine z_icmp_ge (pc := 10) (tgt := 67) C dX0_isClearFor_10 (by decide) (fun c1 => ?_) (fun c1 => ?_)
      · have h := h.1 c1
        refine z_iconst (pc := 67) (v := 1) C dX0_isClearFor_67 (by decide) ?_
        exact hret 68 _ _ (1 : Int32) rfl () rfl h dX0_isClearFor_68
      · have h := h.2 c1
        refine z_aload_n (pc := 13) C 0 dX0_isClearFor_13 rfl ?_
        refine z_get (pc := 14) C uw0 0 rfl rfl 1 (by decide) wq41 rfl dX0_isClearFor_14 ?_
        refine z_get (pc := 17) C uw5 7 rfl rfl 6 (by decide) wq216 rfl dX0_isClearFor_17 ?_
        refine z_iload_n (pc := 20) C 2 dX0_isClearFor_20 rfl ?_
        obtain ⟨g2, h⟩ := h
        refine z_iald (pc := 21) C 13 0 rfl rfl g2 (vs 6 x2.toNatClampNeg) rfl dX0_isClearFor_21 ?_
        refine z_istore_n (pc := 22) (lv' := [(3, .int (vs 6 x2.toNatClampNeg)), (0, .ref (d 0)), (1, .int x1), (2, .int x2)]) C dX0_isClearFor_22 (by decide) rfl ?_
        refine z_iload_n (pc := 23) C 0 dX0_isClearFor_23 rfl ?_
        refine z_bipush (pc := 24) (v := -5) C dX0_isClearFor_24 (by decide) ?_
        refine z_icmp_eq (pc := 26) (tgt := 61) C dX0_isClearFor_26 (by decide) (fun c3 => ?_) (fun c3 => ?_)
        · have h := h.1 c3
          refine z_sub (lv' := [(0, .ref (d 0)), (1, .int x1), (2, .int x2)]) [1, 2, 3] rfl ?_
          exact J61 (fun x2 => pX0_isClearFor_L2 v vj vs x1 Q n2 x2) ih2 x2 h
        · have h := h.2 c3
          refine z_aload_n (pc := 29) C 1 dX0_isClearFor_29 rfl ?_
          refine z_get (pc := 30) C uw0 0 rfl rfl 0 (by decide) wq37 rfl dX0_isClearFor_30 ?_
          refine z_iload_n (pc := 33) C 3 dX0_isClearFor_33 rfl ?_
          refine z_iload_n (pc := 34) C 2 dX0_isClearFor_34 rfl ?_
          refine z_callRi (pc := 35) C (z_runV (pc := 35) (wc := (wX1 cI dj vj)) (As := [.int x2, .int x1]) C (fun sz => kX1_meet dj vj x2 x1 sz h) [1, 2, 3, 4, 5, 6] rfl (by decide) (gdV wq213 wq217 wq218 wq219 wq36) rfl rfl rfl hdX1_meet 1 rfl rfl rfl ⟨Nat.le_of_ble_eq_true rfl, Nat.le_of_ble_eq_true rfl⟩ rfl (Nat.le_of_ble_eq_true rfl) ⟨Nat.zero_le _, Nat.zero_le _⟩ dX0_isClearFor_35) [1, 2, 3, 4, 5, 6] rfl (by decide) (fun r4 u4 h => ?_)
          refine z_if_eq (pc := 38) (tgt := 61) C dX0_isClearFor_38 (by decide) (fun c5 => ?_) (fun c5 => ?_)
          · have h := h.1 c5
            refine z_sub (lv' := [(0, .ref (d 0)), (1, .int x1), (2, .int x2)]) [1, 2, 3] rfl ?_
            exact J61 (fun x2 => pX0_isClearFor_L2 v vj vs x1 Q n2 x2) ih2 x2 h
          · have h := h.2 c5
            refine z_aload_n (pc := 41) C 1 dX0_isClearFor_41 rfl ?_
            refine z_get (pc := 42) C uw0 0 rfl rfl 5 (by decide) wq82 rfl dX0_isClearFor_42 ?_
            refine z_iload_n (pc := 45) C 0 dX0_isClearFor_45 rfl ?_
            refine z_isub (pc := 46) C dX0_isClearFor_46 ?_
            refine z_aload_n (pc := 47) C 1 dX0_isClearFor_47 rfl ?_
            refine z_get (pc := 48) C uw0 0 rfl rfl 0 (by decide) wq37 rfl dX0_isClearFor_48 ?_
            refine z_iload_n (pc := 51) C 3 dX0_isClearFor_51 rfl ?_
            refine z_iload_n (pc := 52) C 2 dX0_isClearFor_52 rfl ?_
            refine z_callRi (pc := 53) C (z_runV (pc := 53) (wc := (wX1 cI dj vj)) (As := [.int x2, .int x1]) C (fun sz => kX1_clearOf dj vj x2 x1 sz h) [1, 2, 3, 4, 5, 6] rfl (by decide) (gdV wq214 wq220 wq221 wq222 wq36) rfl rfl rfl hdX1_clearOf 1 rfl rfl rfl ⟨Nat.le_of_ble_eq_true rfl, Nat.le_of_ble_eq_true rfl⟩ rfl (Nat.le_of_ble_eq_true rfl) ⟨Nat.zero_le _, Nat.zero_le _⟩ dX0_isClearFor_53) [1, 2, 3, 4, 5, 6] rfl (by decide) (fun r6 u6 h => ?_)
            refine z_icmp_ge (pc := 56) (tgt := 61) C dX0_isClearFor_56 (by decide) (fun c7 => ?_) (fun c7 => ?_)
            · have h := h.1 c7
              refine z_sub (lv' := [(0, .ref (d 0)), (1, .int x1), (2, .int x2)]) [1, 2, 3] rfl ?_
              exact J61 (fun x2 => pX0_isClearFor_L2 v vj vs x1 Q n2 x2) ih2 x2 h
            · have h := h.2 c7
              refine z_iconst (pc := 59) (v := 0) C dX0_isClearFor_59 (by decide) ?_
              exact hret 60 _ _ (0 : Int32) rfl () rfl h dX0_isClearFor_60
  refine z_iconst (pc := 0) (v := 0) C dX0_isClearFor_0 (by decide) ?_
  refine z_istore_n (pc := 1) (lv' := [(2, .int (0 : Int32)), (0, .ref (d 0)), (1, .int x1)]) C dX0_isClearFor_1 (by decide) rfl ?_
  obtain ⟨n2, h⟩ := h
  refine z_sub (lv' := [(0, .ref (d 0)), (1, .int x1), (2, .int (0 : Int32))]) [1, 2, 0] rfl ?_
  exact L2  n2 (0 : Int32) h

def pX0_turnGreen_J52 (v : Lf) (vj : Lf) (vp : Lf) (Q : Lf → Prop) (K2 : Lf → Int32 → Prop) (vs : Lf) (x1 : Int32) : Prop := (K2 vs (x1 + 1))
def pX0_turnGreen_L2 (v : Lf) (vj : Lf) (vp : Lf) (Q : Lf → Prop) : Nat → Lf → Int32 → Prop
  | 0, _, _ => False
  | n2 + 1, vs, x1 => (((vj 0 0) ≤ x1 → (Q vs)) ∧ (¬ (vj 0 0) ≤ x1 → (pX0_isInPhase v vp x1 (fun r2 => ((r2 = 0 → (pX0_turnGreen_J52 v vj vp Q (fun vs x1 => pX0_turnGreen_L2 v vj vp Q n2 vs x1) vs x1)) ∧ (¬ r2 = 0 → (pX5_isGreen vs x1 (fun r4 => ((¬ r4 = 0 → (pX0_turnGreen_J52 v vj vp Q (fun vs x1 => pX0_turnGreen_L2 v vj vp Q n2 vs x1) vs x1)) ∧ (r4 = 0 → (pX0_isClearFor v vj vs x1 (fun r6 => ((r6 = 0 → (pX0_turnGreen_J52 v vj vp Q (fun vs x1 => pX0_turnGreen_L2 v vj vp Q n2 vs x1) vs x1)) ∧ (¬ r6 = 0 → (pX5_beginGreen vs x1 (v 0 5) (fun vs_8 => (pX0_turnGreen_J52 v vj vp Q (fun vs x1 => pX0_turnGreen_L2 v vj vp Q n2 vs x1) vs_8 x1)))))))))))))))))
def pX0_turnGreen (v : Lf) (vj : Lf) (vs : Lf) (vp : Lf)  (Q : Lf → Prop) : Prop := (∃ n2, pX0_turnGreen_L2 v vj vp Q  n2 vs (0 : Int32))
abbrev rmX0_turnGreen : Room := { frames := 2, cells := 0, slots := 0, locals := 45 }
abbrev wdX0_turnGreen : List Cond := Cond.code yX0_turnGreen cX0_turnGreen 2 none :: TB
theorem hdSX0_turnGreen : (yX0_turnGreen).cls ≠ "java/lang/invoke/MethodHandle" ∧ (yX0_turnGreen).cls ≠ "java/lang/invoke/VarHandle" ∧ (parseMethodDescriptor (yX0_turnGreen).desc).map (fun d => d.parameters.length) = some 0 := by decide +kernel
theorem hdX0_turnGreen : (yX0_turnGreen).cls = RX0 ∧ (yX0_turnGreen).cls ≠ "java/lang/invoke/MethodHandle" ∧ (yX0_turnGreen).cls ≠ "java/lang/invoke/VarHandle" ∧ (parseMethodDescriptor (yX0_turnGreen).desc).map (fun d => d.parameters.length) = some 0 := ⟨rfl, hdSX0_turnGreen⟩
set_option maxHeartbeats 4000000 in
set_option maxRecDepth 100000 in
theorem kX0_turnGreen {l : Launch} {D : va_G} {cI cJ cT : ClassId} (d : Nat → Nat) (dj : Nat → Nat) (ds : Nat → Nat) (dp : Nat → Nat) (dr : Nat → Nat)  (v : Lf) (vj : Lf) (vs : Lf) (vp : Lf)  {Q : Lf → Prop} (sz : Nat) (h : pX0_turnGreen v vj vs vp Q) : Met l yX0_turnGreen wdX0_turnGreen rmX0_turnGreen (Pz D (tyL cI cJ cT) [.ref (d 0)] ((wX0 d (dj 0) (ds 0) (dp 0) (dr 0) v) ++ ((wX1 cI dj vj) ++ ((wX5 cI ds vs) ++ (wX2 cI dp vp)))) sz) (va_Qv (fun (u : Lf) => Q u) (Bz D (tyL cI cJ cT) ((wX0 d (dj 0) (ds 0) (dp 0) (dr 0) v) ++ ((wX1 cI dj vj) ++ ((wX5 cI ds vs) ++ (wX2 cI dp vp)))) sz (fun (u : Lf) => ((wX0 d (dj 0) (ds 0) (dp 0) (dr 0) v) ++ ((wX1 cI dj vj) ++ ((wX5 cI ds u) ++ (wX2 cI dp vp)))))) (va_A ((wX0 d (dj 0) (ds 0) (dp 0) (dr 0) v) ++ ((wX1 cI dj vj) ++ ((wX5 cI ds vs) ++ (wX2 cI dp vp)))) sz)) 0 0 (va_A ((wX0 d (dj 0) (ds 0) (dp 0) (dr 0) v) ++ ((wX1 cI dj vj) ++ ((wX5 cI ds vs) ++ (wX2 cI dp vp)))) sz) := by
  refine z_metv (cc := cX0_turnGreen) (maxL := 2) (own := RX0) (lv0 := [(0, .ref (d 0))]) (by decide) rfl rfl (Nat.le_of_ble_eq_true rfl) rfl ?_
  intro p e s m args below meth c A QQ C hin hret
  have J52 : ∀ (K2 : Lf → Int32 → Prop), (∀ (vs : Lf) (x1 : Int32), K2 vs x1 → ZZ p l e rmX0_turnGreen s m args below meth c D A 2 0 0 QQ 2 ((wX0 d (dj 0) (ds 0) (dp 0) (dr 0) v) ++ ((wX1 cI dj vj) ++ ((wX5 cI ds vs) ++ (wX2 cI dp vp)))) [(0, .ref (d 0)), (1, .int x1)] []) → ∀ (vs : Lf) (x1 : Int32), pX0_turnGreen_J52 v vj vp Q K2 vs x1 → ZZ p l e rmX0_turnGreen s m args below meth c D A 2 0 0 QQ 52 ((wX0 d (dj 0) (ds 0) (dp 0) (dr 0) v) ++ ((wX1 cI dj vj) ++ ((wX5 cI ds vs) ++ (wX2 cI dp vp)))) [(0, .ref (d 0)), (1, .int x1)] [] := by
    intro K2 hK2 vs x1 h
    refine z_iinc (pc := 52) (v := (x1 + 1)) (lv' := [(1, .int (x1 + 1)), (0, .ref (d 0))]) C 1 dX0_turnGreen_52 rfl rfl (by decide) rfl ?_
    refine z_goto (pc := 55) (tgt := 2) C dX0_turnGreen_55 (by decide) ?_
    refine z_sub (lv' := [(0, .ref (d 0)), (1, .int (x1 + 1))]) [1, 0] rfl ?_
    exact hK2 vs (x1 + 1) h
  have L2 : ∀ (n2 : Nat) (vs : Lf) (x1 : Int32), pX0_turnGreen_L2 v vj vp Q n2 vs x1 → ZZ p l e rmX0_turnGreen s m args below meth c D A 2 0 0 QQ 2 ((wX0 d (dj 0) (ds 0) (dp 0) (dr 0) v) ++ ((wX1 cI dj vj) ++ ((wX5 cI ds vs) ++ (wX2 cI dp vp)))) [(0, .ref (d 0)), (1, .int x1)] [] := by
    intro n2
    induction n2 with
    | zero => intro vs x1 h; exact False.elim h
    | succ n2 ih2 =>
      intro vs x1 h
      refine z_iload_n (pc := 2) C 1 dX0_turnGreen_2 rfl ?_
      refine z_aload_n (pc := 3) C 0 dX0_turnGreen_3 rfl ?_
      refine z_get (pc := 4) C uw0 0 rfl rfl 0 (by decide) wq37 rfl dX0_turnGreen_4 ?_
      refine z_get (pc := 7) C uw1 1 rfl rfl 0 (by decide) wq122 rfl dX0_turnGreen_7 ?_
      refine z_icmp_ge (pc := 10) (tgt := 58) C dX0_turnGreen_10 (by decide) (fun c1 => ?_) (fun c1 => ?_)
      · have h := h.1 c1
        exact hret 58 _ _ vs rfl h dX0_turnGreen_58
      · have h := h.2 c1
        refine z_aload_n (pc := 13) C 0 dX0_turnGreen_13 rfl ?_
        refine z_iload_n (pc := 14) C 1 dX0_turnGreen_14 rfl ?_
        refine z_callRi (pc := 15) C (z_runV (pc := 15) (wc := ((wX0 d (dj 0) (ds 0) (dp 0) (dr 0) v) ++ (wX2 cI dp vp))) (As := [.int x1]) C (fun sz => kX0_isInPhase d dj ds dp dr v vp x1 sz h) [0, 15, 16, 17, 18] rfl (by decide) (gdV wq170 wq172 wq173 wq174 wq108) rfl rfl rfl hdX0_isInPhase 0 rfl rfl rfl ⟨Nat.le_of_ble_eq_true rfl, Nat.le_of_ble_eq_true rfl⟩ rfl (Nat.le_of_ble_eq_true rfl) ⟨Nat.zero_le _, Nat.zero_le _⟩ dX0_turnGreen_15) [0, 15, 16, 17, 18] rfl (by decide) (fun r2 u2 h => ?_)
        refine z_if_eq (pc := 18) (tgt := 52) C dX0_turnGreen_18 (by decide) (fun c3 => ?_) (fun c3 => ?_)
        · have h := h.1 c3
          exact J52 (fun vs x1 => pX0_turnGreen_L2 v vj vp Q n2 vs x1) ih2 vs x1 h
        · have h := h.2 c3
          refine z_aload_n (pc := 21) C 0 dX0_turnGreen_21 rfl ?_
          refine z_get (pc := 22) C uw0 0 rfl rfl 1 (by decide) wq41 rfl dX0_turnGreen_22 ?_
          refine z_iload_n (pc := 25) C 1 dX0_turnGreen_25 rfl ?_
          refine z_callRi (pc := 26) C (z_runV (pc := 26) (wc := (wX5 cI ds vs)) (As := [.int x1]) C (fun sz => kX5_isGreen ds vs x1 sz h) [7, 8, 9, 10, 11, 12, 13, 14] rfl (by decide) (gdV wq135 wq138 wq139 wq140 wq40) rfl rfl rfl hdX5_isGreen 7 rfl rfl rfl ⟨Nat.le_of_ble_eq_true rfl, Nat.le_of_ble_eq_true rfl⟩ rfl (Nat.le_of_ble_eq_true rfl) ⟨Nat.zero_le _, Nat.zero_le _⟩ dX0_turnGreen_26) [7, 8, 9, 10, 11, 12, 13, 14] rfl (by decide) (fun r4 u4 h => ?_)
          refine z_if_ne (pc := 29) (tgt := 52) C dX0_turnGreen_29 (by decide) (fun c5 => ?_) (fun c5 => ?_)
          · have h := h.1 c5
            exact J52 (fun vs x1 => pX0_turnGreen_L2 v vj vp Q n2 vs x1) ih2 vs x1 h
          · have h := h.2 c5
            refine z_aload_n (pc := 32) C 0 dX0_turnGreen_32 rfl ?_
            refine z_iload_n (pc := 33) C 1 dX0_turnGreen_33 rfl ?_
            refine z_callRi (pc := 34) C (z_runV (pc := 34) (wc := ((wX0 d (dj 0) (ds 0) (dp 0) (dr 0) v) ++ ((wX1 cI dj vj) ++ (wX5 cI ds vs)))) (As := [.int x1]) C (fun sz => kX0_isClearFor d dj ds dp dr v vj vs x1 sz h) [0, 1, 2, 3, 4, 5, 6, 7, 8, 9, 10, 11, 12, 13, 14] rfl (by decide) (gdV wq215 wq224 wq225 wq226 wq108) rfl rfl rfl hdX0_isClearFor 0 rfl rfl rfl ⟨Nat.le_of_ble_eq_true rfl, Nat.le_of_ble_eq_true rfl⟩ rfl (Nat.le_of_ble_eq_true rfl) ⟨Nat.zero_le _, Nat.zero_le _⟩ dX0_turnGreen_34) [0, 1, 2, 3, 4, 5, 6, 7, 8, 9, 10, 11, 12, 13, 14] rfl (by decide) (fun r6 u6 h => ?_)
            refine z_if_eq (pc := 37) (tgt := 52) C dX0_turnGreen_37 (by decide) (fun c7 => ?_) (fun c7 => ?_)
            · have h := h.1 c7
              exact J52 (fun vs x1 => pX0_turnGreen_L2 v vj vp Q n2 vs x1) ih2 vs x1 h
            · have h := h.2 c7
              refine z_aload_n (pc := 40) C 0 dX0_turnGreen_40 rfl ?_
              refine z_get (pc := 41) C uw0 0 rfl rfl 1 (by decide) wq41 rfl dX0_turnGreen_41 ?_
              refine z_iload_n (pc := 44) C 1 dX0_turnGreen_44 rfl ?_
              refine z_aload_n (pc := 45) C 0 dX0_turnGreen_45 rfl ?_
              refine z_get (pc := 46) C uw0 0 rfl rfl 5 (by decide) wq82 rfl dX0_turnGreen_46 ?_
              refine z_callv (pc := 49) (wr := ((wX0 d (dj 0) (ds 0) (dp 0) (dr 0) v) ++ ((wX1 cI dj vj) ++ (wX2 cI dp vp)))) (w1 := fun (u : Lf) => (wX5 cI ds u)) (w2 := fun (u : Lf) => ((wX0 d (dj 0) (ds 0) (dp 0) (dr 0) v) ++ ((wX1 cI dj vj) ++ ((wX5 cI ds u) ++ (wX2 cI dp vp))))) C (z_runV (pc := 49) (wc := (wX5 cI ds vs)) (As := [.int x1, .int (v 0 5)]) C (fun sz => kX5_beginGreen ds vs x1 (v 0 5) sz h) [7, 8, 9, 10, 11, 12, 13, 14] rfl (by decide) (gdV wq223 wq227 wq228 wq229 wq40) rfl rfl rfl hdX5_beginGreen 7 rfl rfl rfl ⟨Nat.le_of_ble_eq_true rfl, Nat.le_of_ble_eq_true rfl⟩ rfl (Nat.le_of_ble_eq_true rfl) ⟨Nat.zero_le _, Nat.zero_le _⟩ dX0_turnGreen_49) [7, 8, 9, 10, 11, 12, 13, 14] [0, 1, 2, 3, 4, 5, 6, 15, 16, 17, 18] [0, 1, 2, 3, 4, 5, 6, 11, 12, 13, 14, 15, 16, 17, 18, 7, 8, 9, 10] rfl rfl (by decide) (by decide) (fun _ => rfl) (by decide) (fun u8 h => ?_)
              obtain ⟨vs_8, hu8⟩ : ∃ z, z = u8 := ⟨_, rfl⟩
              subst hu8
              exact J52 (fun vs x1 => pX0_turnGreen_L2 v vj vp Q n2 vs x1) ih2 vs_8 x1 h
  refine z_iconst (pc := 0) (v := 0) C dX0_turnGreen_0 (by decide) ?_
  refine z_istore_n (pc := 1) (lv' := [(1, .int (0 : Int32)), (0, .ref (d 0))]) C dX0_turnGreen_1 (by decide) rfl ?_
  obtain ⟨n2, h⟩ := h
  refine z_sub (lv' := [(0, .ref (d 0)), (1, .int (0 : Int32))]) [1, 0] rfl ?_
  exact L2  n2 vs (0 : Int32) h

def pX0_goersOf (vj : Lf) (vs : Lf) (x1 : Int32) (x2 : Int32) (Q : Int32 → Prop) : Prop := (vp_in x1 8 ∧ (((vj 1 x1.toNatClampNeg) = 0 → ((¬ (x2 - x2 / (2 : Int32) * (2 : Int32)) = 0 → (Q (0 : Int32) )) ∧ ((x2 - x2 / (2 : Int32) * (2 : Int32)) = 0 → (Q (1 : Int32) )))) ∧ (¬ (vj 1 x1.toNatClampNeg) = 0 → (((vj 1 x1.toNatClampNeg) = 1 → (vp_in x1 8 ∧ (Q (vs 2 x1.toNatClampNeg) ))) ∧ (¬ (vj 1 x1.toNatClampNeg) = 1 → (((vj 1 x1.toNatClampNeg) = 2 → ((¬ (x2 - x2 / (4 : Int32) * (4 : Int32)) = 0 → (Q (0 : Int32) )) ∧ ((x2 - x2 / (4 : Int32) * (4 : Int32)) = 0 → (Q (1 : Int32) )))) ∧ (¬ (vj 1 x1.toNatClampNeg) = 2 → (Q (1 : Int32) ))))))))
abbrev rmX0_goersOf : Room := { frames := 0, cells := 0, slots := 0, locals := 0 }
abbrev wdX0_goersOf : List Cond := Cond.code yX0_goersOf cX0_goersOf 3 (some .int) :: TB
theorem hdSX0_goersOf : (yX0_goersOf).cls ≠ "java/lang/invoke/MethodHandle" ∧ (yX0_goersOf).cls ≠ "java/lang/invoke/VarHandle" ∧ (parseMethodDescriptor (yX0_goersOf).desc).map (fun d => d.parameters.length) = some 2 := by decide +kernel
theorem hdX0_goersOf : (yX0_goersOf).cls = RX0 ∧ (yX0_goersOf).cls ≠ "java/lang/invoke/MethodHandle" ∧ (yX0_goersOf).cls ≠ "java/lang/invoke/VarHandle" ∧ (parseMethodDescriptor (yX0_goersOf).desc).map (fun d => d.parameters.length) = some 2 := ⟨rfl, hdSX0_goersOf⟩
set_option maxHeartbeats 4000000 in
set_option maxRecDepth 100000 in
theorem kX0_goersOf {l : Launch} {D : va_G} {cI cJ cT : ClassId} (d : Nat → Nat) (dj : Nat → Nat) (ds : Nat → Nat) (dp : Nat → Nat) (dr : Nat → Nat)  (v : Lf) (vj : Lf) (vs : Lf) (x1 : Int32) (x2 : Int32) {Q : Int32 → Prop} (sz : Nat) (h : pX0_goersOf vj vs x1 x2 Q) : Met l yX0_goersOf wdX0_goersOf rmX0_goersOf (Pz D (tyL cI cJ cT) [.ref (d 0), .int x1, .int x2] ((wX0 d (dj 0) (ds 0) (dp 0) (dr 0) v) ++ ((wX1 cI dj vj) ++ (wX5 cI ds vs))) sz) (va_Qi (fun (r : Int32) (u : Unit) => Q r) (Bz D (tyL cI cJ cT) ((wX0 d (dj 0) (ds 0) (dp 0) (dr 0) v) ++ ((wX1 cI dj vj) ++ (wX5 cI ds vs))) sz (fun (u : Unit) => ((wX0 d (dj 0) (ds 0) (dp 0) (dr 0) v) ++ ((wX1 cI dj vj) ++ (wX5 cI ds vs))))) (va_A ((wX0 d (dj 0) (ds 0) (dp 0) (dr 0) v) ++ ((wX1 cI dj vj) ++ (wX5 cI ds vs))) sz)) 0 0 (va_A ((wX0 d (dj 0) (ds 0) (dp 0) (dr 0) v) ++ ((wX1 cI dj vj) ++ (wX5 cI ds vs))) sz) := by
  refine z_meti (cc := cX0_goersOf) (maxL := 3) (own := RX0) (lv0 := [(0, .ref (d 0)), (1, .int x1), (2, .int x2)]) (by decide) rfl rfl (Nat.le_of_ble_eq_true rfl) rfl ?_
  intro p e s m args below meth c A QQ C hin hret
  refine z_aload_n (pc := 0) C 0 dX0_goersOf_0 rfl ?_
  refine z_get (pc := 1) C uw0 0 rfl rfl 0 (by decide) wq37 rfl dX0_goersOf_1 ?_
  refine z_get (pc := 4) C uw1 1 rfl rfl 2 (by decide) wq232 rfl dX0_goersOf_4 ?_
  refine z_iload_n (pc := 7) C 1 dX0_goersOf_7 rfl ?_
  obtain ⟨g1, h⟩ := h
  refine z_iald (pc := 8) C 2 0 rfl rfl g1 (vj 1 x1.toNatClampNeg) rfl dX0_goersOf_8 ?_
  by_cases c2_0 : (vj 1 x1.toNatClampNeg) = 0
  · have h := h.1 c2_0
    refine z_tbl (pc := 9) (tgt := 36) C dX0_goersOf_9 0 c2_0 (by decide) (by decide) rfl (by decide) ?_
    refine z_iload_n (pc := 36) C 2 dX0_goersOf_36 rfl ?_
    refine z_iconst (pc := 37) (v := 2) C dX0_goersOf_37 (by decide) ?_
    refine z_irem (pc := 38) C dX0_goersOf_38 (by decide) ?_
    refine z_if_ne (pc := 39) (tgt := 46) C dX0_goersOf_39 (by decide) (fun c3 => ?_) (fun c3 => ?_)
    · have h := h.1 c3
      refine z_iconst (pc := 46) (v := 0) C dX0_goersOf_46 (by decide) ?_
      exact hret 47 _ _ (0 : Int32) () rfl h dX0_goersOf_47
    · have h := h.2 c3
      refine z_iconst (pc := 42) (v := 1) C dX0_goersOf_42 (by decide) ?_
      refine z_goto (pc := 43) (tgt := 47) C dX0_goersOf_43 (by decide) ?_
      exact hret 47 _ _ (1 : Int32) () rfl h dX0_goersOf_47
  · have h := h.2 c2_0
    by_cases c2_1 : (vj 1 x1.toNatClampNeg) = 1
    · have h := h.1 c2_1
      refine z_tbl (pc := 9) (tgt := 48) C dX0_goersOf_9 1 c2_1 (by decide) (by decide) rfl (by decide) ?_
      refine z_aload_n (pc := 48) C 0 dX0_goersOf_48 rfl ?_
      refine z_get (pc := 49) C uw0 0 rfl rfl 1 (by decide) wq41 rfl dX0_goersOf_49 ?_
      refine z_get (pc := 52) C uw5 7 rfl rfl 2 (by decide) wq123 rfl dX0_goersOf_52 ?_
      refine z_iload_n (pc := 55) C 1 dX0_goersOf_55 rfl ?_
      obtain ⟨g4, h⟩ := h
      refine z_iald (pc := 56) C 9 0 rfl rfl g4 (vs 2 x1.toNatClampNeg) rfl dX0_goersOf_56 ?_
      exact hret 57 _ _ (vs 2 x1.toNatClampNeg) () rfl h dX0_goersOf_57
    · have h := h.2 c2_1
      by_cases c2_2 : (vj 1 x1.toNatClampNeg) = 2
      · have h := h.1 c2_2
        refine z_tbl (pc := 9) (tgt := 58) C dX0_goersOf_9 2 c2_2 (by decide) (by decide) rfl (by decide) ?_
        refine z_iload_n (pc := 58) C 2 dX0_goersOf_58 rfl ?_
        refine z_iconst (pc := 59) (v := 4) C dX0_goersOf_59 (by decide) ?_
        refine z_irem (pc := 60) C dX0_goersOf_60 (by decide) ?_
        refine z_if_ne (pc := 61) (tgt := 68) C dX0_goersOf_61 (by decide) (fun c5 => ?_) (fun c5 => ?_)
        · have h := h.1 c5
          refine z_iconst (pc := 68) (v := 0) C dX0_goersOf_68 (by decide) ?_
          exact hret 69 _ _ (0 : Int32) () rfl h dX0_goersOf_69
        · have h := h.2 c5
          refine z_iconst (pc := 64) (v := 1) C dX0_goersOf_64 (by decide) ?_
          refine z_goto (pc := 65) (tgt := 69) C dX0_goersOf_65 (by decide) ?_
          exact hret 69 _ _ (1 : Int32) () rfl h dX0_goersOf_69
      · have h := h.2 c2_2
        refine z_tblo (pc := 9) (tgt := 70) C dX0_goersOf_9 (z_out0_2 c2_0 c2_1 c2_2) (by decide) ?_
        refine z_iconst (pc := 70) (v := 1) C dX0_goersOf_70 (by decide) ?_
        exact hret 71 _ _ (1 : Int32) () rfl h dX0_goersOf_71

def pX0_letGo_J92 (vj : Lf) (Q : Lf → Lf → Prop) (K2 : Lf → Lf → Int32 → Prop) (v : Lf) (vs : Lf) (x1 : Int32) : Prop := (K2 v vs (x1 + 1))
def pX0_letGo_L2 (vj : Lf) (Q : Lf → Lf → Prop) : Nat → Lf → Lf → Int32 → Prop
  | 0, _, _, _ => False
  | n2 + 1, v, vs, x1 => (((vj 0 0) ≤ x1 → (Q v vs)) ∧ (¬ (vj 0 0) ≤ x1 → (pX5_isGreen vs x1 (fun r2 => ((r2 = 0 → (pX0_letGo_J92 vj Q (fun v vs x1 => pX0_letGo_L2 vj Q n2 v vs x1) v vs x1)) ∧ (¬ r2 = 0 → (vp_in x1 8 ∧ (((vs 2 x1.toNatClampNeg) ≤ 0 → (pX0_letGo_J92 vj Q (fun v vs x1 => pX0_letGo_L2 vj Q n2 v vs x1) v vs x1)) ∧ (¬ (vs 2 x1.toNatClampNeg) ≤ 0 → (vp_in x1 8 ∧ (pX0_goersOf vj vs x1 ((v 0 5) - (vs 5 x1.toNatClampNeg)) (fun r7 => (vp_in x1 8 ∧ (vp_in x1 8 ∧ (vp_in x1 8 ∧ (vp_in x1 8 ∧ (pX0_letGo_J92 vj Q (fun v vs x1 => pX0_letGo_L2 vj Q n2 v vs x1) (st v 0 10 ((v 0 10) + r7)) (st (st vs 2 x1.toNatClampNeg ((vs 2 x1.toNatClampNeg) - r7)) 4 x1.toNatClampNeg (((st vs 2 x1.toNatClampNeg ((vs 2 x1.toNatClampNeg) - r7)) 4 x1.toNatClampNeg) + r7)) x1)))))))))))))))))
def pX0_letGo (v : Lf) (vj : Lf) (vs : Lf)  (Q : Lf → Lf → Prop) : Prop := (∃ n2, pX0_letGo_L2 vj Q  n2 v vs (0 : Int32))
abbrev rmX0_letGo : Room := { frames := 1, cells := 0, slots := 0, locals := 22 }
abbrev wdX0_letGo : List Cond := Cond.code yX0_letGo cX0_letGo 3 none :: TB
theorem hdSX0_letGo : (yX0_letGo).cls ≠ "java/lang/invoke/MethodHandle" ∧ (yX0_letGo).cls ≠ "java/lang/invoke/VarHandle" ∧ (parseMethodDescriptor (yX0_letGo).desc).map (fun d => d.parameters.length) = some 0 := by decide +kernel
theorem hdX0_letGo : (yX0_letGo).cls = RX0 ∧ (yX0_letGo).cls ≠ "java/lang/invoke/MethodHandle" ∧ (yX0_letGo).cls ≠ "java/lang/invoke/VarHandle" ∧ (parseMethodDescriptor (yX0_letGo).desc).map (fun d => d.parameters.length) = some 0 := ⟨rfl, hdSX0_letGo⟩
set_option maxHeartbeats 4000000 in
set_option maxRecDepth 100000 in
theorem kX0_letGo {l : Launch} {D : va_G} {cI cJ cT : ClassId} (d : Nat → Nat) (dj : Nat → Nat) (ds : Nat → Nat) (dp : Nat → Nat) (dr : Nat → Nat)  (v : Lf) (vj : Lf) (vs : Lf)  {Q : Lf → Lf → Prop} (sz : Nat) (h : pX0_letGo v vj vs Q) : Met l yX0_letGo wdX0_letGo rmX0_letGo (Pz D (tyL cI cJ cT) [.ref (d 0)] ((wX0 d (dj 0) (ds 0) (dp 0) (dr 0) v) ++ ((wX1 cI dj vj) ++ (wX5 cI ds vs))) sz) (va_Qv (fun (u : Lf × Lf) => Q u.1 u.2) (Bz D (tyL cI cJ cT) ((wX0 d (dj 0) (ds 0) (dp 0) (dr 0) v) ++ ((wX1 cI dj vj) ++ (wX5 cI ds vs))) sz (fun (u : Lf × Lf) => ((wX0 d (dj 0) (ds 0) (dp 0) (dr 0) u.1) ++ ((wX1 cI dj vj) ++ (wX5 cI ds u.2))))) (va_A ((wX0 d (dj 0) (ds 0) (dp 0) (dr 0) v) ++ ((wX1 cI dj vj) ++ (wX5 cI ds vs))) sz)) 0 0 (va_A ((wX0 d (dj 0) (ds 0) (dp 0) (dr 0) v) ++ ((wX1 cI dj vj) ++ (wX5 cI ds vs))) sz) := by
  refine z_metv (cc := cX0_letGo) (maxL := 3) (own := RX0) (lv0 := [(0, .ref (d 0))]) (by decide) rfl rfl (Nat.le_of_ble_eq_true rfl) rfl ?_
  intro p e s m args below meth c A QQ C hin hret
  have J92 : ∀ (K2 : Lf → Lf → Int32 → Prop), (∀ (v : Lf) (vs : Lf) (x1 : Int32), K2 v vs x1 → ZZ p l e rmX0_letGo s m args below meth c D A 3 0 0 QQ 2 ((wX0 d (dj 0) (ds 0) (dp 0) (dr 0) v) ++ ((wX1 cI dj vj) ++ (wX5 cI ds vs))) [(0, .ref (d 0)), (1, .int x1)] []) → ∀ (v : Lf) (vs : Lf) (x1 : Int32), pX0_letGo_J92 vj Q K2 v vs x1 → ZZ p l e rmX0_letGo s m args below meth c D A 3 0 0 QQ 92 ((wX0 d (dj 0) (ds 0) (dp 0) (dr 0) v) ++ ((wX1 cI dj vj) ++ (wX5 cI ds vs))) [(0, .ref (d 0)), (1, .int x1)] [] := by
    intro K2 hK2 v vs x1 h
    refine z_iinc (pc := 92) (v := (x1 + 1)) (lv' := [(1, .int (x1 + 1)), (0, .ref (d 0))]) C 1 dX0_letGo_92 rfl rfl (by decide) rfl ?_
    refine z_goto (pc := 95) (tgt := 2) C dX0_letGo_95 (by decide) ?_
    refine z_sub (lv' := [(0, .ref (d 0)), (1, .int (x1 + 1))]) [1, 0] rfl ?_
    exact hK2 v vs (x1 + 1) h
  have L2 : ∀ (n2 : Nat) (v : Lf) (vs : Lf) (x1 : Int32), pX0_letGo_L2 vj Q n2 v vs x1 → ZZ p l e rmX0_letGo s m args below meth c D A 3 0 0 QQ 2 ((wX0 d (dj 0) (ds 0) (dp 0) (dr 0) v) ++ ((wX1 cI dj vj) ++ (wX5 cI ds vs))) [(0, .ref (d 0)), (1, .int x1)] [] := by
    intro n2
    induction n2 with
    | zero => intro v vs x1 h; exact False.elim h
    | succ n2 ih2 =>
      intro v vs x1 h
      refine z_iload_n (pc := 2) C 1 dX0_letGo_2 rfl ?_
      refine z_aload_n (pc := 3) C 0 dX0_letGo_3 rfl ?_
      refine z_get (pc := 4) C uw0 0 rfl rfl 0 (by decide) wq37 rfl dX0_letGo_4 ?_
      refine z_get (pc := 7) C uw1 1 rfl rfl 0 (by decide) wq122 rfl dX0_letGo_7 ?_
      refine z_icmp_ge (pc := 10) (tgt := 98) C dX0_letGo_10 (by decide) (fun c1 => ?_) (fun c1 => ?_)
      · have h := h.1 c1
        exact hret 98 _ _ (v, vs) rfl h dX0_letGo_98
      · have h := h.2 c1
        refine z_aload_n (pc := 13) C 0 dX0_letGo_13 rfl ?_
        refine z_get (pc := 14) C uw0 0 rfl rfl 1 (by decide) wq41 rfl dX0_letGo_14 ?_
        refine z_iload_n (pc := 17) C 1 dX0_letGo_17 rfl ?_
        refine z_callRi (pc := 18) C (z_runV (pc := 18) (wc := (wX5 cI ds vs)) (As := [.int x1]) C (fun sz => kX5_isGreen ds vs x1 sz h) [7, 8, 9, 10, 11, 12, 13, 14] rfl (by decide) (gdV wq135 wq138 wq139 wq140 wq40) rfl rfl rfl hdX5_isGreen 7 rfl rfl rfl ⟨Nat.le_of_ble_eq_true rfl, Nat.le_of_ble_eq_true rfl⟩ rfl (Nat.le_of_ble_eq_true rfl) ⟨Nat.zero_le _, Nat.zero_le _⟩ dX0_letGo_18) [7, 8, 9, 10, 11, 12, 13, 14] rfl (by decide) (fun r2 u2 h => ?_)
        refine z_if_eq (pc := 21) (tgt := 92) C dX0_letGo_21 (by decide) (fun c3 => ?_) (fun c3 => ?_)
        · have h := h.1 c3
          exact J92 (fun v vs x1 => pX0_letGo_L2 vj Q n2 v vs x1) ih2 v vs x1 h
        · have h := h.2 c3
          refine z_aload_n (pc := 24) C 0 dX0_letGo_24 rfl ?_
          refine z_get (pc := 25) C uw0 0 rfl rfl 1 (by decide) wq41 rfl dX0_letGo_25 ?_
          refine z_get (pc := 28) C uw5 7 rfl rfl 2 (by decide) wq123 rfl dX0_letGo_28 ?_
          refine z_iload_n (pc := 31) C 1 dX0_letGo_31 rfl ?_
          obtain ⟨g4, h⟩ := h
          refine z_iald (pc := 32) C 9 0 rfl rfl g4 (vs 2 x1.toNatClampNeg) rfl dX0_letGo_32 ?_
          refine z_if_le (pc := 33) (tgt := 92) C dX0_letGo_33 (by decide) (fun c5 => ?_) (fun c5 => ?_)
          · have h := h.1 c5
            exact J92 (fun v vs x1 => pX0_letGo_L2 vj Q n2 v vs x1) ih2 v vs x1 h
          · have h := h.2 c5
            refine z_aload_n (pc := 36) C 0 dX0_letGo_36 rfl ?_
            refine z_iload_n (pc := 37) C 1 dX0_letGo_37 rfl ?_
            refine z_aload_n (pc := 38) C 0 dX0_letGo_38 rfl ?_
            refine z_get (pc := 39) C uw0 0 rfl rfl 5 (by decide) wq82 rfl dX0_letGo_39 ?_
            refine z_aload_n (pc := 42) C 0 dX0_letGo_42 rfl ?_
            refine z_get (pc := 43) C uw0 0 rfl rfl 1 (by decide) wq41 rfl dX0_letGo_43 ?_
            refine z_get (pc := 46) C uw5 7 rfl rfl 5 (by decide) wq137 rfl dX0_letGo_46 ?_
            refine z_iload_n (pc := 49) C 1 dX0_letGo_49 rfl ?_
            obtain ⟨g6, h⟩ := h
            refine z_iald (pc := 50) C 12 0 rfl rfl g6 (vs 5 x1.toNatClampNeg) rfl dX0_letGo_50 ?_
            refine z_isub (pc := 51) C dX0_letGo_51 ?_
            refine z_callRi (pc := 52) C (z_runV (pc := 52) (wc := ((wX0 d (dj 0) (ds 0) (dp 0) (dr 0) v) ++ ((wX1 cI dj vj) ++ (wX5 cI ds vs)))) (As := [.int x1, .int ((v 0 5) - (vs 5 x1.toNatClampNeg))]) C (fun sz => kX0_goersOf d dj ds dp dr v vj vs x1 ((v 0 5) - (vs 5 x1.toNatClampNeg)) sz h) [0, 1, 2, 3, 4, 5, 6, 7, 8, 9, 10, 11, 12, 13, 14] rfl (by decide) (gdV wq231 wq235 wq236 wq237 wq108) rfl rfl rfl hdX0_goersOf 0 rfl rfl rfl ⟨Nat.le_of_ble_eq_true rfl, Nat.le_of_ble_eq_true rfl⟩ rfl (Nat.le_of_ble_eq_true rfl) ⟨Nat.zero_le _, Nat.zero_le _⟩ dX0_letGo_52) [0, 1, 2, 3, 4, 5, 6, 7, 8, 9, 10, 11, 12, 13, 14] rfl (by decide) (fun r7 u7 h => ?_)
            refine z_istore_n (pc := 55) (lv' := [(2, .int r7), (0, .ref (d 0)), (1, .int x1)]) C dX0_letGo_55 (by decide) rfl ?_
            refine z_aload_n (pc := 56) C 1 dX0_letGo_56 rfl ?_
            refine z_get (pc := 57) C uw0 0 rfl rfl 1 (by decide) wq41 rfl dX0_letGo_57 ?_
            refine z_get (pc := 60) C uw5 7 rfl rfl 2 (by decide) wq123 rfl dX0_letGo_60 ?_
            refine z_iload_n (pc := 63) C 2 dX0_letGo_63 rfl ?_
            refine z_dup2 (pc := 64) C dX0_letGo_64 rfl rfl ?_
            obtain ⟨g8, h⟩ := h
            refine z_iald (pc := 65) C 9 0 rfl rfl g8 (vs 2 x1.toNatClampNeg) rfl dX0_letGo_65 ?_
            refine z_iload_n (pc := 66) C 0 dX0_letGo_66 rfl ?_
            refine z_isub (pc := 67) C dX0_letGo_67 ?_
            obtain ⟨g9, h⟩ := h
            refine z_iast (pc := 68) (ws' := ((wX0 d (dj 0) (ds 0) (dp 0) (dr 0) v) ++ ((wX1 cI dj vj) ++ (wX5 cI ds (st vs 2 x1.toNatClampNeg ((vs 2 x1.toNatClampNeg) - r7)))))) C 9 0 rfl rfl g9 dX0_letGo_68 rfl (set_r (k := 1) (i := 8) rfl (set_r (k := 6) (i := 2) rfl sX5_a2)) ?_
            refine z_aload_n (pc := 69) C 1 dX0_letGo_69 rfl ?_
            refine z_get (pc := 70) C uw0 0 rfl rfl 1 (by decide) wq41 rfl dX0_letGo_70 ?_
            refine z_get (pc := 73) C uw5 7 rfl rfl 4 (by decide) wq234 rfl dX0_letGo_73 ?_
            refine z_iload_n (pc := 76) C 2 dX0_letGo_76 rfl ?_
            refine z_dup2 (pc := 77) C dX0_letGo_77 rfl rfl ?_
            obtain ⟨g10, h⟩ := h
            refine z_iald (pc := 78) C 11 0 rfl rfl g10 ((st vs 2 x1.toNatClampNeg ((vs 2 x1.toNatClampNeg) - r7)) 4 x1.toNatClampNeg) rfl dX0_letGo_78 ?_
            refine z_iload_n (pc := 79) C 0 dX0_letGo_79 rfl ?_
            refine z_iadd (pc := 80) C dX0_letGo_80 ?_
            obtain ⟨g11, h⟩ := h
            refine z_iast (pc := 81) (ws' := ((wX0 d (dj 0) (ds 0) (dp 0) (dr 0) v) ++ ((wX1 cI dj vj) ++ (wX5 cI ds (st (st vs 2 x1.toNatClampNeg ((vs 2 x1.toNatClampNeg) - r7)) 4 x1.toNatClampNeg (((st vs 2 x1.toNatClampNeg ((vs 2 x1.toNatClampNeg) - r7)) 4 x1.toNatClampNeg) + r7)))))) C 11 0 rfl rfl g11 dX0_letGo_81 rfl (set_r (k := 1) (i := 10) rfl (set_r (k := 6) (i := 4) rfl sX5_a4)) ?_
            refine z_aload_n (pc := 82) C 1 dX0_letGo_82 rfl ?_
            refine z_dup (pc := 83) C dX0_letGo_83 rfl ?_
            refine z_get (pc := 84) C uw0 0 rfl rfl 10 (by decide) wq84 rfl dX0_letGo_84 ?_
            refine z_iload_n (pc := 87) C 0 dX0_letGo_87 rfl ?_
            refine z_iadd (pc := 88) C dX0_letGo_88 ?_
            refine z_put (pc := 89) (ws' := ((wX0 d (dj 0) (ds 0) (dp 0) (dr 0) (st v 0 10 ((v 0 10) + r7))) ++ ((wX1 cI dj vj) ++ (wX5 cI ds (st (st vs 2 x1.toNatClampNeg ((vs 2 x1.toNatClampNeg) - r7)) 4 x1.toNatClampNeg (((st vs 2 x1.toNatClampNeg ((vs 2 x1.toNatClampNeg) - r7)) 4 x1.toNatClampNeg) + r7)))))) C uw0 tyX0 tyX0_ok nmX0 0 rfl rfl 10 (by decide) wq84 rfl rfl rfl (Nat.le_of_ble_eq_true rfl) dX0_letGo_89 (set_l (Nat.le_of_ble_eq_true rfl) sX0_f10) ?_
            refine z_sub (lv' := [(0, .ref (d 0)), (1, .int x1)]) [1, 2] rfl ?_
            exact J92 (fun v vs x1 => pX0_letGo_L2 vj Q n2 v vs x1) ih2 (st v 0 10 ((v 0 10) + r7)) (st (st vs 2 x1.toNatClampNeg ((vs 2 x1.toNatClampNeg) - r7)) 4 x1.toNatClampNeg (((st vs 2 x1.toNatClampNeg ((vs 2 x1.toNatClampNeg) - r7)) 4 x1.toNatClampNeg) + r7)) x1 h
  refine z_iconst (pc := 0) (v := 0) C dX0_letGo_0 (by decide) ?_
  refine z_istore_n (pc := 1) (lv' := [(1, .int (0 : Int32)), (0, .ref (d 0))]) C dX0_letGo_1 (by decide) rfl ?_
  obtain ⟨n2, h⟩ := h
  refine z_sub (lv' := [(0, .ref (d 0)), (1, .int (0 : Int32))]) [1, 0] rfl ?_
  exact L2  n2 v vs (0 : Int32) h

def pX0_passSeconds_J39 (vj : Lf) (x1 : Int32) (Q : Lf → Lf → Lf → Lf → Prop) (K10 : Lf → Lf → Lf → Lf → Int32 → Prop) (v : Lf) (vs : Lf) (vp : Lf) (vr : Lf) (x2 : Int32) : Prop := (pX0_turnGreen v vj vs vp (fun vs_6 => (pX0_letGo v vj vs_6 (fun v_7 vs_7 => (pX5_allQueues vs_7 (fun r8 => (K10 (st (st v_7 0 9 ((v_7 0 9) + r8)) 0 5 (((st v_7 0 9 ((v_7 0 9) + r8)) 0 5) + (1 : Int32))) vs_7 vp vr (x2 + 1))))))))
def pX0_passSeconds_L10 (vj : Lf) (x1 : Int32) (Q : Lf → Lf → Lf → Lf → Prop) : Nat → Lf → Lf → Lf → Lf → Int32 → Prop
  | 0, _, _, _, _, _ => False
  | n10 + 1, v, vs, vp, vr, x2 => ((x1 ≤ x2 → (Q v vs vp vr)) ∧ (¬ x1 ≤ x2 → (pX0_letCome v vj vs (fun v_3 vs_3 => (((v_3 0 8) = (-5 : Int32) → (pX0_changeByCalls v_3 vj vs_3 vp vr (fun v_5 vs_5 vp_5 vr_5 => (pX0_passSeconds_J39 vj x1 Q (fun v vs vp vr x2 => pX0_passSeconds_L10 vj x1 Q n10 v vs vp vr x2) v_5 vs_5 vp_5 vr_5 x2)))) ∧ (¬ (v_3 0 8) = (-5 : Int32) → (pX0_changeForEmergency v_3 vj vs_3 vp vr (fun v_9 vs_9 vp_9 vr_9 => (pX0_passSeconds_J39 vj x1 Q (fun v vs vp vr x2 => pX0_passSeconds_L10 vj x1 Q n10 v vs vp vr x2) v_9 vs_9 vp_9 vr_9 x2)))))))))
def pX0_passSeconds (v : Lf) (vj : Lf) (vs : Lf) (vp : Lf) (vr : Lf) (x1 : Int32) (Q : Lf → Lf → Lf → Lf → Prop) : Prop := ((¬ (v 0 4) = 0 → (∃ n10, pX0_passSeconds_L10 vj x1 Q  n10 v vs vp vr (0 : Int32))) ∧ ((v 0 4) = 0 → (Q v vs vp vr)))
abbrev rmX0_passSeconds : Room := { frames := 4, cells := 0, slots := 0, locals := 167 }
abbrev wdX0_passSeconds : List Cond := Cond.code yX0_passSeconds cX0_passSeconds 3 none :: TB
theorem hdSX0_passSeconds : (yX0_passSeconds).cls ≠ "java/lang/invoke/MethodHandle" ∧ (yX0_passSeconds).cls ≠ "java/lang/invoke/VarHandle" ∧ (parseMethodDescriptor (yX0_passSeconds).desc).map (fun d => d.parameters.length) = some 1 := by decide +kernel
theorem hdX0_passSeconds : (yX0_passSeconds).cls = RX0 ∧ (yX0_passSeconds).cls ≠ "java/lang/invoke/MethodHandle" ∧ (yX0_passSeconds).cls ≠ "java/lang/invoke/VarHandle" ∧ (parseMethodDescriptor (yX0_passSeconds).desc).map (fun d => d.parameters.length) = some 1 := ⟨rfl, hdSX0_passSeconds⟩
set_option maxHeartbeats 4000000 in
set_option maxRecDepth 100000 in
theorem kX0_passSeconds {l : Launch} {D : va_G} {cI cJ cT : ClassId} (d : Nat → Nat) (dj : Nat → Nat) (ds : Nat → Nat) (dp : Nat → Nat) (dr : Nat → Nat)  (v : Lf) (vj : Lf) (vs : Lf) (vp : Lf) (vr : Lf) (x1 : Int32) {Q : Lf → Lf → Lf → Lf → Prop} (sz : Nat) (h : pX0_passSeconds v vj vs vp vr x1 Q) : Met l yX0_passSeconds wdX0_passSeconds rmX0_passSeconds (Pz D (tyL cI cJ cT) [.ref (d 0), .int x1] ((wX0 d (dj 0) (ds 0) (dp 0) (dr 0) v) ++ ((wX1 cI dj vj) ++ ((wX5 cI ds vs) ++ ((wX2 cI dp vp) ++ (wX4 cI 72 dr vr))))) sz) (va_Qv (fun (u : Lf × Lf × Lf × Lf) => Q u.1 u.2.1 u.2.2.1 u.2.2.2) (Bz D (tyL cI cJ cT) ((wX0 d (dj 0) (ds 0) (dp 0) (dr 0) v) ++ ((wX1 cI dj vj) ++ ((wX5 cI ds vs) ++ ((wX2 cI dp vp) ++ (wX4 cI 72 dr vr))))) sz (fun (u : Lf × Lf × Lf × Lf) => ((wX0 d (dj 0) (ds 0) (dp 0) (dr 0) u.1) ++ ((wX1 cI dj vj) ++ ((wX5 cI ds u.2.1) ++ ((wX2 cI dp u.2.2.1) ++ (wX4 cI 72 dr u.2.2.2))))))) (va_A ((wX0 d (dj 0) (ds 0) (dp 0) (dr 0) v) ++ ((wX1 cI dj vj) ++ ((wX5 cI ds vs) ++ ((wX2 cI dp vp) ++ (wX4 cI 72 dr vr))))) sz)) 0 0 (va_A ((wX0 d (dj 0) (ds 0) (dp 0) (dr 0) v) ++ ((wX1 cI dj vj) ++ ((wX5 cI ds vs) ++ ((wX2 cI dp vp) ++ (wX4 cI 72 dr vr))))) sz) := by
  refine z_metv (cc := cX0_passSeconds) (maxL := 3) (own := RX0) (lv0 := [(0, .ref (d 0)), (1, .int x1)]) (by decide) rfl rfl (Nat.le_of_ble_eq_true rfl) rfl ?_
  intro p e s m args below meth c A QQ C hin hret
  have J39 : ∀ (K10 : Lf → Lf → Lf → Lf → Int32 → Prop), (∀ (v : Lf) (vs : Lf) (vp : Lf) (vr : Lf) (x2 : Int32), K10 v vs vp vr x2 → ZZ p l e rmX0_passSeconds s m args below meth c D A 3 0 0 QQ 10 ((wX0 d (dj 0) (ds 0) (dp 0) (dr 0) v) ++ ((wX1 cI dj vj) ++ ((wX5 cI ds vs) ++ ((wX2 cI dp vp) ++ (wX4 cI 72 dr vr))))) [(0, .ref (d 0)), (1, .int x1), (2, .int x2)] []) → ∀ (v : Lf) (vs : Lf) (vp : Lf) (vr : Lf) (x2 : Int32), pX0_passSeconds_J39 vj x1 Q K10 v vs vp vr x2 → ZZ p l e rmX0_passSeconds s m args below meth c D A 3 0 0 QQ 39 ((wX0 d (dj 0) (ds 0) (dp 0) (dr 0) v) ++ ((wX1 cI dj vj) ++ ((wX5 cI ds vs) ++ ((wX2 cI dp vp) ++ (wX4 cI 72 dr vr))))) [(0, .ref (d 0)), (1, .int x1), (2, .int x2)] [] := by
    intro K10 hK10 v vs vp vr x2 h
    refine z_aload_n (pc := 39) C 0 dX0_passSeconds_39 rfl ?_
    refine z_callv (pc := 40) (wr := (wX4 cI 72 dr vr)) (w1 := fun (u : Lf) => ((wX0 d (dj 0) (ds 0) (dp 0) (dr 0) v) ++ ((wX1 cI dj vj) ++ ((wX5 cI ds u) ++ (wX2 cI dp vp))))) (w2 := fun (u : Lf) => ((wX0 d (dj 0) (ds 0) (dp 0) (dr 0) v) ++ ((wX1 cI dj vj) ++ ((wX5 cI ds u) ++ ((wX2 cI dp vp) ++ (wX4 cI 72 dr vr)))))) C (z_runV (pc := 40) (wc := ((wX0 d (dj 0) (ds 0) (dp 0) (dr 0) v) ++ ((wX1 cI dj vj) ++ ((wX5 cI ds vs) ++ (wX2 cI dp vp))))) (As := []) C (fun sz => kX0_turnGreen d dj ds dp dr v vj vs vp sz h) [0, 1, 2, 3, 4, 5, 6, 7, 8, 9, 10, 11, 12, 13, 14, 15, 16, 17, 18] rfl (by decide) (gdV wq230 wq248 wq249 wq250 wq108) rfl rfl rfl hdX0_turnGreen 0 rfl rfl rfl ⟨Nat.le_of_ble_eq_true rfl, Nat.le_of_ble_eq_true rfl⟩ rfl (Nat.le_of_ble_eq_true rfl) ⟨Nat.zero_le _, Nat.zero_le _⟩ dX0_passSeconds_40) [0, 1, 2, 3, 4, 5, 6, 7, 8, 9, 10, 11, 12, 13, 14, 15, 16, 17, 18] [19, 20] [2, 3, 4, 5, 6, 7, 8, 9, 10, 11, 12, 13, 14, 15, 16, 17, 18, 19, 20, 0, 1] rfl rfl (by decide) (by decide) (fun _ => rfl) (by decide) (fun u6 h => ?_)
    obtain ⟨vs_6, hu6⟩ : ∃ z, z = u6 := ⟨_, rfl⟩
    subst hu6
    refine z_aload_n (pc := 43) C 0 dX0_passSeconds_43 rfl ?_
    refine z_callv (pc := 44) (wr := ((wX2 cI dp vp) ++ (wX4 cI 72 dr vr))) (w1 := fun (u : Lf × Lf) => ((wX0 d (dj 0) (ds 0) (dp 0) (dr 0) u.1) ++ ((wX1 cI dj vj) ++ (wX5 cI ds u.2)))) (w2 := fun (u : Lf × Lf) => ((wX0 d (dj 0) (ds 0) (dp 0) (dr 0) u.1) ++ ((wX1 cI dj vj) ++ ((wX5 cI ds u.2) ++ ((wX2 cI dp vp) ++ (wX4 cI 72 dr vr)))))) C (z_runV (pc := 44) (wc := ((wX0 d (dj 0) (ds 0) (dp 0) (dr 0) v) ++ ((wX1 cI dj vj) ++ (wX5 cI ds vs_6)))) (As := []) C (fun sz => kX0_letGo d dj ds dp dr v vj vs_6 sz h) [0, 1, 2, 3, 4, 5, 6, 7, 8, 9, 10, 11, 12, 13, 14] rfl (by decide) (gdV wq233 wq251 wq252 wq253 wq108) rfl rfl rfl hdX0_letGo 0 rfl rfl rfl ⟨Nat.le_of_ble_eq_true rfl, Nat.le_of_ble_eq_true rfl⟩ rfl (Nat.le_of_ble_eq_true rfl) ⟨Nat.zero_le _, Nat.zero_le _⟩ dX0_passSeconds_44) [0, 1, 2, 3, 4, 5, 6, 7, 8, 9, 10, 11, 12, 13, 14] [15, 16, 17, 18, 19, 20] [6, 7, 8, 9, 10, 11, 12, 13, 14, 15, 16, 17, 18, 19, 20, 0, 1, 2, 3, 4, 5] rfl rfl (by decide) (by decide) (fun _ => rfl) (by decide) (fun u7 h => ?_)
    obtain ⟨v_7, vs_7⟩ := u7
    dsimp only at h
    refine z_aload_n (pc := 47) C 0 dX0_passSeconds_47 rfl ?_
    refine z_dup (pc := 48) C dX0_passSeconds_48 rfl ?_
    refine z_get (pc := 49) C uw0 0 rfl rfl 9 (by decide) wq83 rfl dX0_passSeconds_49 ?_
    refine z_aload_n (pc := 52) C 0 dX0_passSeconds_52 rfl ?_
    refine z_get (pc := 53) C uw0 0 rfl rfl 1 (by decide) wq41 rfl dX0_passSeconds_53 ?_
    refine z_callRi (pc := 56) C (z_runV (pc := 56) (wc := (wX5 cI ds vs_7)) (As := []) C (fun sz => kX5_allQueues ds vs_7 sz h) [7, 8, 9, 10, 11, 12, 13, 14] rfl (by decide) (gdV wq238 wq254 wq255 wq256 wq40) rfl rfl rfl hdX5_allQueues 7 rfl rfl rfl ⟨Nat.le_of_ble_eq_true rfl, Nat.le_of_ble_eq_true rfl⟩ rfl (Nat.le_of_ble_eq_true rfl) ⟨Nat.zero_le _, Nat.zero_le _⟩ dX0_passSeconds_56) [7, 8, 9, 10, 11, 12, 13, 14] rfl (by decide) (fun r8 u8 h => ?_)
    refine z_iadd (pc := 59) C dX0_passSeconds_59 ?_
    refine z_put (pc := 60) (ws' := ((wX0 d (dj 0) (ds 0) (dp 0) (dr 0) (st v_7 0 9 ((v_7 0 9) + r8))) ++ ((wX1 cI dj vj) ++ ((wX5 cI ds vs_7) ++ ((wX2 cI dp vp) ++ (wX4 cI 72 dr vr)))))) C uw0 tyX0 tyX0_ok nmX0 0 rfl rfl 9 (by decide) wq83 rfl rfl rfl (Nat.le_of_ble_eq_true rfl) dX0_passSeconds_60 (set_l (Nat.le_of_ble_eq_true rfl) sX0_f9) ?_
    refine z_aload_n (pc := 63) C 0 dX0_passSeconds_63 rfl ?_
    refine z_dup (pc := 64) C dX0_passSeconds_64 rfl ?_
    refine z_get (pc := 65) C uw0 0 rfl rfl 5 (by decide) wq82 rfl dX0_passSeconds_65 ?_
    refine z_iconst (pc := 68) (v := 1) C dX0_passSeconds_68 (by decide) ?_
    refine z_iadd (pc := 69) C dX0_passSeconds_69 ?_
    refine z_put (pc := 70) (ws' := ((wX0 d (dj 0) (ds 0) (dp 0) (dr 0) (st (st v_7 0 9 ((v_7 0 9) + r8)) 0 5 (((st v_7 0 9 ((v_7 0 9) + r8)) 0 5) + (1 : Int32)))) ++ ((wX1 cI dj vj) ++ ((wX5 cI ds vs_7) ++ ((wX2 cI dp vp) ++ (wX4 cI 72 dr vr)))))) C uw0 tyX0 tyX0_ok nmX0 0 rfl rfl 5 (by decide) wq82 rfl rfl rfl (Nat.le_of_ble_eq_true rfl) dX0_passSeconds_70 (set_l (Nat.le_of_ble_eq_true rfl) sX0_f5) ?_
    refine z_iinc (pc := 73) (v := (x2 + 1)) (lv' := [(2, .int (x2 + 1)), (0, .ref (d 0)), (1, .int x1)]) C 2 dX0_passSeconds_73 rfl rfl (by decide) rfl ?_
    refine z_goto (pc := 76) (tgt := 10) C dX0_passSeconds_76 (by decide) ?_
    refine z_sub (lv' := [(0, .ref (d 0)), (1, .int x1), (2, .int (x2 + 1))]) [1, 2, 0] rfl ?_
    exact hK10 (st (st v_7 0 9 ((v_7 0 9) + r8)) 0 5 (((st v_7 0 9 ((v_7 0 9) + r8)) 0 5) + (1 : Int32))) vs_7 vp vr (x2 + 1) h
  have L10 : ∀ (n10 : Nat) (v : Lf) (vs : Lf) (vp : Lf) (vr : Lf) (x2 : Int32), pX0_passSeconds_L10 vj x1 Q n10 v vs vp vr x2 → ZZ p l e rmX0_passSeconds s m args below meth c D A 3 0 0 QQ 10 ((wX0 d (dj 0) (ds 0) (dp 0) (dr 0) v) ++ ((wX1 cI dj vj) ++ ((wX5 cI ds vs) ++ ((wX2 cI dp vp) ++ (wX4 cI 72 dr vr))))) [(0, .ref (d 0)), (1, .int x1), (2, .int x2)] [] := by
    intro n10
    induction n10 with
    | zero => intro v vs vp vr x2 h; exact False.elim h
    | succ n10 ih10 =>
      intro v vs vp vr x2 h
      refine z_iload_n (pc := 10) C 2 dX0_passSeconds_10 rfl ?_
      refine z_iload_n (pc := 11) C 1 dX0_passSeconds_11 rfl ?_
      refine z_icmp_ge (pc := 12) (tgt := 79) C dX0_passSeconds_12 (by decide) (fun c2 => ?_) (fun c2 => ?_)
      · have h := h.1 c2
        exact hret 79 _ _ (v, vs, vp, vr) rfl h dX0_passSeconds_79
      · have h := h.2 c2
        refine z_aload_n (pc := 15) C 0 dX0_passSeconds_15 rfl ?_
        refine z_callv (pc := 16) (wr := ((wX2 cI dp vp) ++ (wX4 cI 72 dr vr))) (w1 := fun (u : Lf × Lf) => ((wX0 d (dj 0) (ds 0) (dp 0) (dr 0) u.1) ++ ((wX1 cI dj vj) ++ (wX5 cI ds u.2)))) (w2 := fun (u : Lf × Lf) => ((wX0 d (dj 0) (ds 0) (dp 0) (dr 0) u.1) ++ ((wX1 cI dj vj) ++ ((wX5 cI ds u.2) ++ ((wX2 cI dp vp) ++ (wX4 cI 72 dr vr)))))) C (z_runV (pc := 16) (wc := ((wX0 d (dj 0) (ds 0) (dp 0) (dr 0) v) ++ ((wX1 cI dj vj) ++ (wX5 cI ds vs)))) (As := []) C (fun sz => kX0_letCome d dj ds dp dr v vj vs sz h) [0, 1, 2, 3, 4, 5, 6, 7, 8, 9, 10, 11, 12, 13, 14] rfl (by decide) (gdV wq134 wq239 wq240 wq241 wq108) rfl rfl rfl hdX0_letCome 0 rfl rfl rfl ⟨Nat.le_of_ble_eq_true rfl, Nat.le_of_ble_eq_true rfl⟩ rfl (Nat.le_of_ble_eq_true rfl) ⟨Nat.zero_le _, Nat.zero_le _⟩ dX0_passSeconds_16) [0, 1, 2, 3, 4, 5, 6, 7, 8, 9, 10, 11, 12, 13, 14] [15, 16, 17, 18, 19, 20] [6, 7, 8, 9, 10, 11, 12, 13, 14, 15, 16, 17, 18, 19, 20, 0, 1, 2, 3, 4, 5] rfl rfl (by decide) (by decide) (fun _ => rfl) (by decide) (fun u3 h => ?_)
        obtain ⟨v_3, vs_3⟩ := u3
        dsimp only at h
        refine z_aload_n (pc := 19) C 0 dX0_passSeconds_19 rfl ?_
        refine z_get (pc := 20) C uw0 0 rfl rfl 8 (by decide) wq52 rfl dX0_passSeconds_20 ?_
        refine z_bipush (pc := 23) (v := -5) C dX0_passSeconds_23 (by decide) ?_
        refine z_icmp_eq (pc := 25) (tgt := 35) C dX0_passSeconds_25 (by decide) (fun c4 => ?_) (fun c4 => ?_)
        · have h := h.1 c4
          refine z_aload_n (pc := 35) C 0 dX0_passSeconds_35 rfl ?_
          refine z_callv (pc := 36) (wr := ([] : va_W)) (w1 := fun (u : Lf × Lf × Lf × Lf) => ((wX0 d (dj 0) (ds 0) (dp 0) (dr 0) u.1) ++ ((wX1 cI dj vj) ++ ((wX5 cI ds u.2.1) ++ ((wX2 cI dp u.2.2.1) ++ (wX4 cI 72 dr u.2.2.2)))))) (w2 := fun (u : Lf × Lf × Lf × Lf) => ((wX0 d (dj 0) (ds 0) (dp 0) (dr 0) u.1) ++ ((wX1 cI dj vj) ++ ((wX5 cI ds u.2.1) ++ ((wX2 cI dp u.2.2.1) ++ (wX4 cI 72 dr u.2.2.2)))))) C (z_runV (pc := 36) (wc := ((wX0 d (dj 0) (ds 0) (dp 0) (dr 0) v_3) ++ ((wX1 cI dj vj) ++ ((wX5 cI ds vs_3) ++ ((wX2 cI dp vp) ++ (wX4 cI 72 dr vr)))))) (As := []) C (fun sz => kX0_changeByCalls d dj ds dp dr v_3 vj vs_3 vp vr sz h) [0, 1, 2, 3, 4, 5, 6, 7, 8, 9, 10, 11, 12, 13, 14, 15, 16, 17, 18, 19, 20] rfl (by decide) (gdV wq212 wq245 wq246 wq247 wq108) rfl rfl rfl hdX0_changeByCalls 0 rfl rfl rfl ⟨Nat.le_of_ble_eq_true rfl, Nat.le_of_ble_eq_true rfl⟩ rfl (Nat.le_of_ble_eq_true rfl) ⟨Nat.zero_le _, Nat.zero_le _⟩ dX0_passSeconds_36) [0, 1, 2, 3, 4, 5, 6, 7, 8, 9, 10, 11, 12, 13, 14, 15, 16, 17, 18, 19, 20] [] [0, 1, 2, 3, 4, 5, 6, 7, 8, 9, 10, 11, 12, 13, 14, 15, 16, 17, 18, 19, 20] rfl rfl (by decide) (by decide) (fun _ => rfl) (by decide) (fun u5 h => ?_)
          obtain ⟨v_5, vs_5, vp_5, vr_5⟩ := u5
          dsimp only at h
          exact J39 (fun v vs vp vr x2 => pX0_passSeconds_L10 vj x1 Q n10 v vs vp vr x2) ih10 v_5 vs_5 vp_5 vr_5 x2 h
        · have h := h.2 c4
          refine z_aload_n (pc := 28) C 0 dX0_passSeconds_28 rfl ?_
          refine z_callv (pc := 29) (wr := ([] : va_W)) (w1 := fun (u : Lf × Lf × Lf × Lf) => ((wX0 d (dj 0) (ds 0) (dp 0) (dr 0) u.1) ++ ((wX1 cI dj vj) ++ ((wX5 cI ds u.2.1) ++ ((wX2 cI dp u.2.2.1) ++ (wX4 cI 72 dr u.2.2.2)))))) (w2 := fun (u : Lf × Lf × Lf × Lf) => ((wX0 d (dj 0) (ds 0) (dp 0) (dr 0) u.1) ++ ((wX1 cI dj vj) ++ ((wX5 cI ds u.2.1) ++ ((wX2 cI dp u.2.2.1) ++ (wX4 cI 72 dr u.2.2.2)))))) C (z_runV (pc := 29) (wc := ((wX0 d (dj 0) (ds 0) (dp 0) (dr 0) v_3) ++ ((wX1 cI dj vj) ++ ((wX5 cI ds vs_3) ++ ((wX2 cI dp vp) ++ (wX4 cI 72 dr vr)))))) (As := []) C (fun sz => kX0_changeForEmergency d dj ds dp dr v_3 vj vs_3 vp vr sz h) [0, 1, 2, 3, 4, 5, 6, 7, 8, 9, 10, 11, 12, 13, 14, 15, 16, 17, 18, 19, 20] rfl (by decide) (gdV wq161 wq242 wq243 wq244 wq108) rfl rfl rfl hdX0_changeForEmergency 0 rfl rfl rfl ⟨Nat.le_of_ble_eq_true rfl, Nat.le_of_ble_eq_true rfl⟩ rfl (Nat.le_of_ble_eq_true rfl) ⟨Nat.zero_le _, Nat.zero_le _⟩ dX0_passSeconds_29) [0, 1, 2, 3, 4, 5, 6, 7, 8, 9, 10, 11, 12, 13, 14, 15, 16, 17, 18, 19, 20] [] [0, 1, 2, 3, 4, 5, 6, 7, 8, 9, 10, 11, 12, 13, 14, 15, 16, 17, 18, 19, 20] rfl rfl (by decide) (by decide) (fun _ => rfl) (by decide) (fun u9 h => ?_)
          obtain ⟨v_9, vs_9, vp_9, vr_9⟩ := u9
          dsimp only at h
          refine z_goto (pc := 32) (tgt := 39) C dX0_passSeconds_32 (by decide) ?_
          exact J39 (fun v vs vp vr x2 => pX0_passSeconds_L10 vj x1 Q n10 v vs vp vr x2) ih10 v_9 vs_9 vp_9 vr_9 x2 h
  refine z_aload_n (pc := 0) C 0 dX0_passSeconds_0 rfl ?_
  refine z_get (pc := 1) C uw0 0 rfl rfl 4 (by decide) wq81 rfl dX0_passSeconds_1 ?_
  refine z_if_ne (pc := 4) (tgt := 8) C dX0_passSeconds_4 (by decide) (fun c1 => ?_) (fun c1 => ?_)
  · have h := h.1 c1
    refine z_iconst (pc := 8) (v := 0) C dX0_passSeconds_8 (by decide) ?_
    refine z_istore_n (pc := 9) (lv' := [(2, .int (0 : Int32)), (0, .ref (d 0)), (1, .int x1)]) C dX0_passSeconds_9 (by decide) rfl ?_
    obtain ⟨n10, h⟩ := h
    refine z_sub (lv' := [(0, .ref (d 0)), (1, .int x1), (2, .int (0 : Int32))]) [1, 2, 0] rfl ?_
    exact L10  n10 v vs vp vr (0 : Int32) h
  · have h := h.2 c1
    exact hret 7 _ _ (v, vs, vp, vr) rfl h dX0_passSeconds_7

def pX0_obey (v : Lf) (vj : Lf) (vs : Lf) (vp : Lf) (vr : Lf) (x1 : Int32) (x2 : Int32) (Q : Lf → Lf → Lf → Lf → Prop) : Prop := ((x1 = 0 → (pX0_passSeconds v vj vs vp vr x2 (fun v_3 vs_3 vp_3 vr_3 => (Q v_3 vs_3 vp_3 vr_3)))) ∧ (¬ x1 = 0 → ((x1 = 1 → (pX0_declare v vp x2 (fun r4 v_4 => (Q v_4 vs vp vr)))) ∧ (¬ x1 = 1 → ((x1 = 2 → (Q (st v 0 8 (-5 : Int32)) vs vp vr)) ∧ (¬ x1 = 2 → (vp_in x2 8 ∧ (Q v (st vs 2 x2.toNatClampNeg (0 : Int32)) vp vr))))))))
abbrev rmX0_obey : Room := { frames := 5, cells := 0, slots := 0, locals := 189 }
abbrev wdX0_obey : List Cond := Cond.code yX0_obey cX0_obey 3 none :: TB
theorem hdSX0_obey : (yX0_obey).cls ≠ "java/lang/invoke/MethodHandle" ∧ (yX0_obey).cls ≠ "java/lang/invoke/VarHandle" ∧ (parseMethodDescriptor (yX0_obey).desc).map (fun d => d.parameters.length) = some 2 := by decide +kernel
theorem hdX0_obey : (yX0_obey).cls = RX0 ∧ (yX0_obey).cls ≠ "java/lang/invoke/MethodHandle" ∧ (yX0_obey).cls ≠ "java/lang/invoke/VarHandle" ∧ (parseMethodDescriptor (yX0_obey).desc).map (fun d => d.parameters.length) = some 2 := ⟨rfl, hdSX0_obey⟩
set_option maxHeartbeats 4000000 in
set_option maxRecDepth 100000 in
theorem kX0_obey {l : Launch} {D : va_G} {cI cJ cT : ClassId} (d : Nat → Nat) (dj : Nat → Nat) (ds : Nat → Nat) (dp : Nat → Nat) (dr : Nat → Nat)  (v : Lf) (vj : Lf) (vs : Lf) (vp : Lf) (vr : Lf) (x1 : Int32) (x2 : Int32) {Q : Lf → Lf → Lf → Lf → Prop} (sz : Nat) (h : pX0_obey v vj vs vp vr x1 x2 Q) : Met l yX0_obey wdX0_obey rmX0_obey (Pz D (tyL cI cJ cT) [.ref (d 0), .int x1, .int x2] ((wX0 d (dj 0) (ds 0) (dp 0) (dr 0) v) ++ ((wX1 cI dj vj) ++ ((wX5 cI ds vs) ++ ((wX2 cI dp vp) ++ (wX4 cI 72 dr vr))))) sz) (va_Qv (fun (u : Lf × Lf × Lf × Lf) => Q u.1 u.2.1 u.2.2.1 u.2.2.2) (Bz D (tyL cI cJ cT) ((wX0 d (dj 0) (ds 0) (dp 0) (dr 0) v) ++ ((wX1 cI dj vj) ++ ((wX5 cI ds vs) ++ ((wX2 cI dp vp) ++ (wX4 cI 72 dr vr))))) sz (fun (u : Lf × Lf × Lf × Lf) => ((wX0 d (dj 0) (ds 0) (dp 0) (dr 0) u.1) ++ ((wX1 cI dj vj) ++ ((wX5 cI ds u.2.1) ++ ((wX2 cI dp u.2.2.1) ++ (wX4 cI 72 dr u.2.2.2))))))) (va_A ((wX0 d (dj 0) (ds 0) (dp 0) (dr 0) v) ++ ((wX1 cI dj vj) ++ ((wX5 cI ds vs) ++ ((wX2 cI dp vp) ++ (wX4 cI 72 dr vr))))) sz)) 0 0 (va_A ((wX0 d (dj 0) (ds 0) (dp 0) (dr 0) v) ++ ((wX1 cI dj vj) ++ ((wX5 cI ds vs) ++ ((wX2 cI dp vp) ++ (wX4 cI 72 dr vr))))) sz) := by
  refine z_metv (cc := cX0_obey) (maxL := 3) (own := RX0) (lv0 := [(0, .ref (d 0)), (1, .int x1), (2, .int x2)]) (by decide) rfl rfl (Nat.le_of_ble_eq_true rfl) rfl ?_
  intro p e s m args below meth c A QQ C hin hret
  refine z_iload_n (pc := 0) C 1 dX0_obey_0 rfl ?_
  by_cases c1_0 : x1 = 0
  · have h := h.1 c1_0
    refine z_tbl (pc := 1) (tgt := 28) C dX0_obey_1 0 c1_0 (by decide) (by decide) rfl (by decide) ?_
    refine z_aload_n (pc := 28) C 0 dX0_obey_28 rfl ?_
    refine z_iload_n (pc := 29) C 2 dX0_obey_29 rfl ?_
    refine z_callv (pc := 30) (wr := ([] : va_W)) (w1 := fun (u : Lf × Lf × Lf × Lf) => ((wX0 d (dj 0) (ds 0) (dp 0) (dr 0) u.1) ++ ((wX1 cI dj vj) ++ ((wX5 cI ds u.2.1) ++ ((wX2 cI dp u.2.2.1) ++ (wX4 cI 72 dr u.2.2.2)))))) (w2 := fun (u : Lf × Lf × Lf × Lf) => ((wX0 d (dj 0) (ds 0) (dp 0) (dr 0) u.1) ++ ((wX1 cI dj vj) ++ ((wX5 cI ds u.2.1) ++ ((wX2 cI dp u.2.2.1) ++ (wX4 cI 72 dr u.2.2.2)))))) C (z_runV (pc := 30) (wc := ((wX0 d (dj 0) (ds 0) (dp 0) (dr 0) v) ++ ((wX1 cI dj vj) ++ ((wX5 cI ds vs) ++ ((wX2 cI dp vp) ++ (wX4 cI 72 dr vr)))))) (As := [.int x2]) C (fun sz => kX0_passSeconds d dj ds dp dr v vj vs vp vr x2 sz h) [0, 1, 2, 3, 4, 5, 6, 7, 8, 9, 10, 11, 12, 13, 14, 15, 16, 17, 18, 19, 20] rfl (by decide) (gdV wq257 wq258 wq259 wq260 wq108) rfl rfl rfl hdX0_passSeconds 0 rfl rfl rfl ⟨Nat.le_of_ble_eq_true rfl, Nat.le_of_ble_eq_true rfl⟩ rfl (Nat.le_of_ble_eq_true rfl) ⟨Nat.zero_le _, Nat.zero_le _⟩ dX0_obey_30) [0, 1, 2, 3, 4, 5, 6, 7, 8, 9, 10, 11, 12, 13, 14, 15, 16, 17, 18, 19, 20] [] [0, 1, 2, 3, 4, 5, 6, 7, 8, 9, 10, 11, 12, 13, 14, 15, 16, 17, 18, 19, 20] rfl rfl (by decide) (by decide) (fun _ => rfl) (by decide) (fun u3 h => ?_)
    obtain ⟨v_3, vs_3, vp_3, vr_3⟩ := u3
    dsimp only at h
    refine z_goto (pc := 33) (tgt := 64) C dX0_obey_33 (by decide) ?_
    exact hret 64 _ _ (v_3, vs_3, vp_3, vr_3) rfl h dX0_obey_64
  · have h := h.2 c1_0
    by_cases c1_1 : x1 = 1
    · have h := h.1 c1_1
      refine z_tbl (pc := 1) (tgt := 36) C dX0_obey_1 1 c1_1 (by decide) (by decide) rfl (by decide) ?_
      refine z_aload_n (pc := 36) C 0 dX0_obey_36 rfl ?_
      refine z_iload_n (pc := 37) C 2 dX0_obey_37 rfl ?_
      refine z_calli (pc := 38) (wr := ((wX1 cI dj vj) ++ ((wX5 cI ds vs) ++ (wX4 cI 72 dr vr)))) (w1 := fun (u : Lf) => ((wX0 d (dj 0) (ds 0) (dp 0) (dr 0) u) ++ (wX2 cI dp vp))) (w2 := fun (u : Lf) => ((wX0 d (dj 0) (ds 0) (dp 0) (dr 0) u) ++ ((wX1 cI dj vj) ++ ((wX5 cI ds vs) ++ ((wX2 cI dp vp) ++ (wX4 cI 72 dr vr)))))) C (z_runV (pc := 38) (wc := ((wX0 d (dj 0) (ds 0) (dp 0) (dr 0) v) ++ (wX2 cI dp vp))) (As := [.int x2]) C (fun sz => kX0_declare d dj ds dp dr v vp x2 sz h) [0, 15, 16, 17, 18] rfl (by decide) (gdV wq113 wq261 wq262 wq263 wq108) rfl rfl rfl hdX0_declare 0 rfl rfl rfl ⟨Nat.le_of_ble_eq_true rfl, Nat.le_of_ble_eq_true rfl⟩ rfl (Nat.le_of_ble_eq_true rfl) ⟨Nat.zero_le _, Nat.zero_le _⟩ dX0_obey_38) [0, 15, 16, 17, 18] [1, 2, 3, 4, 5, 6, 7, 8, 9, 10, 11, 12, 13, 14, 19, 20] [16, 0, 1, 2, 3, 4, 5, 6, 7, 8, 9, 10, 11, 12, 13, 17, 18, 19, 20, 14, 15] rfl rfl (by decide) (by decide) (fun _ => rfl) (by decide) (fun r4 u4 h => ?_)
      obtain ⟨v_4, hu4⟩ : ∃ z, z = u4 := ⟨_, rfl⟩
      subst hu4
      refine z_pop (pc := 41) C dX0_obey_41 rfl ?_
      refine z_goto (pc := 42) (tgt := 64) C dX0_obey_42 (by decide) ?_
      exact hret 64 _ _ (v_4, vs, vp, vr) rfl h dX0_obey_64
    · have h := h.2 c1_1
      by_cases c1_2 : x1 = 2
      · have h := h.1 c1_2
        refine z_tbl (pc := 1) (tgt := 45) C dX0_obey_1 2 c1_2 (by decide) (by decide) rfl (by decide) ?_
        refine z_aload_n (pc := 45) C 0 dX0_obey_45 rfl ?_
        refine z_bipush (pc := 46) (v := -5) C dX0_obey_46 (by decide) ?_
        refine z_put (pc := 48) (ws' := ((wX0 d (dj 0) (ds 0) (dp 0) (dr 0) (st v 0 8 (-5 : Int32))) ++ ((wX1 cI dj vj) ++ ((wX5 cI ds vs) ++ ((wX2 cI dp vp) ++ (wX4 cI 72 dr vr)))))) C uw0 tyX0 tyX0_ok nmX0 0 rfl rfl 8 (by decide) wq52 rfl rfl rfl (Nat.le_of_ble_eq_true rfl) dX0_obey_48 (set_l (Nat.le_of_ble_eq_true rfl) sX0_f8) ?_
        refine z_goto (pc := 51) (tgt := 64) C dX0_obey_51 (by decide) ?_
        exact hret 64 _ _ ((st v 0 8 (-5 : Int32)), vs, vp, vr) rfl h dX0_obey_64
      · have h := h.2 c1_2
        refine z_tblo (pc := 1) (tgt := 54) C dX0_obey_1 (z_out0_2 c1_0 c1_1 c1_2) (by decide) ?_
        refine z_aload_n (pc := 54) C 0 dX0_obey_54 rfl ?_
        refine z_get (pc := 55) C uw0 0 rfl rfl 1 (by decide) wq41 rfl dX0_obey_55 ?_
        refine z_get (pc := 58) C uw5 7 rfl rfl 2 (by decide) wq123 rfl dX0_obey_58 ?_
        refine z_iload_n (pc := 61) C 2 dX0_obey_61 rfl ?_
        refine z_iconst (pc := 62) (v := 0) C dX0_obey_62 (by decide) ?_
        obtain ⟨g2, h⟩ := h
        refine z_iast (pc := 63) (ws' := ((wX0 d (dj 0) (ds 0) (dp 0) (dr 0) v) ++ ((wX1 cI dj vj) ++ ((wX5 cI ds (st vs 2 x2.toNatClampNeg (0 : Int32))) ++ ((wX2 cI dp vp) ++ (wX4 cI 72 dr vr)))))) C 9 0 rfl rfl g2 dX0_obey_63 rfl (set_r (k := 1) (i := 8) rfl (set_r (k := 6) (i := 2) rfl (set_l (Nat.le_of_ble_eq_true rfl) sX5_a2))) ?_
        exact hret 64 _ _ (v, (st vs 2 x2.toNatClampNeg (0 : Int32)), vp, vr) rfl h dX0_obey_64

def pX0_lightOf (v : Lf) (vj : Lf) (vs : Lf) (x1 : Int32) (Q : Int32 → Prop) : Prop := (pX5_isGreen vs x1 (fun r1 => ((r1 = 0 → (vp_in x1 8 ∧ (((vs 6 x1.toNatClampNeg) = (-5 : Int32) → (Q (0 : Int32) )) ∧ (¬ (vs 6 x1.toNatClampNeg) = (-5 : Int32) → (pX1_amber vj x1 (fun r5 => ((((vs 6 x1.toNatClampNeg) + r5) ≤ (v 0 5) → (Q (0 : Int32) )) ∧ (¬ ((vs 6 x1.toNatClampNeg) + r5) ≤ (v 0 5) → (Q (1 : Int32) ))))))))) ∧ (¬ r1 = 0 → (Q (2 : Int32) )))))
abbrev rmX0_lightOf : Room := { frames := 1, cells := 0, slots := 0, locals := 21 }
abbrev wdX0_lightOf : List Cond := Cond.code yX0_lightOf cX0_lightOf 3 (some .int) :: TB
theorem hdSX0_lightOf : (yX0_lightOf).cls ≠ "java/lang/invoke/MethodHandle" ∧ (yX0_lightOf).cls ≠ "java/lang/invoke/VarHandle" ∧ (parseMethodDescriptor (yX0_lightOf).desc).map (fun d => d.parameters.length) = some 1 := by decide +kernel
theorem hdX0_lightOf : (yX0_lightOf).cls = RX0 ∧ (yX0_lightOf).cls ≠ "java/lang/invoke/MethodHandle" ∧ (yX0_lightOf).cls ≠ "java/lang/invoke/VarHandle" ∧ (parseMethodDescriptor (yX0_lightOf).desc).map (fun d => d.parameters.length) = some 1 := ⟨rfl, hdSX0_lightOf⟩
set_option maxHeartbeats 4000000 in
set_option maxRecDepth 100000 in
theorem kX0_lightOf {l : Launch} {D : va_G} {cI cJ cT : ClassId} (d : Nat → Nat) (dj : Nat → Nat) (ds : Nat → Nat) (dp : Nat → Nat) (dr : Nat → Nat)  (v : Lf) (vj : Lf) (vs : Lf) (x1 : Int32) {Q : Int32 → Prop} (sz : Nat) (h : pX0_lightOf v vj vs x1 Q) : Met l yX0_lightOf wdX0_lightOf rmX0_lightOf (Pz D (tyL cI cJ cT) [.ref (d 0), .int x1] ((wX0 d (dj 0) (ds 0) (dp 0) (dr 0) v) ++ ((wX1 cI dj vj) ++ (wX5 cI ds vs))) sz) (va_Qi (fun (r : Int32) (u : Unit) => Q r) (Bz D (tyL cI cJ cT) ((wX0 d (dj 0) (ds 0) (dp 0) (dr 0) v) ++ ((wX1 cI dj vj) ++ (wX5 cI ds vs))) sz (fun (u : Unit) => ((wX0 d (dj 0) (ds 0) (dp 0) (dr 0) v) ++ ((wX1 cI dj vj) ++ (wX5 cI ds vs))))) (va_A ((wX0 d (dj 0) (ds 0) (dp 0) (dr 0) v) ++ ((wX1 cI dj vj) ++ (wX5 cI ds vs))) sz)) 0 0 (va_A ((wX0 d (dj 0) (ds 0) (dp 0) (dr 0) v) ++ ((wX1 cI dj vj) ++ (wX5 cI ds vs))) sz) := by
  refine z_meti (cc := cX0_lightOf) (maxL := 3) (own := RX0) (lv0 := [(0, .ref (d 0)), (1, .int x1)]) (by decide) rfl rfl (Nat.le_of_ble_eq_true rfl) rfl ?_
  intro p e s m args below meth c A QQ C hin hret
  refine z_aload_n (pc := 0) C 0 dX0_lightOf_0 rfl ?_
  refine z_get (pc := 1) C uw0 0 rfl rfl 1 (by decide) wq41 rfl dX0_lightOf_1 ?_
  refine z_iload_n (pc := 4) C 1 dX0_lightOf_4 rfl ?_
  refine z_callRi (pc := 5) C (z_runV (pc := 5) (wc := (wX5 cI ds vs)) (As := [.int x1]) C (fun sz => kX5_isGreen ds vs x1 sz h) [7, 8, 9, 10, 11, 12, 13, 14] rfl (by decide) (gdV wq135 wq138 wq139 wq140 wq40) rfl rfl rfl hdX5_isGreen 7 rfl rfl rfl ⟨Nat.le_of_ble_eq_true rfl, Nat.le_of_ble_eq_true rfl⟩ rfl (Nat.le_of_ble_eq_true rfl) ⟨Nat.zero_le _, Nat.zero_le _⟩ dX0_lightOf_5) [7, 8, 9, 10, 11, 12, 13, 14] rfl (by decide) (fun r1 u1 h => ?_)
  refine z_if_eq (pc := 8) (tgt := 13) C dX0_lightOf_8 (by decide) (fun c2 => ?_) (fun c2 => ?_)
  · have h := h.1 c2
    refine z_aload_n (pc := 13) C 0 dX0_lightOf_13 rfl ?_
    refine z_get (pc := 14) C uw0 0 rfl rfl 1 (by decide) wq41 rfl dX0_lightOf_14 ?_
    refine z_get (pc := 17) C uw5 7 rfl rfl 6 (by decide) wq216 rfl dX0_lightOf_17 ?_
    refine z_iload_n (pc := 20) C 1 dX0_lightOf_20 rfl ?_
    obtain ⟨g3, h⟩ := h
    refine z_iald (pc := 21) C 13 0 rfl rfl g3 (vs 6 x1.toNatClampNeg) rfl dX0_lightOf_21 ?_
    refine z_istore_n (pc := 22) (lv' := [(2, .int (vs 6 x1.toNatClampNeg)), (0, .ref (d 0)), (1, .int x1)]) C dX0_lightOf_22 (by decide) rfl ?_
    refine z_iload_n (pc := 23) C 0 dX0_lightOf_23 rfl ?_
    refine z_bipush (pc := 24) (v := -5) C dX0_lightOf_24 (by decide) ?_
    refine z_icmp_eq (pc := 26) (tgt := 50) C dX0_lightOf_26 (by decide) (fun c4 => ?_) (fun c4 => ?_)
    · have h := h.1 c4
      refine z_iconst (pc := 50) (v := 0) C dX0_lightOf_50 (by decide) ?_
      exact hret 51 _ _ (0 : Int32) () rfl h dX0_lightOf_51
    · have h := h.2 c4
      refine z_aload_n (pc := 29) C 1 dX0_lightOf_29 rfl ?_
      refine z_get (pc := 30) C uw0 0 rfl rfl 5 (by decide) wq82 rfl dX0_lightOf_30 ?_
      refine z_iload_n (pc := 33) C 0 dX0_lightOf_33 rfl ?_
      refine z_aload_n (pc := 34) C 1 dX0_lightOf_34 rfl ?_
      refine z_get (pc := 35) C uw0 0 rfl rfl 0 (by decide) wq37 rfl dX0_lightOf_35 ?_
      refine z_iload_n (pc := 38) C 2 dX0_lightOf_38 rfl ?_
      refine z_callRi (pc := 39) C (z_runV (pc := 39) (wc := (wX1 cI dj vj)) (As := [.int x1]) C (fun sz => kX1_amber dj vj x1 sz h) [1, 2, 3, 4, 5, 6] rfl (by decide) (gdV wq265 wq267 wq268 wq269 wq36) rfl rfl rfl hdX1_amber 1 rfl rfl rfl ⟨Nat.le_of_ble_eq_true rfl, Nat.le_of_ble_eq_true rfl⟩ rfl (Nat.le_of_ble_eq_true rfl) ⟨Nat.zero_le _, Nat.zero_le _⟩ dX0_lightOf_39) [1, 2, 3, 4, 5, 6] rfl (by decide) (fun r5 u5 h => ?_)
      refine z_iadd (pc := 42) C dX0_lightOf_42 ?_
      refine z_icmp_ge (pc := 43) (tgt := 50) C dX0_lightOf_43 (by decide) (fun c6 => ?_) (fun c6 => ?_)
      · have h := h.1 c6
        refine z_iconst (pc := 50) (v := 0) C dX0_lightOf_50 (by decide) ?_
        exact hret 51 _ _ (0 : Int32) () rfl h dX0_lightOf_51
      · have h := h.2 c6
        refine z_iconst (pc := 46) (v := 1) C dX0_lightOf_46 (by decide) ?_
        refine z_goto (pc := 47) (tgt := 51) C dX0_lightOf_47 (by decide) ?_
        exact hret 51 _ _ (1 : Int32) () rfl h dX0_lightOf_51
  · have h := h.2 c2
    refine z_iconst (pc := 11) (v := 2) C dX0_lightOf_11 (by decide) ?_
    exact hret 12 _ _ (2 : Int32) () rfl h dX0_lightOf_12

def pX0_amberSignals_J30 (v : Lf) (vj : Lf) (vs : Lf) (Q : Int32 → Prop) (K4 : Int32 → Int32 → Prop) (x1 : Int32) (x2 : Int32) : Prop := (K4 x1 (x2 + 1))
def pX0_amberSignals_L4 (v : Lf) (vj : Lf) (vs : Lf) (Q : Int32 → Prop) : Nat → Int32 → Int32 → Prop
  | 0, _, _ => False
  | n4 + 1, x1, x2 => (((vj 0 0) ≤ x2 → (Q x1 )) ∧ (¬ (vj 0 0) ≤ x2 → (pX0_lightOf v vj vs x2 (fun r2 => ((¬ r2 = (1 : Int32) → (pX0_amberSignals_J30 v vj vs Q (fun x1 x2 => pX0_amberSignals_L4 v vj vs Q n4 x1 x2) x1 x2)) ∧ (r2 = (1 : Int32) → (pX0_amberSignals_J30 v vj vs Q (fun x1 x2 => pX0_amberSignals_L4 v vj vs Q n4 x1 x2) (x1 ||| ((1 : Int32) <<< (x2 &&& 31))) x2)))))))
def pX0_amberSignals (v : Lf) (vj : Lf) (vs : Lf)  (Q : Int32 → Prop) : Prop := (∃ n4, pX0_amberSignals_L4 v vj vs Q  n4 (0 : Int32) (0 : Int32))
abbrev rmX0_amberSignals : Room := { frames := 2, cells := 0, slots := 0, locals := 43 }
abbrev wdX0_amberSignals : List Cond := Cond.code yX0_amberSignals cX0_amberSignals 3 (some .int) :: TB
theorem hdSX0_amberSignals : (yX0_amberSignals).cls ≠ "java/lang/invoke/MethodHandle" ∧ (yX0_amberSignals).cls ≠ "java/lang/invoke/VarHandle" ∧ (parseMethodDescriptor (yX0_amberSignals).desc).map (fun d => d.parameters.length) = some 0 := by decide +kernel
theorem hdX0_amberSignals : (yX0_amberSignals).cls = RX0 ∧ (yX0_amberSignals).cls ≠ "java/lang/invoke/MethodHandle" ∧ (yX0_amberSignals).cls ≠ "java/lang/invoke/VarHandle" ∧ (parseMethodDescriptor (yX0_amberSignals).desc).map (fun d => d.parameters.length) = some 0 := ⟨rfl, hdSX0_amberSignals⟩
set_option maxHeartbeats 4000000 in
set_option maxRecDepth 100000 in
theorem kX0_amberSignals {l : Launch} {D : va_G} {cI cJ cT : ClassId} (d : Nat → Nat) (dj : Nat → Nat) (ds : Nat → Nat) (dp : Nat → Nat) (dr : Nat → Nat)  (v : Lf) (vj : Lf) (vs : Lf)  {Q : Int32 → Prop} (sz : Nat) (h : pX0_amberSignals v vj vs Q) : Met l yX0_amberSignals wdX0_amberSignals rmX0_amberSignals (Pz D (tyL cI cJ cT) [.ref (d 0)] ((wX0 d (dj 0) (ds 0) (dp 0) (dr 0) v) ++ ((wX1 cI dj vj) ++ (wX5 cI ds vs))) sz) (va_Qi (fun (r : Int32) (u : Unit) => Q r) (Bz D (tyL cI cJ cT) ((wX0 d (dj 0) (ds 0) (dp 0) (dr 0) v) ++ ((wX1 cI dj vj) ++ (wX5 cI ds vs))) sz (fun (u : Unit) => ((wX0 d (dj 0) (ds 0) (dp 0) (dr 0) v) ++ ((wX1 cI dj vj) ++ (wX5 cI ds vs))))) (va_A ((wX0 d (dj 0) (ds 0) (dp 0) (dr 0) v) ++ ((wX1 cI dj vj) ++ (wX5 cI ds vs))) sz)) 0 0 (va_A ((wX0 d (dj 0) (ds 0) (dp 0) (dr 0) v) ++ ((wX1 cI dj vj) ++ (wX5 cI ds vs))) sz) := by
  refine z_meti (cc := cX0_amberSignals) (maxL := 3) (own := RX0) (lv0 := [(0, .ref (d 0))]) (by decide) rfl rfl (Nat.le_of_ble_eq_true rfl) rfl ?_
  intro p e s m args below meth c A QQ C hin hret
  have J30 : ∀ (K4 : Int32 → Int32 → Prop), (∀ (x1 : Int32) (x2 : Int32), K4 x1 x2 → ZZ p l e rmX0_amberSignals s m args below meth c D A 3 0 0 QQ 4 ((wX0 d (dj 0) (ds 0) (dp 0) (dr 0) v) ++ ((wX1 cI dj vj) ++ (wX5 cI ds vs))) [(0, .ref (d 0)), (1, .int x1), (2, .int x2)] []) → ∀ (x1 : Int32) (x2 : Int32), pX0_amberSignals_J30 v vj vs Q K4 x1 x2 → ZZ p l e rmX0_amberSignals s m args below meth c D A 3 0 0 QQ 30 ((wX0 d (dj 0) (ds 0) (dp 0) (dr 0) v) ++ ((wX1 cI dj vj) ++ (wX5 cI ds vs))) [(0, .ref (d 0)), (1, .int x1), (2, .int x2)] [] := by
    intro K4 hK4 x1 x2 h
    refine z_iinc (pc := 30) (v := (x2 + 1)) (lv' := [(2, .int (x2 + 1)), (0, .ref (d 0)), (1, .int x1)]) C 2 dX0_amberSignals_30 rfl rfl (by decide) rfl ?_
    refine z_goto (pc := 33) (tgt := 4) C dX0_amberSignals_33 (by decide) ?_
    refine z_sub (lv' := [(0, .ref (d 0)), (1, .int x1), (2, .int (x2 + 1))]) [1, 2, 0] rfl ?_
    exact hK4 x1 (x2 + 1) h
  have L4 : ∀ (n4 : Nat) (x1 : Int32) (x2 : Int32), pX0_amberSignals_L4 v vj vs Q n4 x1 x2 → ZZ p l e rmX0_amberSignals s m args below meth c D A 3 0 0 QQ 4 ((wX0 d (dj 0) (ds 0) (dp 0) (dr 0) v) ++ ((wX1 cI dj vj) ++ (wX5 cI ds vs))) [(0, .ref (d 0)), (1, .int x1), (2, .int x2)] [] := by
    intro n4
    induction n4 with
    | zero => intro x1 x2 h; exact False.elim h
    | succ n4 ih4 =>
      intro x1 x2 h
      refine z_iload_n (pc := 4) C 2 dX0_amberSignals_4 rfl ?_
      refine z_aload_n (pc := 5) C 0 dX0_amberSignals_5 rfl ?_
      refine z_get (pc := 6) C uw0 0 rfl rfl 0 (by decide) wq37 rfl dX0_amberSignals_6 ?_
      refine z_get (pc := 9) C uw1 1 rfl rfl 0 (by decide) wq122 rfl dX0_amberSignals_9 ?_
      refine z_icmp_ge (pc := 12) (tgt := 36) C dX0_amberSignals_12 (by decide) (fun c1 => ?_) (fun c1 => ?_)
      · have h := h.1 c1
        refine z_iload_n (pc := 36) C 1 dX0_amberSignals_36 rfl ?_
        exact hret 37 _ _ x1 () rfl h dX0_amberSignals_37
      · have h := h.2 c1
        refine z_aload_n (pc := 15) C 0 dX0_amberSignals_15 rfl ?_
        refine z_iload_n (pc := 16) C 2 dX0_amberSignals_16 rfl ?_
        refine z_callRi (pc := 17) C (z_runV (pc := 17) (wc := ((wX0 d (dj 0) (ds 0) (dp 0) (dr 0) v) ++ ((wX1 cI dj vj) ++ (wX5 cI ds vs)))) (As := [.int x2]) C (fun sz => kX0_lightOf d dj ds dp dr v vj vs x2 sz h) [0, 1, 2, 3, 4, 5, 6, 7, 8, 9, 10, 11, 12, 13, 14] rfl (by decide) (gdV wq266 wq271 wq272 wq273 wq108) rfl rfl rfl hdX0_lightOf 0 rfl rfl rfl ⟨Nat.le_of_ble_eq_true rfl, Nat.le_of_ble_eq_true rfl⟩ rfl (Nat.le_of_ble_eq_true rfl) ⟨Nat.zero_le _, Nat.zero_le _⟩ dX0_amberSignals_17) [0, 1, 2, 3, 4, 5, 6, 7, 8, 9, 10, 11, 12, 13, 14] rfl (by decide) (fun r2 u2 h => ?_)
        refine z_iconst (pc := 20) (v := 1) C dX0_amberSignals_20 (by decide) ?_
        refine z_icmp_ne (pc := 21) (tgt := 30) C dX0_amberSignals_21 (by decide) (fun c3 => ?_) (fun c3 => ?_)
        · have h := h.1 c3
          exact J30 (fun x1 x2 => pX0_amberSignals_L4 v vj vs Q n4 x1 x2) ih4 x1 x2 h
        · have h := h.2 c3
          refine z_iload_n (pc := 24) C 1 dX0_amberSignals_24 rfl ?_
          refine z_iconst (pc := 25) (v := 1) C dX0_amberSignals_25 (by decide) ?_
          refine z_iload_n (pc := 26) C 2 dX0_amberSignals_26 rfl ?_
          refine z_ishl (pc := 27) C dX0_amberSignals_27 ?_
          refine z_ior (pc := 28) C dX0_amberSignals_28 ?_
          refine z_istore_n (pc := 29) (lv' := [(1, .int (x1 ||| ((1 : Int32) <<< (x2 &&& 31)))), (0, .ref (d 0)), (2, .int x2)]) C dX0_amberSignals_29 (by decide) rfl ?_
          refine z_sub (lv' := [(0, .ref (d 0)), (1, .int (x1 ||| ((1 : Int32) <<< (x2 &&& 31)))), (2, .int x2)]) [1, 0, 2] rfl ?_
          exact J30 (fun x1 x2 => pX0_amberSignals_L4 v vj vs Q n4 x1 x2) ih4 (x1 ||| ((1 : Int32) <<< (x2 &&& 31))) x2 h
  refine z_iconst (pc := 0) (v := 0) C dX0_amberSignals_0 (by decide) ?_
  refine z_istore_n (pc := 1) (lv' := [(1, .int (0 : Int32)), (0, .ref (d 0))]) C dX0_amberSignals_1 (by decide) rfl ?_
  refine z_iconst (pc := 2) (v := 0) C dX0_amberSignals_2 (by decide) ?_
  refine z_istore_n (pc := 3) (lv' := [(2, .int (0 : Int32)), (1, .int (0 : Int32)), (0, .ref (d 0))]) C dX0_amberSignals_3 (by decide) rfl ?_
  obtain ⟨n4, h⟩ := h
  refine z_sub (lv' := [(0, .ref (d 0)), (1, .int (0 : Int32)), (2, .int (0 : Int32))]) [2, 1, 0] rfl ?_
  exact L4  n4 (0 : Int32) (0 : Int32) h

def pX0_fact (v : Lf) (vj : Lf) (vs : Lf) (vp : Lf) (x1 : Int32) (Q : Int32 → Prop) : Prop := ((x1 = 0 → (Q (v 0 5) )) ∧ (¬ x1 = 0 → ((x1 = 1 → (Q (v 0 6) )) ∧ (¬ x1 = 1 → ((x1 = 2 → (Q (v 0 7) )) ∧ (¬ x1 = 2 → ((x1 = 3 → (Q (v 0 8) )) ∧ (¬ x1 = 3 → ((x1 = 4 → (Q (v 0 9) )) ∧ (¬ x1 = 4 → ((x1 = 5 → (Q (v 0 10) )) ∧ (¬ x1 = 5 → ((x1 = 6 → (Q (v 0 11) )) ∧ (¬ x1 = 6 → ((x1 = 7 → (Q (vs 0 0) )) ∧ (¬ x1 = 7 → ((x1 = 8 → (pX0_amberSignals v vj vs (fun r2 => (Q r2 )))) ∧ (¬ x1 = 8 → ((x1 = 9 → (pX0_calledPhases v vs vp (fun r3 => (Q r3 )))) ∧ (¬ x1 = 9 → ((x1 = 10 → (Q (v 0 12) )) ∧ (¬ x1 = 10 → ((x1 = 11 → (Q (vj 0 1) )) ∧ (¬ x1 = 11 → ((x1 = 12 → (Q (v 0 13) )) ∧ (¬ x1 = 12 → ((x1 = 13 → (Q (v 0 14) )) ∧ (¬ x1 = 13 → ((x1 = 14 → (Q (v 0 15) )) ∧ (¬ x1 = 14 → ((x1 = 15 → (pX0_local v (fun r4 => (Q r4 )))) ∧ (¬ x1 = 15 → ((x1 = 16 → (Q (vj 0 0) )) ∧ (¬ x1 = 16 → ((x1 = 17 → (Q (vp 0 0) )) ∧ (¬ x1 = 17 → ((x1 = 18 → (pX5_allQueues vs (fun r5 => (Q r5 )))) ∧ (¬ x1 = 18 → (Q (-1 : Int32) )))))))))))))))))))))))))))))))))))))))
abbrev rmX0_fact : Room := { frames := 3, cells := 0, slots := 0, locals := 67 }
abbrev wdX0_fact : List Cond := Cond.code yX0_fact cX0_fact 2 (some .int) :: TB
theorem hdSX0_fact : (yX0_fact).cls ≠ "java/lang/invoke/MethodHandle" ∧ (yX0_fact).cls ≠ "java/lang/invoke/VarHandle" ∧ (parseMethodDescriptor (yX0_fact).desc).map (fun d => d.parameters.length) = some 1 := by decide +kernel
theorem hdX0_fact : (yX0_fact).cls = RX0 ∧ (yX0_fact).cls ≠ "java/lang/invoke/MethodHandle" ∧ (yX0_fact).cls ≠ "java/lang/invoke/VarHandle" ∧ (parseMethodDescriptor (yX0_fact).desc).map (fun d => d.parameters.length) = some 1 := ⟨rfl, hdSX0_fact⟩
set_option maxHeartbeats 4000000 in
set_option maxRecDepth 100000 in
theorem kX0_fact {l : Launch} {D : va_G} {cI cJ cT : ClassId} (d : Nat → Nat) (dj : Nat → Nat) (ds : Nat → Nat) (dp : Nat → Nat) (dr : Nat → Nat)  (v : Lf) (vj : Lf) (vs : Lf) (vp : Lf) (x1 : Int32) {Q : Int32 → Prop} (sz : Nat) (h : pX0_fact v vj vs vp x1 Q) : Met l yX0_fact wdX0_fact rmX0_fact (Pz D (tyL cI cJ cT) [.ref (d 0), .int x1] ((wX0 d (dj 0) (ds 0) (dp 0) (dr 0) v) ++ ((wX1 cI dj vj) ++ ((wX5 cI ds vs) ++ (wX2 cI dp vp)))) sz) (va_Qi (fun (r : Int32) (u : Unit) => Q r) (Bz D (tyL cI cJ cT) ((wX0 d (dj 0) (ds 0) (dp 0) (dr 0) v) ++ ((wX1 cI dj vj) ++ ((wX5 cI ds vs) ++ (wX2 cI dp vp)))) sz (fun (u : Unit) => ((wX0 d (dj 0) (ds 0) (dp 0) (dr 0) v) ++ ((wX1 cI dj vj) ++ ((wX5 cI ds vs) ++ (wX2 cI dp vp)))))) (va_A ((wX0 d (dj 0) (ds 0) (dp 0) (dr 0) v) ++ ((wX1 cI dj vj) ++ ((wX5 cI ds vs) ++ (wX2 cI dp vp)))) sz)) 0 0 (va_A ((wX0 d (dj 0) (ds 0) (dp 0) (dr 0) v) ++ ((wX1 cI dj vj) ++ ((wX5 cI ds vs) ++ (wX2 cI dp vp)))) sz) := by
  refine z_meti (cc := cX0_fact) (maxL := 2) (own := RX0) (lv0 := [(0, .ref (d 0)), (1, .int x1)]) (by decide) rfl rfl (Nat.le_of_ble_eq_true rfl) rfl ?_
  intro p e s m args below meth c A QQ C hin hret
  refine z_iload_n (pc := 0) C 1 dX0_fact_0 rfl ?_
  by_cases c1_0 : x1 = 0
  · have h := h.1 c1_0
    refine z_tbl (pc := 1) (tgt := 92) C dX0_fact_1 0 c1_0 (by decide) (by decide) rfl (by decide) ?_
    refine z_aload_n (pc := 92) C 0 dX0_fact_92 rfl ?_
    refine z_get (pc := 93) C uw0 0 rfl rfl 5 (by decide) wq82 rfl dX0_fact_93 ?_
    exact hret 96 _ _ (v 0 5) () rfl h dX0_fact_96
  · have h := h.2 c1_0
    by_cases c1_1 : x1 = 1
    · have h := h.1 c1_1
      refine z_tbl (pc := 1) (tgt := 97) C dX0_fact_1 1 c1_1 (by decide) (by decide) rfl (by decide) ?_
      refine z_aload_n (pc := 97) C 0 dX0_fact_97 rfl ?_
      refine z_get (pc := 98) C uw0 0 rfl rfl 6 (by decide) wq50 rfl dX0_fact_98 ?_
      exact hret 101 _ _ (v 0 6) () rfl h dX0_fact_101
    · have h := h.2 c1_1
      by_cases c1_2 : x1 = 2
      · have h := h.1 c1_2
        refine z_tbl (pc := 1) (tgt := 102) C dX0_fact_1 2 c1_2 (by decide) (by decide) rfl (by decide) ?_
        refine z_aload_n (pc := 102) C 0 dX0_fact_102 rfl ?_
        refine z_get (pc := 103) C uw0 0 rfl rfl 7 (by decide) wq51 rfl dX0_fact_103 ?_
        exact hret 106 _ _ (v 0 7) () rfl h dX0_fact_106
      · have h := h.2 c1_2
        by_cases c1_3 : x1 = 3
        · have h := h.1 c1_3
          refine z_tbl (pc := 1) (tgt := 107) C dX0_fact_1 3 c1_3 (by decide) (by decide) rfl (by decide) ?_
          refine z_aload_n (pc := 107) C 0 dX0_fact_107 rfl ?_
          refine z_get (pc := 108) C uw0 0 rfl rfl 8 (by decide) wq52 rfl dX0_fact_108 ?_
          exact hret 111 _ _ (v 0 8) () rfl h dX0_fact_111
        · have h := h.2 c1_3
          by_cases c1_4 : x1 = 4
          · have h := h.1 c1_4
            refine z_tbl (pc := 1) (tgt := 112) C dX0_fact_1 4 c1_4 (by decide) (by decide) rfl (by decide) ?_
            refine z_aload_n (pc := 112) C 0 dX0_fact_112 rfl ?_
            refine z_get (pc := 113) C uw0 0 rfl rfl 9 (by decide) wq83 rfl dX0_fact_113 ?_
            exact hret 116 _ _ (v 0 9) () rfl h dX0_fact_116
          · have h := h.2 c1_4
            by_cases c1_5 : x1 = 5
            · have h := h.1 c1_5
              refine z_tbl (pc := 1) (tgt := 117) C dX0_fact_1 5 c1_5 (by decide) (by decide) rfl (by decide) ?_
              refine z_aload_n (pc := 117) C 0 dX0_fact_117 rfl ?_
              refine z_get (pc := 118) C uw0 0 rfl rfl 10 (by decide) wq84 rfl dX0_fact_118 ?_
              exact hret 121 _ _ (v 0 10) () rfl h dX0_fact_121
            · have h := h.2 c1_5
              by_cases c1_6 : x1 = 6
              · have h := h.1 c1_6
                refine z_tbl (pc := 1) (tgt := 122) C dX0_fact_1 6 c1_6 (by decide) (by decide) rfl (by decide) ?_
                refine z_aload_n (pc := 122) C 0 dX0_fact_122 rfl ?_
                refine z_get (pc := 123) C uw0 0 rfl rfl 11 (by decide) wq85 rfl dX0_fact_123 ?_
                exact hret 126 _ _ (v 0 11) () rfl h dX0_fact_126
              · have h := h.2 c1_6
                by_cases c1_7 : x1 = 7
                · have h := h.1 c1_7
                  refine z_tbl (pc := 1) (tgt := 127) C dX0_fact_1 7 c1_7 (by decide) (by decide) rfl (by decide) ?_
                  refine z_aload_n (pc := 127) C 0 dX0_fact_127 rfl ?_
                  refine z_get (pc := 128) C uw0 0 rfl rfl 1 (by decide) wq41 rfl dX0_fact_128 ?_
                  refine z_get (pc := 131) C uw5 7 rfl rfl 0 (by decide) wq274 rfl dX0_fact_131 ?_
                  exact hret 134 _ _ (vs 0 0) () rfl h dX0_fact_134
                · have h := h.2 c1_7
                  by_cases c1_8 : x1 = 8
                  · have h := h.1 c1_8
                    refine z_tbl (pc := 1) (tgt := 135) C dX0_fact_1 8 c1_8 (by decide) (by decide) rfl (by decide) ?_
                    refine z_aload_n (pc := 135) C 0 dX0_fact_135 rfl ?_
                    refine z_callRi (pc := 136) C (z_runV (pc := 136) (wc := ((wX0 d (dj 0) (ds 0) (dp 0) (dr 0) v) ++ ((wX1 cI dj vj) ++ (wX5 cI ds vs)))) (As := []) C (fun sz => kX0_amberSignals d dj ds dp dr v vj vs sz h) [0, 1, 2, 3, 4, 5, 6, 7, 8, 9, 10, 11, 12, 13, 14] rfl (by decide) (gdV wq270 wq276 wq277 wq278 wq108) rfl rfl rfl hdX0_amberSignals 0 rfl rfl rfl ⟨Nat.le_of_ble_eq_true rfl, Nat.le_of_ble_eq_true rfl⟩ rfl (Nat.le_of_ble_eq_true rfl) ⟨Nat.zero_le _, Nat.zero_le _⟩ dX0_fact_136) [0, 1, 2, 3, 4, 5, 6, 7, 8, 9, 10, 11, 12, 13, 14] rfl (by decide) (fun r2 u2 h => ?_)
                    exact hret 139 _ _ r2 () rfl h dX0_fact_139
                  · have h := h.2 c1_8
                    by_cases c1_9 : x1 = 9
                    · have h := h.1 c1_9
                      refine z_tbl (pc := 1) (tgt := 140) C dX0_fact_1 9 c1_9 (by decide) (by decide) rfl (by decide) ?_
                      refine z_aload_n (pc := 140) C 0 dX0_fact_140 rfl ?_
                      refine z_callRi (pc := 141) C (z_runV (pc := 141) (wc := ((wX0 d (dj 0) (ds 0) (dp 0) (dr 0) v) ++ ((wX5 cI ds vs) ++ (wX2 cI dp vp)))) (As := []) C (fun sz => kX0_calledPhases d dj ds dp dr v vs vp sz h) [0, 7, 8, 9, 10, 11, 12, 13, 14, 15, 16, 17, 18] rfl (by decide) (gdV wq181 wq197 wq198 wq199 wq108) rfl rfl rfl hdX0_calledPhases 0 rfl rfl rfl ⟨Nat.le_of_ble_eq_true rfl, Nat.le_of_ble_eq_true rfl⟩ rfl (Nat.le_of_ble_eq_true rfl) ⟨Nat.zero_le _, Nat.zero_le _⟩ dX0_fact_141) [0, 7, 8, 9, 10, 11, 12, 13, 14, 15, 16, 17, 18] rfl (by decide) (fun r3 u3 h => ?_)
                      exact hret 144 _ _ r3 () rfl h dX0_fact_144
                    · have h := h.2 c1_9
                      by_cases c1_10 : x1 = 10
                      · have h := h.1 c1_10
                        refine z_tbl (pc := 1) (tgt := 145) C dX0_fact_1 10 c1_10 (by decide) (by decide) rfl (by decide) ?_
                        refine z_aload_n (pc := 145) C 0 dX0_fact_145 rfl ?_
                        refine z_get (pc := 146) C uw0 0 rfl rfl 12 (by decide) wq53 rfl dX0_fact_146 ?_
                        exact hret 149 _ _ (v 0 12) () rfl h dX0_fact_149
                      · have h := h.2 c1_10
                        by_cases c1_11 : x1 = 11
                        · have h := h.1 c1_11
                          refine z_tbl (pc := 1) (tgt := 150) C dX0_fact_1 11 c1_11 (by decide) (by decide) rfl (by decide) ?_
                          refine z_aload_n (pc := 150) C 0 dX0_fact_150 rfl ?_
                          refine z_get (pc := 151) C uw0 0 rfl rfl 0 (by decide) wq37 rfl dX0_fact_151 ?_
                          refine z_get (pc := 154) C uw1 1 rfl rfl 1 (by decide) wq275 rfl dX0_fact_154 ?_
                          exact hret 157 _ _ (vj 0 1) () rfl h dX0_fact_157
                        · have h := h.2 c1_11
                          by_cases c1_12 : x1 = 12
                          · have h := h.1 c1_12
                            refine z_tbl (pc := 1) (tgt := 158) C dX0_fact_1 12 c1_12 (by decide) (by decide) rfl (by decide) ?_
                            refine z_aload_n (pc := 158) C 0 dX0_fact_158 rfl ?_
                            refine z_get (pc := 159) C uw0 0 rfl rfl 13 (by decide) wq86 rfl dX0_fact_159 ?_
                            exact hret 162 _ _ (v 0 13) () rfl h dX0_fact_162
                          · have h := h.2 c1_12
                            by_cases c1_13 : x1 = 13
                            · have h := h.1 c1_13
                              refine z_tbl (pc := 1) (tgt := 163) C dX0_fact_1 13 c1_13 (by decide) (by decide) rfl (by decide) ?_
                              refine z_aload_n (pc := 163) C 0 dX0_fact_163 rfl ?_
                              refine z_get (pc := 164) C uw0 0 rfl rfl 14 (by decide) wq87 rfl dX0_fact_164 ?_
                              exact hret 167 _ _ (v 0 14) () rfl h dX0_fact_167
                            · have h := h.2 c1_13
                              by_cases c1_14 : x1 = 14
                              · have h := h.1 c1_14
                                refine z_tbl (pc := 1) (tgt := 168) C dX0_fact_1 14 c1_14 (by decide) (by decide) rfl (by decide) ?_
                                refine z_aload_n (pc := 168) C 0 dX0_fact_168 rfl ?_
                                refine z_get (pc := 169) C uw0 0 rfl rfl 15 (by decide) wq88 rfl dX0_fact_169 ?_
                                exact hret 172 _ _ (v 0 15) () rfl h dX0_fact_172
                              · have h := h.2 c1_14
                                by_cases c1_15 : x1 = 15
                                · have h := h.1 c1_15
                                  refine z_tbl (pc := 1) (tgt := 173) C dX0_fact_1 15 c1_15 (by decide) (by decide) rfl (by decide) ?_
                                  refine z_aload_n (pc := 173) C 0 dX0_fact_173 rfl ?_
                                  refine z_callRi (pc := 174) C (z_runV (pc := 174) (wc := (wX0 d (dj 0) (ds 0) (dp 0) (dr 0) v)) (As := []) C (fun sz => kX0_local d dj ds dp dr v sz h) [0] rfl (by decide) (gdV wq163 wq167 wq168 wq169 wq108) rfl rfl rfl hdX0_local 0 rfl rfl rfl ⟨Nat.le_of_ble_eq_true rfl, Nat.le_of_ble_eq_true rfl⟩ rfl (Nat.le_of_ble_eq_true rfl) ⟨Nat.zero_le _, Nat.zero_le _⟩ dX0_fact_174) [0] rfl (by decide) (fun r4 u4 h => ?_)
                                  exact hret 177 _ _ r4 () rfl h dX0_fact_177
                                · have h := h.2 c1_15
                                  by_cases c1_16 : x1 = 16
                                  · have h := h.1 c1_16
                                    refine z_tbl (pc := 1) (tgt := 178) C dX0_fact_1 16 c1_16 (by decide) (by decide) rfl (by decide) ?_
                                    refine z_aload_n (pc := 178) C 0 dX0_fact_178 rfl ?_
                                    refine z_get (pc := 179) C uw0 0 rfl rfl 0 (by decide) wq37 rfl dX0_fact_179 ?_
                                    refine z_get (pc := 182) C uw1 1 rfl rfl 0 (by decide) wq122 rfl dX0_fact_182 ?_
                                    exact hret 185 _ _ (vj 0 0) () rfl h dX0_fact_185
                                  · have h := h.2 c1_16
                                    by_cases c1_17 : x1 = 17
                                    · have h := h.1 c1_17
                                      refine z_tbl (pc := 1) (tgt := 186) C dX0_fact_1 17 c1_17 (by decide) (by decide) rfl (by decide) ?_
                                      refine z_aload_n (pc := 186) C 0 dX0_fact_186 rfl ?_
                                      refine z_get (pc := 187) C uw0 0 rfl rfl 2 (by decide) wq45 rfl dX0_fact_187 ?_
                                      refine z_get (pc := 190) C uw2 15 rfl rfl 0 (by decide) wq182 rfl dX0_fact_190 ?_
                                      exact hret 193 _ _ (vp 0 0) () rfl h dX0_fact_193
                                    · have h := h.2 c1_17
                                      by_cases c1_18 : x1 = 18
                                      · have h := h.1 c1_18
                                        refine z_tbl (pc := 1) (tgt := 194) C dX0_fact_1 18 c1_18 (by decide) (by decide) rfl (by decide) ?_
                                        refine z_aload_n (pc := 194) C 0 dX0_fact_194 rfl ?_
                                        refine z_get (pc := 195) C uw0 0 rfl rfl 1 (by decide) wq41 rfl dX0_fact_195 ?_
                                        refine z_callRi (pc := 198) C (z_runV (pc := 198) (wc := (wX5 cI ds vs)) (As := []) C (fun sz => kX5_allQueues ds vs sz h) [7, 8, 9, 10, 11, 12, 13, 14] rfl (by decide) (gdV wq238 wq254 wq255 wq256 wq40) rfl rfl rfl hdX5_allQueues 7 rfl rfl rfl ⟨Nat.le_of_ble_eq_true rfl, Nat.le_of_ble_eq_true rfl⟩ rfl (Nat.le_of_ble_eq_true rfl) ⟨Nat.zero_le _, Nat.zero_le _⟩ dX0_fact_198) [7, 8, 9, 10, 11, 12, 13, 14] rfl (by decide) (fun r5 u5 h => ?_)
                                        exact hret 201 _ _ r5 () rfl h dX0_fact_201
                                      · have h := h.2 c1_18
                                        refine z_tblo (pc := 1) (tgt := 202) C dX0_fact_1 (z_out0_18 c1_0 c1_1 c1_2 c1_3 c1_4 c1_5 c1_6 c1_7 c1_8 c1_9 c1_10 c1_11 c1_12 c1_13 c1_14 c1_15 c1_16 c1_17 c1_18) (by decide) ?_
                                        refine z_iconst (pc := 202) (v := -1) C dX0_fact_202 (by decide) ?_
                                        exact hret 203 _ _ (-1 : Int32) () rfl h dX0_fact_203

def pX0_factOf_J82 (v : Lf) (vj : Lf) (vs : Lf) (x1 : Int32) (x2 : Int32) (Q : Int32 → Prop)  : Prop := (pX5_rule vs x1 (x2 - (1 : Int32)) (fun r3 => (Q r3 )))
def pX0_factOf (v : Lf) (vj : Lf) (vs : Lf) (x1 : Int32) (x2 : Int32) (Q : Int32 → Prop) : Prop := ((x2 = 0 → (vp_in x1 8 ∧ (Q (vj 1 x1.toNatClampNeg) ))) ∧ (¬ x2 = 0 → ((x2 = 1 → (pX0_factOf_J82 v vj vs x1 x2 Q  )) ∧ (¬ x2 = 1 → ((x2 = 2 → (pX0_factOf_J82 v vj vs x1 x2 Q  )) ∧ (¬ x2 = 2 → ((x2 = 3 → (pX0_factOf_J82 v vj vs x1 x2 Q  )) ∧ (¬ x2 = 3 → ((x2 = 4 → (pX0_factOf_J82 v vj vs x1 x2 Q  )) ∧ (¬ x2 = 4 → ((x2 = 5 → (vp_in x1 8 ∧ (Q (vs 2 x1.toNatClampNeg) ))) ∧ (¬ x2 = 5 → ((x2 = 6 → (pX0_lightOf v vj vs x1 (fun r5 => (Q r5 )))) ∧ (¬ x2 = 6 → ((x2 = 7 → (vp_in x1 8 ∧ (Q (vs 5 x1.toNatClampNeg) ))) ∧ (¬ x2 = 7 → ((x2 = 8 → (vp_in x1 8 ∧ (Q (vs 6 x1.toNatClampNeg) ))) ∧ (¬ x2 = 8 → ((x2 = 9 → (vp_in x1 8 ∧ (Q (vs 3 x1.toNatClampNeg) ))) ∧ (¬ x2 = 9 → ((x2 = 10 → (vp_in x1 8 ∧ (Q (vs 4 x1.toNatClampNeg) ))) ∧ (¬ x2 = 10 → ((x2 = 11 → (vp_in x1 8 ∧ (Q (vj 2 x1.toNatClampNeg) ))) ∧ (¬ x2 = 11 → ((x2 = 12 → (pX1_meetersOf vj x1 (fun r11 => (Q r11 )))) ∧ (¬ x2 = 12 → ((x2 = 13 → (vp_in x1 8 ∧ (Q (vs 7 x1.toNatClampNeg) ))) ∧ (¬ x2 = 13 → (Q (-1 : Int32) )))))))))))))))))))))))))))))
abbrev rmX0_factOf : Room := { frames := 2, cells := 0, slots := 0, locals := 45 }
abbrev wdX0_factOf : List Cond := Cond.code yX0_factOf cX0_factOf 3 (some .int) :: TB
theorem hdSX0_factOf : (yX0_factOf).cls ≠ "java/lang/invoke/MethodHandle" ∧ (yX0_factOf).cls ≠ "java/lang/invoke/VarHandle" ∧ (parseMethodDescriptor (yX0_factOf).desc).map (fun d => d.parameters.length) = some 2 := by decide +kernel
theorem hdX0_factOf : (yX0_factOf).cls = RX0 ∧ (yX0_factOf).cls ≠ "java/lang/invoke/MethodHandle" ∧ (yX0_factOf).cls ≠ "java/lang/invoke/VarHandle" ∧ (parseMethodDescriptor (yX0_factOf).desc).map (fun d => d.parameters.length) = some 2 := ⟨rfl, hdSX0_factOf⟩
set_option maxHeartbeats 4000000 in
set_option maxRecDepth 100000 in
theorem kX0_factOf {l : Launch} {D : va_G} {cI cJ cT : ClassId} (d : Nat → Nat) (dj : Nat → Nat) (ds : Nat → Nat) (dp : Nat → Nat) (dr : Nat → Nat)  (v : Lf) (vj : Lf) (vs : Lf) (x1 : Int32) (x2 : Int32) {Q : Int32 → Prop} (sz : Nat) (h : pX0_factOf v vj vs x1 x2 Q) : Met l yX0_factOf wdX0_factOf rmX0_factOf (Pz D (tyL cI cJ cT) [.ref (d 0), .int x1, .int x2] ((wX0 d (dj 0) (ds 0) (dp 0) (dr 0) v) ++ ((wX1 cI dj vj) ++ (wX5 cI ds vs))) sz) (va_Qi (fun (r : Int32) (u : Unit) => Q r) (Bz D (tyL cI cJ cT) ((wX0 d (dj 0) (ds 0) (dp 0) (dr 0) v) ++ ((wX1 cI dj vj) ++ (wX5 cI ds vs))) sz (fun (u : Unit) => ((wX0 d (dj 0) (ds 0) (dp 0) (dr 0) v) ++ ((wX1 cI dj vj) ++ (wX5 cI ds vs))))) (va_A ((wX0 d (dj 0) (ds 0) (dp 0) (dr 0) v) ++ ((wX1 cI dj vj) ++ (wX5 cI ds vs))) sz)) 0 0 (va_A ((wX0 d (dj 0) (ds 0) (dp 0) (dr 0) v) ++ ((wX1 cI dj vj) ++ (wX5 cI ds vs))) sz) := by
  refine z_meti (cc := cX0_factOf) (maxL := 3) (own := RX0) (lv0 := [(0, .ref (d 0)), (1, .int x1), (2, .int x2)]) (by decide) rfl rfl (Nat.le_of_ble_eq_true rfl) rfl ?_
  intro p e s m args below meth c A QQ C hin hret
  have J82 :  pX0_factOf_J82 v vj vs x1 x2 Q  → ZZ p l e rmX0_factOf s m args below meth c D A 3 0 0 QQ 82 ((wX0 d (dj 0) (ds 0) (dp 0) (dr 0) v) ++ ((wX1 cI dj vj) ++ (wX5 cI ds vs))) [(0, .ref (d 0)), (1, .int x1), (2, .int x2)] [] := by
    intro   h
    refine z_aload_n (pc := 82) C 0 dX0_factOf_82 rfl ?_
    refine z_get (pc := 83) C uw0 0 rfl rfl 1 (by decide) wq41 rfl dX0_factOf_83 ?_
    refine z_iload_n (pc := 86) C 1 dX0_factOf_86 rfl ?_
    refine z_iload_n (pc := 87) C 2 dX0_factOf_87 rfl ?_
    refine z_iconst (pc := 88) (v := 1) C dX0_factOf_88 (by decide) ?_
    refine z_isub (pc := 89) C dX0_factOf_89 ?_
    refine z_callRi (pc := 90) C (z_runV (pc := 90) (wc := (wX5 cI ds vs)) (As := [.int x1, .int (x2 - (1 : Int32))]) C (fun sz => kX5_rule ds vs x1 (x2 - (1 : Int32)) sz h) [7, 8, 9, 10, 11, 12, 13, 14] rfl (by decide) (gdV wq117 wq125 wq126 wq127 wq40) rfl rfl rfl hdX5_rule 7 rfl rfl rfl ⟨Nat.le_of_ble_eq_true rfl, Nat.le_of_ble_eq_true rfl⟩ rfl (Nat.le_of_ble_eq_true rfl) ⟨Nat.zero_le _, Nat.zero_le _⟩ dX0_factOf_90) [7, 8, 9, 10, 11, 12, 13, 14] rfl (by decide) (fun r3 u3 h => ?_)
    exact hret 93 _ _ r3 () rfl h dX0_factOf_93
  refine z_iload_n (pc := 0) C 2 dX0_factOf_0 rfl ?_
  by_cases c1_0 : x2 = 0
  · have h := h.1 c1_0
    refine z_tbl (pc := 1) (tgt := 72) C dX0_factOf_1 0 c1_0 (by decide) (by decide) rfl (by decide) ?_
    refine z_aload_n (pc := 72) C 0 dX0_factOf_72 rfl ?_
    refine z_get (pc := 73) C uw0 0 rfl rfl 0 (by decide) wq37 rfl dX0_factOf_73 ?_
    refine z_get (pc := 76) C uw1 1 rfl rfl 2 (by decide) wq232 rfl dX0_factOf_76 ?_
    refine z_iload_n (pc := 79) C 1 dX0_factOf_79 rfl ?_
    obtain ⟨g2, h⟩ := h
    refine z_iald (pc := 80) C 2 0 rfl rfl g2 (vj 1 x1.toNatClampNeg) rfl dX0_factOf_80 ?_
    exact hret 81 _ _ (vj 1 x1.toNatClampNeg) () rfl h dX0_factOf_81
  · have h := h.2 c1_0
    by_cases c1_1 : x2 = 1
    · have h := h.1 c1_1
      refine z_tbl (pc := 1) (tgt := 82) C dX0_factOf_1 1 c1_1 (by decide) (by decide) rfl (by decide) ?_
      exact J82   h
    · have h := h.2 c1_1
      by_cases c1_2 : x2 = 2
      · have h := h.1 c1_2
        refine z_tbl (pc := 1) (tgt := 82) C dX0_factOf_1 2 c1_2 (by decide) (by decide) rfl (by decide) ?_
        exact J82   h
      · have h := h.2 c1_2
        by_cases c1_3 : x2 = 3
        · have h := h.1 c1_3
          refine z_tbl (pc := 1) (tgt := 82) C dX0_factOf_1 3 c1_3 (by decide) (by decide) rfl (by decide) ?_
          exact J82   h
        · have h := h.2 c1_3
          by_cases c1_4 : x2 = 4
          · have h := h.1 c1_4
            refine z_tbl (pc := 1) (tgt := 82) C dX0_factOf_1 4 c1_4 (by decide) (by decide) rfl (by decide) ?_
            exact J82   h
          · have h := h.2 c1_4
            by_cases c1_5 : x2 = 5
            · have h := h.1 c1_5
              refine z_tbl (pc := 1) (tgt := 94) C dX0_factOf_1 5 c1_5 (by decide) (by decide) rfl (by decide) ?_
              refine z_aload_n (pc := 94) C 0 dX0_factOf_94 rfl ?_
              refine z_get (pc := 95) C uw0 0 rfl rfl 1 (by decide) wq41 rfl dX0_factOf_95 ?_
              refine z_get (pc := 98) C uw5 7 rfl rfl 2 (by decide) wq123 rfl dX0_factOf_98 ?_
              refine z_iload_n (pc := 101) C 1 dX0_factOf_101 rfl ?_
              obtain ⟨g4, h⟩ := h
              refine z_iald (pc := 102) C 9 0 rfl rfl g4 (vs 2 x1.toNatClampNeg) rfl dX0_factOf_102 ?_
              exact hret 103 _ _ (vs 2 x1.toNatClampNeg) () rfl h dX0_factOf_103
            · have h := h.2 c1_5
              by_cases c1_6 : x2 = 6
              · have h := h.1 c1_6
                refine z_tbl (pc := 1) (tgt := 104) C dX0_factOf_1 6 c1_6 (by decide) (by decide) rfl (by decide) ?_
                refine z_aload_n (pc := 104) C 0 dX0_factOf_104 rfl ?_
                refine z_iload_n (pc := 105) C 1 dX0_factOf_105 rfl ?_
                refine z_callRi (pc := 106) C (z_runV (pc := 106) (wc := ((wX0 d (dj 0) (ds 0) (dp 0) (dr 0) v) ++ ((wX1 cI dj vj) ++ (wX5 cI ds vs)))) (As := [.int x1]) C (fun sz => kX0_lightOf d dj ds dp dr v vj vs x1 sz h) [0, 1, 2, 3, 4, 5, 6, 7, 8, 9, 10, 11, 12, 13, 14] rfl (by decide) (gdV wq266 wq271 wq272 wq273 wq108) rfl rfl rfl hdX0_lightOf 0 rfl rfl rfl ⟨Nat.le_of_ble_eq_true rfl, Nat.le_of_ble_eq_true rfl⟩ rfl (Nat.le_of_ble_eq_true rfl) ⟨Nat.zero_le _, Nat.zero_le _⟩ dX0_factOf_106) [0, 1, 2, 3, 4, 5, 6, 7, 8, 9, 10, 11, 12, 13, 14] rfl (by decide) (fun r5 u5 h => ?_)
                exact hret 109 _ _ r5 () rfl h dX0_factOf_109
              · have h := h.2 c1_6
                by_cases c1_7 : x2 = 7
                · have h := h.1 c1_7
                  refine z_tbl (pc := 1) (tgt := 110) C dX0_factOf_1 7 c1_7 (by decide) (by decide) rfl (by decide) ?_
                  refine z_aload_n (pc := 110) C 0 dX0_factOf_110 rfl ?_
                  refine z_get (pc := 111) C uw0 0 rfl rfl 1 (by decide) wq41 rfl dX0_factOf_111 ?_
                  refine z_get (pc := 114) C uw5 7 rfl rfl 5 (by decide) wq137 rfl dX0_factOf_114 ?_
                  refine z_iload_n (pc := 117) C 1 dX0_factOf_117 rfl ?_
                  obtain ⟨g6, h⟩ := h
                  refine z_iald (pc := 118) C 12 0 rfl rfl g6 (vs 5 x1.toNatClampNeg) rfl dX0_factOf_118 ?_
                  exact hret 119 _ _ (vs 5 x1.toNatClampNeg) () rfl h dX0_factOf_119
                · have h := h.2 c1_7
                  by_cases c1_8 : x2 = 8
                  · have h := h.1 c1_8
                    refine z_tbl (pc := 1) (tgt := 120) C dX0_factOf_1 8 c1_8 (by decide) (by decide) rfl (by decide) ?_
                    refine z_aload_n (pc := 120) C 0 dX0_factOf_120 rfl ?_
                    refine z_get (pc := 121) C uw0 0 rfl rfl 1 (by decide) wq41 rfl dX0_factOf_121 ?_
                    refine z_get (pc := 124) C uw5 7 rfl rfl 6 (by decide) wq216 rfl dX0_factOf_124 ?_
                    refine z_iload_n (pc := 127) C 1 dX0_factOf_127 rfl ?_
                    obtain ⟨g7, h⟩ := h
                    refine z_iald (pc := 128) C 13 0 rfl rfl g7 (vs 6 x1.toNatClampNeg) rfl dX0_factOf_128 ?_
                    exact hret 129 _ _ (vs 6 x1.toNatClampNeg) () rfl h dX0_factOf_129
                  · have h := h.2 c1_8
                    by_cases c1_9 : x2 = 9
                    · have h := h.1 c1_9
                      refine z_tbl (pc := 1) (tgt := 130) C dX0_factOf_1 9 c1_9 (by decide) (by decide) rfl (by decide) ?_
                      refine z_aload_n (pc := 130) C 0 dX0_factOf_130 rfl ?_
                      refine z_get (pc := 131) C uw0 0 rfl rfl 1 (by decide) wq41 rfl dX0_factOf_131 ?_
                      refine z_get (pc := 134) C uw5 7 rfl rfl 3 (by decide) wq124 rfl dX0_factOf_134 ?_
                      refine z_iload_n (pc := 137) C 1 dX0_factOf_137 rfl ?_
                      obtain ⟨g8, h⟩ := h
                      refine z_iald (pc := 138) C 10 0 rfl rfl g8 (vs 3 x1.toNatClampNeg) rfl dX0_factOf_138 ?_
                      exact hret 139 _ _ (vs 3 x1.toNatClampNeg) () rfl h dX0_factOf_139
                    · have h := h.2 c1_9
                      by_cases c1_10 : x2 = 10
                      · have h := h.1 c1_10
                        refine z_tbl (pc := 1) (tgt := 140) C dX0_factOf_1 10 c1_10 (by decide) (by decide) rfl (by decide) ?_
                        refine z_aload_n (pc := 140) C 0 dX0_factOf_140 rfl ?_
                        refine z_get (pc := 141) C uw0 0 rfl rfl 1 (by decide) wq41 rfl dX0_factOf_141 ?_
                        refine z_get (pc := 144) C uw5 7 rfl rfl 4 (by decide) wq234 rfl dX0_factOf_144 ?_
                        refine z_iload_n (pc := 147) C 1 dX0_factOf_147 rfl ?_
                        obtain ⟨g9, h⟩ := h
                        refine z_iald (pc := 148) C 11 0 rfl rfl g9 (vs 4 x1.toNatClampNeg) rfl dX0_factOf_148 ?_
                        exact hret 149 _ _ (vs 4 x1.toNatClampNeg) () rfl h dX0_factOf_149
                      · have h := h.2 c1_10
                        by_cases c1_11 : x2 = 11
                        · have h := h.1 c1_11
                          refine z_tbl (pc := 1) (tgt := 150) C dX0_factOf_1 11 c1_11 (by decide) (by decide) rfl (by decide) ?_
                          refine z_aload_n (pc := 150) C 0 dX0_factOf_150 rfl ?_
                          refine z_get (pc := 151) C uw0 0 rfl rfl 0 (by decide) wq37 rfl dX0_factOf_151 ?_
                          refine z_get (pc := 154) C uw1 1 rfl rfl 3 (by decide) wq282 rfl dX0_factOf_154 ?_
                          refine z_iload_n (pc := 157) C 1 dX0_factOf_157 rfl ?_
                          obtain ⟨g10, h⟩ := h
                          refine z_iald (pc := 158) C 3 0 rfl rfl g10 (vj 2 x1.toNatClampNeg) rfl dX0_factOf_158 ?_
                          exact hret 159 _ _ (vj 2 x1.toNatClampNeg) () rfl h dX0_factOf_159
                        · have h := h.2 c1_11
                          by_cases c1_12 : x2 = 12
                          · have h := h.1 c1_12
                            refine z_tbl (pc := 1) (tgt := 160) C dX0_factOf_1 12 c1_12 (by decide) (by decide) rfl (by decide) ?_
                            refine z_aload_n (pc := 160) C 0 dX0_factOf_160 rfl ?_
                            refine z_get (pc := 161) C uw0 0 rfl rfl 0 (by decide) wq37 rfl dX0_factOf_161 ?_
                            refine z_iload_n (pc := 164) C 1 dX0_factOf_164 rfl ?_
                            refine z_callRi (pc := 165) C (z_runV (pc := 165) (wc := (wX1 cI dj vj)) (As := [.int x1]) C (fun sz => kX1_meetersOf dj vj x1 sz h) [1, 2, 3, 4, 5, 6] rfl (by decide) (gdV wq280 wq284 wq285 wq286 wq36) rfl rfl rfl hdX1_meetersOf 1 rfl rfl rfl ⟨Nat.le_of_ble_eq_true rfl, Nat.le_of_ble_eq_true rfl⟩ rfl (Nat.le_of_ble_eq_true rfl) ⟨Nat.zero_le _, Nat.zero_le _⟩ dX0_factOf_165) [1, 2, 3, 4, 5, 6] rfl (by decide) (fun r11 u11 h => ?_)
                            exact hret 168 _ _ r11 () rfl h dX0_factOf_168
                          · have h := h.2 c1_12
                            by_cases c1_13 : x2 = 13
                            · have h := h.1 c1_13
                              refine z_tbl (pc := 1) (tgt := 169) C dX0_factOf_1 13 c1_13 (by decide) (by decide) rfl (by decide) ?_
                              refine z_aload_n (pc := 169) C 0 dX0_factOf_169 rfl ?_
                              refine z_get (pc := 170) C uw0 0 rfl rfl 1 (by decide) wq41 rfl dX0_factOf_170 ?_
                              refine z_get (pc := 173) C uw5 7 rfl rfl 7 (by decide) wq283 rfl dX0_factOf_173 ?_
                              refine z_iload_n (pc := 176) C 1 dX0_factOf_176 rfl ?_
                              obtain ⟨g12, h⟩ := h
                              refine z_iald (pc := 177) C 14 0 rfl rfl g12 (vs 7 x1.toNatClampNeg) rfl dX0_factOf_177 ?_
                              exact hret 178 _ _ (vs 7 x1.toNatClampNeg) () rfl h dX0_factOf_178
                            · have h := h.2 c1_13
                              refine z_tblo (pc := 1) (tgt := 179) C dX0_factOf_1 (z_out0_13 c1_0 c1_1 c1_2 c1_3 c1_4 c1_5 c1_6 c1_7 c1_8 c1_9 c1_10 c1_11 c1_12 c1_13) (by decide) ?_
                              refine z_iconst (pc := 179) (v := -1) C dX0_factOf_179 (by decide) ?_
                              exact hret 180 _ _ (-1 : Int32) () rfl h dX0_factOf_180

def pX0_recordedGreens_J31 (vr : Lf) (x1 : Int32) (Q : Int32 → Prop) (K4 : Int32 → Int32 → Prop) (x2 : Int32) (x3 : Int32) : Prop := (K4 x2 (x3 + 1))
def pX0_recordedGreens_L4 (vr : Lf) (x1 : Int32) (Q : Int32 → Prop) : Nat → Int32 → Int32 → Prop
  | 0, _, _ => False
  | n4 + 1, x2, x3 => (((vr 0 0) ≤ x3 → (Q x2 )) ∧ (¬ (vr 0 0) ≤ x3 → (pX4_at 72 vr x3 (0 : Int32) (fun r2 => ((¬ r2 = x1 → (pX0_recordedGreens_J31 vr x1 Q (fun x2 x3 => pX0_recordedGreens_L4 vr x1 Q n4 x2 x3) x2 x3)) ∧ (r2 = x1 → (pX0_recordedGreens_J31 vr x1 Q (fun x2 x3 => pX0_recordedGreens_L4 vr x1 Q n4 x2 x3) (x2 + 1) x3)))))))
def pX0_recordedGreens (vr : Lf) (x1 : Int32) (Q : Int32 → Prop) : Prop := (∃ n4, pX0_recordedGreens_L4 vr x1 Q  n4 (0 : Int32) (0 : Int32))
abbrev rmX0_recordedGreens : Room := { frames := 1, cells := 0, slots := 0, locals := 22 }
abbrev wdX0_recordedGreens : List Cond := Cond.code yX0_recordedGreens cX0_recordedGreens 4 (some .int) :: TB
theorem hdSX0_recordedGreens : (yX0_recordedGreens).cls ≠ "java/lang/invoke/MethodHandle" ∧ (yX0_recordedGreens).cls ≠ "java/lang/invoke/VarHandle" ∧ (parseMethodDescriptor (yX0_recordedGreens).desc).map (fun d => d.parameters.length) = some 1 := by decide +kernel
theorem hdX0_recordedGreens : (yX0_recordedGreens).cls = RX0 ∧ (yX0_recordedGreens).cls ≠ "java/lang/invoke/MethodHandle" ∧ (yX0_recordedGreens).cls ≠ "java/lang/invoke/VarHandle" ∧ (parseMethodDescriptor (yX0_recordedGreens).desc).map (fun d => d.parameters.length) = some 1 := ⟨rfl, hdSX0_recordedGreens⟩
set_option maxHeartbeats 4000000 in
set_option maxRecDepth 100000 in
theorem kX0_recordedGreens {l : Launch} {D : va_G} {cI cJ cT : ClassId} (d : Nat → Nat) (dj : Nat → Nat) (ds : Nat → Nat) (dp : Nat → Nat) (dr : Nat → Nat)  (v : Lf) (vr : Lf) (x1 : Int32) {Q : Int32 → Prop} (sz : Nat) (h : pX0_recordedGreens vr x1 Q) : Met l yX0_recordedGreens wdX0_recordedGreens rmX0_recordedGreens (Pz D (tyL cI cJ cT) [.ref (d 0), .int x1] ((wX0 d (dj 0) (ds 0) (dp 0) (dr 0) v) ++ (wX4 cI 72 dr vr)) sz) (va_Qi (fun (r : Int32) (u : Unit) => Q r) (Bz D (tyL cI cJ cT) ((wX0 d (dj 0) (ds 0) (dp 0) (dr 0) v) ++ (wX4 cI 72 dr vr)) sz (fun (u : Unit) => ((wX0 d (dj 0) (ds 0) (dp 0) (dr 0) v) ++ (wX4 cI 72 dr vr)))) (va_A ((wX0 d (dj 0) (ds 0) (dp 0) (dr 0) v) ++ (wX4 cI 72 dr vr)) sz)) 0 0 (va_A ((wX0 d (dj 0) (ds 0) (dp 0) (dr 0) v) ++ (wX4 cI 72 dr vr)) sz) := by
  refine z_meti (cc := cX0_recordedGreens) (maxL := 4) (own := RX0) (lv0 := [(0, .ref (d 0)), (1, .int x1)]) (by decide) rfl rfl (Nat.le_of_ble_eq_true rfl) rfl ?_
  intro p e s m args below meth c A QQ C hin hret
  have J31 : ∀ (K4 : Int32 → Int32 → Prop), (∀ (x2 : Int32) (x3 : Int32), K4 x2 x3 → ZZ p l e rmX0_recordedGreens s m args below meth c D A 4 0 0 QQ 4 ((wX0 d (dj 0) (ds 0) (dp 0) (dr 0) v) ++ (wX4 cI 72 dr vr)) [(0, .ref (d 0)), (1, .int x1), (2, .int x2), (3, .int x3)] []) → ∀ (x2 : Int32) (x3 : Int32), pX0_recordedGreens_J31 vr x1 Q K4 x2 x3 → ZZ p l e rmX0_recordedGreens s m args below meth c D A 4 0 0 QQ 31 ((wX0 d (dj 0) (ds 0) (dp 0) (dr 0) v) ++ (wX4 cI 72 dr vr)) [(0, .ref (d 0)), (1, .int x1), (2, .int x2), (3, .int x3)] [] := by
    intro K4 hK4 x2 x3 h
    refine z_iinc (pc := 31) (v := (x3 + 1)) (lv' := [(3, .int (x3 + 1)), (0, .ref (d 0)), (1, .int x1), (2, .int x2)]) C 3 dX0_recordedGreens_31 rfl rfl (by decide) rfl ?_
    refine z_goto (pc := 34) (tgt := 4) C dX0_recordedGreens_34 (by decide) ?_
    refine z_sub (lv' := [(0, .ref (d 0)), (1, .int x1), (2, .int x2), (3, .int (x3 + 1))]) [1, 2, 3, 0] rfl ?_
    exact hK4 x2 (x3 + 1) h
  have L4 : ∀ (n4 : Nat) (x2 : Int32) (x3 : Int32), pX0_recordedGreens_L4 vr x1 Q n4 x2 x3 → ZZ p l e rmX0_recordedGreens s m args below meth c D A 4 0 0 QQ 4 ((wX0 d (dj 0) (ds 0) (dp 0) (dr 0) v) ++ (wX4 cI 72 dr vr)) [(0, .ref (d 0)), (1, .int x1), (2, .int x2), (3, .int x3)] [] := by
    intro n4
    induction n4 with
    | zero => intro x2 x3 h; exact False.elim h
    | succ n4 ih4 =>
      intro x2 x3 h
      refine z_iload_n (pc := 4) C 3 dX0_recordedGreens_4 rfl ?_
      refine z_aload_n (pc := 5) C 0 dX0_recordedGreens_5 rfl ?_
      refine z_get (pc := 6) C uw0 0 rfl rfl 3 (by decide) wq49 rfl dX0_recordedGreens_6 ?_
      refine z_get (pc := 9) C uw4 1 rfl rfl 0 (by decide) wq290 rfl dX0_recordedGreens_9 ?_
      refine z_icmp_ge (pc := 12) (tgt := 37) C dX0_recordedGreens_12 (by decide) (fun c1 => ?_) (fun c1 => ?_)
      · have h := h.1 c1
        refine z_iload_n (pc := 37) C 2 dX0_recordedGreens_37 rfl ?_
        exact hret 38 _ _ x2 () rfl h dX0_recordedGreens_38
      · have h := h.2 c1
        refine z_aload_n (pc := 15) C 0 dX0_recordedGreens_15 rfl ?_
        refine z_get (pc := 16) C uw0 0 rfl rfl 3 (by decide) wq49 rfl dX0_recordedGreens_16 ?_
        refine z_iload_n (pc := 19) C 3 dX0_recordedGreens_19 rfl ?_
        refine z_iconst (pc := 20) (v := 0) C dX0_recordedGreens_20 (by decide) ?_
        refine z_callRi (pc := 21) C (z_runV (pc := 21) (wc := (wX4 cI 72 dr vr)) (As := [.int x3, .int (0 : Int32)]) C (fun sz => kX4_at dr 72 vr x3 (0 : Int32) sz h) [1, 2] rfl (by decide) (gdV wq288 wq291 wq292 wq293 wq48) rfl rfl rfl hdX4_at 1 rfl rfl rfl ⟨Nat.le_of_ble_eq_true rfl, Nat.le_of_ble_eq_true rfl⟩ rfl (Nat.le_of_ble_eq_true rfl) ⟨Nat.zero_le _, Nat.zero_le _⟩ dX0_recordedGreens_21) [1, 2] rfl (by decide) (fun r2 u2 h => ?_)
        refine z_iload_n (pc := 24) C 1 dX0_recordedGreens_24 rfl ?_
        refine z_icmp_ne (pc := 25) (tgt := 31) C dX0_recordedGreens_25 (by decide) (fun c3 => ?_) (fun c3 => ?_)
        · have h := h.1 c3
          exact J31 (fun x2 x3 => pX0_recordedGreens_L4 vr x1 Q n4 x2 x3) ih4 x2 x3 h
        · have h := h.2 c3
          refine z_iinc (pc := 28) (v := (x2 + 1)) (lv' := [(2, .int (x2 + 1)), (0, .ref (d 0)), (1, .int x1), (3, .int x3)]) C 2 dX0_recordedGreens_28 rfl rfl (by decide) rfl ?_
          refine z_sub (lv' := [(0, .ref (d 0)), (1, .int x1), (2, .int (x2 + 1)), (3, .int x3)]) [1, 2, 0, 3] rfl ?_
          exact J31 (fun x2 x3 => pX0_recordedGreens_L4 vr x1 Q n4 x2 x3) ih4 (x2 + 1) x3 h
  refine z_iconst (pc := 0) (v := 0) C dX0_recordedGreens_0 (by decide) ?_
  refine z_istore_n (pc := 1) (lv' := [(2, .int (0 : Int32)), (0, .ref (d 0)), (1, .int x1)]) C dX0_recordedGreens_1 (by decide) rfl ?_
  refine z_iconst (pc := 2) (v := 0) C dX0_recordedGreens_2 (by decide) ?_
  refine z_istore_n (pc := 3) (lv' := [(3, .int (0 : Int32)), (2, .int (0 : Int32)), (0, .ref (d 0)), (1, .int x1)]) C dX0_recordedGreens_3 (by decide) rfl ?_
  obtain ⟨n4, h⟩ := h
  refine z_sub (lv' := [(0, .ref (d 0)), (1, .int x1), (2, .int (0 : Int32)), (3, .int (0 : Int32))]) [2, 3, 1, 0] rfl ?_
  exact L4  n4 (0 : Int32) (0 : Int32) h

def pX0_recordedLength (vr : Lf) (x1 : Int32) (Q : Int32 → Prop) : Prop := (pX4_at 72 vr x1 (2 : Int32) (fun r1 => (pX4_at 72 vr x1 (1 : Int32) (fun r2 => (Q (r1 - r2) )))))
abbrev rmX0_recordedLength : Room := { frames := 1, cells := 0, slots := 0, locals := 22 }
abbrev wdX0_recordedLength : List Cond := Cond.code yX0_recordedLength cX0_recordedLength 2 (some .int) :: TB
theorem hdSX0_recordedLength : (yX0_recordedLength).cls ≠ "java/lang/invoke/MethodHandle" ∧ (yX0_recordedLength).cls ≠ "java/lang/invoke/VarHandle" ∧ (parseMethodDescriptor (yX0_recordedLength).desc).map (fun d => d.parameters.length) = some 1 := by decide +kernel
theorem hdX0_recordedLength : (yX0_recordedLength).cls = RX0 ∧ (yX0_recordedLength).cls ≠ "java/lang/invoke/MethodHandle" ∧ (yX0_recordedLength).cls ≠ "java/lang/invoke/VarHandle" ∧ (parseMethodDescriptor (yX0_recordedLength).desc).map (fun d => d.parameters.length) = some 1 := ⟨rfl, hdSX0_recordedLength⟩
set_option maxHeartbeats 4000000 in
set_option maxRecDepth 100000 in
theorem kX0_recordedLength {l : Launch} {D : va_G} {cI cJ cT : ClassId} (d : Nat → Nat) (dj : Nat → Nat) (ds : Nat → Nat) (dp : Nat → Nat) (dr : Nat → Nat)  (v : Lf) (vr : Lf) (x1 : Int32) {Q : Int32 → Prop} (sz : Nat) (h : pX0_recordedLength vr x1 Q) : Met l yX0_recordedLength wdX0_recordedLength rmX0_recordedLength (Pz D (tyL cI cJ cT) [.ref (d 0), .int x1] ((wX0 d (dj 0) (ds 0) (dp 0) (dr 0) v) ++ (wX4 cI 72 dr vr)) sz) (va_Qi (fun (r : Int32) (u : Unit) => Q r) (Bz D (tyL cI cJ cT) ((wX0 d (dj 0) (ds 0) (dp 0) (dr 0) v) ++ (wX4 cI 72 dr vr)) sz (fun (u : Unit) => ((wX0 d (dj 0) (ds 0) (dp 0) (dr 0) v) ++ (wX4 cI 72 dr vr)))) (va_A ((wX0 d (dj 0) (ds 0) (dp 0) (dr 0) v) ++ (wX4 cI 72 dr vr)) sz)) 0 0 (va_A ((wX0 d (dj 0) (ds 0) (dp 0) (dr 0) v) ++ (wX4 cI 72 dr vr)) sz) := by
  refine z_meti (cc := cX0_recordedLength) (maxL := 2) (own := RX0) (lv0 := [(0, .ref (d 0)), (1, .int x1)]) (by decide) rfl rfl (Nat.le_of_ble_eq_true rfl) rfl ?_
  intro p e s m args below meth c A QQ C hin hret
  refine z_aload_n (pc := 0) C 0 dX0_recordedLength_0 rfl ?_
  refine z_get (pc := 1) C uw0 0 rfl rfl 3 (by decide) wq49 rfl dX0_recordedLength_1 ?_
  refine z_iload_n (pc := 4) C 1 dX0_recordedLength_4 rfl ?_
  refine z_iconst (pc := 5) (v := 2) C dX0_recordedLength_5 (by decide) ?_
  refine z_callRi (pc := 6) C (z_runV (pc := 6) (wc := (wX4 cI 72 dr vr)) (As := [.int x1, .int (2 : Int32)]) C (fun sz => kX4_at dr 72 vr x1 (2 : Int32) sz h) [1, 2] rfl (by decide) (gdV wq288 wq291 wq292 wq293 wq48) rfl rfl rfl hdX4_at 1 rfl rfl rfl ⟨Nat.le_of_ble_eq_true rfl, Nat.le_of_ble_eq_true rfl⟩ rfl (Nat.le_of_ble_eq_true rfl) ⟨Nat.zero_le _, Nat.zero_le _⟩ dX0_recordedLength_6) [1, 2] rfl (by decide) (fun r1 u1 h => ?_)
  refine z_aload_n (pc := 9) C 0 dX0_recordedLength_9 rfl ?_
  refine z_get (pc := 10) C uw0 0 rfl rfl 3 (by decide) wq49 rfl dX0_recordedLength_10 ?_
  refine z_iload_n (pc := 13) C 1 dX0_recordedLength_13 rfl ?_
  refine z_iconst (pc := 14) (v := 1) C dX0_recordedLength_14 (by decide) ?_
  refine z_callRi (pc := 15) C (z_runV (pc := 15) (wc := (wX4 cI 72 dr vr)) (As := [.int x1, .int (1 : Int32)]) C (fun sz => kX4_at dr 72 vr x1 (1 : Int32) sz h) [1, 2] rfl (by decide) (gdV wq288 wq291 wq292 wq293 wq48) rfl rfl rfl hdX4_at 1 rfl rfl rfl ⟨Nat.le_of_ble_eq_true rfl, Nat.le_of_ble_eq_true rfl⟩ rfl (Nat.le_of_ble_eq_true rfl) ⟨Nat.zero_le _, Nat.zero_le _⟩ dX0_recordedLength_15) [1, 2] rfl (by decide) (fun r2 u2 h => ?_)
  refine z_isub (pc := 18) C dX0_recordedLength_18 ?_
  exact hret 19 _ _ (r1 - r2) () rfl h dX0_recordedLength_19

def pX0_recordedTime_J36 (vr : Lf) (x1 : Int32) (Q : Int32 → Prop) (K4 : Int32 → Int32 → Prop) (x2 : Int32) (x3 : Int32) : Prop := (K4 x2 (x3 + 1))
def pX0_recordedTime_L4 (vr : Lf) (x1 : Int32) (Q : Int32 → Prop) : Nat → Int32 → Int32 → Prop
  | 0, _, _ => False
  | n4 + 1, x2, x3 => (((vr 0 0) ≤ x3 → (Q x2 )) ∧ (¬ (vr 0 0) ≤ x3 → (pX4_at 72 vr x3 (0 : Int32) (fun r2 => ((¬ r2 = x1 → (pX0_recordedTime_J36 vr x1 Q (fun x2 x3 => pX0_recordedTime_L4 vr x1 Q n4 x2 x3) x2 x3)) ∧ (r2 = x1 → (pX0_recordedLength vr x3 (fun r4 => (pX0_recordedTime_J36 vr x1 Q (fun x2 x3 => pX0_recordedTime_L4 vr x1 Q n4 x2 x3) (x2 + r4) x3)))))))))
def pX0_recordedTime (vr : Lf) (x1 : Int32) (Q : Int32 → Prop) : Prop := (∃ n4, pX0_recordedTime_L4 vr x1 Q  n4 (0 : Int32) (0 : Int32))
abbrev rmX0_recordedTime : Room := { frames := 2, cells := 0, slots := 0, locals := 43 }
abbrev wdX0_recordedTime : List Cond := Cond.code yX0_recordedTime cX0_recordedTime 4 (some .int) :: TB
theorem hdSX0_recordedTime : (yX0_recordedTime).cls ≠ "java/lang/invoke/MethodHandle" ∧ (yX0_recordedTime).cls ≠ "java/lang/invoke/VarHandle" ∧ (parseMethodDescriptor (yX0_recordedTime).desc).map (fun d => d.parameters.length) = some 1 := by decide +kernel
theorem hdX0_recordedTime : (yX0_recordedTime).cls = RX0 ∧ (yX0_recordedTime).cls ≠ "java/lang/invoke/MethodHandle" ∧ (yX0_recordedTime).cls ≠ "java/lang/invoke/VarHandle" ∧ (parseMethodDescriptor (yX0_recordedTime).desc).map (fun d => d.parameters.length) = some 1 := ⟨rfl, hdSX0_recordedTime⟩
set_option maxHeartbeats 4000000 in
set_option maxRecDepth 100000 in
theorem kX0_recordedTime {l : Launch} {D : va_G} {cI cJ cT : ClassId} (d : Nat → Nat) (dj : Nat → Nat) (ds : Nat → Nat) (dp : Nat → Nat) (dr : Nat → Nat)  (v : Lf) (vr : Lf) (x1 : Int32) {Q : Int32 → Prop} (sz : Nat) (h : pX0_recordedTime vr x1 Q) : Met l yX0_recordedTime wdX0_recordedTime rmX0_recordedTime (Pz D (tyL cI cJ cT) [.ref (d 0), .int x1] ((wX0 d (dj 0) (ds 0) (dp 0) (dr 0) v) ++ (wX4 cI 72 dr vr)) sz) (va_Qi (fun (r : Int32) (u : Unit) => Q r) (Bz D (tyL cI cJ cT) ((wX0 d (dj 0) (ds 0) (dp 0) (dr 0) v) ++ (wX4 cI 72 dr vr)) sz (fun (u : Unit) => ((wX0 d (dj 0) (ds 0) (dp 0) (dr 0) v) ++ (wX4 cI 72 dr vr)))) (va_A ((wX0 d (dj 0) (ds 0) (dp 0) (dr 0) v) ++ (wX4 cI 72 dr vr)) sz)) 0 0 (va_A ((wX0 d (dj 0) (ds 0) (dp 0) (dr 0) v) ++ (wX4 cI 72 dr vr)) sz) := by
  refine z_meti (cc := cX0_recordedTime) (maxL := 4) (own := RX0) (lv0 := [(0, .ref (d 0)), (1, .int x1)]) (by decide) rfl rfl (Nat.le_of_ble_eq_true rfl) rfl ?_
  intro p e s m args below meth c A QQ C hin hret
  have J36 : ∀ (K4 : Int32 → Int32 → Prop), (∀ (x2 : Int32) (x3 : Int32), K4 x2 x3 → ZZ p l e rmX0_recordedTime s m args below meth c D A 4 0 0 QQ 4 ((wX0 d (dj 0) (ds 0) (dp 0) (dr 0) v) ++ (wX4 cI 72 dr vr)) [(0, .ref (d 0)), (1, .int x1), (2, .int x2), (3, .int x3)] []) → ∀ (x2 : Int32) (x3 : Int32), pX0_recordedTime_J36 vr x1 Q K4 x2 x3 → ZZ p l e rmX0_recordedTime s m args below meth c D A 4 0 0 QQ 36 ((wX0 d (dj 0) (ds 0) (dp 0) (dr 0) v) ++ (wX4 cI 72 dr vr)) [(0, .ref (d 0)), (1, .int x1), (2, .int x2), (3, .int x3)] [] := by
    intro K4 hK4 x2 x3 h
    refine z_iinc (pc := 36) (v := (x3 + 1)) (lv' := [(3, .int (x3 + 1)), (0, .ref (d 0)), (1, .int x1), (2, .int x2)]) C 3 dX0_recordedTime_36 rfl rfl (by decide) rfl ?_
    refine z_goto (pc := 39) (tgt := 4) C dX0_recordedTime_39 (by decide) ?_
    refine z_sub (lv' := [(0, .ref (d 0)), (1, .int x1), (2, .int x2), (3, .int (x3 + 1))]) [1, 2, 3, 0] rfl ?_
    exact hK4 x2 (x3 + 1) h
  have L4 : ∀ (n4 : Nat) (x2 : Int32) (x3 : Int32), pX0_recordedTime_L4 vr x1 Q n4 x2 x3 → ZZ p l e rmX0_recordedTime s m args below meth c D A 4 0 0 QQ 4 ((wX0 d (dj 0) (ds 0) (dp 0) (dr 0) v) ++ (wX4 cI 72 dr vr)) [(0, .ref (d 0)), (1, .int x1), (2, .int x2), (3, .int x3)] [] := by
    intro n4
    induction n4 with
    | zero => intro x2 x3 h; exact False.elim h
    | succ n4 ih4 =>
      intro x2 x3 h
      refine z_iload_n (pc := 4) C 3 dX0_recordedTime_4 rfl ?_
      refine z_aload_n (pc := 5) C 0 dX0_recordedTime_5 rfl ?_
      refine z_get (pc := 6) C uw0 0 rfl rfl 3 (by decide) wq49 rfl dX0_recordedTime_6 ?_
      refine z_get (pc := 9) C uw4 1 rfl rfl 0 (by decide) wq290 rfl dX0_recordedTime_9 ?_
      refine z_icmp_ge (pc := 12) (tgt := 42) C dX0_recordedTime_12 (by decide) (fun c1 => ?_) (fun c1 => ?_)
      · have h := h.1 c1
        refine z_iload_n (pc := 42) C 2 dX0_recordedTime_42 rfl ?_
        exact hret 43 _ _ x2 () rfl h dX0_recordedTime_43
      · have h := h.2 c1
        refine z_aload_n (pc := 15) C 0 dX0_recordedTime_15 rfl ?_
        refine z_get (pc := 16) C uw0 0 rfl rfl 3 (by decide) wq49 rfl dX0_recordedTime_16 ?_
        refine z_iload_n (pc := 19) C 3 dX0_recordedTime_19 rfl ?_
        refine z_iconst (pc := 20) (v := 0) C dX0_recordedTime_20 (by decide) ?_
        refine z_callRi (pc := 21) C (z_runV (pc := 21) (wc := (wX4 cI 72 dr vr)) (As := [.int x3, .int (0 : Int32)]) C (fun sz => kX4_at dr 72 vr x3 (0 : Int32) sz h) [1, 2] rfl (by decide) (gdV wq288 wq291 wq292 wq293 wq48) rfl rfl rfl hdX4_at 1 rfl rfl rfl ⟨Nat.le_of_ble_eq_true rfl, Nat.le_of_ble_eq_true rfl⟩ rfl (Nat.le_of_ble_eq_true rfl) ⟨Nat.zero_le _, Nat.zero_le _⟩ dX0_recordedTime_21) [1, 2] rfl (by decide) (fun r2 u2 h => ?_)
        refine z_iload_n (pc := 24) C 1 dX0_recordedTime_24 rfl ?_
        refine z_icmp_ne (pc := 25) (tgt := 36) C dX0_recordedTime_25 (by decide) (fun c3 => ?_) (fun c3 => ?_)
        · have h := h.1 c3
          exact J36 (fun x2 x3 => pX0_recordedTime_L4 vr x1 Q n4 x2 x3) ih4 x2 x3 h
        · have h := h.2 c3
          refine z_iload_n (pc := 28) C 2 dX0_recordedTime_28 rfl ?_
          refine z_aload_n (pc := 29) C 0 dX0_recordedTime_29 rfl ?_
          refine z_iload_n (pc := 30) C 3 dX0_recordedTime_30 rfl ?_
          refine z_callRi (pc := 31) C (z_runV (pc := 31) (wc := ((wX0 d (dj 0) (ds 0) (dp 0) (dr 0) v) ++ (wX4 cI 72 dr vr))) (As := [.int x3]) C (fun sz => kX0_recordedLength d dj ds dp dr v vr x3 sz h) [0, 1, 2] rfl (by decide) (gdV wq294 wq296 wq297 wq298 wq108) rfl rfl rfl hdX0_recordedLength 0 rfl rfl rfl ⟨Nat.le_of_ble_eq_true rfl, Nat.le_of_ble_eq_true rfl⟩ rfl (Nat.le_of_ble_eq_true rfl) ⟨Nat.zero_le _, Nat.zero_le _⟩ dX0_recordedTime_31) [0, 1, 2] rfl (by decide) (fun r4 u4 h => ?_)
          refine z_iadd (pc := 34) C dX0_recordedTime_34 ?_
          refine z_istore_n (pc := 35) (lv' := [(2, .int (x2 + r4)), (0, .ref (d 0)), (1, .int x1), (3, .int x3)]) C dX0_recordedTime_35 (by decide) rfl ?_
          refine z_sub (lv' := [(0, .ref (d 0)), (1, .int x1), (2, .int (x2 + r4)), (3, .int x3)]) [1, 2, 0, 3] rfl ?_
          exact J36 (fun x2 x3 => pX0_recordedTime_L4 vr x1 Q n4 x2 x3) ih4 (x2 + r4) x3 h
  refine z_iconst (pc := 0) (v := 0) C dX0_recordedTime_0 (by decide) ?_
  refine z_istore_n (pc := 1) (lv' := [(2, .int (0 : Int32)), (0, .ref (d 0)), (1, .int x1)]) C dX0_recordedTime_1 (by decide) rfl ?_
  refine z_iconst (pc := 2) (v := 0) C dX0_recordedTime_2 (by decide) ?_
  refine z_istore_n (pc := 3) (lv' := [(3, .int (0 : Int32)), (2, .int (0 : Int32)), (0, .ref (d 0)), (1, .int x1)]) C dX0_recordedTime_3 (by decide) rfl ?_
  obtain ⟨n4, h⟩ := h
  refine z_sub (lv' := [(0, .ref (d 0)), (1, .int x1), (2, .int (0 : Int32)), (3, .int (0 : Int32))]) [2, 3, 1, 0] rfl ?_
  exact L4  n4 (0 : Int32) (0 : Int32) h

def pX0_shortestGreen_J50 (vr : Lf) (x1 : Int32) (Q : Int32 → Prop) (K5 : Int32 → Int32 → Prop) (x2 : Int32) (x3 : Int32) : Prop := (K5 x2 (x3 + 1))
def pX0_shortestGreen_J44 (vr : Lf) (x1 : Int32) (Q : Int32 → Prop) (K5 : Int32 → Int32 → Prop) (x3 : Int32) : Prop := (pX0_recordedLength vr x3 (fun r5 => (pX0_shortestGreen_J50 vr x1 Q K5 r5 x3)))
def pX0_shortestGreen_L5 (vr : Lf) (x1 : Int32) (Q : Int32 → Prop) : Nat → Int32 → Int32 → Prop
  | 0, _, _ => False
  | n5 + 1, x2, x3 => (((vr 0 0) ≤ x3 → (Q x2 )) ∧ (¬ (vr 0 0) ≤ x3 → (pX4_at 72 vr x3 (0 : Int32) (fun r2 => ((¬ r2 = x1 → (pX0_shortestGreen_J50 vr x1 Q (fun x2 x3 => pX0_shortestGreen_L5 vr x1 Q n5 x2 x3) x2 x3)) ∧ (r2 = x1 → ((x2 = (-5 : Int32) → (pX0_shortestGreen_J44 vr x1 Q (fun x2 x3 => pX0_shortestGreen_L5 vr x1 Q n5 x2 x3) x3)) ∧ (¬ x2 = (-5 : Int32) → (pX0_recordedLength vr x3 (fun r6 => ((x2 ≤ r6 → (pX0_shortestGreen_J50 vr x1 Q (fun x2 x3 => pX0_shortestGreen_L5 vr x1 Q n5 x2 x3) x2 x3)) ∧ (¬ x2 ≤ r6 → (pX0_shortestGreen_J44 vr x1 Q (fun x2 x3 => pX0_shortestGreen_L5 vr x1 Q n5 x2 x3) x3)))))))))))))
def pX0_shortestGreen (vr : Lf) (x1 : Int32) (Q : Int32 → Prop) : Prop := (∃ n5, pX0_shortestGreen_L5 vr x1 Q  n5 (-5 : Int32) (0 : Int32))
abbrev rmX0_shortestGreen : Room := { frames := 2, cells := 0, slots := 0, locals := 43 }
abbrev wdX0_shortestGreen : List Cond := Cond.code yX0_shortestGreen cX0_shortestGreen 4 (some .int) :: TB
theorem hdSX0_shortestGreen : (yX0_shortestGreen).cls ≠ "java/lang/invoke/MethodHandle" ∧ (yX0_shortestGreen).cls ≠ "java/lang/invoke/VarHandle" ∧ (parseMethodDescriptor (yX0_shortestGreen).desc).map (fun d => d.parameters.length) = some 1 := by decide +kernel
theorem hdX0_shortestGreen : (yX0_shortestGreen).cls = RX0 ∧ (yX0_shortestGreen).cls ≠ "java/lang/invoke/MethodHandle" ∧ (yX0_shortestGreen).cls ≠ "java/lang/invoke/VarHandle" ∧ (parseMethodDescriptor (yX0_shortestGreen).desc).map (fun d => d.parameters.length) = some 1 := ⟨rfl, hdSX0_shortestGreen⟩
set_option maxHeartbeats 4000000 in
set_option maxRecDepth 100000 in
theorem kX0_shortestGreen {l : Launch} {D : va_G} {cI cJ cT : ClassId} (d : Nat → Nat) (dj : Nat → Nat) (ds : Nat → Nat) (dp : Nat → Nat) (dr : Nat → Nat)  (v : Lf) (vr : Lf) (x1 : Int32) {Q : Int32 → Prop} (sz : Nat) (h : pX0_shortestGreen vr x1 Q) : Met l yX0_shortestGreen wdX0_shortestGreen rmX0_shortestGreen (Pz D (tyL cI cJ cT) [.ref (d 0), .int x1] ((wX0 d (dj 0) (ds 0) (dp 0) (dr 0) v) ++ (wX4 cI 72 dr vr)) sz) (va_Qi (fun (r : Int32) (u : Unit) => Q r) (Bz D (tyL cI cJ cT) ((wX0 d (dj 0) (ds 0) (dp 0) (dr 0) v) ++ (wX4 cI 72 dr vr)) sz (fun (u : Unit) => ((wX0 d (dj 0) (ds 0) (dp 0) (dr 0) v) ++ (wX4 cI 72 dr vr)))) (va_A ((wX0 d (dj 0) (ds 0) (dp 0) (dr 0) v) ++ (wX4 cI 72 dr vr)) sz)) 0 0 (va_A ((wX0 d (dj 0) (ds 0) (dp 0) (dr 0) v) ++ (wX4 cI 72 dr vr)) sz) := by
  refine z_meti (cc := cX0_shortestGreen) (maxL := 4) (own := RX0) (lv0 := [(0, .ref (d 0)), (1, .int x1)]) (by decide) rfl rfl (Nat.le_of_ble_eq_true rfl) rfl ?_
  intro p e s m args below meth c A QQ C hin hret
  have J50 : ∀ (K5 : Int32 → Int32 → Prop), (∀ (x2 : Int32) (x3 : Int32), K5 x2 x3 → ZZ p l e rmX0_shortestGreen s m args below meth c D A 4 0 0 QQ 5 ((wX0 d (dj 0) (ds 0) (dp 0) (dr 0) v) ++ (wX4 cI 72 dr vr)) [(0, .ref (d 0)), (1, .int x1), (2, .int x2), (3, .int x3)] []) → ∀ (x2 : Int32) (x3 : Int32), pX0_shortestGreen_J50 vr x1 Q K5 x2 x3 → ZZ p l e rmX0_shortestGreen s m args below meth c D A 4 0 0 QQ 50 ((wX0 d (dj 0) (ds 0) (dp 0) (dr 0) v) ++ (wX4 cI 72 dr vr)) [(0, .ref (d 0)), (1, .int x1), (2, .int x2), (3, .int x3)] [] := by
    intro K5 hK5 x2 x3 h
    refine z_iinc (pc := 50) (v := (x3 + 1)) (lv' := [(3, .int (x3 + 1)), (0, .ref (d 0)), (1, .int x1), (2, .int x2)]) C 3 dX0_shortestGreen_50 rfl rfl (by decide) rfl ?_
    refine z_goto (pc := 53) (tgt := 5) C dX0_shortestGreen_53 (by decide) ?_
    refine z_sub (lv' := [(0, .ref (d 0)), (1, .int x1), (2, .int x2), (3, .int (x3 + 1))]) [1, 2, 3, 0] rfl ?_
    exact hK5 x2 (x3 + 1) h
  have J44 : ∀ (K5 : Int32 → Int32 → Prop), (∀ (x2 : Int32) (x3 : Int32), K5 x2 x3 → ZZ p l e rmX0_shortestGreen s m args below meth c D A 4 0 0 QQ 5 ((wX0 d (dj 0) (ds 0) (dp 0) (dr 0) v) ++ (wX4 cI 72 dr vr)) [(0, .ref (d 0)), (1, .int x1), (2, .int x2), (3, .int x3)] []) → ∀ (x3 : Int32), pX0_shortestGreen_J44 vr x1 Q K5 x3 → ZZ p l e rmX0_shortestGreen s m args below meth c D A 4 0 0 QQ 44 ((wX0 d (dj 0) (ds 0) (dp 0) (dr 0) v) ++ (wX4 cI 72 dr vr)) [(0, .ref (d 0)), (1, .int x1), (3, .int x3)] [] := by
    intro K5 hK5 x3 h
    refine z_aload_n (pc := 44) C 0 dX0_shortestGreen_44 rfl ?_
    refine z_iload_n (pc := 45) C 2 dX0_shortestGreen_45 rfl ?_
    refine z_callRi (pc := 46) C (z_runV (pc := 46) (wc := ((wX0 d (dj 0) (ds 0) (dp 0) (dr 0) v) ++ (wX4 cI 72 dr vr))) (As := [.int x3]) C (fun sz => kX0_recordedLength d dj ds dp dr v vr x3 sz h) [0, 1, 2] rfl (by decide) (gdV wq294 wq296 wq297 wq298 wq108) rfl rfl rfl hdX0_recordedLength 0 rfl rfl rfl ⟨Nat.le_of_ble_eq_true rfl, Nat.le_of_ble_eq_true rfl⟩ rfl (Nat.le_of_ble_eq_true rfl) ⟨Nat.zero_le _, Nat.zero_le _⟩ dX0_shortestGreen_46) [0, 1, 2] rfl (by decide) (fun r5 u5 h => ?_)
    refine z_istore_n (pc := 49) (lv' := [(2, .int r5), (0, .ref (d 0)), (1, .int x1), (3, .int x3)]) C dX0_shortestGreen_49 (by decide) rfl ?_
    refine z_sub (lv' := [(0, .ref (d 0)), (1, .int x1), (2, .int r5), (3, .int x3)]) [1, 2, 0, 3] rfl ?_
    exact J50 K5 hK5 r5 x3 h
  have L5 : ∀ (n5 : Nat) (x2 : Int32) (x3 : Int32), pX0_shortestGreen_L5 vr x1 Q n5 x2 x3 → ZZ p l e rmX0_shortestGreen s m args below meth c D A 4 0 0 QQ 5 ((wX0 d (dj 0) (ds 0) (dp 0) (dr 0) v) ++ (wX4 cI 72 dr vr)) [(0, .ref (d 0)), (1, .int x1), (2, .int x2), (3, .int x3)] [] := by
    intro n5
    induction n5 with
    | zero => intro x2 x3 h; exact False.elim h
    | succ n5 ih5 =>
      intro x2 x3 h
      refine z_iload_n (pc := 5) C 3 dX0_shortestGreen_5 rfl ?_
      refine z_aload_n (pc := 6) C 0 dX0_shortestGreen_6 rfl ?_
      refine z_get (pc := 7) C uw0 0 rfl rfl 3 (by decide) wq49 rfl dX0_shortestGreen_7 ?_
      refine z_get (pc := 10) C uw4 1 rfl rfl 0 (by decide) wq290 rfl dX0_shortestGreen_10 ?_
      refine z_icmp_ge (pc := 13) (tgt := 56) C dX0_shortestGreen_13 (by decide) (fun c1 => ?_) (fun c1 => ?_)
      · have h := h.1 c1
        refine z_iload_n (pc := 56) C 2 dX0_shortestGreen_56 rfl ?_
        exact hret 57 _ _ x2 () rfl h dX0_shortestGreen_57
      · have h := h.2 c1
        refine z_aload_n (pc := 16) C 0 dX0_shortestGreen_16 rfl ?_
        refine z_get (pc := 17) C uw0 0 rfl rfl 3 (by decide) wq49 rfl dX0_shortestGreen_17 ?_
        refine z_iload_n (pc := 20) C 3 dX0_shortestGreen_20 rfl ?_
        refine z_iconst (pc := 21) (v := 0) C dX0_shortestGreen_21 (by decide) ?_
        refine z_callRi (pc := 22) C (z_runV (pc := 22) (wc := (wX4 cI 72 dr vr)) (As := [.int x3, .int (0 : Int32)]) C (fun sz => kX4_at dr 72 vr x3 (0 : Int32) sz h) [1, 2] rfl (by decide) (gdV wq288 wq291 wq292 wq293 wq48) rfl rfl rfl hdX4_at 1 rfl rfl rfl ⟨Nat.le_of_ble_eq_true rfl, Nat.le_of_ble_eq_true rfl⟩ rfl (Nat.le_of_ble_eq_true rfl) ⟨Nat.zero_le _, Nat.zero_le _⟩ dX0_shortestGreen_22) [1, 2] rfl (by decide) (fun r2 u2 h => ?_)
        refine z_iload_n (pc := 25) C 1 dX0_shortestGreen_25 rfl ?_
        refine z_icmp_ne (pc := 26) (tgt := 50) C dX0_shortestGreen_26 (by decide) (fun c3 => ?_) (fun c3 => ?_)
        · have h := h.1 c3
          exact J50 (fun x2 x3 => pX0_shortestGreen_L5 vr x1 Q n5 x2 x3) ih5 x2 x3 h
        · have h := h.2 c3
          refine z_iload_n (pc := 29) C 2 dX0_shortestGreen_29 rfl ?_
          refine z_bipush (pc := 30) (v := -5) C dX0_shortestGreen_30 (by decide) ?_
          refine z_icmp_eq (pc := 32) (tgt := 44) C dX0_shortestGreen_32 (by decide) (fun c4 => ?_) (fun c4 => ?_)
          · have h := h.1 c4
            refine z_sub (lv' := [(0, .ref (d 0)), (1, .int x1), (3, .int x3)]) [0, 1, 3] rfl ?_
            exact J44 (fun x2 x3 => pX0_shortestGreen_L5 vr x1 Q n5 x2 x3) ih5 x3 h
          · have h := h.2 c4
            refine z_aload_n (pc := 35) C 0 dX0_shortestGreen_35 rfl ?_
            refine z_iload_n (pc := 36) C 3 dX0_shortestGreen_36 rfl ?_
            refine z_callRi (pc := 37) C (z_runV (pc := 37) (wc := ((wX0 d (dj 0) (ds 0) (dp 0) (dr 0) v) ++ (wX4 cI 72 dr vr))) (As := [.int x3]) C (fun sz => kX0_recordedLength d dj ds dp dr v vr x3 sz h) [0, 1, 2] rfl (by decide) (gdV wq294 wq296 wq297 wq298 wq108) rfl rfl rfl hdX0_recordedLength 0 rfl rfl rfl ⟨Nat.le_of_ble_eq_true rfl, Nat.le_of_ble_eq_true rfl⟩ rfl (Nat.le_of_ble_eq_true rfl) ⟨Nat.zero_le _, Nat.zero_le _⟩ dX0_shortestGreen_37) [0, 1, 2] rfl (by decide) (fun r6 u6 h => ?_)
            refine z_iload_n (pc := 40) C 2 dX0_shortestGreen_40 rfl ?_
            refine z_icmp_ge (pc := 41) (tgt := 50) C dX0_shortestGreen_41 (by decide) (fun c7 => ?_) (fun c7 => ?_)
            · have h := h.1 c7
              exact J50 (fun x2 x3 => pX0_shortestGreen_L5 vr x1 Q n5 x2 x3) ih5 x2 x3 h
            · have h := h.2 c7
              refine z_sub (lv' := [(0, .ref (d 0)), (1, .int x1), (3, .int x3)]) [0, 1, 3] rfl ?_
              exact J44 (fun x2 x3 => pX0_shortestGreen_L5 vr x1 Q n5 x2 x3) ih5 x3 h
  refine z_bipush (pc := 0) (v := -5) C dX0_shortestGreen_0 (by decide) ?_
  refine z_istore_n (pc := 2) (lv' := [(2, .int (-5 : Int32)), (0, .ref (d 0)), (1, .int x1)]) C dX0_shortestGreen_2 (by decide) rfl ?_
  refine z_iconst (pc := 3) (v := 0) C dX0_shortestGreen_3 (by decide) ?_
  refine z_istore_n (pc := 4) (lv' := [(3, .int (0 : Int32)), (2, .int (-5 : Int32)), (0, .ref (d 0)), (1, .int x1)]) C dX0_shortestGreen_4 (by decide) rfl ?_
  obtain ⟨n5, h⟩ := h
  refine z_sub (lv' := [(0, .ref (d 0)), (1, .int x1), (2, .int (-5 : Int32)), (3, .int (0 : Int32))]) [2, 3, 1, 0] rfl ?_
  exact L5  n5 (-5 : Int32) (0 : Int32) h

def pX0_longestGreen_J39 (vr : Lf) (x1 : Int32) (Q : Int32 → Prop) (K5 : Int32 → Int32 → Prop) (x2 : Int32) (x3 : Int32) : Prop := (K5 x2 (x3 + 1))
def pX0_longestGreen_L5 (vr : Lf) (x1 : Int32) (Q : Int32 → Prop) : Nat → Int32 → Int32 → Prop
  | 0, _, _ => False
  | n5 + 1, x2, x3 => (((vr 0 0) ≤ x3 → (Q x2 )) ∧ (¬ (vr 0 0) ≤ x3 → (pX4_at 72 vr x3 (0 : Int32) (fun r2 => ((¬ r2 = x1 → (pX0_longestGreen_J39 vr x1 Q (fun x2 x3 => pX0_longestGreen_L5 vr x1 Q n5 x2 x3) x2 x3)) ∧ (r2 = x1 → (pX0_recordedLength vr x3 (fun r4 => (pX0_longestGreen_J39 vr x1 Q (fun x2 x3 => pX0_longestGreen_L5 vr x1 Q n5 x2 x3) (if x2 < r4 then r4 else x2) x3)))))))))
def pX0_longestGreen (vr : Lf) (x1 : Int32) (Q : Int32 → Prop) : Prop := (∃ n5, pX0_longestGreen_L5 vr x1 Q  n5 (-5 : Int32) (0 : Int32))
abbrev rmX0_longestGreen : Room := { frames := 2, cells := 0, slots := 0, locals := 43 }
abbrev wdX0_longestGreen : List Cond := Cond.code yX0_longestGreen cX0_longestGreen 4 (some .int) :: TB
theorem hdSX0_longestGreen : (yX0_longestGreen).cls ≠ "java/lang/invoke/MethodHandle" ∧ (yX0_longestGreen).cls ≠ "java/lang/invoke/VarHandle" ∧ (parseMethodDescriptor (yX0_longestGreen).desc).map (fun d => d.parameters.length) = some 1 := by decide +kernel
theorem hdX0_longestGreen : (yX0_longestGreen).cls = RX0 ∧ (yX0_longestGreen).cls ≠ "java/lang/invoke/MethodHandle" ∧ (yX0_longestGreen).cls ≠ "java/lang/invoke/VarHandle" ∧ (parseMethodDescriptor (yX0_longestGreen).desc).map (fun d => d.parameters.length) = some 1 := ⟨rfl, hdSX0_longestGreen⟩
set_option maxHeartbeats 4000000 in
set_option maxRecDepth 100000 in
theorem kX0_longestGreen {l : Launch} {D : va_G} {cI cJ cT : ClassId} (d : Nat → Nat) (dj : Nat → Nat) (ds : Nat → Nat) (dp : Nat → Nat) (dr : Nat → Nat)  (v : Lf) (vr : Lf) (x1 : Int32) {Q : Int32 → Prop} (sz : Nat) (h : pX0_longestGreen vr x1 Q) : Met l yX0_longestGreen wdX0_longestGreen rmX0_longestGreen (Pz D (tyL cI cJ cT) [.ref (d 0), .int x1] ((wX0 d (dj 0) (ds 0) (dp 0) (dr 0) v) ++ (wX4 cI 72 dr vr)) sz) (va_Qi (fun (r : Int32) (u : Unit) => Q r) (Bz D (tyL cI cJ cT) ((wX0 d (dj 0) (ds 0) (dp 0) (dr 0) v) ++ (wX4 cI 72 dr vr)) sz (fun (u : Unit) => ((wX0 d (dj 0) (ds 0) (dp 0) (dr 0) v) ++ (wX4 cI 72 dr vr)))) (va_A ((wX0 d (dj 0) (ds 0) (dp 0) (dr 0) v) ++ (wX4 cI 72 dr vr)) sz)) 0 0 (va_A ((wX0 d (dj 0) (ds 0) (dp 0) (dr 0) v) ++ (wX4 cI 72 dr vr)) sz) := by
  refine z_meti (cc := cX0_longestGreen) (maxL := 4) (own := RX0) (lv0 := [(0, .ref (d 0)), (1, .int x1)]) (by decide) rfl rfl (Nat.le_of_ble_eq_true rfl) rfl ?_
  intro p e s m args below meth c A QQ C hin hret
  have J39 : ∀ (K5 : Int32 → Int32 → Prop), (∀ (x2 : Int32) (x3 : Int32), K5 x2 x3 → ZZ p l e rmX0_longestGreen s m args below meth c D A 4 0 0 QQ 5 ((wX0 d (dj 0) (ds 0) (dp 0) (dr 0) v) ++ (wX4 cI 72 dr vr)) [(0, .ref (d 0)), (1, .int x1), (2, .int x2), (3, .int x3)] []) → ∀ (x2 : Int32) (x3 : Int32), pX0_longestGreen_J39 vr x1 Q K5 x2 x3 → ZZ p l e rmX0_longestGreen s m args below meth c D A 4 0 0 QQ 39 ((wX0 d (dj 0) (ds 0) (dp 0) (dr 0) v) ++ (wX4 cI 72 dr vr)) [(0, .ref (d 0)), (1, .int x1), (2, .int x2), (3, .int x3)] [] := by
    intro K5 hK5 x2 x3 h
    refine z_iinc (pc := 39) (v := (x3 + 1)) (lv' := [(3, .int (x3 + 1)), (0, .ref (d 0)), (1, .int x1), (2, .int x2)]) C 3 dX0_longestGreen_39 rfl rfl (by decide) rfl ?_
    refine z_goto (pc := 42) (tgt := 5) C dX0_longestGreen_42 (by decide) ?_
    refine z_sub (lv' := [(0, .ref (d 0)), (1, .int x1), (2, .int x2), (3, .int (x3 + 1))]) [1, 2, 3, 0] rfl ?_
    exact hK5 x2 (x3 + 1) h
  have L5 : ∀ (n5 : Nat) (x2 : Int32) (x3 : Int32), pX0_longestGreen_L5 vr x1 Q n5 x2 x3 → ZZ p l e rmX0_longestGreen s m args below meth c D A 4 0 0 QQ 5 ((wX0 d (dj 0) (ds 0) (dp 0) (dr 0) v) ++ (wX4 cI 72 dr vr)) [(0, .ref (d 0)), (1, .int x1), (2, .int x2), (3, .int x3)] [] := by
    intro n5
    induction n5 with
    | zero => intro x2 x3 h; exact False.elim h
    | succ n5 ih5 =>
      intro x2 x3 h
      refine z_iload_n (pc := 5) C 3 dX0_longestGreen_5 rfl ?_
      refine z_aload_n (pc := 6) C 0 dX0_longestGreen_6 rfl ?_
      refine z_get (pc := 7) C uw0 0 rfl rfl 3 (by decide) wq49 rfl dX0_longestGreen_7 ?_
      refine z_get (pc := 10) C uw4 1 rfl rfl 0 (by decide) wq290 rfl dX0_longestGreen_10 ?_
      refine z_icmp_ge (pc := 13) (tgt := 45) C dX0_longestGreen_13 (by decide) (fun c1 => ?_) (fun c1 => ?_)
      · have h := h.1 c1
        refine z_iload_n (pc := 45) C 2 dX0_longestGreen_45 rfl ?_
        exact hret 46 _ _ x2 () rfl h dX0_longestGreen_46
      · have h := h.2 c1
        refine z_aload_n (pc := 16) C 0 dX0_longestGreen_16 rfl ?_
        refine z_get (pc := 17) C uw0 0 rfl rfl 3 (by decide) wq49 rfl dX0_longestGreen_17 ?_
        refine z_iload_n (pc := 20) C 3 dX0_longestGreen_20 rfl ?_
        refine z_iconst (pc := 21) (v := 0) C dX0_longestGreen_21 (by decide) ?_
        refine z_callRi (pc := 22) C (z_runV (pc := 22) (wc := (wX4 cI 72 dr vr)) (As := [.int x3, .int (0 : Int32)]) C (fun sz => kX4_at dr 72 vr x3 (0 : Int32) sz h) [1, 2] rfl (by decide) (gdV wq288 wq291 wq292 wq293 wq48) rfl rfl rfl hdX4_at 1 rfl rfl rfl ⟨Nat.le_of_ble_eq_true rfl, Nat.le_of_ble_eq_true rfl⟩ rfl (Nat.le_of_ble_eq_true rfl) ⟨Nat.zero_le _, Nat.zero_le _⟩ dX0_longestGreen_22) [1, 2] rfl (by decide) (fun r2 u2 h => ?_)
        refine z_iload_n (pc := 25) C 1 dX0_longestGreen_25 rfl ?_
        refine z_icmp_ne (pc := 26) (tgt := 39) C dX0_longestGreen_26 (by decide) (fun c3 => ?_) (fun c3 => ?_)
        · have h := h.1 c3
          exact J39 (fun x2 x3 => pX0_longestGreen_L5 vr x1 Q n5 x2 x3) ih5 x2 x3 h
        · have h := h.2 c3
          refine z_iload_n (pc := 29) C 2 dX0_longestGreen_29 rfl ?_
          refine z_aload_n (pc := 30) C 0 dX0_longestGreen_30 rfl ?_
          refine z_iload_n (pc := 31) C 3 dX0_longestGreen_31 rfl ?_
          refine z_callRi (pc := 32) C (z_runV (pc := 32) (wc := ((wX0 d (dj 0) (ds 0) (dp 0) (dr 0) v) ++ (wX4 cI 72 dr vr))) (As := [.int x3]) C (fun sz => kX0_recordedLength d dj ds dp dr v vr x3 sz h) [0, 1, 2] rfl (by decide) (gdV wq294 wq296 wq297 wq298 wq108) rfl rfl rfl hdX0_recordedLength 0 rfl rfl rfl ⟨Nat.le_of_ble_eq_true rfl, Nat.le_of_ble_eq_true rfl⟩ rfl (Nat.le_of_ble_eq_true rfl) ⟨Nat.zero_le _, Nat.zero_le _⟩ dX0_longestGreen_32) [0, 1, 2] rfl (by decide) (fun r4 u4 h => ?_)
          refine z_mmax (pc := 35) C wq301 wq302 wq78 wq303 (Nat.le_of_ble_eq_true rfl) (Nat.le_of_ble_eq_true rfl) (Nat.zero_le _) (Nat.zero_le _) dX0_longestGreen_35 ?_
          refine z_istore_n (pc := 38) (lv' := [(2, .int (if x2 < r4 then r4 else x2)), (0, .ref (d 0)), (1, .int x1), (3, .int x3)]) C dX0_longestGreen_38 (by decide) rfl ?_
          refine z_sub (lv' := [(0, .ref (d 0)), (1, .int x1), (2, .int (if x2 < r4 then r4 else x2)), (3, .int x3)]) [1, 2, 0, 3] rfl ?_
          exact J39 (fun x2 x3 => pX0_longestGreen_L5 vr x1 Q n5 x2 x3) ih5 (if x2 < r4 then r4 else x2) x3 h
  refine z_bipush (pc := 0) (v := -5) C dX0_longestGreen_0 (by decide) ?_
  refine z_istore_n (pc := 2) (lv' := [(2, .int (-5 : Int32)), (0, .ref (d 0)), (1, .int x1)]) C dX0_longestGreen_2 (by decide) rfl ?_
  refine z_iconst (pc := 3) (v := 0) C dX0_longestGreen_3 (by decide) ?_
  refine z_istore_n (pc := 4) (lv' := [(3, .int (0 : Int32)), (2, .int (-5 : Int32)), (0, .ref (d 0)), (1, .int x1)]) C dX0_longestGreen_4 (by decide) rfl ?_
  obtain ⟨n5, h⟩ := h
  refine z_sub (lv' := [(0, .ref (d 0)), (1, .int x1), (2, .int (-5 : Int32)), (3, .int (0 : Int32))]) [2, 3, 1, 0] rfl ?_
  exact L5  n5 (-5 : Int32) (0 : Int32) h

def pX0_takersNow_J85 (vj : Lf) (vs : Lf) (x1 : Int32) (x2 : Int32) (Q : Int32 → Prop) (K5 : Int32 → Int32 → Prop) (x3 : Int32) (x4 : Int32) : Prop := (K5 x3 (x4 + 1))
def pX0_takersNow_J44 (vj : Lf) (vs : Lf) (x1 : Int32) (x2 : Int32) (Q : Int32 → Prop) (K5 : Int32 → Int32 → Prop) (x3 : Int32) (x4 : Int32) (t0 : Int32) : Prop := ((t0 = (-5 : Int32) → (pX0_takersNow_J85 vj vs x1 x2 Q K5 x3 x4)) ∧ (¬ t0 = (-5 : Int32) → (vp_in x4 8 ∧ (pX1_reaches vj x4 t0 (vs 5 x4.toNatClampNeg) (fun r6 => ((x2 < r6 → (pX0_takersNow_J85 vj vs x1 x2 Q K5 x3 x4)) ∧ (¬ x2 < r6 → (pX0_takersNow_J85 vj vs x1 x2 Q K5 (x3 ||| ((1 : Int32) <<< (x4 &&& 31))) x4))))))))
def pX0_takersNow_L5 (vj : Lf) (vs : Lf) (x1 : Int32) (x2 : Int32) (Q : Int32 → Prop) : Nat → Int32 → Int32 → Prop
  | 0, _, _ => False
  | n5 + 1, x3, x4 => (((vj 0 0) ≤ x4 → (Q x3 )) ∧ (¬ (vj 0 0) ≤ x4 → (pX5_isGreen vs x4 (fun r2 => ((r2 = 0 → (pX0_takersNow_J44 vj vs x1 x2 Q (fun x3 x4 => pX0_takersNow_L5 vj vs x1 x2 Q n5 x3 x4) x3 x4 (-5 : Int32))) ∧ (¬ r2 = 0 → (pX1_placeOf vj x4 x1 (fun r8 => (pX0_takersNow_J44 vj vs x1 x2 Q (fun x3 x4 => pX0_takersNow_L5 vj vs x1 x2 Q n5 x3 x4) x3 x4 r8)))))))))
def pX0_takersNow (vj : Lf) (vs : Lf) (x1 : Int32) (x2 : Int32) (Q : Int32 → Prop) : Prop := (∃ n5, pX0_takersNow_L5 vj vs x1 x2 Q  n5 (0 : Int32) (0 : Int32))
abbrev rmX0_takersNow : Room := { frames := 2, cells := 0, slots := 0, locals := 45 }
abbrev wdX0_takersNow : List Cond := Cond.code yX0_takersNow cX0_takersNow 6 (some .int) :: TB
theorem hdSX0_takersNow : (yX0_takersNow).cls ≠ "java/lang/invoke/MethodHandle" ∧ (yX0_takersNow).cls ≠ "java/lang/invoke/VarHandle" ∧ (parseMethodDescriptor (yX0_takersNow).desc).map (fun d => d.parameters.length) = some 2 := by decide +kernel
theorem hdX0_takersNow : (yX0_takersNow).cls = RX0 ∧ (yX0_takersNow).cls ≠ "java/lang/invoke/MethodHandle" ∧ (yX0_takersNow).cls ≠ "java/lang/invoke/VarHandle" ∧ (parseMethodDescriptor (yX0_takersNow).desc).map (fun d => d.parameters.length) = some 2 := ⟨rfl, hdSX0_takersNow⟩
set_option maxHeartbeats 4000000 in
set_option maxRecDepth 100000 in
theorem kX0_takersNow {l : Launch} {D : va_G} {cI cJ cT : ClassId} (d : Nat → Nat) (dj : Nat → Nat) (ds : Nat → Nat) (dp : Nat → Nat) (dr : Nat → Nat)  (v : Lf) (vj : Lf) (vs : Lf) (x1 : Int32) (x2 : Int32) {Q : Int32 → Prop} (sz : Nat) (h : pX0_takersNow vj vs x1 x2 Q) : Met l yX0_takersNow wdX0_takersNow rmX0_takersNow (Pz D (tyL cI cJ cT) [.ref (d 0), .int x1, .int x2] ((wX0 d (dj 0) (ds 0) (dp 0) (dr 0) v) ++ ((wX1 cI dj vj) ++ (wX5 cI ds vs))) sz) (va_Qi (fun (r : Int32) (u : Unit) => Q r) (Bz D (tyL cI cJ cT) ((wX0 d (dj 0) (ds 0) (dp 0) (dr 0) v) ++ ((wX1 cI dj vj) ++ (wX5 cI ds vs))) sz (fun (u : Unit) => ((wX0 d (dj 0) (ds 0) (dp 0) (dr 0) v) ++ ((wX1 cI dj vj) ++ (wX5 cI ds vs))))) (va_A ((wX0 d (dj 0) (ds 0) (dp 0) (dr 0) v) ++ ((wX1 cI dj vj) ++ (wX5 cI ds vs))) sz)) 0 0 (va_A ((wX0 d (dj 0) (ds 0) (dp 0) (dr 0) v) ++ ((wX1 cI dj vj) ++ (wX5 cI ds vs))) sz) := by
  refine z_meti (cc := cX0_takersNow) (maxL := 6) (own := RX0) (lv0 := [(0, .ref (d 0)), (1, .int x1), (2, .int x2)]) (by decide) rfl rfl (Nat.le_of_ble_eq_true rfl) rfl ?_
  intro p e s m args below meth c A QQ C hin hret
  have J85 : ∀ (K5 : Int32 → Int32 → Prop), (∀ (x3 : Int32) (x4 : Int32), K5 x3 x4 → ZZ p l e rmX0_takersNow s m args below meth c D A 6 0 0 QQ 5 ((wX0 d (dj 0) (ds 0) (dp 0) (dr 0) v) ++ ((wX1 cI dj vj) ++ (wX5 cI ds vs))) [(0, .ref (d 0)), (1, .int x1), (2, .int x2), (3, .int x3), (4, .int x4)] []) → ∀ (x3 : Int32) (x4 : Int32), pX0_takersNow_J85 vj vs x1 x2 Q K5 x3 x4 → ZZ p l e rmX0_takersNow s m args below meth c D A 6 0 0 QQ 85 ((wX0 d (dj 0) (ds 0) (dp 0) (dr 0) v) ++ ((wX1 cI dj vj) ++ (wX5 cI ds vs))) [(0, .ref (d 0)), (1, .int x1), (2, .int x2), (3, .int x3), (4, .int x4)] [] := by
    intro K5 hK5 x3 x4 h
    refine z_iinc (pc := 85) (v := (x4 + 1)) (lv' := [(4, .int (x4 + 1)), (0, .ref (d 0)), (1, .int x1), (2, .int x2), (3, .int x3)]) C 4 dX0_takersNow_85 rfl rfl (by decide) rfl ?_
    refine z_goto (pc := 88) (tgt := 5) C dX0_takersNow_88 (by decide) ?_
    refine z_sub (lv' := [(0, .ref (d 0)), (1, .int x1), (2, .int x2), (3, .int x3), (4, .int (x4 + 1))]) [1, 2, 3, 4, 0] rfl ?_
    exact hK5 x3 (x4 + 1) h
  have J44 : ∀ (K5 : Int32 → Int32 → Prop), (∀ (x3 : Int32) (x4 : Int32), K5 x3 x4 → ZZ p l e rmX0_takersNow s m args below meth c D A 6 0 0 QQ 5 ((wX0 d (dj 0) (ds 0) (dp 0) (dr 0) v) ++ ((wX1 cI dj vj) ++ (wX5 cI ds vs))) [(0, .ref (d 0)), (1, .int x1), (2, .int x2), (3, .int x3), (4, .int x4)] []) → ∀ (x3 : Int32) (x4 : Int32) (t0 : Int32), pX0_takersNow_J44 vj vs x1 x2 Q K5 x3 x4 t0 → ZZ p l e rmX0_takersNow s m args below meth c D A 6 0 0 QQ 44 ((wX0 d (dj 0) (ds 0) (dp 0) (dr 0) v) ++ ((wX1 cI dj vj) ++ (wX5 cI ds vs))) [(0, .ref (d 0)), (1, .int x1), (2, .int x2), (3, .int x3), (4, .int x4)] [.int t0] := by
    intro K5 hK5 x3 x4 t0 h
    refine z_istore (pc := 44) (lv' := [(5, .int t0), (0, .ref (d 0)), (1, .int x1), (2, .int x2), (3, .int x3), (4, .int x4)]) C dX0_takersNow_44 (by decide) rfl ?_
    refine z_iload (pc := 46) C 0 dX0_takersNow_46 rfl ?_
    refine z_bipush (pc := 48) (v := -5) C dX0_takersNow_48 (by decide) ?_
    refine z_icmp_eq (pc := 50) (tgt := 85) C dX0_takersNow_50 (by decide) (fun c4 => ?_) (fun c4 => ?_)
    · have h := h.1 c4
      refine z_sub (lv' := [(0, .ref (d 0)), (1, .int x1), (2, .int x2), (3, .int x3), (4, .int x4)]) [1, 2, 3, 4, 5] rfl ?_
      exact J85 K5 hK5 x3 x4 h
    · have h := h.2 c4
      refine z_iload_n (pc := 53) C 3 dX0_takersNow_53 rfl ?_
      refine z_aload_n (pc := 54) C 1 dX0_takersNow_54 rfl ?_
      refine z_get (pc := 55) C uw0 0 rfl rfl 0 (by decide) wq37 rfl dX0_takersNow_55 ?_
      refine z_iload (pc := 58) C 5 dX0_takersNow_58 rfl ?_
      refine z_iload (pc := 60) C 0 dX0_takersNow_60 rfl ?_
      refine z_aload_n (pc := 62) C 1 dX0_takersNow_62 rfl ?_
      refine z_get (pc := 63) C uw0 0 rfl rfl 1 (by decide) wq41 rfl dX0_takersNow_63 ?_
      refine z_get (pc := 66) C uw5 7 rfl rfl 5 (by decide) wq137 rfl dX0_takersNow_66 ?_
      refine z_iload (pc := 69) C 5 dX0_takersNow_69 rfl ?_
      obtain ⟨g5, h⟩ := h
      refine z_iald (pc := 71) C 12 0 rfl rfl g5 (vs 5 x4.toNatClampNeg) rfl dX0_takersNow_71 ?_
      refine z_callRi (pc := 72) C (z_runV (pc := 72) (wc := (wX1 cI dj vj)) (As := [.int x4, .int t0, .int (vs 5 x4.toNatClampNeg)]) C (fun sz => kX1_reaches dj vj x4 t0 (vs 5 x4.toNatClampNeg) sz h) [1, 2, 3, 4, 5, 6] rfl (by decide) (gdV wq310 wq317 wq318 wq319 wq36) rfl rfl rfl hdX1_reaches 1 rfl rfl rfl ⟨Nat.le_of_ble_eq_true rfl, Nat.le_of_ble_eq_true rfl⟩ rfl (Nat.le_of_ble_eq_true rfl) ⟨Nat.zero_le _, Nat.zero_le _⟩ dX0_takersNow_72) [1, 2, 3, 4, 5, 6] rfl (by decide) (fun r6 u6 h => ?_)
      refine z_icmp_lt (pc := 75) (tgt := 85) C dX0_takersNow_75 (by decide) (fun c7 => ?_) (fun c7 => ?_)
      · have h := h.1 c7
        refine z_sub (lv' := [(0, .ref (d 0)), (1, .int x1), (2, .int x2), (3, .int x3), (4, .int x4)]) [1, 2, 3, 4, 5] rfl ?_
        exact J85 K5 hK5 x3 x4 h
      · have h := h.2 c7
        refine z_iload_n (pc := 78) C 4 dX0_takersNow_78 rfl ?_
        refine z_iconst (pc := 79) (v := 1) C dX0_takersNow_79 (by decide) ?_
        refine z_iload (pc := 80) C 5 dX0_takersNow_80 rfl ?_
        refine z_ishl (pc := 82) C dX0_takersNow_82 ?_
        refine z_ior (pc := 83) C dX0_takersNow_83 ?_
        refine z_istore_n (pc := 84) (lv' := [(3, .int (x3 ||| ((1 : Int32) <<< (x4 &&& 31)))), (5, .int t0), (0, .ref (d 0)), (1, .int x1), (2, .int x2), (4, .int x4)]) C dX0_takersNow_84 (by decide) rfl ?_
        refine z_sub (lv' := [(0, .ref (d 0)), (1, .int x1), (2, .int x2), (3, .int (x3 ||| ((1 : Int32) <<< (x4 &&& 31)))), (4, .int x4)]) [2, 3, 4, 0, 5] rfl ?_
        exact J85 K5 hK5 (x3 ||| ((1 : Int32) <<< (x4 &&& 31))) x4 h
  have L5 : ∀ (n5 : Nat) (x3 : Int32) (x4 : Int32), pX0_takersNow_L5 vj vs x1 x2 Q n5 x3 x4 → ZZ p l e rmX0_takersNow s m args below meth c D A 6 0 0 QQ 5 ((wX0 d (dj 0) (ds 0) (dp 0) (dr 0) v) ++ ((wX1 cI dj vj) ++ (wX5 cI ds vs))) [(0, .ref (d 0)), (1, .int x1), (2, .int x2), (3, .int x3), (4, .int x4)] [] := by
    intro n5
    induction n5 with
    | zero => intro x3 x4 h; exact False.elim h
    | succ n5 ih5 =>
      intro x3 x4 h
      refine z_iload (pc := 5) C 4 dX0_takersNow_5 rfl ?_
      refine z_aload_n (pc := 7) C 0 dX0_takersNow_7 rfl ?_
      refine z_get (pc := 8) C uw0 0 rfl rfl 0 (by decide) wq37 rfl dX0_takersNow_8 ?_
      refine z_get (pc := 11) C uw1 1 rfl rfl 0 (by decide) wq122 rfl dX0_takersNow_11 ?_
      refine z_icmp_ge (pc := 14) (tgt := 91) C dX0_takersNow_14 (by decide) (fun c1 => ?_) (fun c1 => ?_)
      · have h := h.1 c1
        refine z_iload_n (pc := 91) C 3 dX0_takersNow_91 rfl ?_
        exact hret 92 _ _ x3 () rfl h dX0_takersNow_92
      · have h := h.2 c1
        refine z_aload_n (pc := 17) C 0 dX0_takersNow_17 rfl ?_
        refine z_get (pc := 18) C uw0 0 rfl rfl 1 (by decide) wq41 rfl dX0_takersNow_18 ?_
        refine z_iload (pc := 21) C 4 dX0_takersNow_21 rfl ?_
        refine z_callRi (pc := 23) C (z_runV (pc := 23) (wc := (wX5 cI ds vs)) (As := [.int x4]) C (fun sz => kX5_isGreen ds vs x4 sz h) [7, 8, 9, 10, 11, 12, 13, 14] rfl (by decide) (gdV wq135 wq138 wq139 wq140 wq40) rfl rfl rfl hdX5_isGreen 7 rfl rfl rfl ⟨Nat.le_of_ble_eq_true rfl, Nat.le_of_ble_eq_true rfl⟩ rfl (Nat.le_of_ble_eq_true rfl) ⟨Nat.zero_le _, Nat.zero_le _⟩ dX0_takersNow_23) [7, 8, 9, 10, 11, 12, 13, 14] rfl (by decide) (fun r2 u2 h => ?_)
        refine z_if_eq (pc := 26) (tgt := 42) C dX0_takersNow_26 (by decide) (fun c3 => ?_) (fun c3 => ?_)
        · have h := h.1 c3
          refine z_bipush (pc := 42) (v := -5) C dX0_takersNow_42 (by decide) ?_
          exact J44 (fun x3 x4 => pX0_takersNow_L5 vj vs x1 x2 Q n5 x3 x4) ih5 x3 x4 (-5 : Int32) h
        · have h := h.2 c3
          refine z_aload_n (pc := 29) C 0 dX0_takersNow_29 rfl ?_
          refine z_get (pc := 30) C uw0 0 rfl rfl 0 (by decide) wq37 rfl dX0_takersNow_30 ?_
          refine z_iload (pc := 33) C 4 dX0_takersNow_33 rfl ?_
          refine z_iload_n (pc := 35) C 1 dX0_takersNow_35 rfl ?_
          refine z_callRi (pc := 36) C (z_runV (pc := 36) (wc := (wX1 cI dj vj)) (As := [.int x4, .int x1]) C (fun sz => kX1_placeOf dj vj x4 x1 sz h) [1, 2, 3, 4, 5, 6] rfl (by decide) (gdV wq305 wq314 wq315 wq316 wq36) rfl rfl rfl hdX1_placeOf 1 rfl rfl rfl ⟨Nat.le_of_ble_eq_true rfl, Nat.le_of_ble_eq_true rfl⟩ rfl (Nat.le_of_ble_eq_true rfl) ⟨Nat.zero_le _, Nat.zero_le _⟩ dX0_takersNow_36) [1, 2, 3, 4, 5, 6] rfl (by decide) (fun r8 u8 h => ?_)
          refine z_goto (pc := 39) (tgt := 44) C dX0_takersNow_39 (by decide) ?_
          exact J44 (fun x3 x4 => pX0_takersNow_L5 vj vs x1 x2 Q n5 x3 x4) ih5 x3 x4 r8 h
  refine z_iconst (pc := 0) (v := 0) C dX0_takersNow_0 (by decide) ?_
  refine z_istore_n (pc := 1) (lv' := [(3, .int (0 : Int32)), (0, .ref (d 0)), (1, .int x1), (2, .int x2)]) C dX0_takersNow_1 (by decide) rfl ?_
  refine z_iconst (pc := 2) (v := 0) C dX0_takersNow_2 (by decide) ?_
  refine z_istore (pc := 3) (lv' := [(4, .int (0 : Int32)), (3, .int (0 : Int32)), (0, .ref (d 0)), (1, .int x1), (2, .int x2)]) C dX0_takersNow_3 (by decide) rfl ?_
  obtain ⟨n5, h⟩ := h
  refine z_sub (lv' := [(0, .ref (d 0)), (1, .int x1), (2, .int x2), (3, .int (0 : Int32)), (4, .int (0 : Int32))]) [2, 3, 4, 1, 0] rfl ?_
  exact L5  n5 (0 : Int32) (0 : Int32) h

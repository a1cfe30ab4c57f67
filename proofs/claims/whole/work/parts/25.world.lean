def pX8_copyFrom (vOc : Lf) (vOcj : Lf) (vOcs : Lf) (vOcp : Lf) (vOcr : Lf) (vOw : Lf) (vOg : Lf) (vOn : Lf) (vOq : Lf) (vc : Lf) (vcj : Lf) (vcs : Lf) (vcp : Lf) (vcr : Lf) (vw : Lf) (vg : Lf) (vn : Lf) (vq : Lf)  (Q : Lf → Lf → Lf → Lf → Lf → Lf → Lf → Lf → Lf → Prop) : Prop := (pX0_copyFrom vc vOc vOcj vOcs vOcp vOcr vcj vcs vcp vcr (fun vc_1 vcj_1 vcs_1 vcp_1 vcr_1 => (pX7_copyFrom vw vOw (fun vw_2 => (pX4_copyFrom 24 24 vg vOg (fun vg_3 => (pX4_copyFrom 15 15 vn vOn (fun vn_4 => (pX4_copyFrom 24 24 vq vOq (fun vq_5 => (Q vc_1 vcj_1 vcs_1 vcp_1 vcr_1 vw_2 vg_3 vn_4 vq_5)))))))))))
abbrev rmX8_copyFrom : Room := { frames := 3, cells := 0, slots := 0, locals := 142 }
abbrev wdX8_copyFrom : List Cond := Cond.code yX8_copyFrom cX8_copyFrom 2 none :: TB
theorem hdSX8_copyFrom : (yX8_copyFrom).cls ≠ "java/lang/invoke/MethodHandle" ∧ (yX8_copyFrom).cls ≠ "java/lang/invoke/VarHandle" ∧ (parseMethodDescriptor (yX8_copyFrom).desc).map (fun d => d.parameters.length) = some 1 := by decide +kernel
theorem hdX8_copyFrom : (yX8_copyFrom).cls = RX8 ∧ (yX8_copyFrom).cls ≠ "java/lang/invoke/MethodHandle" ∧ (yX8_copyFrom).cls ≠ "java/lang/invoke/VarHandle" ∧ (parseMethodDescriptor (yX8_copyFrom).desc).map (fun d => d.parameters.length) = some 1 := ⟨rfl, hdSX8_copyFrom⟩
set_option maxHeartbeats 4000000 in
set_option maxRecDepth 100000 in
theorem kX8_copyFrom {l : Launch} {D : va_G} {cI cJ cT : ClassId} (d : Nat → Nat) (dc : Nat → Nat) (dw : Nat → Nat) (dg : Nat → Nat) (dn : Nat → Nat) (dq : Nat → Nat) (dO : Nat → Nat) (dOc : Nat → Nat) (dOw : Nat → Nat) (dOg : Nat → Nat) (dOn : Nat → Nat) (dOq : Nat → Nat) (dOcj : Nat → Nat) (dOcs : Nat → Nat) (dOcp : Nat → Nat) (dOcr : Nat → Nat) (dcj : Nat → Nat) (dcs : Nat → Nat) (dcp : Nat → Nat) (dcr : Nat → Nat)  (vOc : Lf) (vOcj : Lf) (vOcs : Lf) (vOcp : Lf) (vOcr : Lf) (vOw : Lf) (vOg : Lf) (vOn : Lf) (vOq : Lf) (vc : Lf) (vcj : Lf) (vcs : Lf) (vcp : Lf) (vcr : Lf) (vw : Lf) (vg : Lf) (vn : Lf) (vq : Lf)  {Q : Lf → Lf → Lf → Lf → Lf → Lf → Lf → Lf → Lf → Prop} (sz : Nat) (h : pX8_copyFrom vOc vOcj vOcs vOcp vOcr vOw vOg vOn vOq vc vcj vcs vcp vcr vw vg vn vq Q) : Met l yX8_copyFrom wdX8_copyFrom rmX8_copyFrom (Pz D (tyL cI cJ cT) [.ref (d 0), .ref (dO 0)] ((wX8 d (dc 0) (dw 0) (dg 0) (dn 0) (dq 0)) ++ ((wX8 dO (dOc 0) (dOw 0) (dOg 0) (dOn 0) (dOq 0)) ++ ((wX0 dOc (dOcj 0) (dOcs 0) (dOcp 0) (dOcr 0) vOc) ++ ((wX1 cI dOcj vOcj) ++ ((wX5 cI dOcs vOcs) ++ ((wX2 cI dOcp vOcp) ++ ((wX4 cI 72 dOcr vOcr) ++ ((wX7 cI dOw vOw) ++ ((wX4 cI 24 dOg vOg) ++ ((wX4 cI 15 dOn vOn) ++ ((wX4 cI 24 dOq vOq) ++ ((wX0 dc (dcj 0) (dcs 0) (dcp 0) (dcr 0) vc) ++ ((wX1 cI dcj vcj) ++ ((wX5 cI dcs vcs) ++ ((wX2 cI dcp vcp) ++ ((wX4 cI 72 dcr vcr) ++ ((wX7 cI dw vw) ++ ((wX4 cI 24 dg vg) ++ ((wX4 cI 15 dn vn) ++ (wX4 cI 24 dq vq)))))))))))))))))))) sz) (va_Qv (fun (u : Lf × Lf × Lf × Lf × Lf × Lf × Lf × Lf × Lf) => Q u.1 u.2.1 u.2.2.1 u.2.2.2.1 u.2.2.2.2.1 u.2.2.2.2.2.1 u.2.2.2.2.2.2.1 u.2.2.2.2.2.2.2.1 u.2.2.2.2.2.2.2.2) (Bz D (tyL cI cJ cT) ((wX8 d (dc 0) (dw 0) (dg 0) (dn 0) (dq 0)) ++ ((wX8 dO (dOc 0) (dOw 0) (dOg 0) (dOn 0) (dOq 0)) ++ ((wX0 dOc (dOcj 0) (dOcs 0) (dOcp 0) (dOcr 0) vOc) ++ ((wX1 cI dOcj vOcj) ++ ((wX5 cI dOcs vOcs) ++ ((wX2 cI dOcp vOcp) ++ ((wX4 cI 72 dOcr vOcr) ++ ((wX7 cI dOw vOw) ++ ((wX4 cI 24 dOg vOg) ++ ((wX4 cI 15 dOn vOn) ++ ((wX4 cI 24 dOq vOq) ++ ((wX0 dc (dcj 0) (dcs 0) (dcp 0) (dcr 0) vc) ++ ((wX1 cI dcj vcj) ++ ((wX5 cI dcs vcs) ++ ((wX2 cI dcp vcp) ++ ((wX4 cI 72 dcr vcr) ++ ((wX7 cI dw vw) ++ ((wX4 cI 24 dg vg) ++ ((wX4 cI 15 dn vn) ++ (wX4 cI 24 dq vq)))))))))))))))))))) sz (fun (u : Lf × Lf × Lf × Lf × Lf × Lf × Lf × Lf × Lf) => ((wX8 d (dc 0) (dw 0) (dg 0) (dn 0) (dq 0)) ++ ((wX8 dO (dOc 0) (dOw 0) (dOg 0) (dOn 0) (dOq 0)) ++ ((wX0 dOc (dOcj 0) (dOcs 0) (dOcp 0) (dOcr 0) vOc) ++ ((wX1 cI dOcj vOcj) ++ ((wX5 cI dOcs vOcs) ++ ((wX2 cI dOcp vOcp) ++ ((wX4 cI 72 dOcr vOcr) ++ ((wX7 cI dOw vOw) ++ ((wX4 cI 24 dOg vOg) ++ ((wX4 cI 15 dOn vOn) ++ ((wX4 cI 24 dOq vOq) ++ ((wX0 dc (dcj 0) (dcs 0) (dcp 0) (dcr 0) u.1) ++ ((wX1 cI dcj u.2.1) ++ ((wX5 cI dcs u.2.2.1) ++ ((wX2 cI dcp u.2.2.2.1) ++ ((wX4 cI 72 dcr u.2.2.2.2.1) ++ ((wX7 cI dw u.2.2.2.2.2.1) ++ ((wX4 cI 24 dg u.2.2.2.2.2.2.1) ++ ((wX4 cI 15 dn u.2.2.2.2.2.2.2.1) ++ (wX4 cI 24 dq u.2.2.2.2.2.2.2.2)))))))))))))))))))))) (va_A ((wX8 d (dc 0) (dw 0) (dg 0) (dn 0) (dq 0)) ++ ((wX8 dO (dOc 0) (dOw 0) (dOg 0) (dOn 0) (dOq 0)) ++ ((wX0 dOc (dOcj 0) (dOcs 0) (dOcp 0) (dOcr 0) vOc) ++ ((wX1 cI dOcj vOcj) ++ ((wX5 cI dOcs vOcs) ++ ((wX2 cI dOcp vOcp) ++ ((wX4 cI 72 dOcr vOcr) ++ ((wX7 cI dOw vOw) ++ ((wX4 cI 24 dOg vOg) ++ ((wX4 cI 15 dOn vOn) ++ ((wX4 cI 24 dOq vOq) ++ ((wX0 dc (dcj 0) (dcs 0) (dcp 0) (dcr 0) vc) ++ ((wX1 cI dcj vcj) ++ ((wX5 cI dcs vcs) ++ ((wX2 cI dcp vcp) ++ ((wX4 cI 72 dcr vcr) ++ ((wX7 cI dw vw) ++ ((wX4 cI 24 dg vg) ++ ((wX4 cI 15 dn vn) ++ (wX4 cI 24 dq vq)))))))))))))))))))) sz)) 0 0 (va_A ((wX8 d (dc 0) (dw 0) (dg 0) (dn 0) (dq 0)) ++ ((wX8 dO (dOc 0) (dOw 0) (dOg 0) (dOn 0) (dOq 0)) ++ ((wX0 dOc (dOcj 0) (dOcs 0) (dOcp 0) (dOcr 0) vOc) ++ ((wX1 cI dOcj vOcj) ++ ((wX5 cI dOcs vOcs) ++ ((wX2 cI dOcp vOcp) ++ ((wX4 cI 72 dOcr vOcr) ++ ((wX7 cI dOw vOw) ++ ((wX4 cI 24 dOg vOg) ++ ((wX4 cI 15 dOn vOn) ++ ((wX4 cI 24 dOq vOq) ++ ((wX0 dc (dcj 0) (dcs 0) (dcp 0) (dcr 0) vc) ++ ((wX1 cI dcj vcj) ++ ((wX5 cI dcs vcs) ++ ((wX2 cI dcp vcp) ++ ((wX4 cI 72 dcr vcr) ++ ((wX7 cI dw vw) ++ ((wX4 cI 24 dg vg) ++ ((wX4 cI 15 dn vn) ++ (wX4 cI 24 dq vq)))))))))))))))))))) sz) := by
  refine z_metv (cc := cX8_copyFrom) (maxL := 2) (own := RX8) (lv0 := [(0, .ref (d 0)), (1, .ref (dO 0))]) (by decide) rfl rfl (Nat.le_of_ble_eq_true rfl) rfl ?_
  intro p e s m args below meth c A QQ C hin hret
  refine z_aload_n (pc := 0) C 0 dX8_copyFrom_0 rfl ?_
  refine z_get (pc := 1) C uw8 0 rfl rfl 0 (by decide) wq474 rfl dX8_copyFrom_1 ?_
  refine z_aload_n (pc := 4) C 1 dX8_copyFrom_4 rfl ?_
  refine z_get (pc := 5) C uw8 1 rfl rfl 0 (by decide) wq474 rfl dX8_copyFrom_5 ?_
  refine z_callv (pc := 8) (wr := ((wX8 d (dc 0) (dw 0) (dg 0) (dn 0) (dq 0)) ++ ((wX8 dO (dOc 0) (dOw 0) (dOg 0) (dOn 0) (dOq 0)) ++ ((wX7 cI dOw vOw) ++ ((wX4 cI 24 dOg vOg) ++ ((wX4 cI 15 dOn vOn) ++ ((wX4 cI 24 dOq vOq) ++ ((wX7 cI dw vw) ++ ((wX4 cI 24 dg vg) ++ ((wX4 cI 15 dn vn) ++ (wX4 cI 24 dq vq))))))))))) (w1 := fun (u : Lf × Lf × Lf × Lf × Lf) => ((wX0 dc (dcj 0) (dcs 0) (dcp 0) (dcr 0) u.1) ++ ((wX0 dOc (dOcj 0) (dOcs 0) (dOcp 0) (dOcr 0) vOc) ++ ((wX1 cI dOcj vOcj) ++ ((wX5 cI dOcs vOcs) ++ ((wX2 cI dOcp vOcp) ++ ((wX4 cI 72 dOcr vOcr) ++ ((wX1 cI dcj u.2.1) ++ ((wX5 cI dcs u.2.2.1) ++ ((wX2 cI dcp u.2.2.2.1) ++ (wX4 cI 72 dcr u.2.2.2.2))))))))))) (w2 := fun (u : Lf × Lf × Lf × Lf × Lf) => ((wX8 d (dc 0) (dw 0) (dg 0) (dn 0) (dq 0)) ++ ((wX8 dO (dOc 0) (dOw 0) (dOg 0) (dOn 0) (dOq 0)) ++ ((wX0 dOc (dOcj 0) (dOcs 0) (dOcp 0) (dOcr 0) vOc) ++ ((wX1 cI dOcj vOcj) ++ ((wX5 cI dOcs vOcs) ++ ((wX2 cI dOcp vOcp) ++ ((wX4 cI 72 dOcr vOcr) ++ ((wX7 cI dOw vOw) ++ ((wX4 cI 24 dOg vOg) ++ ((wX4 cI 15 dOn vOn) ++ ((wX4 cI 24 dOq vOq) ++ ((wX0 dc (dcj 0) (dcs 0) (dcp 0) (dcr 0) u.1) ++ ((wX1 cI dcj u.2.1) ++ ((wX5 cI dcs u.2.2.1) ++ ((wX2 cI dcp u.2.2.2.1) ++ ((wX4 cI 72 dcr u.2.2.2.2) ++ ((wX7 cI dw vw) ++ ((wX4 cI 24 dg vg) ++ ((wX4 cI 15 dn vn) ++ (wX4 cI 24 dq vq))))))))))))))))))))) C (z_runV (pc := 8) (wc := ((wX0 dc (dcj 0) (dcs 0) (dcp 0) (dcr 0) vc) ++ ((wX0 dOc (dOcj 0) (dOcs 0) (dOcp 0) (dOcr 0) vOc) ++ ((wX1 cI dOcj vOcj) ++ ((wX5 cI dOcs vOcs) ++ ((wX2 cI dOcp vOcp) ++ ((wX4 cI 72 dOcr vOcr) ++ ((wX1 cI dcj vcj) ++ ((wX5 cI dcs vcs) ++ ((wX2 cI dcp vcp) ++ (wX4 cI 72 dcr vcr))))))))))) (As := [.ref (dOc 0)]) C (fun sz => kX0_copyFrom dc dcj dcs dcp dcr dOc dOcj dOcs dOcp dOcr vc vOc vOcj vOcs vOcp vOcr vcj vcs vcp vcr sz h) [31, 2, 3, 4, 5, 6, 7, 8, 9, 10, 11, 12, 13, 14, 15, 16, 17, 18, 19, 20, 21, 22, 32, 33, 34, 35, 36, 37, 38, 39, 40, 41, 42, 43, 44, 45, 46, 47, 48, 49, 50, 51] rfl (by decide) (gdV wq101 wq486 wq487 wq488 wq108) rfl rfl rfl hdX0_copyFrom 31 rfl rfl rfl ⟨Nat.le_of_ble_eq_true rfl, Nat.le_of_ble_eq_true rfl⟩ rfl (Nat.le_of_ble_eq_true rfl) ⟨Nat.zero_le _, Nat.zero_le _⟩ dX8_copyFrom_8) [31, 2, 3, 4, 5, 6, 7, 8, 9, 10, 11, 12, 13, 14, 15, 16, 17, 18, 19, 20, 21, 22, 32, 33, 34, 35, 36, 37, 38, 39, 40, 41, 42, 43, 44, 45, 46, 47, 48, 49, 50, 51] [0, 1, 23, 24, 25, 26, 27, 28, 29, 30, 52, 53, 54, 55, 56, 57, 58, 59] [0, 1, 19, 20, 21, 22, 23, 24, 25, 26, 27, 28, 29, 30, 31, 32, 33, 34, 35, 36, 37, 38, 39, 2, 3, 4, 5, 6, 7, 8, 9, 18, 40, 41, 42, 43, 44, 45, 46, 47, 48, 49, 50, 51, 52, 53, 54, 55, 56, 57, 58, 59, 10, 11, 12, 13, 14, 15, 16, 17] rfl rfl (by decide) (by decide) (fun _ => rfl) (by decide) (fun u1 h => ?_)
  obtain ⟨vc_1, vcj_1, vcs_1, vcp_1, vcr_1⟩ := u1
  dsimp only at h
  refine z_aload_n (pc := 11) C 0 dX8_copyFrom_11 rfl ?_
  refine z_get (pc := 12) C uw8 0 rfl rfl 1 (by decide) wq477 rfl dX8_copyFrom_12 ?_
  refine z_aload_n (pc := 15) C 1 dX8_copyFrom_15 rfl ?_
  refine z_get (pc := 16) C uw8 1 rfl rfl 1 (by decide) wq477 rfl dX8_copyFrom_16 ?_
  refine z_callv (pc := 19) (wr := ((wX8 d (dc 0) (dw 0) (dg 0) (dn 0) (dq 0)) ++ ((wX8 dO (dOc 0) (dOw 0) (dOg 0) (dOn 0) (dOq 0)) ++ ((wX0 dOc (dOcj 0) (dOcs 0) (dOcp 0) (dOcr 0) vOc) ++ ((wX1 cI dOcj vOcj) ++ ((wX5 cI dOcs vOcs) ++ ((wX2 cI dOcp vOcp) ++ ((wX4 cI 72 dOcr vOcr) ++ ((wX4 cI 24 dOg vOg) ++ ((wX4 cI 15 dOn vOn) ++ ((wX4 cI 24 dOq vOq) ++ ((wX0 dc (dcj 0) (dcs 0) (dcp 0) (dcr 0) vc_1) ++ ((wX1 cI dcj vcj_1) ++ ((wX5 cI dcs vcs_1) ++ ((wX2 cI dcp vcp_1) ++ ((wX4 cI 72 dcr vcr_1) ++ ((wX4 cI 24 dg vg) ++ ((wX4 cI 15 dn vn) ++ (wX4 cI 24 dq vq))))))))))))))))))) (w1 := fun (u : Lf) => ((wX7 cI dw u) ++ (wX7 cI dOw vOw))) (w2 := fun (u : Lf) => ((wX8 d (dc 0) (dw 0) (dg 0) (dn 0) (dq 0)) ++ ((wX8 dO (dOc 0) (dOw 0) (dOg 0) (dOn 0) (dOq 0)) ++ ((wX0 dOc (dOcj 0) (dOcs 0) (dOcp 0) (dOcr 0) vOc) ++ ((wX1 cI dOcj vOcj) ++ ((wX5 cI dOcs vOcs) ++ ((wX2 cI dOcp vOcp) ++ ((wX4 cI 72 dOcr vOcr) ++ ((wX7 cI dOw vOw) ++ ((wX4 cI 24 dOg vOg) ++ ((wX4 cI 15 dOn vOn) ++ ((wX4 cI 24 dOq vOq) ++ ((wX0 dc (dcj 0) (dcs 0) (dcp 0) (dcr 0) vc_1) ++ ((wX1 cI dcj vcj_1) ++ ((wX5 cI dcs vcs_1) ++ ((wX2 cI dcp vcp_1) ++ ((wX4 cI 72 dcr vcr_1) ++ ((wX7 cI dw u) ++ ((wX4 cI 24 dg vg) ++ ((wX4 cI 15 dn vn) ++ (wX4 cI 24 dq vq))))))))))))))))))))) C (z_runV (pc := 19) (wc := ((wX7 cI dw vw) ++ (wX7 cI dOw vOw))) (As := [.ref (dOw 0)]) C (fun sz => kX7_copyFrom dw dOw vw vOw sz h) [52, 53, 23, 24] rfl (by decide) (gdV wq420 wq489 wq490 wq491 wq430) rfl rfl rfl hdX7_copyFrom 52 rfl rfl rfl ⟨Nat.le_of_ble_eq_true rfl, Nat.le_of_ble_eq_true rfl⟩ rfl (Nat.le_of_ble_eq_true rfl) ⟨Nat.zero_le _, Nat.zero_le _⟩ dX8_copyFrom_19) [52, 53, 23, 24] [0, 1, 2, 3, 4, 5, 6, 7, 8, 9, 10, 11, 12, 13, 14, 15, 16, 17, 18, 19, 20, 21, 22, 25, 26, 27, 28, 29, 30, 31, 32, 33, 34, 35, 36, 37, 38, 39, 40, 41, 42, 43, 44, 45, 46, 47, 48, 49, 50, 51, 54, 55, 56, 57, 58, 59] [0, 1, 2, 3, 4, 5, 6, 7, 8, 9, 10, 11, 12, 13, 14, 15, 16, 17, 18, 19, 20, 21, 22, 58, 59, 23, 24, 25, 26, 27, 28, 29, 30, 31, 32, 33, 34, 35, 36, 37, 38, 39, 40, 41, 42, 43, 44, 45, 46, 47, 48, 49, 56, 57, 50, 51, 52, 53, 54, 55] rfl rfl (by decide) (by decide) (fun _ => rfl) (by decide) (fun u2 h => ?_)
  obtain ⟨vw_2, hu2⟩ : ∃ z, z = u2 := ⟨_, rfl⟩
  subst hu2
  refine z_aload_n (pc := 22) C 0 dX8_copyFrom_22 rfl ?_
  refine z_get (pc := 23) C uw8 0 rfl rfl 2 (by decide) wq479 rfl dX8_copyFrom_23 ?_
  refine z_aload_n (pc := 26) C 1 dX8_copyFrom_26 rfl ?_
  refine z_get (pc := 27) C uw8 1 rfl rfl 2 (by decide) wq479 rfl dX8_copyFrom_27 ?_
  refine z_callv (pc := 30) (wr := ((wX8 d (dc 0) (dw 0) (dg 0) (dn 0) (dq 0)) ++ ((wX8 dO (dOc 0) (dOw 0) (dOg 0) (dOn 0) (dOq 0)) ++ ((wX0 dOc (dOcj 0) (dOcs 0) (dOcp 0) (dOcr 0) vOc) ++ ((wX1 cI dOcj vOcj) ++ ((wX5 cI dOcs vOcs) ++ ((wX2 cI dOcp vOcp) ++ ((wX4 cI 72 dOcr vOcr) ++ ((wX7 cI dOw vOw) ++ ((wX4 cI 15 dOn vOn) ++ ((wX4 cI 24 dOq vOq) ++ ((wX0 dc (dcj 0) (dcs 0) (dcp 0) (dcr 0) vc_1) ++ ((wX1 cI dcj vcj_1) ++ ((wX5 cI dcs vcs_1) ++ ((wX2 cI dcp vcp_1) ++ ((wX4 cI 72 dcr vcr_1) ++ ((wX7 cI dw vw_2) ++ ((wX4 cI 15 dn vn) ++ (wX4 cI 24 dq vq))))))))))))))))))) (w1 := fun (u : Lf) => ((wX4 cI 24 dg u) ++ (wX4 cI 24 dOg vOg))) (w2 := fun (u : Lf) => ((wX8 d (dc 0) (dw 0) (dg 0) (dn 0) (dq 0)) ++ ((wX8 dO (dOc 0) (dOw 0) (dOg 0) (dOn 0) (dOq 0)) ++ ((wX0 dOc (dOcj 0) (dOcs 0) (dOcp 0) (dOcr 0) vOc) ++ ((wX1 cI dOcj vOcj) ++ ((wX5 cI dOcs vOcs) ++ ((wX2 cI dOcp vOcp) ++ ((wX4 cI 72 dOcr vOcr) ++ ((wX7 cI dOw vOw) ++ ((wX4 cI 24 dOg vOg) ++ ((wX4 cI 15 dOn vOn) ++ ((wX4 cI 24 dOq vOq) ++ ((wX0 dc (dcj 0) (dcs 0) (dcp 0) (dcr 0) vc_1) ++ ((wX1 cI dcj vcj_1) ++ ((wX5 cI dcs vcs_1) ++ ((wX2 cI dcp vcp_1) ++ ((wX4 cI 72 dcr vcr_1) ++ ((wX7 cI dw vw_2) ++ ((wX4 cI 24 dg u) ++ ((wX4 cI 15 dn vn) ++ (wX4 cI 24 dq vq))))))))))))))))))))) C (z_runV (pc := 30) (wc := ((wX4 cI 24 dg vg) ++ (wX4 cI 24 dOg vOg))) (As := [.ref (dOg 0)]) C (fun sz => kX4_copyFrom dg dOg 24 24 vg vOg sz h) [54, 55, 25, 26] rfl (by decide) (gdV wq74 wq492 wq99 wq100 wq48) rfl rfl rfl hdX4_copyFrom 54 rfl rfl rfl ⟨Nat.le_of_ble_eq_true rfl, Nat.le_of_ble_eq_true rfl⟩ rfl (Nat.le_of_ble_eq_true rfl) ⟨Nat.zero_le _, Nat.zero_le _⟩ dX8_copyFrom_30) [54, 55, 25, 26] [0, 1, 2, 3, 4, 5, 6, 7, 8, 9, 10, 11, 12, 13, 14, 15, 16, 17, 18, 19, 20, 21, 22, 23, 24, 27, 28, 29, 30, 31, 32, 33, 34, 35, 36, 37, 38, 39, 40, 41, 42, 43, 44, 45, 46, 47, 48, 49, 50, 51, 52, 53, 56, 57, 58, 59] [0, 1, 2, 3, 4, 5, 6, 7, 8, 9, 10, 11, 12, 13, 14, 15, 16, 17, 18, 19, 20, 21, 22, 23, 24, 58, 59, 25, 26, 27, 28, 29, 30, 31, 32, 33, 34, 35, 36, 37, 38, 39, 40, 41, 42, 43, 44, 45, 46, 47, 48, 49, 50, 51, 56, 57, 52, 53, 54, 55] rfl rfl (by decide) (by decide) (fun _ => rfl) (by decide) (fun u3 h => ?_)
  obtain ⟨vg_3, hu3⟩ : ∃ z, z = u3 := ⟨_, rfl⟩
  subst hu3
  refine z_aload_n (pc := 33) C 0 dX8_copyFrom_33 rfl ?_
  refine z_get (pc := 34) C uw8 0 rfl rfl 3 (by decide) wq480 rfl dX8_copyFrom_34 ?_
  refine z_aload_n (pc := 37) C 1 dX8_copyFrom_37 rfl ?_
  refine z_get (pc := 38) C uw8 1 rfl rfl 3 (by decide) wq480 rfl dX8_copyFrom_38 ?_
  refine z_callv (pc := 41) (wr := ((wX8 d (dc 0) (dw 0) (dg 0) (dn 0) (dq 0)) ++ ((wX8 dO (dOc 0) (dOw 0) (dOg 0) (dOn 0) (dOq 0)) ++ ((wX0 dOc (dOcj 0) (dOcs 0) (dOcp 0) (dOcr 0) vOc) ++ ((wX1 cI dOcj vOcj) ++ ((wX5 cI dOcs vOcs) ++ ((wX2 cI dOcp vOcp) ++ ((wX4 cI 72 dOcr vOcr) ++ ((wX7 cI dOw vOw) ++ ((wX4 cI 24 dOg vOg) ++ ((wX4 cI 24 dOq vOq) ++ ((wX0 dc (dcj 0) (dcs 0) (dcp 0) (dcr 0) vc_1) ++ ((wX1 cI dcj vcj_1) ++ ((wX5 cI dcs vcs_1) ++ ((wX2 cI dcp vcp_1) ++ ((wX4 cI 72 dcr vcr_1) ++ ((wX7 cI dw vw_2) ++ ((wX4 cI 24 dg vg_3) ++ (wX4 cI 24 dq vq))))))))))))))))))) (w1 := fun (u : Lf) => ((wX4 cI 15 dn u) ++ (wX4 cI 15 dOn vOn))) (w2 := fun (u : Lf) => ((wX8 d (dc 0) (dw 0) (dg 0) (dn 0) (dq 0)) ++ ((wX8 dO (dOc 0) (dOw 0) (dOg 0) (dOn 0) (dOq 0)) ++ ((wX0 dOc (dOcj 0) (dOcs 0) (dOcp 0) (dOcr 0) vOc) ++ ((wX1 cI dOcj vOcj) ++ ((wX5 cI dOcs vOcs) ++ ((wX2 cI dOcp vOcp) ++ ((wX4 cI 72 dOcr vOcr) ++ ((wX7 cI dOw vOw) ++ ((wX4 cI 24 dOg vOg) ++ ((wX4 cI 15 dOn vOn) ++ ((wX4 cI 24 dOq vOq) ++ ((wX0 dc (dcj 0) (dcs 0) (dcp 0) (dcr 0) vc_1) ++ ((wX1 cI dcj vcj_1) ++ ((wX5 cI dcs vcs_1) ++ ((wX2 cI dcp vcp_1) ++ ((wX4 cI 72 dcr vcr_1) ++ ((wX7 cI dw vw_2) ++ ((wX4 cI 24 dg vg_3) ++ ((wX4 cI 15 dn u) ++ (wX4 cI 24 dq vq))))))))))))))))))))) C (z_runV (pc := 41) (wc := ((wX4 cI 15 dn vn) ++ (wX4 cI 15 dOn vOn))) (As := [.ref (dOn 0)]) C (fun sz => kX4_copyFrom dn dOn 15 15 vn vOn sz h) [56, 57, 27, 28] rfl (by decide) (gdV wq74 wq492 wq99 wq100 wq48) rfl rfl rfl hdX4_copyFrom 56 rfl rfl rfl ⟨Nat.le_of_ble_eq_true rfl, Nat.le_of_ble_eq_true rfl⟩ rfl (Nat.le_of_ble_eq_true rfl) ⟨Nat.zero_le _, Nat.zero_le _⟩ dX8_copyFrom_41) [56, 57, 27, 28] [0, 1, 2, 3, 4, 5, 6, 7, 8, 9, 10, 11, 12, 13, 14, 15, 16, 17, 18, 19, 20, 21, 22, 23, 24, 25, 26, 29, 30, 31, 32, 33, 34, 35, 36, 37, 38, 39, 40, 41, 42, 43, 44, 45, 46, 47, 48, 49, 50, 51, 52, 53, 54, 55, 58, 59] [0, 1, 2, 3, 4, 5, 6, 7, 8, 9, 10, 11, 12, 13, 14, 15, 16, 17, 18, 19, 20, 21, 22, 23, 24, 25, 26, 58, 59, 27, 28, 29, 30, 31, 32, 33, 34, 35, 36, 37, 38, 39, 40, 41, 42, 43, 44, 45, 46, 47, 48, 49, 50, 51, 52, 53, 56, 57, 54, 55] rfl rfl (by decide) (by decide) (fun _ => rfl) (by decide) (fun u4 h => ?_)
  obtain ⟨vn_4, hu4⟩ : ∃ z, z = u4 := ⟨_, rfl⟩
  subst hu4
  refine z_aload_n (pc := 44) C 0 dX8_copyFrom_44 rfl ?_
  refine z_get (pc := 45) C uw8 0 rfl rfl 4 (by decide) wq481 rfl dX8_copyFrom_45 ?_
  refine z_aload_n (pc := 48) C 1 dX8_copyFrom_48 rfl ?_
  refine z_get (pc := 49) C uw8 1 rfl rfl 4 (by decide) wq481 rfl dX8_copyFrom_49 ?_
  refine z_callv (pc := 52) (wr := ((wX8 d (dc 0) (dw 0) (dg 0) (dn 0) (dq 0)) ++ ((wX8 dO (dOc 0) (dOw 0) (dOg 0) (dOn 0) (dOq 0)) ++ ((wX0 dOc (dOcj 0) (dOcs 0) (dOcp 0) (dOcr 0) vOc) ++ ((wX1 cI dOcj vOcj) ++ ((wX5 cI dOcs vOcs) ++ ((wX2 cI dOcp vOcp) ++ ((wX4 cI 72 dOcr vOcr) ++ ((wX7 cI dOw vOw) ++ ((wX4 cI 24 dOg vOg) ++ ((wX4 cI 15 dOn vOn) ++ ((wX0 dc (dcj 0) (dcs 0) (dcp 0) (dcr 0) vc_1) ++ ((wX1 cI dcj vcj_1) ++ ((wX5 cI dcs vcs_1) ++ ((wX2 cI dcp vcp_1) ++ ((wX4 cI 72 dcr vcr_1) ++ ((wX7 cI dw vw_2) ++ ((wX4 cI 24 dg vg_3) ++ (wX4 cI 15 dn vn_4))))))))))))))))))) (w1 := fun (u : Lf) => ((wX4 cI 24 dq u) ++ (wX4 cI 24 dOq vOq))) (w2 := fun (u : Lf) => ((wX8 d (dc 0) (dw 0) (dg 0) (dn 0) (dq 0)) ++ ((wX8 dO (dOc 0) (dOw 0) (dOg 0) (dOn 0) (dOq 0)) ++ ((wX0 dOc (dOcj 0) (dOcs 0) (dOcp 0) (dOcr 0) vOc) ++ ((wX1 cI dOcj vOcj) ++ ((wX5 cI dOcs vOcs) ++ ((wX2 cI dOcp vOcp) ++ ((wX4 cI 72 dOcr vOcr) ++ ((wX7 cI dOw vOw) ++ ((wX4 cI 24 dOg vOg) ++ ((wX4 cI 15 dOn vOn) ++ ((wX4 cI 24 dOq vOq) ++ ((wX0 dc (dcj 0) (dcs 0) (dcp 0) (dcr 0) vc_1) ++ ((wX1 cI dcj vcj_1) ++ ((wX5 cI dcs vcs_1) ++ ((wX2 cI dcp vcp_1) ++ ((wX4 cI 72 dcr vcr_1) ++ ((wX7 cI dw vw_2) ++ ((wX4 cI 24 dg vg_3) ++ ((wX4 cI 15 dn vn_4) ++ (wX4 cI 24 dq u))))))))))))))))))))) C (z_runV (pc := 52) (wc := ((wX4 cI 24 dq vq) ++ (wX4 cI 24 dOq vOq))) (As := [.ref (dOq 0)]) C (fun sz => kX4_copyFrom dq dOq 24 24 vq vOq sz h) [58, 59, 29, 30] rfl (by decide) (gdV wq74 wq492 wq99 wq100 wq48) rfl rfl rfl hdX4_copyFrom 58 rfl rfl rfl ⟨Nat.le_of_ble_eq_true rfl, Nat.le_of_ble_eq_true rfl⟩ rfl (Nat.le_of_ble_eq_true rfl) ⟨Nat.zero_le _, Nat.zero_le _⟩ dX8_copyFrom_52) [58, 59, 29, 30] [0, 1, 2, 3, 4, 5, 6, 7, 8, 9, 10, 11, 12, 13, 14, 15, 16, 17, 18, 19, 20, 21, 22, 23, 24, 25, 26, 27, 28, 31, 32, 33, 34, 35, 36, 37, 38, 39, 40, 41, 42, 43, 44, 45, 46, 47, 48, 49, 50, 51, 52, 53, 54, 55, 56, 57] [0, 1, 2, 3, 4, 5, 6, 7, 8, 9, 10, 11, 12, 13, 14, 15, 16, 17, 18, 19, 20, 21, 22, 23, 24, 25, 26, 27, 28, 58, 59, 29, 30, 31, 32, 33, 34, 35, 36, 37, 38, 39, 40, 41, 42, 43, 44, 45, 46, 47, 48, 49, 50, 51, 52, 53, 54, 55, 56, 57] rfl rfl (by decide) (by decide) (fun _ => rfl) (by decide) (fun u5 h => ?_)
  obtain ⟨vq_5, hu5⟩ : ∃ z, z = u5 := ⟨_, rfl⟩
  subst hu5
  exact hret 55 _ _ (vc_1, vcj_1, vcs_1, vcp_1, vcr_1, vw_2, vg_3, vn_4, vq_5) rfl h dX8_copyFrom_55

def pX8_takersByRows_J99 (nO : Nat) (vO : Lf) (vcj : Lf) (x2 : Int32) (x3 : Int32) (Q : Int32 → Prop) (K15 : Int32 → Int32 → Prop) (x5 : Int32) (x6 : Int32) : Prop := (K15 x5 (x6 + 1))
def pX8_takersByRows_L15 (nO : Nat) (vO : Lf) (vcj : Lf) (x2 : Int32) (x3 : Int32) (Q : Int32 → Prop) : Nat → Int32 → Int32 → Prop
  | 0, _, _ => False
  | n15 + 1, x5, x6 => (((vO 0 0) ≤ x6 → (Q x5 )) ∧ (¬ (vO 0 0) ≤ x6 → (pX4_at nO vO x6 (0 : Int32) (fun r2 => (pX1_placeOf vcj r2 x2 (fun r3 => ((r3 = (-5 : Int32) → (pX8_takersByRows_J99 nO vO vcj x2 x3 Q (fun x5 x6 => pX8_takersByRows_L15 nO vO vcj x2 x3 Q n15 x5 x6) x5 x6)) ∧ (¬ r3 = (-5 : Int32) → (pX4_at nO vO x6 (1 : Int32) (fun r5 => (pX1_reaches vcj r2 r3 r5 (fun r6 => ((x3 < r6 → (pX8_takersByRows_J99 nO vO vcj x2 x3 Q (fun x5 x6 => pX8_takersByRows_L15 nO vO vcj x2 x3 Q n15 x5 x6) x5 x6)) ∧ (¬ x3 < r6 → (pX4_at nO vO x6 (2 : Int32) (fun r8 => (pX1_leaves vcj r2 r3 r8 (fun r9 => ((r9 ≤ x3 → (pX8_takersByRows_J99 nO vO vcj x2 x3 Q (fun x5 x6 => pX8_takersByRows_L15 nO vO vcj x2 x3 Q n15 x5 x6) x5 x6)) ∧ (¬ r9 ≤ x3 → (pX8_takersByRows_J99 nO vO vcj x2 x3 Q (fun x5 x6 => pX8_takersByRows_L15 nO vO vcj x2 x3 Q n15 x5 x6) (x5 ||| ((1 : Int32) <<< (r2 &&& 31))) x6)))))))))))))))))))))
def pX8_takersByRows (nO : Nat) (vO : Lf) (vcj : Lf) (x2 : Int32) (x3 : Int32) (Q : Int32 → Prop) : Prop := (∃ n15, pX8_takersByRows_L15 nO vO vcj x2 x3 Q  n15 (0 : Int32) (0 : Int32))
abbrev rmX8_takersByRows : Room := { frames := 2, cells := 0, slots := 0, locals := 45 }
abbrev wdX8_takersByRows : List Cond := Cond.code yX8_takersByRows cX8_takersByRows 9 (some .int) :: TB
theorem hdSX8_takersByRows : (yX8_takersByRows).cls ≠ "java/lang/invoke/MethodHandle" ∧ (yX8_takersByRows).cls ≠ "java/lang/invoke/VarHandle" ∧ (parseMethodDescriptor (yX8_takersByRows).desc).map (fun d => d.parameters.length) = some 3 := by decide +kernel
theorem hdX8_takersByRows : (yX8_takersByRows).cls = RX8 ∧ (yX8_takersByRows).cls ≠ "java/lang/invoke/MethodHandle" ∧ (yX8_takersByRows).cls ≠ "java/lang/invoke/VarHandle" ∧ (parseMethodDescriptor (yX8_takersByRows).desc).map (fun d => d.parameters.length) = some 3 := ⟨rfl, hdSX8_takersByRows⟩
set_option maxHeartbeats 4000000 in
set_option maxRecDepth 100000 in
theorem kX8_takersByRows {l : Launch} {D : va_G} {cI cJ cT : ClassId} (d : Nat → Nat) (dc : Nat → Nat) (dw : Nat → Nat) (dg : Nat → Nat) (dn : Nat → Nat) (dq : Nat → Nat) (dO : Nat → Nat) (dcj : Nat → Nat) (dcs : Nat → Nat) (dcp : Nat → Nat) (dcr : Nat → Nat) (nO : Nat) (vO : Lf) (vc : Lf) (vcj : Lf) (x2 : Int32) (x3 : Int32) {Q : Int32 → Prop} (sz : Nat) (h : pX8_takersByRows nO vO vcj x2 x3 Q) : Met l yX8_takersByRows wdX8_takersByRows rmX8_takersByRows (Pz D (tyL cI cJ cT) [.ref (d 0), .ref (dO 0), .int x2, .int x3] ((wX8 d (dc 0) (dw 0) (dg 0) (dn 0) (dq 0)) ++ ((wX4 cI nO dO vO) ++ ((wX0 dc (dcj 0) (dcs 0) (dcp 0) (dcr 0) vc) ++ (wX1 cI dcj vcj)))) sz) (va_Qi (fun (r : Int32) (u : Unit) => Q r) (Bz D (tyL cI cJ cT) ((wX8 d (dc 0) (dw 0) (dg 0) (dn 0) (dq 0)) ++ ((wX4 cI nO dO vO) ++ ((wX0 dc (dcj 0) (dcs 0) (dcp 0) (dcr 0) vc) ++ (wX1 cI dcj vcj)))) sz (fun (u : Unit) => ((wX8 d (dc 0) (dw 0) (dg 0) (dn 0) (dq 0)) ++ ((wX4 cI nO dO vO) ++ ((wX0 dc (dcj 0) (dcs 0) (dcp 0) (dcr 0) vc) ++ (wX1 cI dcj vcj)))))) (va_A ((wX8 d (dc 0) (dw 0) (dg 0) (dn 0) (dq 0)) ++ ((wX4 cI nO dO vO) ++ ((wX0 dc (dcj 0) (dcs 0) (dcp 0) (dcr 0) vc) ++ (wX1 cI dcj vcj)))) sz)) 0 0 (va_A ((wX8 d (dc 0) (dw 0) (dg 0) (dn 0) (dq 0)) ++ ((wX4 cI nO dO vO) ++ ((wX0 dc (dcj 0) (dcs 0) (dcp 0) (dcr 0) vc) ++ (wX1 cI dcj vcj)))) sz) := by
  refine z_meti (cc := cX8_takersByRows) (maxL := 9) (own := RX8) (lv0 := [(0, .ref (d 0)), (1, .ref (dO 0)), (2, .int x2), (3, .int x3)]) (by decide) rfl rfl (Nat.le_of_ble_eq_true rfl) rfl ?_
  intro p e s m args below meth c A QQ C hin hret
  have J99 : ∀ (K15 : Int32 → Int32 → Prop), (∀ (x5 : Int32) (x6 : Int32), K15 x5 x6 → ZZ p l e rmX8_takersByRows s m args below meth c D A 9 0 0 QQ 15 ((wX8 d (dc 0) (dw 0) (dg 0) (dn 0) (dq 0)) ++ ((wX4 cI nO dO vO) ++ ((wX0 dc (dcj 0) (dcs 0) (dcp 0) (dcr 0) vc) ++ (wX1 cI dcj vcj)))) [(1, .ref (dO 0)), (2, .int x2), (3, .int x3), (4, .ref (dcj 0)), (5, .int x5), (6, .int x6)] []) → ∀ (x5 : Int32) (x6 : Int32), pX8_takersByRows_J99 nO vO vcj x2 x3 Q K15 x5 x6 → ZZ p l e rmX8_takersByRows s m args below meth c D A 9 0 0 QQ 99 ((wX8 d (dc 0) (dw 0) (dg 0) (dn 0) (dq 0)) ++ ((wX4 cI nO dO vO) ++ ((wX0 dc (dcj 0) (dcs 0) (dcp 0) (dcr 0) vc) ++ (wX1 cI dcj vcj)))) [(1, .ref (dO 0)), (2, .int x2), (3, .int x3), (4, .ref (dcj 0)), (5, .int x5), (6, .int x6)] [] := by
    intro K15 hK15 x5 x6 h
    refine z_iinc (pc := 99) (v := (x6 + 1)) (lv' := [(6, .int (x6 + 1)), (1, .ref (dO 0)), (2, .int x2), (3, .int x3), (4, .ref (dcj 0)), (5, .int x5)]) C 5 dX8_takersByRows_99 rfl rfl (by decide) rfl ?_
    refine z_goto (pc := 102) (tgt := 15) C dX8_takersByRows_102 (by decide) ?_
    refine z_sub (lv' := [(1, .ref (dO 0)), (2, .int x2), (3, .int x3), (4, .ref (dcj 0)), (5, .int x5), (6, .int (x6 + 1))]) [1, 2, 3, 4, 5, 0] rfl ?_
    exact hK15 x5 (x6 + 1) h
  have L15 : ∀ (n15 : Nat) (x5 : Int32) (x6 : Int32), pX8_takersByRows_L15 nO vO vcj x2 x3 Q n15 x5 x6 → ZZ p l e rmX8_takersByRows s m args below meth c D A 9 0 0 QQ 15 ((wX8 d (dc 0) (dw 0) (dg 0) (dn 0) (dq 0)) ++ ((wX4 cI nO dO vO) ++ ((wX0 dc (dcj 0) (dcs 0) (dcp 0) (dcr 0) vc) ++ (wX1 cI dcj vcj)))) [(1, .ref (dO 0)), (2, .int x2), (3, .int x3), (4, .ref (dcj 0)), (5, .int x5), (6, .int x6)] [] := by
    intro n15
    induction n15 with
    | zero => intro x5 x6 h; exact False.elim h
    | succ n15 ih15 =>
      intro x5 x6 h
      refine z_iload (pc := 15) C 5 dX8_takersByRows_15 rfl ?_
      refine z_aload_n (pc := 17) C 0 dX8_takersByRows_17 rfl ?_
      refine z_get (pc := 18) C uw4 1 rfl rfl 0 (by decide) wq495 rfl dX8_takersByRows_18 ?_
      refine z_icmp_ge (pc := 21) (tgt := 105) C dX8_takersByRows_21 (by decide) (fun c1 => ?_) (fun c1 => ?_)
      · have h := h.1 c1
        refine z_iload (pc := 105) C 4 dX8_takersByRows_105 rfl ?_
        exact hret 107 _ _ x5 () rfl h dX8_takersByRows_107
      · have h := h.2 c1
        refine z_aload_n (pc := 24) C 0 dX8_takersByRows_24 rfl ?_
        refine z_iload (pc := 25) C 5 dX8_takersByRows_25 rfl ?_
        refine z_iconst (pc := 27) (v := 0) C dX8_takersByRows_27 (by decide) ?_
        refine z_callRi (pc := 28) C (z_runV (pc := 28) (wc := (wX4 cI nO dO vO)) (As := [.int x6, .int (0 : Int32)]) C (fun sz => kX4_at dO nO vO x6 (0 : Int32) sz h) [1, 2] rfl (by decide) (gdV wq288 wq496 wq292 wq293 wq48) rfl rfl rfl hdX4_at 1 rfl rfl rfl ⟨Nat.le_of_ble_eq_true rfl, Nat.le_of_ble_eq_true rfl⟩ rfl (Nat.le_of_ble_eq_true rfl) ⟨Nat.zero_le _, Nat.zero_le _⟩ dX8_takersByRows_28) [1, 2] rfl (by decide) (fun r2 u2 h => ?_)
        refine z_istore (pc := 31) (lv' := [(7, .int r2), (1, .ref (dO 0)), (2, .int x2), (3, .int x3), (4, .ref (dcj 0)), (5, .int x5), (6, .int x6)]) C dX8_takersByRows_31 (by decide) rfl ?_
        refine z_aload (pc := 33) C 4 dX8_takersByRows_33 rfl ?_
        refine z_iload (pc := 35) C 0 dX8_takersByRows_35 rfl ?_
        refine z_iload_n (pc := 37) C 2 dX8_takersByRows_37 rfl ?_
        refine z_callRi (pc := 38) C (z_runV (pc := 38) (wc := (wX1 cI dcj vcj)) (As := [.int r2, .int x2]) C (fun sz => kX1_placeOf dcj vcj r2 x2 sz h) [4, 5, 6, 7, 8, 9] rfl (by decide) (gdV wq305 wq497 wq315 wq316 wq36) rfl rfl rfl hdX1_placeOf 4 rfl rfl rfl ⟨Nat.le_of_ble_eq_true rfl, Nat.le_of_ble_eq_true rfl⟩ rfl (Nat.le_of_ble_eq_true rfl) ⟨Nat.zero_le _, Nat.zero_le _⟩ dX8_takersByRows_38) [4, 5, 6, 7, 8, 9] rfl (by decide) (fun r3 u3 h => ?_)
        refine z_istore (pc := 41) (lv' := [(8, .int r3), (7, .int r2), (1, .ref (dO 0)), (2, .int x2), (3, .int x3), (4, .ref (dcj 0)), (5, .int x5), (6, .int x6)]) C dX8_takersByRows_41 (by decide) rfl ?_
        refine z_iload (pc := 43) C 0 dX8_takersByRows_43 rfl ?_
        refine z_bipush (pc := 45) (v := -5) C dX8_takersByRows_45 (by decide) ?_
        refine z_icmp_eq (pc := 47) (tgt := 99) C dX8_takersByRows_47 (by decide) (fun c4 => ?_) (fun c4 => ?_)
        · have h := h.1 c4
          refine z_sub (lv' := [(1, .ref (dO 0)), (2, .int x2), (3, .int x3), (4, .ref (dcj 0)), (5, .int x5), (6, .int x6)]) [2, 3, 4, 5, 6, 7] rfl ?_
          exact J99 (fun x5 x6 => pX8_takersByRows_L15 nO vO vcj x2 x3 Q n15 x5 x6) ih15 x5 x6 h
        · have h := h.2 c4
          refine z_iload_n (pc := 50) C 4 dX8_takersByRows_50 rfl ?_
          refine z_aload (pc := 51) C 5 dX8_takersByRows_51 rfl ?_
          refine z_iload (pc := 53) C 1 dX8_takersByRows_53 rfl ?_
          refine z_iload (pc := 55) C 0 dX8_takersByRows_55 rfl ?_
          refine z_aload_n (pc := 57) C 2 dX8_takersByRows_57 rfl ?_
          refine z_iload (pc := 58) C 7 dX8_takersByRows_58 rfl ?_
          refine z_iconst (pc := 60) (v := 1) C dX8_takersByRows_60 (by decide) ?_
          refine z_callRi (pc := 61) C (z_runV (pc := 61) (wc := (wX4 cI nO dO vO)) (As := [.int x6, .int (1 : Int32)]) C (fun sz => kX4_at dO nO vO x6 (1 : Int32) sz h) [1, 2] rfl (by decide) (gdV wq288 wq496 wq292 wq293 wq48) rfl rfl rfl hdX4_at 1 rfl rfl rfl ⟨Nat.le_of_ble_eq_true rfl, Nat.le_of_ble_eq_true rfl⟩ rfl (Nat.le_of_ble_eq_true rfl) ⟨Nat.zero_le _, Nat.zero_le _⟩ dX8_takersByRows_61) [1, 2] rfl (by decide) (fun r5 u5 h => ?_)
          refine z_callRi (pc := 64) C (z_runV (pc := 64) (wc := (wX1 cI dcj vcj)) (As := [.int r2, .int r3, .int r5]) C (fun sz => kX1_reaches dcj vcj r2 r3 r5 sz h) [4, 5, 6, 7, 8, 9] rfl (by decide) (gdV wq310 wq498 wq318 wq319 wq36) rfl rfl rfl hdX1_reaches 4 rfl rfl rfl ⟨Nat.le_of_ble_eq_true rfl, Nat.le_of_ble_eq_true rfl⟩ rfl (Nat.le_of_ble_eq_true rfl) ⟨Nat.zero_le _, Nat.zero_le _⟩ dX8_takersByRows_64) [4, 5, 6, 7, 8, 9] rfl (by decide) (fun r6 u6 h => ?_)
          refine z_icmp_lt (pc := 67) (tgt := 99) C dX8_takersByRows_67 (by decide) (fun c7 => ?_) (fun c7 => ?_)
          · have h := h.1 c7
            refine z_sub (lv' := [(1, .ref (dO 0)), (2, .int x2), (3, .int x3), (4, .ref (dcj 0)), (5, .int x5), (6, .int x6)]) [2, 3, 4, 5, 6, 7] rfl ?_
            exact J99 (fun x5 x6 => pX8_takersByRows_L15 nO vO vcj x2 x3 Q n15 x5 x6) ih15 x5 x6 h
          · have h := h.2 c7
            refine z_iload_n (pc := 70) C 4 dX8_takersByRows_70 rfl ?_
            refine z_aload (pc := 71) C 5 dX8_takersByRows_71 rfl ?_
            refine z_iload (pc := 73) C 1 dX8_takersByRows_73 rfl ?_
            refine z_iload (pc := 75) C 0 dX8_takersByRows_75 rfl ?_
            refine z_aload_n (pc := 77) C 2 dX8_takersByRows_77 rfl ?_
            refine z_iload (pc := 78) C 7 dX8_takersByRows_78 rfl ?_
            refine z_iconst (pc := 80) (v := 2) C dX8_takersByRows_80 (by decide) ?_
            refine z_callRi (pc := 81) C (z_runV (pc := 81) (wc := (wX4 cI nO dO vO)) (As := [.int x6, .int (2 : Int32)]) C (fun sz => kX4_at dO nO vO x6 (2 : Int32) sz h) [1, 2] rfl (by decide) (gdV wq288 wq496 wq292 wq293 wq48) rfl rfl rfl hdX4_at 1 rfl rfl rfl ⟨Nat.le_of_ble_eq_true rfl, Nat.le_of_ble_eq_true rfl⟩ rfl (Nat.le_of_ble_eq_true rfl) ⟨Nat.zero_le _, Nat.zero_le _⟩ dX8_takersByRows_81) [1, 2] rfl (by decide) (fun r8 u8 h => ?_)
            refine z_callRi (pc := 84) C (z_runV (pc := 84) (wc := (wX1 cI dcj vcj)) (As := [.int r2, .int r3, .int r8]) C (fun sz => kX1_leaves dcj vcj r2 r3 r8 sz h) [4, 5, 6, 7, 8, 9] rfl (by decide) (gdV wq321 wq499 wq326 wq327 wq36) rfl rfl rfl hdX1_leaves 4 rfl rfl rfl ⟨Nat.le_of_ble_eq_true rfl, Nat.le_of_ble_eq_true rfl⟩ rfl (Nat.le_of_ble_eq_true rfl) ⟨Nat.zero_le _, Nat.zero_le _⟩ dX8_takersByRows_84) [4, 5, 6, 7, 8, 9] rfl (by decide) (fun r9 u9 h => ?_)
            refine z_icmp_ge (pc := 87) (tgt := 99) C dX8_takersByRows_87 (by decide) (fun c10 => ?_) (fun c10 => ?_)
            · have h := h.1 c10
              refine z_sub (lv' := [(1, .ref (dO 0)), (2, .int x2), (3, .int x3), (4, .ref (dcj 0)), (5, .int x5), (6, .int x6)]) [2, 3, 4, 5, 6, 7] rfl ?_
              exact J99 (fun x5 x6 => pX8_takersByRows_L15 nO vO vcj x2 x3 Q n15 x5 x6) ih15 x5 x6 h
            · have h := h.2 c10
              refine z_iload (pc := 90) C 6 dX8_takersByRows_90 rfl ?_
              refine z_iconst (pc := 92) (v := 1) C dX8_takersByRows_92 (by decide) ?_
              refine z_iload (pc := 93) C 1 dX8_takersByRows_93 rfl ?_
              refine z_ishl (pc := 95) C dX8_takersByRows_95 ?_
              refine z_ior (pc := 96) C dX8_takersByRows_96 ?_
              refine z_istore (pc := 97) (lv' := [(5, .int (x5 ||| ((1 : Int32) <<< (r2 &&& 31)))), (8, .int r3), (7, .int r2), (1, .ref (dO 0)), (2, .int x2), (3, .int x3), (4, .ref (dcj 0)), (6, .int x6)]) C dX8_takersByRows_97 (by decide) rfl ?_
              refine z_sub (lv' := [(1, .ref (dO 0)), (2, .int x2), (3, .int x3), (4, .ref (dcj 0)), (5, .int (x5 ||| ((1 : Int32) <<< (r2 &&& 31)))), (6, .int x6)]) [3, 4, 5, 6, 0, 7] rfl ?_
              exact J99 (fun x5 x6 => pX8_takersByRows_L15 nO vO vcj x2 x3 Q n15 x5 x6) ih15 (x5 ||| ((1 : Int32) <<< (r2 &&& 31))) x6 h
  refine z_aload_n (pc := 0) C 0 dX8_takersByRows_0 rfl ?_
  refine z_get (pc := 1) C uw8 0 rfl rfl 0 (by decide) wq474 rfl dX8_takersByRows_1 ?_
  refine z_get (pc := 4) C uw0 3 rfl rfl 0 (by decide) wq494 rfl dX8_takersByRows_4 ?_
  refine z_astore (pc := 7) (lv' := [(4, .ref (dcj 0)), (0, .ref (d 0)), (1, .ref (dO 0)), (2, .int x2), (3, .int x3)]) C dX8_takersByRows_7 (by decide) rfl ?_
  refine z_iconst (pc := 9) (v := 0) C dX8_takersByRows_9 (by decide) ?_
  refine z_istore (pc := 10) (lv' := [(5, .int (0 : Int32)), (4, .ref (dcj 0)), (0, .ref (d 0)), (1, .ref (dO 0)), (2, .int x2), (3, .int x3)]) C dX8_takersByRows_10 (by decide) rfl ?_
  refine z_iconst (pc := 12) (v := 0) C dX8_takersByRows_12 (by decide) ?_
  refine z_istore (pc := 13) (lv' := [(6, .int (0 : Int32)), (5, .int (0 : Int32)), (4, .ref (dcj 0)), (0, .ref (d 0)), (1, .ref (dO 0)), (2, .int x2), (3, .int x3)]) C dX8_takersByRows_13 (by decide) rfl ?_
  obtain ⟨n15, h⟩ := h
  refine z_sub (lv' := [(1, .ref (dO 0)), (2, .int x2), (3, .int x3), (4, .ref (dcj 0)), (5, .int (0 : Int32)), (6, .int (0 : Int32))]) [4, 5, 6, 2, 1, 0] rfl ?_
  exact L15  n15 (0 : Int32) (0 : Int32) h

def pX8_takersOf (vcj : Lf) (vcs : Lf) (vcr : Lf) (vg : Lf) (x1 : Int32) (x2 : Int32) (x3 : Int32) (Q : Int32 → Prop) : Prop := ((¬ x3 = 0 → (pX8_takersByRows 24 vg vcj x1 x2 (fun r2 => (Q r2 )))) ∧ (x3 = 0 → (pX8_takersByRows 72 vcr vcj x1 x2 (fun r3 => (pX0_takersNow vcj vcs x1 x2 (fun r4 => (Q (r3 ||| r4) )))))))
abbrev rmX8_takersOf : Room := { frames := 3, cells := 0, slots := 0, locals := 73 }
abbrev wdX8_takersOf : List Cond := Cond.code yX8_takersOf cX8_takersOf 4 (some .int) :: TB
theorem hdSX8_takersOf : (yX8_takersOf).cls ≠ "java/lang/invoke/MethodHandle" ∧ (yX8_takersOf).cls ≠ "java/lang/invoke/VarHandle" ∧ (parseMethodDescriptor (yX8_takersOf).desc).map (fun d => d.parameters.length) = some 3 := by decide +kernel
theorem hdX8_takersOf : (yX8_takersOf).cls = RX8 ∧ (yX8_takersOf).cls ≠ "java/lang/invoke/MethodHandle" ∧ (yX8_takersOf).cls ≠ "java/lang/invoke/VarHandle" ∧ (parseMethodDescriptor (yX8_takersOf).desc).map (fun d => d.parameters.length) = some 3 := ⟨rfl, hdSX8_takersOf⟩
set_option maxHeartbeats 4000000 in
set_option maxRecDepth 100000 in
theorem kX8_takersOf {l : Launch} {D : va_G} {cI cJ cT : ClassId} (d : Nat → Nat) (dc : Nat → Nat) (dw : Nat → Nat) (dg : Nat → Nat) (dn : Nat → Nat) (dq : Nat → Nat) (dcj : Nat → Nat) (dcs : Nat → Nat) (dcp : Nat → Nat) (dcr : Nat → Nat)  (vc : Lf) (vcj : Lf) (vcs : Lf) (vcr : Lf) (vg : Lf) (x1 : Int32) (x2 : Int32) (x3 : Int32) {Q : Int32 → Prop} (sz : Nat) (h : pX8_takersOf vcj vcs vcr vg x1 x2 x3 Q) : Met l yX8_takersOf wdX8_takersOf rmX8_takersOf (Pz D (tyL cI cJ cT) [.ref (d 0), .int x1, .int x2, .int x3] ((wX8 d (dc 0) (dw 0) (dg 0) (dn 0) (dq 0)) ++ ((wX0 dc (dcj 0) (dcs 0) (dcp 0) (dcr 0) vc) ++ ((wX1 cI dcj vcj) ++ ((wX5 cI dcs vcs) ++ ((wX4 cI 72 dcr vcr) ++ (wX4 cI 24 dg vg)))))) sz) (va_Qi (fun (r : Int32) (u : Unit) => Q r) (Bz D (tyL cI cJ cT) ((wX8 d (dc 0) (dw 0) (dg 0) (dn 0) (dq 0)) ++ ((wX0 dc (dcj 0) (dcs 0) (dcp 0) (dcr 0) vc) ++ ((wX1 cI dcj vcj) ++ ((wX5 cI dcs vcs) ++ ((wX4 cI 72 dcr vcr) ++ (wX4 cI 24 dg vg)))))) sz (fun (u : Unit) => ((wX8 d (dc 0) (dw 0) (dg 0) (dn 0) (dq 0)) ++ ((wX0 dc (dcj 0) (dcs 0) (dcp 0) (dcr 0) vc) ++ ((wX1 cI dcj vcj) ++ ((wX5 cI dcs vcs) ++ ((wX4 cI 72 dcr vcr) ++ (wX4 cI 24 dg vg)))))))) (va_A ((wX8 d (dc 0) (dw 0) (dg 0) (dn 0) (dq 0)) ++ ((wX0 dc (dcj 0) (dcs 0) (dcp 0) (dcr 0) vc) ++ ((wX1 cI dcj vcj) ++ ((wX5 cI dcs vcs) ++ ((wX4 cI 72 dcr vcr) ++ (wX4 cI 24 dg vg)))))) sz)) 0 0 (va_A ((wX8 d (dc 0) (dw 0) (dg 0) (dn 0) (dq 0)) ++ ((wX0 dc (dcj 0) (dcs 0) (dcp 0) (dcr 0) vc) ++ ((wX1 cI dcj vcj) ++ ((wX5 cI dcs vcs) ++ ((wX4 cI 72 dcr vcr) ++ (wX4 cI 24 dg vg)))))) sz) := by
  refine z_meti (cc := cX8_takersOf) (maxL := 4) (own := RX8) (lv0 := [(0, .ref (d 0)), (1, .int x1), (2, .int x2), (3, .int x3)]) (by decide) rfl rfl (Nat.le_of_ble_eq_true rfl) rfl ?_
  intro p e s m args below meth c A QQ C hin hret
  refine z_iload_n (pc := 0) C 3 dX8_takersOf_0 rfl ?_
  refine z_if_ne (pc := 1) (tgt := 28) C dX8_takersOf_1 (by decide) (fun c1 => ?_) (fun c1 => ?_)
  · have h := h.1 c1
    refine z_aload_n (pc := 28) C 0 dX8_takersOf_28 rfl ?_
    refine z_aload_n (pc := 29) C 0 dX8_takersOf_29 rfl ?_
    refine z_get (pc := 30) C uw8 0 rfl rfl 2 (by decide) wq479 rfl dX8_takersOf_30 ?_
    refine z_iload_n (pc := 33) C 1 dX8_takersOf_33 rfl ?_
    refine z_iload_n (pc := 34) C 2 dX8_takersOf_34 rfl ?_
    refine z_callRi (pc := 35) C (z_runV (pc := 35) (wc := ((wX8 d (dc 0) (dw 0) (dg 0) (dn 0) (dq 0)) ++ ((wX4 cI 24 dg vg) ++ ((wX0 dc (dcj 0) (dcs 0) (dcp 0) (dcr 0) vc) ++ (wX1 cI dcj vcj))))) (As := [.ref (dg 0), .int x1, .int x2]) C (fun sz => kX8_takersByRows d dc dw dg dn dq dg dcj dcs dcp dcr 24 vg vc vcj x1 x2 sz h) [0, 18, 19, 1, 2, 3, 4, 5, 6, 7] rfl (by decide) (gdV wq500 wq502 wq503 wq504 wq505) rfl rfl rfl hdX8_takersByRows 0 rfl rfl rfl ⟨Nat.le_of_ble_eq_true rfl, Nat.le_of_ble_eq_true rfl⟩ rfl (Nat.le_of_ble_eq_true rfl) ⟨Nat.zero_le _, Nat.zero_le _⟩ dX8_takersOf_35) [0, 18, 19, 1, 2, 3, 4, 5, 6, 7] rfl (by decide) (fun r2 u2 h => ?_)
    exact hret 38 _ _ r2 () rfl h dX8_takersOf_38
  · have h := h.2 c1
    refine z_aload_n (pc := 4) C 0 dX8_takersOf_4 rfl ?_
    refine z_aload_n (pc := 5) C 0 dX8_takersOf_5 rfl ?_
    refine z_get (pc := 6) C uw8 0 rfl rfl 0 (by decide) wq474 rfl dX8_takersOf_6 ?_
    refine z_get (pc := 9) C uw0 1 rfl rfl 3 (by decide) wq501 rfl dX8_takersOf_9 ?_
    refine z_iload_n (pc := 12) C 1 dX8_takersOf_12 rfl ?_
    refine z_iload_n (pc := 13) C 2 dX8_takersOf_13 rfl ?_
    refine z_callRi (pc := 14) C (z_runV (pc := 14) (wc := ((wX8 d (dc 0) (dw 0) (dg 0) (dn 0) (dq 0)) ++ ((wX4 cI 72 dcr vcr) ++ ((wX0 dc (dcj 0) (dcs 0) (dcp 0) (dcr 0) vc) ++ (wX1 cI dcj vcj))))) (As := [.ref (dcr 0), .int x1, .int x2]) C (fun sz => kX8_takersByRows d dc dw dg dn dq dcr dcj dcs dcp dcr 72 vcr vc vcj x1 x2 sz h) [0, 16, 17, 1, 2, 3, 4, 5, 6, 7] rfl (by decide) (gdV wq500 wq502 wq503 wq504 wq505) rfl rfl rfl hdX8_takersByRows 0 rfl rfl rfl ⟨Nat.le_of_ble_eq_true rfl, Nat.le_of_ble_eq_true rfl⟩ rfl (Nat.le_of_ble_eq_true rfl) ⟨Nat.zero_le _, Nat.zero_le _⟩ dX8_takersOf_14) [0, 16, 17, 1, 2, 3, 4, 5, 6, 7] rfl (by decide) (fun r3 u3 h => ?_)
    refine z_aload_n (pc := 17) C 0 dX8_takersOf_17 rfl ?_
    refine z_get (pc := 18) C uw8 0 rfl rfl 0 (by decide) wq474 rfl dX8_takersOf_18 ?_
    refine z_iload_n (pc := 21) C 1 dX8_takersOf_21 rfl ?_
    refine z_iload_n (pc := 22) C 2 dX8_takersOf_22 rfl ?_
    refine z_callRi (pc := 23) C (z_runV (pc := 23) (wc := ((wX0 dc (dcj 0) (dcs 0) (dcp 0) (dcr 0) vc) ++ ((wX1 cI dcj vcj) ++ (wX5 cI dcs vcs)))) (As := [.int x1, .int x2]) C (fun sz => kX0_takersNow dc dcj dcs dcp dcr vc vcj vcs x1 x2 sz h) [1, 2, 3, 4, 5, 6, 7, 8, 9, 10, 11, 12, 13, 14, 15] rfl (by decide) (gdV wq320 wq506 wq507 wq508 wq108) rfl rfl rfl hdX0_takersNow 1 rfl rfl rfl ⟨Nat.le_of_ble_eq_true rfl, Nat.le_of_ble_eq_true rfl⟩ rfl (Nat.le_of_ble_eq_true rfl) ⟨Nat.zero_le _, Nat.zero_le _⟩ dX8_takersOf_23) [1, 2, 3, 4, 5, 6, 7, 8, 9, 10, 11, 12, 13, 14, 15] rfl (by decide) (fun r4 u4 h => ?_)
    refine z_ior (pc := 26) C dX8_takersOf_26 ?_
    exact hret 27 _ _ (r3 ||| r4) () rfl h dX8_takersOf_27

def pX8_isClearBehind (vcj : Lf) (vg : Lf) (x1 : Int32) (x2 : Int32) (Q : Int32 → Prop) : Prop := (pX4_at 24 vg x2 (0 : Int32) (fun r1 => (pX4_at 24 vg x1 (0 : Int32) (fun r2 => (pX1_clearOf vcj r1 r2 (fun r3 => (pX4_at 24 vg x1 (1 : Int32) (fun r4 => (pX4_at 24 vg x2 (2 : Int32) (fun r5 => (((r4 - r5) < r3 → (Q (0 : Int32) )) ∧ (¬ (r4 - r5) < r3 → (Q (1 : Int32) )))))))))))))
abbrev rmX8_isClearBehind : Room := { frames := 1, cells := 0, slots := 0, locals := 22 }
abbrev wdX8_isClearBehind : List Cond := Cond.code yX8_isClearBehind cX8_isClearBehind 4 (some .boolean) :: TB
theorem hdSX8_isClearBehind : (yX8_isClearBehind).cls ≠ "java/lang/invoke/MethodHandle" ∧ (yX8_isClearBehind).cls ≠ "java/lang/invoke/VarHandle" ∧ (parseMethodDescriptor (yX8_isClearBehind).desc).map (fun d => d.parameters.length) = some 2 := by decide +kernel
theorem hdX8_isClearBehind : (yX8_isClearBehind).cls = RX8 ∧ (yX8_isClearBehind).cls ≠ "java/lang/invoke/MethodHandle" ∧ (yX8_isClearBehind).cls ≠ "java/lang/invoke/VarHandle" ∧ (parseMethodDescriptor (yX8_isClearBehind).desc).map (fun d => d.parameters.length) = some 2 := ⟨rfl, hdSX8_isClearBehind⟩
set_option maxHeartbeats 4000000 in
set_option maxRecDepth 100000 in
theorem kX8_isClearBehind {l : Launch} {D : va_G} {cI cJ cT : ClassId} (d : Nat → Nat) (dc : Nat → Nat) (dw : Nat → Nat) (dg : Nat → Nat) (dn : Nat → Nat) (dq : Nat → Nat) (dcj : Nat → Nat) (dcs : Nat → Nat) (dcp : Nat → Nat) (dcr : Nat → Nat)  (vc : Lf) (vcj : Lf) (vg : Lf) (x1 : Int32) (x2 : Int32) {Q : Int32 → Prop} (sz : Nat) (h : pX8_isClearBehind vcj vg x1 x2 Q) : Met l yX8_isClearBehind wdX8_isClearBehind rmX8_isClearBehind (Pz D (tyL cI cJ cT) [.ref (d 0), .int x1, .int x2] ((wX8 d (dc 0) (dw 0) (dg 0) (dn 0) (dq 0)) ++ ((wX0 dc (dcj 0) (dcs 0) (dcp 0) (dcr 0) vc) ++ ((wX1 cI dcj vcj) ++ (wX4 cI 24 dg vg)))) sz) (va_Qi (fun (r : Int32) (u : Unit) => Q r) (Bz D (tyL cI cJ cT) ((wX8 d (dc 0) (dw 0) (dg 0) (dn 0) (dq 0)) ++ ((wX0 dc (dcj 0) (dcs 0) (dcp 0) (dcr 0) vc) ++ ((wX1 cI dcj vcj) ++ (wX4 cI 24 dg vg)))) sz (fun (u : Unit) => ((wX8 d (dc 0) (dw 0) (dg 0) (dn 0) (dq 0)) ++ ((wX0 dc (dcj 0) (dcs 0) (dcp 0) (dcr 0) vc) ++ ((wX1 cI dcj vcj) ++ (wX4 cI 24 dg vg)))))) (va_A ((wX8 d (dc 0) (dw 0) (dg 0) (dn 0) (dq 0)) ++ ((wX0 dc (dcj 0) (dcs 0) (dcp 0) (dcr 0) vc) ++ ((wX1 cI dcj vcj) ++ (wX4 cI 24 dg vg)))) sz)) 0 0 (va_A ((wX8 d (dc 0) (dw 0) (dg 0) (dn 0) (dq 0)) ++ ((wX0 dc (dcj 0) (dcs 0) (dcp 0) (dcr 0) vc) ++ ((wX1 cI dcj vcj) ++ (wX4 cI 24 dg vg)))) sz) := by
  refine z_metz (cc := cX8_isClearBehind) (maxL := 4) (own := RX8) (lv0 := [(0, .ref (d 0)), (1, .int x1), (2, .int x2)]) (by decide) rfl rfl (Nat.le_of_ble_eq_true rfl) rfl ?_
  intro p e s m args below meth c A QQ C hin hret
  refine z_aload_n (pc := 0) C 0 dX8_isClearBehind_0 rfl ?_
  refine z_get (pc := 1) C uw8 0 rfl rfl 0 (by decide) wq474 rfl dX8_isClearBehind_1 ?_
  refine z_get (pc := 4) C uw0 1 rfl rfl 0 (by decide) wq494 rfl dX8_isClearBehind_4 ?_
  refine z_aload_n (pc := 7) C 0 dX8_isClearBehind_7 rfl ?_
  refine z_get (pc := 8) C uw8 0 rfl rfl 2 (by decide) wq479 rfl dX8_isClearBehind_8 ?_
  refine z_iload_n (pc := 11) C 2 dX8_isClearBehind_11 rfl ?_
  refine z_iconst (pc := 12) (v := 0) C dX8_isClearBehind_12 (by decide) ?_
  refine z_callRi (pc := 13) C (z_runV (pc := 13) (wc := (wX4 cI 24 dg vg)) (As := [.int x2, .int (0 : Int32)]) C (fun sz => kX4_at dg 24 vg x2 (0 : Int32) sz h) [8, 9] rfl (by decide) (gdV wq288 wq496 wq292 wq293 wq48) rfl rfl rfl hdX4_at 8 rfl rfl rfl ⟨Nat.le_of_ble_eq_true rfl, Nat.le_of_ble_eq_true rfl⟩ rfl (Nat.le_of_ble_eq_true rfl) ⟨Nat.zero_le _, Nat.zero_le _⟩ dX8_isClearBehind_13) [8, 9] rfl (by decide) (fun r1 u1 h => ?_)
  refine z_aload_n (pc := 16) C 0 dX8_isClearBehind_16 rfl ?_
  refine z_get (pc := 17) C uw8 0 rfl rfl 2 (by decide) wq479 rfl dX8_isClearBehind_17 ?_
  refine z_iload_n (pc := 20) C 1 dX8_isClearBehind_20 rfl ?_
  refine z_iconst (pc := 21) (v := 0) C dX8_isClearBehind_21 (by decide) ?_
  refine z_callRi (pc := 22) C (z_runV (pc := 22) (wc := (wX4 cI 24 dg vg)) (As := [.int x1, .int (0 : Int32)]) C (fun sz => kX4_at dg 24 vg x1 (0 : Int32) sz h) [8, 9] rfl (by decide) (gdV wq288 wq496 wq292 wq293 wq48) rfl rfl rfl hdX4_at 8 rfl rfl rfl ⟨Nat.le_of_ble_eq_true rfl, Nat.le_of_ble_eq_true rfl⟩ rfl (Nat.le_of_ble_eq_true rfl) ⟨Nat.zero_le _, Nat.zero_le _⟩ dX8_isClearBehind_22) [8, 9] rfl (by decide) (fun r2 u2 h => ?_)
  refine z_callRi (pc := 25) C (z_runV (pc := 25) (wc := (wX1 cI dcj vcj)) (As := [.int r1, .int r2]) C (fun sz => kX1_clearOf dcj vcj r1 r2 sz h) [2, 3, 4, 5, 6, 7] rfl (by decide) (gdV wq214 wq511 wq221 wq222 wq36) rfl rfl rfl hdX1_clearOf 2 rfl rfl rfl ⟨Nat.le_of_ble_eq_true rfl, Nat.le_of_ble_eq_true rfl⟩ rfl (Nat.le_of_ble_eq_true rfl) ⟨Nat.zero_le _, Nat.zero_le _⟩ dX8_isClearBehind_25) [2, 3, 4, 5, 6, 7] rfl (by decide) (fun r3 u3 h => ?_)
  refine z_istore_n (pc := 28) (lv' := [(3, .int r3), (0, .ref (d 0)), (1, .int x1), (2, .int x2)]) C dX8_isClearBehind_28 (by decide) rfl ?_
  refine z_aload_n (pc := 29) C 1 dX8_isClearBehind_29 rfl ?_
  refine z_get (pc := 30) C uw8 0 rfl rfl 2 (by decide) wq479 rfl dX8_isClearBehind_30 ?_
  refine z_iload_n (pc := 33) C 2 dX8_isClearBehind_33 rfl ?_
  refine z_iconst (pc := 34) (v := 1) C dX8_isClearBehind_34 (by decide) ?_
  refine z_callRi (pc := 35) C (z_runV (pc := 35) (wc := (wX4 cI 24 dg vg)) (As := [.int x1, .int (1 : Int32)]) C (fun sz => kX4_at dg 24 vg x1 (1 : Int32) sz h) [8, 9] rfl (by decide) (gdV wq288 wq496 wq292 wq293 wq48) rfl rfl rfl hdX4_at 8 rfl rfl rfl ⟨Nat.le_of_ble_eq_true rfl, Nat.le_of_ble_eq_true rfl⟩ rfl (Nat.le_of_ble_eq_true rfl) ⟨Nat.zero_le _, Nat.zero_le _⟩ dX8_isClearBehind_35) [8, 9] rfl (by decide) (fun r4 u4 h => ?_)
  refine z_aload_n (pc := 38) C 1 dX8_isClearBehind_38 rfl ?_
  refine z_get (pc := 39) C uw8 0 rfl rfl 2 (by decide) wq479 rfl dX8_isClearBehind_39 ?_
  refine z_iload_n (pc := 42) C 3 dX8_isClearBehind_42 rfl ?_
  refine z_iconst (pc := 43) (v := 2) C dX8_isClearBehind_43 (by decide) ?_
  refine z_callRi (pc := 44) C (z_runV (pc := 44) (wc := (wX4 cI 24 dg vg)) (As := [.int x2, .int (2 : Int32)]) C (fun sz => kX4_at dg 24 vg x2 (2 : Int32) sz h) [8, 9] rfl (by decide) (gdV wq288 wq496 wq292 wq293 wq48) rfl rfl rfl hdX4_at 8 rfl rfl rfl ⟨Nat.le_of_ble_eq_true rfl, Nat.le_of_ble_eq_true rfl⟩ rfl (Nat.le_of_ble_eq_true rfl) ⟨Nat.zero_le _, Nat.zero_le _⟩ dX8_isClearBehind_44) [8, 9] rfl (by decide) (fun r5 u5 h => ?_)
  refine z_isub (pc := 47) C dX8_isClearBehind_47 ?_
  refine z_iload_n (pc := 48) C 0 dX8_isClearBehind_48 rfl ?_
  refine z_icmp_lt (pc := 49) (tgt := 56) C dX8_isClearBehind_49 (by decide) (fun c6 => ?_) (fun c6 => ?_)
  · have h := h.1 c6
    refine z_iconst (pc := 56) (v := 0) C dX8_isClearBehind_56 (by decide) ?_
    exact hret 57 _ _ (0 : Int32) rfl () rfl h dX8_isClearBehind_57
  · have h := h.2 c6
    refine z_iconst (pc := 52) (v := 1) C dX8_isClearBehind_52 (by decide) ?_
    refine z_goto (pc := 53) (tgt := 57) C dX8_isClearBehind_53 (by decide) ?_
    exact hret 57 _ _ (1 : Int32) rfl () rfl h dX8_isClearBehind_57

def pX8_areTooNear (vcj : Lf) (vg : Lf) (x1 : Int32) (x2 : Int32) (Q : Int32 → Prop) : Prop := (pX4_at 24 vg x1 (0 : Int32) (fun r1 => (pX4_at 24 vg x2 (0 : Int32) (fun r2 => (pX1_meet vcj r1 r2 (fun r3 => ((r3 = 0 → (Q (0 : Int32) )) ∧ (¬ r3 = 0 → (pX8_isClearBehind vcj vg x1 x2 (fun r5 => ((¬ r5 = 0 → (Q (0 : Int32) )) ∧ (r5 = 0 → (pX8_isClearBehind vcj vg x2 x1 (fun r7 => ((¬ r7 = 0 → (Q (0 : Int32) )) ∧ (r7 = 0 → (Q (1 : Int32) )))))))))))))))))
abbrev rmX8_areTooNear : Room := { frames := 2, cells := 0, slots := 0, locals := 45 }
abbrev wdX8_areTooNear : List Cond := Cond.code yX8_areTooNear cX8_areTooNear 4 (some .boolean) :: TB
theorem hdSX8_areTooNear : (yX8_areTooNear).cls ≠ "java/lang/invoke/MethodHandle" ∧ (yX8_areTooNear).cls ≠ "java/lang/invoke/VarHandle" ∧ (parseMethodDescriptor (yX8_areTooNear).desc).map (fun d => d.parameters.length) = some 2 := by decide +kernel
theorem hdX8_areTooNear : (yX8_areTooNear).cls = RX8 ∧ (yX8_areTooNear).cls ≠ "java/lang/invoke/MethodHandle" ∧ (yX8_areTooNear).cls ≠ "java/lang/invoke/VarHandle" ∧ (parseMethodDescriptor (yX8_areTooNear).desc).map (fun d => d.parameters.length) = some 2 := ⟨rfl, hdSX8_areTooNear⟩
set_option maxHeartbeats 4000000 in
set_option maxRecDepth 100000 in
theorem kX8_areTooNear {l : Launch} {D : va_G} {cI cJ cT : ClassId} (d : Nat → Nat) (dc : Nat → Nat) (dw : Nat → Nat) (dg : Nat → Nat) (dn : Nat → Nat) (dq : Nat → Nat) (dcj : Nat → Nat) (dcs : Nat → Nat) (dcp : Nat → Nat) (dcr : Nat → Nat)  (vc : Lf) (vcj : Lf) (vg : Lf) (x1 : Int32) (x2 : Int32) {Q : Int32 → Prop} (sz : Nat) (h : pX8_areTooNear vcj vg x1 x2 Q) : Met l yX8_areTooNear wdX8_areTooNear rmX8_areTooNear (Pz D (tyL cI cJ cT) [.ref (d 0), .int x1, .int x2] ((wX8 d (dc 0) (dw 0) (dg 0) (dn 0) (dq 0)) ++ ((wX0 dc (dcj 0) (dcs 0) (dcp 0) (dcr 0) vc) ++ ((wX1 cI dcj vcj) ++ (wX4 cI 24 dg vg)))) sz) (va_Qi (fun (r : Int32) (u : Unit) => Q r) (Bz D (tyL cI cJ cT) ((wX8 d (dc 0) (dw 0) (dg 0) (dn 0) (dq 0)) ++ ((wX0 dc (dcj 0) (dcs 0) (dcp 0) (dcr 0) vc) ++ ((wX1 cI dcj vcj) ++ (wX4 cI 24 dg vg)))) sz (fun (u : Unit) => ((wX8 d (dc 0) (dw 0) (dg 0) (dn 0) (dq 0)) ++ ((wX0 dc (dcj 0) (dcs 0) (dcp 0) (dcr 0) vc) ++ ((wX1 cI dcj vcj) ++ (wX4 cI 24 dg vg)))))) (va_A ((wX8 d (dc 0) (dw 0) (dg 0) (dn 0) (dq 0)) ++ ((wX0 dc (dcj 0) (dcs 0) (dcp 0) (dcr 0) vc) ++ ((wX1 cI dcj vcj) ++ (wX4 cI 24 dg vg)))) sz)) 0 0 (va_A ((wX8 d (dc 0) (dw 0) (dg 0) (dn 0) (dq 0)) ++ ((wX0 dc (dcj 0) (dcs 0) (dcp 0) (dcr 0) vc) ++ ((wX1 cI dcj vcj) ++ (wX4 cI 24 dg vg)))) sz) := by
  refine z_metz (cc := cX8_areTooNear) (maxL := 4) (own := RX8) (lv0 := [(0, .ref (d 0)), (1, .int x1), (2, .int x2)]) (by decide) rfl rfl (Nat.le_of_ble_eq_true rfl) rfl ?_
  intro p e s m args below meth c A QQ C hin hret
  refine z_aload_n (pc := 0) C 0 dX8_areTooNear_0 rfl ?_
  refine z_get (pc := 1) C uw8 0 rfl rfl 0 (by decide) wq474 rfl dX8_areTooNear_1 ?_
  refine z_get (pc := 4) C uw0 1 rfl rfl 0 (by decide) wq494 rfl dX8_areTooNear_4 ?_
  refine z_aload_n (pc := 7) C 0 dX8_areTooNear_7 rfl ?_
  refine z_get (pc := 8) C uw8 0 rfl rfl 2 (by decide) wq479 rfl dX8_areTooNear_8 ?_
  refine z_iload_n (pc := 11) C 1 dX8_areTooNear_11 rfl ?_
  refine z_iconst (pc := 12) (v := 0) C dX8_areTooNear_12 (by decide) ?_
  refine z_callRi (pc := 13) C (z_runV (pc := 13) (wc := (wX4 cI 24 dg vg)) (As := [.int x1, .int (0 : Int32)]) C (fun sz => kX4_at dg 24 vg x1 (0 : Int32) sz h) [8, 9] rfl (by decide) (gdV wq288 wq496 wq292 wq293 wq48) rfl rfl rfl hdX4_at 8 rfl rfl rfl ⟨Nat.le_of_ble_eq_true rfl, Nat.le_of_ble_eq_true rfl⟩ rfl (Nat.le_of_ble_eq_true rfl) ⟨Nat.zero_le _, Nat.zero_le _⟩ dX8_areTooNear_13) [8, 9] rfl (by decide) (fun r1 u1 h => ?_)
  refine z_aload_n (pc := 16) C 0 dX8_areTooNear_16 rfl ?_
  refine z_get (pc := 17) C uw8 0 rfl rfl 2 (by decide) wq479 rfl dX8_areTooNear_17 ?_
  refine z_iload_n (pc := 20) C 2 dX8_areTooNear_20 rfl ?_
  refine z_iconst (pc := 21) (v := 0) C dX8_areTooNear_21 (by decide) ?_
  refine z_callRi (pc := 22) C (z_runV (pc := 22) (wc := (wX4 cI 24 dg vg)) (As := [.int x2, .int (0 : Int32)]) C (fun sz => kX4_at dg 24 vg x2 (0 : Int32) sz h) [8, 9] rfl (by decide) (gdV wq288 wq496 wq292 wq293 wq48) rfl rfl rfl hdX4_at 8 rfl rfl rfl ⟨Nat.le_of_ble_eq_true rfl, Nat.le_of_ble_eq_true rfl⟩ rfl (Nat.le_of_ble_eq_true rfl) ⟨Nat.zero_le _, Nat.zero_le _⟩ dX8_areTooNear_22) [8, 9] rfl (by decide) (fun r2 u2 h => ?_)
  refine z_callRi (pc := 25) C (z_runV (pc := 25) (wc := (wX1 cI dcj vcj)) (As := [.int r1, .int r2]) C (fun sz => kX1_meet dcj vcj r1 r2 sz h) [2, 3, 4, 5, 6, 7] rfl (by decide) (gdV wq213 wq512 wq218 wq219 wq36) rfl rfl rfl hdX1_meet 2 rfl rfl rfl ⟨Nat.le_of_ble_eq_true rfl, Nat.le_of_ble_eq_true rfl⟩ rfl (Nat.le_of_ble_eq_true rfl) ⟨Nat.zero_le _, Nat.zero_le _⟩ dX8_areTooNear_25) [2, 3, 4, 5, 6, 7] rfl (by decide) (fun r3 u3 h => ?_)
  refine z_istore_n (pc := 28) (lv' := [(3, .int r3), (0, .ref (d 0)), (1, .int x1), (2, .int x2)]) C dX8_areTooNear_28 (by decide) rfl ?_
  refine z_iload_n (pc := 29) C 0 dX8_areTooNear_29 rfl ?_
  refine z_if_eq (pc := 30) (tgt := 55) C dX8_areTooNear_30 (by decide) (fun c4 => ?_) (fun c4 => ?_)
  · have h := h.1 c4
    refine z_iconst (pc := 55) (v := 0) C dX8_areTooNear_55 (by decide) ?_
    exact hret 56 _ _ (0 : Int32) rfl () rfl h dX8_areTooNear_56
  · have h := h.2 c4
    refine z_aload_n (pc := 33) C 1 dX8_areTooNear_33 rfl ?_
    refine z_iload_n (pc := 34) C 2 dX8_areTooNear_34 rfl ?_
    refine z_iload_n (pc := 35) C 3 dX8_areTooNear_35 rfl ?_
    refine z_callRi (pc := 36) C (z_runV (pc := 36) (wc := ((wX8 d (dc 0) (dw 0) (dg 0) (dn 0) (dq 0)) ++ ((wX0 dc (dcj 0) (dcs 0) (dcp 0) (dcr 0) vc) ++ ((wX1 cI dcj vcj) ++ (wX4 cI 24 dg vg))))) (As := [.int x1, .int x2]) C (fun sz => kX8_isClearBehind d dc dw dg dn dq dcj dcs dcp dcr vc vcj vg x1 x2 sz h) [0, 1, 2, 3, 4, 5, 6, 7, 8, 9] rfl (by decide) (gdV wq510 wq513 wq514 wq515 wq505) rfl rfl rfl hdX8_isClearBehind 0 rfl rfl rfl ⟨Nat.le_of_ble_eq_true rfl, Nat.le_of_ble_eq_true rfl⟩ rfl (Nat.le_of_ble_eq_true rfl) ⟨Nat.zero_le _, Nat.zero_le _⟩ dX8_areTooNear_36) [0, 1, 2, 3, 4, 5, 6, 7, 8, 9] rfl (by decide) (fun r5 u5 h => ?_)
    refine z_if_ne (pc := 39) (tgt := 55) C dX8_areTooNear_39 (by decide) (fun c6 => ?_) (fun c6 => ?_)
    · have h := h.1 c6
      refine z_iconst (pc := 55) (v := 0) C dX8_areTooNear_55 (by decide) ?_
      exact hret 56 _ _ (0 : Int32) rfl () rfl h dX8_areTooNear_56
    · have h := h.2 c6
      refine z_aload_n (pc := 42) C 1 dX8_areTooNear_42 rfl ?_
      refine z_iload_n (pc := 43) C 3 dX8_areTooNear_43 rfl ?_
      refine z_iload_n (pc := 44) C 2 dX8_areTooNear_44 rfl ?_
      refine z_callRi (pc := 45) C (z_runV (pc := 45) (wc := ((wX8 d (dc 0) (dw 0) (dg 0) (dn 0) (dq 0)) ++ ((wX0 dc (dcj 0) (dcs 0) (dcp 0) (dcr 0) vc) ++ ((wX1 cI dcj vcj) ++ (wX4 cI 24 dg vg))))) (As := [.int x2, .int x1]) C (fun sz => kX8_isClearBehind d dc dw dg dn dq dcj dcs dcp dcr vc vcj vg x2 x1 sz h) [0, 1, 2, 3, 4, 5, 6, 7, 8, 9] rfl (by decide) (gdV wq510 wq513 wq514 wq515 wq505) rfl rfl rfl hdX8_isClearBehind 0 rfl rfl rfl ⟨Nat.le_of_ble_eq_true rfl, Nat.le_of_ble_eq_true rfl⟩ rfl (Nat.le_of_ble_eq_true rfl) ⟨Nat.zero_le _, Nat.zero_le _⟩ dX8_areTooNear_45) [0, 1, 2, 3, 4, 5, 6, 7, 8, 9] rfl (by decide) (fun r7 u7 h => ?_)
      refine z_if_ne (pc := 48) (tgt := 55) C dX8_areTooNear_48 (by decide) (fun c8 => ?_) (fun c8 => ?_)
      · have h := h.1 c8
        refine z_iconst (pc := 55) (v := 0) C dX8_areTooNear_55 (by decide) ?_
        exact hret 56 _ _ (0 : Int32) rfl () rfl h dX8_areTooNear_56
      · have h := h.2 c8
        refine z_iconst (pc := 51) (v := 1) C dX8_areTooNear_51 (by decide) ?_
        refine z_goto (pc := 52) (tgt := 56) C dX8_areTooNear_52 (by decide) ?_
        exact hret 56 _ _ (1 : Int32) rfl () rfl h dX8_areTooNear_56

def pX8_firstUnproved_L15 (vcj : Lf) (vg : Lf) (Q : Int32 → Prop) (K2 : Int32 → Prop) : Nat → Int32 → Int32 → Prop
  | 0, _, _ => False
  | n15 + 1, x1, x2 => ((x1 ≤ x2 → (K2 (x1 + 1))) ∧ (¬ x1 ≤ x2 → (pX8_areTooNear vcj vg x1 x2 (fun r3 => ((r3 = 0 → (pX8_firstUnproved_L15 vcj vg Q K2 n15 x1 (x2 + 1))) ∧ (¬ r3 = 0 → (Q x1 )))))))
def pX8_firstUnproved_L2 (vcj : Lf) (vg : Lf) (Q : Int32 → Prop) : Nat → Int32 → Prop
  | 0, _ => False
  | n2 + 1, x1 => (((vg 0 0) ≤ x1 → (Q (-5 : Int32) )) ∧ (¬ (vg 0 0) ≤ x1 → (∃ n15, pX8_firstUnproved_L15 vcj vg Q (fun x1 => pX8_firstUnproved_L2 vcj vg Q n2 x1) n15 x1 (0 : Int32))))
def pX8_firstUnproved (vcj : Lf) (vg : Lf)  (Q : Int32 → Prop) : Prop := (∃ n2, pX8_firstUnproved_L2 vcj vg Q  n2 (1 : Int32))
abbrev rmX8_firstUnproved : Room := { frames := 3, cells := 0, slots := 0, locals := 68 }
abbrev wdX8_firstUnproved : List Cond := Cond.code yX8_firstUnproved cX8_firstUnproved 3 (some .int) :: TB
theorem hdSX8_firstUnproved : (yX8_firstUnproved).cls ≠ "java/lang/invoke/MethodHandle" ∧ (yX8_firstUnproved).cls ≠ "java/lang/invoke/VarHandle" ∧ (parseMethodDescriptor (yX8_firstUnproved).desc).map (fun d => d.parameters.length) = some 0 := by decide +kernel
theorem hdX8_firstUnproved : (yX8_firstUnproved).cls = RX8 ∧ (yX8_firstUnproved).cls ≠ "java/lang/invoke/MethodHandle" ∧ (yX8_firstUnproved).cls ≠ "java/lang/invoke/VarHandle" ∧ (parseMethodDescriptor (yX8_firstUnproved).desc).map (fun d => d.parameters.length) = some 0 := ⟨rfl, hdSX8_firstUnproved⟩
set_option maxHeartbeats 4000000 in
set_option maxRecDepth 100000 in
theorem kX8_firstUnproved {l : Launch} {D : va_G} {cI cJ cT : ClassId} (d : Nat → Nat) (dc : Nat → Nat) (dw : Nat → Nat) (dg : Nat → Nat) (dn : Nat → Nat) (dq : Nat → Nat) (dcj : Nat → Nat) (dcs : Nat → Nat) (dcp : Nat → Nat) (dcr : Nat → Nat)  (vc : Lf) (vcj : Lf) (vg : Lf)  {Q : Int32 → Prop} (sz : Nat) (h : pX8_firstUnproved vcj vg Q) : Met l yX8_firstUnproved wdX8_firstUnproved rmX8_firstUnproved (Pz D (tyL cI cJ cT) [.ref (d 0)] ((wX8 d (dc 0) (dw 0) (dg 0) (dn 0) (dq 0)) ++ ((wX0 dc (dcj 0) (dcs 0) (dcp 0) (dcr 0) vc) ++ ((wX1 cI dcj vcj) ++ (wX4 cI 24 dg vg)))) sz) (va_Qi (fun (r : Int32) (u : Unit) => Q r) (Bz D (tyL cI cJ cT) ((wX8 d (dc 0) (dw 0) (dg 0) (dn 0) (dq 0)) ++ ((wX0 dc (dcj 0) (dcs 0) (dcp 0) (dcr 0) vc) ++ ((wX1 cI dcj vcj) ++ (wX4 cI 24 dg vg)))) sz (fun (u : Unit) => ((wX8 d (dc 0) (dw 0) (dg 0) (dn 0) (dq 0)) ++ ((wX0 dc (dcj 0) (dcs 0) (dcp 0) (dcr 0) vc) ++ ((wX1 cI dcj vcj) ++ (wX4 cI 24 dg vg)))))) (va_A ((wX8 d (dc 0) (dw 0) (dg 0) (dn 0) (dq 0)) ++ ((wX0 dc (dcj 0) (dcs 0) (dcp 0) (dcr 0) vc) ++ ((wX1 cI dcj vcj) ++ (wX4 cI 24 dg vg)))) sz)) 0 0 (va_A ((wX8 d (dc 0) (dw 0) (dg 0) (dn 0) (dq 0)) ++ ((wX0 dc (dcj 0) (dcs 0) (dcp 0) (dcr 0) vc) ++ ((wX1 cI dcj vcj) ++ (wX4 cI 24 dg vg)))) sz) := by
  refine z_meti (cc := cX8_firstUnproved) (maxL := 3) (own := RX8) (lv0 := [(0, .ref (d 0))]) (by decide) rfl rfl (Nat.le_of_ble_eq_true rfl) rfl ?_
  intro p e s m args below meth c A QQ C hin hret
  have L15 : ∀ (K2 : Int32 → Prop), (∀ (x1 : Int32), K2 x1 → ZZ p l e rmX8_firstUnproved s m args below meth c D A 3 0 0 QQ 2 ((wX8 d (dc 0) (dw 0) (dg 0) (dn 0) (dq 0)) ++ ((wX0 dc (dcj 0) (dcs 0) (dcp 0) (dcr 0) vc) ++ ((wX1 cI dcj vcj) ++ (wX4 cI 24 dg vg)))) [(0, .ref (d 0)), (1, .int x1)] []) → ∀ (n15 : Nat) (x1 : Int32) (x2 : Int32), pX8_firstUnproved_L15 vcj vg Q K2 n15 x1 x2 → ZZ p l e rmX8_firstUnproved s m args below meth c D A 3 0 0 QQ 15 ((wX8 d (dc 0) (dw 0) (dg 0) (dn 0) (dq 0)) ++ ((wX0 dc (dcj 0) (dcs 0) (dcp 0) (dcr 0) vc) ++ ((wX1 cI dcj vcj) ++ (wX4 cI 24 dg vg)))) [(0, .ref (d 0)), (1, .int x1), (2, .int x2)] [] := by
    intro K2 hK2
    intro n15
    induction n15 with
    | zero => intro x1 x2 h; exact False.elim h
    | succ n15 ih15 =>
      intro x1 x2 h
      refine z_iload_n (pc := 15) C 2 dX8_firstUnproved_15 rfl ?_
      refine z_iload_n (pc := 16) C 1 dX8_firstUnproved_16 rfl ?_
      refine z_icmp_ge (pc := 17) (tgt := 37) C dX8_firstUnproved_17 (by decide) (fun c2 => ?_) (fun c2 => ?_)
      · have h := h.1 c2
        refine z_iinc (pc := 37) (v := (x1 + 1)) (lv' := [(1, .int (x1 + 1)), (0, .ref (d 0)), (2, .int x2)]) C 1 dX8_firstUnproved_37 rfl rfl (by decide) rfl ?_
        refine z_goto (pc := 40) (tgt := 2) C dX8_firstUnproved_40 (by decide) ?_
        refine z_sub (lv' := [(0, .ref (d 0)), (1, .int (x1 + 1))]) [1, 0] rfl ?_
        exact hK2 (x1 + 1) h
      · have h := h.2 c2
        refine z_aload_n (pc := 20) C 0 dX8_firstUnproved_20 rfl ?_
        refine z_iload_n (pc := 21) C 1 dX8_firstUnproved_21 rfl ?_
        refine z_iload_n (pc := 22) C 2 dX8_firstUnproved_22 rfl ?_
        refine z_callRi (pc := 23) C (z_runV (pc := 23) (wc := ((wX8 d (dc 0) (dw 0) (dg 0) (dn 0) (dq 0)) ++ ((wX0 dc (dcj 0) (dcs 0) (dcp 0) (dcr 0) vc) ++ ((wX1 cI dcj vcj) ++ (wX4 cI 24 dg vg))))) (As := [.int x1, .int x2]) C (fun sz => kX8_areTooNear d dc dw dg dn dq dcj dcs dcp dcr vc vcj vg x1 x2 sz h) [0, 1, 2, 3, 4, 5, 6, 7, 8, 9] rfl (by decide) (gdV wq516 wq517 wq518 wq519 wq505) rfl rfl rfl hdX8_areTooNear 0 rfl rfl rfl ⟨Nat.le_of_ble_eq_true rfl, Nat.le_of_ble_eq_true rfl⟩ rfl (Nat.le_of_ble_eq_true rfl) ⟨Nat.zero_le _, Nat.zero_le _⟩ dX8_firstUnproved_23) [0, 1, 2, 3, 4, 5, 6, 7, 8, 9] rfl (by decide) (fun r3 u3 h => ?_)
        refine z_if_eq (pc := 26) (tgt := 31) C dX8_firstUnproved_26 (by decide) (fun c4 => ?_) (fun c4 => ?_)
        · have h := h.1 c4
          refine z_iinc (pc := 31) (v := (x2 + 1)) (lv' := [(2, .int (x2 + 1)), (0, .ref (d 0)), (1, .int x1)]) C 2 dX8_firstUnproved_31 rfl rfl (by decide) rfl ?_
          refine z_goto (pc := 34) (tgt := 15) C dX8_firstUnproved_34 (by decide) ?_
          refine z_sub (lv' := [(0, .ref (d 0)), (1, .int x1), (2, .int (x2 + 1))]) [1, 2, 0] rfl ?_
          exact ih15 x1 (x2 + 1) h
        · have h := h.2 c4
          refine z_iload_n (pc := 29) C 1 dX8_firstUnproved_29 rfl ?_
          exact hret 30 _ _ x1 () rfl h dX8_firstUnproved_30
  have L2 : ∀ (n2 : Nat) (x1 : Int32), pX8_firstUnproved_L2 vcj vg Q n2 x1 → ZZ p l e rmX8_firstUnproved s m args below meth c D A 3 0 0 QQ 2 ((wX8 d (dc 0) (dw 0) (dg 0) (dn 0) (dq 0)) ++ ((wX0 dc (dcj 0) (dcs 0) (dcp 0) (dcr 0) vc) ++ ((wX1 cI dcj vcj) ++ (wX4 cI 24 dg vg)))) [(0, .ref (d 0)), (1, .int x1)] [] := by
    intro n2
    induction n2 with
    | zero => intro x1 h; exact False.elim h
    | succ n2 ih2 =>
      intro x1 h
      refine z_iload_n (pc := 2) C 1 dX8_firstUnproved_2 rfl ?_
      refine z_aload_n (pc := 3) C 0 dX8_firstUnproved_3 rfl ?_
      refine z_get (pc := 4) C uw8 0 rfl rfl 2 (by decide) wq479 rfl dX8_firstUnproved_4 ?_
      refine z_get (pc := 7) C uw4 8 rfl rfl 0 (by decide) wq495 rfl dX8_firstUnproved_7 ?_
      refine z_icmp_ge (pc := 10) (tgt := 43) C dX8_firstUnproved_10 (by decide) (fun c1 => ?_) (fun c1 => ?_)
      · have h := h.1 c1
        refine z_bipush (pc := 43) (v := -5) C dX8_firstUnproved_43 (by decide) ?_
        exact hret 45 _ _ (-5 : Int32) () rfl h dX8_firstUnproved_45
      · have h := h.2 c1
        refine z_iconst (pc := 13) (v := 0) C dX8_firstUnproved_13 (by decide) ?_
        refine z_istore_n (pc := 14) (lv' := [(2, .int (0 : Int32)), (0, .ref (d 0)), (1, .int x1)]) C dX8_firstUnproved_14 (by decide) rfl ?_
        obtain ⟨n15, h⟩ := h
        refine z_sub (lv' := [(0, .ref (d 0)), (1, .int x1), (2, .int (0 : Int32))]) [1, 2, 0] rfl ?_
        exact L15 (fun x1 => pX8_firstUnproved_L2 vcj vg Q n2 x1) ih2 n15 x1 (0 : Int32) h
  refine z_iconst (pc := 0) (v := 1) C dX8_firstUnproved_0 (by decide) ?_
  refine z_istore_n (pc := 1) (lv' := [(1, .int (1 : Int32)), (0, .ref (d 0))]) C dX8_firstUnproved_1 (by decide) rfl ?_
  obtain ⟨n2, h⟩ := h
  refine z_sub (lv' := [(0, .ref (d 0)), (1, .int (1 : Int32))]) [1, 0] rfl ?_
  exact L2  n2 (1 : Int32) h

def pX8_notesThatHold_J48 (vn : Lf) (x1 : Int32) (x2 : Int32) (Q : Int32 → Prop) (K5 : Int32 → Int32 → Prop) (x3 : Int32) (x4 : Int32) : Prop := (K5 x3 (x4 + 1))
def pX8_notesThatHold_L5 (vn : Lf) (x1 : Int32) (x2 : Int32) (Q : Int32 → Prop) : Nat → Int32 → Int32 → Prop
  | 0, _, _ => False
  | n5 + 1, x3, x4 => (((vn 0 0) ≤ x4 → (Q x3 )) ∧ (¬ (vn 0 0) ≤ x4 → (pX4_at 15 vn x4 (0 : Int32) (fun r2 => ((¬ r2 = x1 → (pX8_notesThatHold_J48 vn x1 x2 Q (fun x3 x4 => pX8_notesThatHold_L5 vn x1 x2 Q n5 x3 x4) x3 x4)) ∧ (r2 = x1 → (pX4_at 15 vn x4 (1 : Int32) (fun r4 => ((¬ r4 = x2 → (pX8_notesThatHold_J48 vn x1 x2 Q (fun x3 x4 => pX8_notesThatHold_L5 vn x1 x2 Q n5 x3 x4) x3 x4)) ∧ (r4 = x2 → (pX8_notesThatHold_J48 vn x1 x2 Q (fun x3 x4 => pX8_notesThatHold_L5 vn x1 x2 Q n5 x3 x4) (x3 + 1) x4)))))))))))
def pX8_notesThatHold (vn : Lf) (x1 : Int32) (x2 : Int32) (Q : Int32 → Prop) : Prop := (∃ n5, pX8_notesThatHold_L5 vn x1 x2 Q  n5 (0 : Int32) (0 : Int32))
abbrev rmX8_notesThatHold : Room := { frames := 1, cells := 0, slots := 0, locals := 22 }
abbrev wdX8_notesThatHold : List Cond := Cond.code yX8_notesThatHold cX8_notesThatHold 5 (some .int) :: TB
theorem hdSX8_notesThatHold : (yX8_notesThatHold).cls ≠ "java/lang/invoke/MethodHandle" ∧ (yX8_notesThatHold).cls ≠ "java/lang/invoke/VarHandle" ∧ (parseMethodDescriptor (yX8_notesThatHold).desc).map (fun d => d.parameters.length) = some 2 := by decide +kernel
theorem hdX8_notesThatHold : (yX8_notesThatHold).cls = RX8 ∧ (yX8_notesThatHold).cls ≠ "java/lang/invoke/MethodHandle" ∧ (yX8_notesThatHold).cls ≠ "java/lang/invoke/VarHandle" ∧ (parseMethodDescriptor (yX8_notesThatHold).desc).map (fun d => d.parameters.length) = some 2 := ⟨rfl, hdSX8_notesThatHold⟩
set_option maxHeartbeats 4000000 in
set_option maxRecDepth 100000 in
theorem kX8_notesThatHold {l : Launch} {D : va_G} {cI cJ cT : ClassId} (d : Nat → Nat) (dc : Nat → Nat) (dw : Nat → Nat) (dg : Nat → Nat) (dn : Nat → Nat) (dq : Nat → Nat)  (vn : Lf) (x1 : Int32) (x2 : Int32) {Q : Int32 → Prop} (sz : Nat) (h : pX8_notesThatHold vn x1 x2 Q) : Met l yX8_notesThatHold wdX8_notesThatHold rmX8_notesThatHold (Pz D (tyL cI cJ cT) [.ref (d 0), .int x1, .int x2] ((wX8 d (dc 0) (dw 0) (dg 0) (dn 0) (dq 0)) ++ (wX4 cI 15 dn vn)) sz) (va_Qi (fun (r : Int32) (u : Unit) => Q r) (Bz D (tyL cI cJ cT) ((wX8 d (dc 0) (dw 0) (dg 0) (dn 0) (dq 0)) ++ (wX4 cI 15 dn vn)) sz (fun (u : Unit) => ((wX8 d (dc 0) (dw 0) (dg 0) (dn 0) (dq 0)) ++ (wX4 cI 15 dn vn)))) (va_A ((wX8 d (dc 0) (dw 0) (dg 0) (dn 0) (dq 0)) ++ (wX4 cI 15 dn vn)) sz)) 0 0 (va_A ((wX8 d (dc 0) (dw 0) (dg 0) (dn 0) (dq 0)) ++ (wX4 cI 15 dn vn)) sz) := by
  refine z_meti (cc := cX8_notesThatHold) (maxL := 5) (own := RX8) (lv0 := [(0, .ref (d 0)), (1, .int x1), (2, .int x2)]) (by decide) rfl rfl (Nat.le_of_ble_eq_true rfl) rfl ?_
  intro p e s m args below meth c A QQ C hin hret
  have J48 : ∀ (K5 : Int32 → Int32 → Prop), (∀ (x3 : Int32) (x4 : Int32), K5 x3 x4 → ZZ p l e rmX8_notesThatHold s m args below meth c D A 5 0 0 QQ 5 ((wX8 d (dc 0) (dw 0) (dg 0) (dn 0) (dq 0)) ++ (wX4 cI 15 dn vn)) [(0, .ref (d 0)), (1, .int x1), (2, .int x2), (3, .int x3), (4, .int x4)] []) → ∀ (x3 : Int32) (x4 : Int32), pX8_notesThatHold_J48 vn x1 x2 Q K5 x3 x4 → ZZ p l e rmX8_notesThatHold s m args below meth c D A 5 0 0 QQ 48 ((wX8 d (dc 0) (dw 0) (dg 0) (dn 0) (dq 0)) ++ (wX4 cI 15 dn vn)) [(0, .ref (d 0)), (1, .int x1), (2, .int x2), (3, .int x3), (4, .int x4)] [] := by
    intro K5 hK5 x3 x4 h
    refine z_iinc (pc := 48) (v := (x4 + 1)) (lv' := [(4, .int (x4 + 1)), (0, .ref (d 0)), (1, .int x1), (2, .int x2), (3, .int x3)]) C 4 dX8_notesThatHold_48 rfl rfl (by decide) rfl ?_
    refine z_goto (pc := 51) (tgt := 5) C dX8_notesThatHold_51 (by decide) ?_
    refine z_sub (lv' := [(0, .ref (d 0)), (1, .int x1), (2, .int x2), (3, .int x3), (4, .int (x4 + 1))]) [1, 2, 3, 4, 0] rfl ?_
    exact hK5 x3 (x4 + 1) h
  have L5 : ∀ (n5 : Nat) (x3 : Int32) (x4 : Int32), pX8_notesThatHold_L5 vn x1 x2 Q n5 x3 x4 → ZZ p l e rmX8_notesThatHold s m args below meth c D A 5 0 0 QQ 5 ((wX8 d (dc 0) (dw 0) (dg 0) (dn 0) (dq 0)) ++ (wX4 cI 15 dn vn)) [(0, .ref (d 0)), (1, .int x1), (2, .int x2), (3, .int x3), (4, .int x4)] [] := by
    intro n5
    induction n5 with
    | zero => intro x3 x4 h; exact False.elim h
    | succ n5 ih5 =>
      intro x3 x4 h
      refine z_iload (pc := 5) C 4 dX8_notesThatHold_5 rfl ?_
      refine z_aload_n (pc := 7) C 0 dX8_notesThatHold_7 rfl ?_
      refine z_get (pc := 8) C uw8 0 rfl rfl 3 (by decide) wq480 rfl dX8_notesThatHold_8 ?_
      refine z_get (pc := 11) C uw4 1 rfl rfl 0 (by decide) wq495 rfl dX8_notesThatHold_11 ?_
      refine z_icmp_ge (pc := 14) (tgt := 54) C dX8_notesThatHold_14 (by decide) (fun c1 => ?_) (fun c1 => ?_)
      · have h := h.1 c1
        refine z_iload_n (pc := 54) C 3 dX8_notesThatHold_54 rfl ?_
        exact hret 55 _ _ x3 () rfl h dX8_notesThatHold_55
      · have h := h.2 c1
        refine z_aload_n (pc := 17) C 0 dX8_notesThatHold_17 rfl ?_
        refine z_get (pc := 18) C uw8 0 rfl rfl 3 (by decide) wq480 rfl dX8_notesThatHold_18 ?_
        refine z_iload (pc := 21) C 4 dX8_notesThatHold_21 rfl ?_
        refine z_iconst (pc := 23) (v := 0) C dX8_notesThatHold_23 (by decide) ?_
        refine z_callRi (pc := 24) C (z_runV (pc := 24) (wc := (wX4 cI 15 dn vn)) (As := [.int x4, .int (0 : Int32)]) C (fun sz => kX4_at dn 15 vn x4 (0 : Int32) sz h) [1, 2] rfl (by decide) (gdV wq288 wq496 wq292 wq293 wq48) rfl rfl rfl hdX4_at 1 rfl rfl rfl ⟨Nat.le_of_ble_eq_true rfl, Nat.le_of_ble_eq_true rfl⟩ rfl (Nat.le_of_ble_eq_true rfl) ⟨Nat.zero_le _, Nat.zero_le _⟩ dX8_notesThatHold_24) [1, 2] rfl (by decide) (fun r2 u2 h => ?_)
        refine z_iload_n (pc := 27) C 1 dX8_notesThatHold_27 rfl ?_
        refine z_icmp_ne (pc := 28) (tgt := 48) C dX8_notesThatHold_28 (by decide) (fun c3 => ?_) (fun c3 => ?_)
        · have h := h.1 c3
          exact J48 (fun x3 x4 => pX8_notesThatHold_L5 vn x1 x2 Q n5 x3 x4) ih5 x3 x4 h
        · have h := h.2 c3
          refine z_aload_n (pc := 31) C 0 dX8_notesThatHold_31 rfl ?_
          refine z_get (pc := 32) C uw8 0 rfl rfl 3 (by decide) wq480 rfl dX8_notesThatHold_32 ?_
          refine z_iload (pc := 35) C 4 dX8_notesThatHold_35 rfl ?_
          refine z_iconst (pc := 37) (v := 1) C dX8_notesThatHold_37 (by decide) ?_
          refine z_callRi (pc := 38) C (z_runV (pc := 38) (wc := (wX4 cI 15 dn vn)) (As := [.int x4, .int (1 : Int32)]) C (fun sz => kX4_at dn 15 vn x4 (1 : Int32) sz h) [1, 2] rfl (by decide) (gdV wq288 wq496 wq292 wq293 wq48) rfl rfl rfl hdX4_at 1 rfl rfl rfl ⟨Nat.le_of_ble_eq_true rfl, Nat.le_of_ble_eq_true rfl⟩ rfl (Nat.le_of_ble_eq_true rfl) ⟨Nat.zero_le _, Nat.zero_le _⟩ dX8_notesThatHold_38) [1, 2] rfl (by decide) (fun r4 u4 h => ?_)
          refine z_iload_n (pc := 41) C 2 dX8_notesThatHold_41 rfl ?_
          refine z_icmp_ne (pc := 42) (tgt := 48) C dX8_notesThatHold_42 (by decide) (fun c5 => ?_) (fun c5 => ?_)
          · have h := h.1 c5
            exact J48 (fun x3 x4 => pX8_notesThatHold_L5 vn x1 x2 Q n5 x3 x4) ih5 x3 x4 h
          · have h := h.2 c5
            refine z_iinc (pc := 45) (v := (x3 + 1)) (lv' := [(3, .int (x3 + 1)), (0, .ref (d 0)), (1, .int x1), (2, .int x2), (4, .int x4)]) C 3 dX8_notesThatHold_45 rfl rfl (by decide) rfl ?_
            refine z_sub (lv' := [(0, .ref (d 0)), (1, .int x1), (2, .int x2), (3, .int (x3 + 1)), (4, .int x4)]) [1, 2, 3, 0, 4] rfl ?_
            exact J48 (fun x3 x4 => pX8_notesThatHold_L5 vn x1 x2 Q n5 x3 x4) ih5 (x3 + 1) x4 h
  refine z_iconst (pc := 0) (v := 0) C dX8_notesThatHold_0 (by decide) ?_
  refine z_istore_n (pc := 1) (lv' := [(3, .int (0 : Int32)), (0, .ref (d 0)), (1, .int x1), (2, .int x2)]) C dX8_notesThatHold_1 (by decide) rfl ?_
  refine z_iconst (pc := 2) (v := 0) C dX8_notesThatHold_2 (by decide) ?_
  refine z_istore (pc := 3) (lv' := [(4, .int (0 : Int32)), (3, .int (0 : Int32)), (0, .ref (d 0)), (1, .int x1), (2, .int x2)]) C dX8_notesThatHold_3 (by decide) rfl ?_
  obtain ⟨n5, h⟩ := h
  refine z_sub (lv' := [(0, .ref (d 0)), (1, .int x1), (2, .int x2), (3, .int (0 : Int32)), (4, .int (0 : Int32))]) [2, 3, 4, 1, 0] rfl ?_
  exact L5  n5 (0 : Int32) (0 : Int32) h

def pX8_plannedSeconds_J39 (vq : Lf) (Q : Int32 → Prop) (K4 : Int32 → Int32 → Prop) (x1 : Int32) (x2 : Int32) : Prop := (K4 x1 (x2 + 1))
def pX8_plannedSeconds_L4 (vq : Lf) (Q : Int32 → Prop) : Nat → Int32 → Int32 → Prop
  | 0, _, _ => False
  | n4 + 1, x1, x2 => (((vq 0 0) ≤ x2 → (Q x1 )) ∧ (¬ (vq 0 0) ≤ x2 → (pX4_at 24 vq x2 (0 : Int32) (fun r2 => ((¬ r2 = 0 → (pX8_plannedSeconds_J39 vq Q (fun x1 x2 => pX8_plannedSeconds_L4 vq Q n4 x1 x2) x1 x2)) ∧ (r2 = 0 → (pX4_at 24 vq x2 (1 : Int32) (fun r4 => (pX8_plannedSeconds_J39 vq Q (fun x1 x2 => pX8_plannedSeconds_L4 vq Q n4 x1 x2) (x1 + r4) x2)))))))))
def pX8_plannedSeconds (vq : Lf)  (Q : Int32 → Prop) : Prop := (∃ n4, pX8_plannedSeconds_L4 vq Q  n4 (0 : Int32) (0 : Int32))
abbrev rmX8_plannedSeconds : Room := { frames := 1, cells := 0, slots := 0, locals := 22 }
abbrev wdX8_plannedSeconds : List Cond := Cond.code yX8_plannedSeconds cX8_plannedSeconds 3 (some .int) :: TB
theorem hdSX8_plannedSeconds : (yX8_plannedSeconds).cls ≠ "java/lang/invoke/MethodHandle" ∧ (yX8_plannedSeconds).cls ≠ "java/lang/invoke/VarHandle" ∧ (parseMethodDescriptor (yX8_plannedSeconds).desc).map (fun d => d.parameters.length) = some 0 := by decide +kernel
theorem hdX8_plannedSeconds : (yX8_plannedSeconds).cls = RX8 ∧ (yX8_plannedSeconds).cls ≠ "java/lang/invoke/MethodHandle" ∧ (yX8_plannedSeconds).cls ≠ "java/lang/invoke/VarHandle" ∧ (parseMethodDescriptor (yX8_plannedSeconds).desc).map (fun d => d.parameters.length) = some 0 := ⟨rfl, hdSX8_plannedSeconds⟩
set_option maxHeartbeats 4000000 in
set_option maxRecDepth 100000 in
theorem kX8_plannedSeconds {l : Launch} {D : va_G} {cI cJ cT : ClassId} (d : Nat → Nat) (dc : Nat → Nat) (dw : Nat → Nat) (dg : Nat → Nat) (dn : Nat → Nat) (dq : Nat → Nat)  (vq : Lf)  {Q : Int32 → Prop} (sz : Nat) (h : pX8_plannedSeconds vq Q) : Met l yX8_plannedSeconds wdX8_plannedSeconds rmX8_plannedSeconds (Pz D (tyL cI cJ cT) [.ref (d 0)] ((wX8 d (dc 0) (dw 0) (dg 0) (dn 0) (dq 0)) ++ (wX4 cI 24 dq vq)) sz) (va_Qi (fun (r : Int32) (u : Unit) => Q r) (Bz D (tyL cI cJ cT) ((wX8 d (dc 0) (dw 0) (dg 0) (dn 0) (dq 0)) ++ (wX4 cI 24 dq vq)) sz (fun (u : Unit) => ((wX8 d (dc 0) (dw 0) (dg 0) (dn 0) (dq 0)) ++ (wX4 cI 24 dq vq)))) (va_A ((wX8 d (dc 0) (dw 0) (dg 0) (dn 0) (dq 0)) ++ (wX4 cI 24 dq vq)) sz)) 0 0 (va_A ((wX8 d (dc 0) (dw 0) (dg 0) (dn 0) (dq 0)) ++ (wX4 cI 24 dq vq)) sz) := by
  refine z_meti (cc := cX8_plannedSeconds) (maxL := 3) (own := RX8) (lv0 := [(0, .ref (d 0))]) (by decide) rfl rfl (Nat.le_of_ble_eq_true rfl) rfl ?_
  intro p e s m args below meth c A QQ C hin hret
  have J39 : ∀ (K4 : Int32 → Int32 → Prop), (∀ (x1 : Int32) (x2 : Int32), K4 x1 x2 → ZZ p l e rmX8_plannedSeconds s m args below meth c D A 3 0 0 QQ 4 ((wX8 d (dc 0) (dw 0) (dg 0) (dn 0) (dq 0)) ++ (wX4 cI 24 dq vq)) [(0, .ref (d 0)), (1, .int x1), (2, .int x2)] []) → ∀ (x1 : Int32) (x2 : Int32), pX8_plannedSeconds_J39 vq Q K4 x1 x2 → ZZ p l e rmX8_plannedSeconds s m args below meth c D A 3 0 0 QQ 39 ((wX8 d (dc 0) (dw 0) (dg 0) (dn 0) (dq 0)) ++ (wX4 cI 24 dq vq)) [(0, .ref (d 0)), (1, .int x1), (2, .int x2)] [] := by
    intro K4 hK4 x1 x2 h
    refine z_iinc (pc := 39) (v := (x2 + 1)) (lv' := [(2, .int (x2 + 1)), (0, .ref (d 0)), (1, .int x1)]) C 2 dX8_plannedSeconds_39 rfl rfl (by decide) rfl ?_
    refine z_goto (pc := 42) (tgt := 4) C dX8_plannedSeconds_42 (by decide) ?_
    refine z_sub (lv' := [(0, .ref (d 0)), (1, .int x1), (2, .int (x2 + 1))]) [1, 2, 0] rfl ?_
    exact hK4 x1 (x2 + 1) h
  have L4 : ∀ (n4 : Nat) (x1 : Int32) (x2 : Int32), pX8_plannedSeconds_L4 vq Q n4 x1 x2 → ZZ p l e rmX8_plannedSeconds s m args below meth c D A 3 0 0 QQ 4 ((wX8 d (dc 0) (dw 0) (dg 0) (dn 0) (dq 0)) ++ (wX4 cI 24 dq vq)) [(0, .ref (d 0)), (1, .int x1), (2, .int x2)] [] := by
    intro n4
    induction n4 with
    | zero => intro x1 x2 h; exact False.elim h
    | succ n4 ih4 =>
      intro x1 x2 h
      refine z_iload_n (pc := 4) C 2 dX8_plannedSeconds_4 rfl ?_
      refine z_aload_n (pc := 5) C 0 dX8_plannedSeconds_5 rfl ?_
      refine z_get (pc := 6) C uw8 0 rfl rfl 4 (by decide) wq481 rfl dX8_plannedSeconds_6 ?_
      refine z_get (pc := 9) C uw4 1 rfl rfl 0 (by decide) wq495 rfl dX8_plannedSeconds_9 ?_
      refine z_icmp_ge (pc := 12) (tgt := 45) C dX8_plannedSeconds_12 (by decide) (fun c1 => ?_) (fun c1 => ?_)
      · have h := h.1 c1
        refine z_iload_n (pc := 45) C 1 dX8_plannedSeconds_45 rfl ?_
        exact hret 46 _ _ x1 () rfl h dX8_plannedSeconds_46
      · have h := h.2 c1
        refine z_aload_n (pc := 15) C 0 dX8_plannedSeconds_15 rfl ?_
        refine z_get (pc := 16) C uw8 0 rfl rfl 4 (by decide) wq481 rfl dX8_plannedSeconds_16 ?_
        refine z_iload_n (pc := 19) C 2 dX8_plannedSeconds_19 rfl ?_
        refine z_iconst (pc := 20) (v := 0) C dX8_plannedSeconds_20 (by decide) ?_
        refine z_callRi (pc := 21) C (z_runV (pc := 21) (wc := (wX4 cI 24 dq vq)) (As := [.int x2, .int (0 : Int32)]) C (fun sz => kX4_at dq 24 vq x2 (0 : Int32) sz h) [1, 2] rfl (by decide) (gdV wq288 wq496 wq292 wq293 wq48) rfl rfl rfl hdX4_at 1 rfl rfl rfl ⟨Nat.le_of_ble_eq_true rfl, Nat.le_of_ble_eq_true rfl⟩ rfl (Nat.le_of_ble_eq_true rfl) ⟨Nat.zero_le _, Nat.zero_le _⟩ dX8_plannedSeconds_21) [1, 2] rfl (by decide) (fun r2 u2 h => ?_)
        refine z_if_ne (pc := 24) (tgt := 39) C dX8_plannedSeconds_24 (by decide) (fun c3 => ?_) (fun c3 => ?_)
        · have h := h.1 c3
          exact J39 (fun x1 x2 => pX8_plannedSeconds_L4 vq Q n4 x1 x2) ih4 x1 x2 h
        · have h := h.2 c3
          refine z_iload_n (pc := 27) C 1 dX8_plannedSeconds_27 rfl ?_
          refine z_aload_n (pc := 28) C 0 dX8_plannedSeconds_28 rfl ?_
          refine z_get (pc := 29) C uw8 0 rfl rfl 4 (by decide) wq481 rfl dX8_plannedSeconds_29 ?_
          refine z_iload_n (pc := 32) C 2 dX8_plannedSeconds_32 rfl ?_
          refine z_iconst (pc := 33) (v := 1) C dX8_plannedSeconds_33 (by decide) ?_
          refine z_callRi (pc := 34) C (z_runV (pc := 34) (wc := (wX4 cI 24 dq vq)) (As := [.int x2, .int (1 : Int32)]) C (fun sz => kX4_at dq 24 vq x2 (1 : Int32) sz h) [1, 2] rfl (by decide) (gdV wq288 wq496 wq292 wq293 wq48) rfl rfl rfl hdX4_at 1 rfl rfl rfl ⟨Nat.le_of_ble_eq_true rfl, Nat.le_of_ble_eq_true rfl⟩ rfl (Nat.le_of_ble_eq_true rfl) ⟨Nat.zero_le _, Nat.zero_le _⟩ dX8_plannedSeconds_34) [1, 2] rfl (by decide) (fun r4 u4 h => ?_)
          refine z_iadd (pc := 37) C dX8_plannedSeconds_37 ?_
          refine z_istore_n (pc := 38) (lv' := [(1, .int (x1 + r4)), (0, .ref (d 0)), (2, .int x2)]) C dX8_plannedSeconds_38 (by decide) rfl ?_
          refine z_sub (lv' := [(0, .ref (d 0)), (1, .int (x1 + r4)), (2, .int x2)]) [1, 0, 2] rfl ?_
          exact J39 (fun x1 x2 => pX8_plannedSeconds_L4 vq Q n4 x1 x2) ih4 (x1 + r4) x2 h
  refine z_iconst (pc := 0) (v := 0) C dX8_plannedSeconds_0 (by decide) ?_
  refine z_istore_n (pc := 1) (lv' := [(1, .int (0 : Int32)), (0, .ref (d 0))]) C dX8_plannedSeconds_1 (by decide) rfl ?_
  refine z_iconst (pc := 2) (v := 0) C dX8_plannedSeconds_2 (by decide) ?_
  refine z_istore_n (pc := 3) (lv' := [(2, .int (0 : Int32)), (1, .int (0 : Int32)), (0, .ref (d 0))]) C dX8_plannedSeconds_3 (by decide) rfl ?_
  obtain ⟨n4, h⟩ := h
  refine z_sub (lv' := [(0, .ref (d 0)), (1, .int (0 : Int32)), (2, .int (0 : Int32))]) [2, 1, 0] rfl ?_
  exact L4  n4 (0 : Int32) (0 : Int32) h

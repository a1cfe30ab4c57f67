set_option maxHeartbeats 8000000 in
set_option maxRecDepth 100000 in
theorem law_body {p : Program} {l : Launch} {e : Env} {s : State} {m : MethodId} {below : List Frame} {meth : Method} {c : Code} {D : va_G} {cI cJ cT : ClassId} {b L : Nat} {xs : Nat → Int32} {QQ : State → Prop} {Inv : InvT} (d : Nat → Nat) (dN : Nat → Nat) (dNc : Nat → Nat) (dNcj : Nat → Nat) (dNcs : Nat → Nat) (dNcp : Nat → Nat) (dNcr : Nat → Nat) (dNw : Nat → Nat) (dNg : Nat → Nat) (dNn : Nat → Nat) (dNq : Nat → Nat) (dI : Nat → Nat) (dIc : Nat → Nat) (dIcj : Nat → Nat) (dIcs : Nat → Nat) (dIcp : Nat → Nat) (dIcr : Nat → Nat) (dIw : Nat → Nat) (dIg : Nat → Nat) (dIn : Nat → Nat) (dIq : Nat → Nat) (dT : Nat → Nat) (dTj : Nat → Nat) (dTs : Nat → Nat) (dTp : Nat → Nat) (dTr : Nat → Nat) (dx : Nat → Nat) (dtt : Nat) (dt : Nat → Nat → Nat) (dM : Nat → Nat) (v : Lf) (vNc : Lf) (vNcj : Lf) (vNcs : Lf) (vNcp : Lf) (vNcr : Lf) (vNw : Lf) (vNg : Lf) (vNn : Lf) (vNq : Lf) (vIc : Lf) (vIcj : Lf) (vIcs : Lf) (vIcp : Lf) (vIcr : Lf) (vIw : Lf) (vIg : Lf) (vIn : Lf) (vIq : Lf) (vT : Lf) (vTj : Lf) (vTs : Lf) (vTp : Lf) (vTr : Lf) (vx : Lf) (vt : Nat → Lf) (gt : Nat → Lg) (vM : Lf) (gM : Lg) (i : Int32) (C : CX p s m #[Value.ref b] c cL_law RL TB D (tyL cI cJ cT) (fun q : Nat => s.heap.size ≤ q) 4) (hX : va_X b L xs s s.heap) (hbl : b < s.heap.size) (g0 : vp_in i L) (g1 : vp_in (i + (1 : Int32)) L) (g2 : vp_in (i + (2 : Int32)) L) (g3 : vp_in (i + (3 : Int32)) L) (g4 : vp_in (i + (4 : Int32)) L) (g5 : vp_in (i + (5 : Int32)) L) (s0 : Sim_X9_signal Inv) (s1 : Sim_X9_goes Inv) (s2 : Sim_X9_tell Inv) (s3 : Sim_X9_feed Inv) (s4 : Sim_X9_read Inv) (s5 : Sim_X9_safety Inv) (s6 : Sim_X9_phase Inv) (s7 : Sim_X9_start Inv) (s8 : Sim_X9_cycle Inv) (s9 : Sim_X9_come Inv) (s10 : Sim_X9_seed Inv) (s11 : Sim_X9_emergency Inv) (s12 : Sim_X9_over Inv) (s13 : Sim_X9_pass Inv) (s14 : Sim_X9_told Inv) (s15 : Sim_X9_of Inv) (s16 : Sim_X9_way Inv) (s17 : Sim_X9_clear Inv) (s18 : Sim_X9_narrow Inv) (s19 : Sim_X9_table Inv) (s20 : Sim_X9_phaseOf Inv) (s21 : Sim_X9_taken Inv) (s22 : Sim_X9_recorded Inv) (s23 : Sim_X9_greens Inv) (s24 : Sim_X9_could Inv) (s25 : Sim_X9_crowded Inv) (s26 : Sim_X9_green Inv) (s27 : Sim_X9_proved Inv) (s28 : Sim_X9_wave Inv) (s29 : Sim_X9_node Inv) (s30 : Sim_X9_change Inv) (s31 : Sim_X9_band Inv) (s32 : Sim_X9_nodeBest Inv) (s33 : Sim_X9_tune Inv) (s34 : Sim_X9_would Inv) (s35 : Sim_X9_turns Inv) (s36 : Sim_X9_best Inv) (s37 : Sim_X9_note Inv) (s38 : Sim_X9_fits Inv) (s39 : Sim_X9_day Inv) (s40 : Sim_X9_chance Inv) (s41 : Sim_X9_mean Inv) (s42 : Sim_X9_plan Inv) (s43 : Sim_X9_ends Inv) (s44 : Sim_X9_judge Inv) (s45 : Sim_X9_image Inv) (s46 : Sim_X9_undo Inv) (s47 : Sim_X9_count Inv) (s48 : Sim_X9_tape Inv) (s49 : Sim_X9_item Inv) (s50 : Sim_X9_peek Inv) (s51 : Sim_X9_shift Inv) (hI : Inv v vNc vNcj vNcs vNcp vNcr vNw vNg vNn vNq vIc vIcj vIcs vIcp vIcr vIw vIg vIn vIq vT vTj vTs vTp vTr vx vt gt vM gM) (hK : ∀ (v : Lf) (vNc : Lf) (vNcj : Lf) (vNcs : Lf) (vNcp : Lf) (vNcr : Lf) (vNw : Lf) (vNg : Lf) (vNn : Lf) (vNq : Lf) (vIc : Lf) (vIcj : Lf) (vIcs : Lf) (vIcp : Lf) (vIcr : Lf) (vIw : Lf) (vIg : Lf) (vIn : Lf) (vIq : Lf) (vT : Lf) (vTj : Lf) (vTs : Lf) (vTp : Lf) (vTr : Lf) (vx : Lf) (vt : Nat → Lf) (gt : Nat → Lg) (vM : Lf) (gM : Lg), Inv v vNc vNcj vNcs vNcp vNcr vNw vNg vNn vNq vIc vIcj vIcs vIcp vIcr vIw vIg vIn vIq vT vTj vTs vTp vTr vx vt gt vM gM → ZZ p l e room_1 s m #[Value.ref b] below meth c D (fun q : Nat => s.heap.size ≤ q) 4 lawNC lawNS QQ 1875 (wL cI cJ cT d dN dNc dNcj dNcs dNcp dNcr dNw dNg dNn dNq dI dIc dIcj dIcs dIcp dIcr dIw dIg dIn dIq dT dTj dTs dTp dTr dx dtt dt dM v vNc vNcj vNcs vNcp vNcr vNw vNg vNn vNq vIc vIcj vIcs vIcp vIcr vIw vIg vIn vIq vT vTj vTs vTp vTr vx vt gt vM gM) [(0, .ref b), (1, .ref (d 0)), (2, .ref (dM 0)), (3, .int i)] []) : ZZ p l e room_1 s m #[Value.ref b] below meth c D (fun q : Nat => s.heap.size ≤ q) 4 lawNC lawNS QQ 27 (wL cI cJ cT d dN dNc dNcj dNcs dNcp dNcr dNw dNg dNn dNq dI dIc dIcj dIcs dIcp dIcr dIw dIg dIn dIq dT dTj dTs dTp dTr dx dtt dt dM v vNc vNcj vNcs vNcp vNcr vNw vNg vNn vNq vIc vIcj vIcs vIcp vIcr vIw vIg vIn vIq vT vTj vTs vTp vTr vx vt gt vM gM) [(0, .ref b), (1, .ref (d 0)), (2, .ref (dM 0)), (3, .int i)] [] := by
  refine z_aload_n (pc := 27) C 0 dL_law_27 rfl ?_
  refine z_iload_n (pc := 28) C 3 dL_law_28 rfl ?_
  refine z_sld (pc := 29) C hX hbl (Nat.not_le.mpr hbl) g0 dL_law_29 ?_
  refine z_bipush (pc := 30) (v := 63) C dL_law_30 (by decide) ?_
  refine z_iand (pc := 32) C dL_law_32 ?_
  generalize (xs i.toNatClampNeg &&& 63) = x
  by_cases c0 : x = 0
  · refine z_tbl (pc := 33) (tgt := 256) C dL_law_33 0 c0 (by decide) (by decide) rfl (by decide) ?_
    exact law_c0 d dN dNc dNcj dNcs dNcp dNcr dNw dNg dNn dNq dI dIc dIcj dIcs dIcp dIcr dIw dIg dIn dIq dT dTj dTs dTp dTr dx dtt dt dM v vNc vNcj vNcs vNcp vNcr vNw vNg vNn vNq vIc vIcj vIcs vIcp vIcr vIw vIg vIn vIq vT vTj vTs vTp vTr vx vt gt vM gM i C hX hbl g1 g2 g3 g4 g5 s0 hI hK
  by_cases c1 : x = 1
  · refine z_tbl (pc := 33) (tgt := 289) C dL_law_33 1 c1 (by decide) (by decide) rfl (by decide) ?_
    exact law_c1 d dN dNc dNcj dNcs dNcp dNcr dNw dNg dNn dNq dI dIc dIcj dIcs dIcp dIcr dIw dIg dIn dIq dT dTj dTs dTp dTr dx dtt dt dM v vNc vNcj vNcs vNcp vNcr vNw vNg vNn vNq vIc vIcj vIcs vIcp vIcr vIw vIg vIn vIq vT vTj vTs vTp vTr vx vt gt vM gM i C hX hbl g1 g2 g3 g4 g5 s1 hI hK
  by_cases c2 : x = 2
  · refine z_tbl (pc := 33) (tgt := 322) C dL_law_33 2 c2 (by decide) (by decide) rfl (by decide) ?_
    exact law_c2 d dN dNc dNcj dNcs dNcp dNcr dNw dNg dNn dNq dI dIc dIcj dIcs dIcp dIcr dIw dIg dIn dIq dT dTj dTs dTp dTr dx dtt dt dM v vNc vNcj vNcs vNcp vNcr vNw vNg vNn vNq vIc vIcj vIcs vIcp vIcr vIw vIg vIn vIq vT vTj vTs vTp vTr vx vt gt vM gM i C hX hbl g1 g2 g3 g4 g5 s2 hI hK
  by_cases c3 : x = 3
  · refine z_tbl (pc := 33) (tgt := 365) C dL_law_33 3 c3 (by decide) (by decide) rfl (by decide) ?_
    exact law_c3 d dN dNc dNcj dNcs dNcp dNcr dNw dNg dNn dNq dI dIc dIcj dIcs dIcp dIcr dIw dIg dIn dIq dT dTj dTs dTp dTr dx dtt dt dM v vNc vNcj vNcs vNcp vNcr vNw vNg vNn vNq vIc vIcj vIcs vIcp vIcr vIw vIg vIn vIq vT vTj vTs vTp vTr vx vt gt vM gM i C hX hbl g1 g2 g3 g4 g5 s3 hI hK
  by_cases c4 : x = 4
  · refine z_tbl (pc := 33) (tgt := 388) C dL_law_33 4 c4 (by decide) (by decide) rfl (by decide) ?_
    exact law_c4 d dN dNc dNcj dNcs dNcp dNcr dNw dNg dNn dNq dI dIc dIcj dIcs dIcp dIcr dIw dIg dIn dIq dT dTj dTs dTp dTr dx dtt dt dM v vNc vNcj vNcs vNcp vNcr vNw vNg vNn vNq vIc vIcj vIcs vIcp vIcr vIw vIg vIn vIq vT vTj vTs vTp vTr vx vt gt vM gM i C hX hbl g1 g2 g3 g4 g5 s4 hI hK
  by_cases c5 : x = 5
  · refine z_tbl (pc := 33) (tgt := 401) C dL_law_33 5 c5 (by decide) (by decide) rfl (by decide) ?_
    exact law_c5 d dN dNc dNcj dNcs dNcp dNcr dNw dNg dNn dNq dI dIc dIcj dIcs dIcp dIcr dIw dIg dIn dIq dT dTj dTs dTp dTr dx dtt dt dM v vNc vNcj vNcs vNcp vNcr vNw vNg vNn vNq vIc vIcj vIcs vIcp vIcr vIw vIg vIn vIq vT vTj vTs vTp vTr vx vt gt vM gM i C hX hbl g1 g2 g3 g4 g5 s5 hI hK
  by_cases c6 : x = 6
  · refine z_tbl (pc := 33) (tgt := 424) C dL_law_33 6 c6 (by decide) (by decide) rfl (by decide) ?_
    exact law_c6 d dN dNc dNcj dNcs dNcp dNcr dNw dNg dNn dNq dI dIc dIcj dIcs dIcp dIcr dIw dIg dIn dIq dT dTj dTs dTp dTr dx dtt dt dM v vNc vNcj vNcs vNcp vNcr vNw vNg vNn vNq vIc vIcj vIcs vIcp vIcr vIw vIg vIn vIq vT vTj vTs vTp vTr vx vt gt vM gM i C hX hbl g1 g2 g3 g4 g5 s6 hI hK
  by_cases c7 : x = 7
  · refine z_tbl (pc := 33) (tgt := 457) C dL_law_33 7 c7 (by decide) (by decide) rfl (by decide) ?_
    exact law_c7 d dN dNc dNcj dNcs dNcp dNcr dNw dNg dNn dNq dI dIc dIcj dIcs dIcp dIcr dIw dIg dIn dIq dT dTj dTs dTp dTr dx dtt dt dM v vNc vNcj vNcs vNcp vNcr vNw vNg vNn vNq vIc vIcj vIcs vIcp vIcr vIw vIg vIn vIq vT vTj vTs vTp vTr vx vt gt vM gM i C hX hbl g1 g2 g3 g4 g5 s7 hI hK
  by_cases c8 : x = 8
  · refine z_tbl (pc := 33) (tgt := 470) C dL_law_33 8 c8 (by decide) (by decide) rfl (by decide) ?_
    exact law_c8 d dN dNc dNcj dNcs dNcp dNcr dNw dNg dNn dNq dI dIc dIcj dIcs dIcp dIcr dIw dIg dIn dIq dT dTj dTs dTp dTr dx dtt dt dM v vNc vNcj vNcs vNcp vNcr vNw vNg vNn vNq vIc vIcj vIcs vIcp vIcr vIw vIg vIn vIq vT vTj vTs vTp vTr vx vt gt vM gM i C hX hbl g1 g2 g3 g4 g5 s8 hI hK
  by_cases c9 : x = 9
  · refine z_tbl (pc := 33) (tgt := 513) C dL_law_33 9 c9 (by decide) (by decide) rfl (by decide) ?_
    exact law_c9 d dN dNc dNcj dNcs dNcp dNcr dNw dNg dNn dNq dI dIc dIcj dIcs dIcp dIcr dIw dIg dIn dIq dT dTj dTs dTp dTr dx dtt dt dM v vNc vNcj vNcs vNcp vNcr vNw vNg vNn vNq vIc vIcj vIcs vIcp vIcr vIw vIg vIn vIq vT vTj vTs vTp vTr vx vt gt vM gM i C hX hbl g1 g2 g3 g4 g5 s9 hI hK
  by_cases c10 : x = 10
  · refine z_tbl (pc := 33) (tgt := 546) C dL_law_33 10 c10 (by decide) (by decide) rfl (by decide) ?_
    exact law_c10 d dN dNc dNcj dNcs dNcp dNcr dNw dNg dNn dNq dI dIc dIcj dIcs dIcp dIcr dIw dIg dIn dIq dT dTj dTs dTp dTr dx dtt dt dM v vNc vNcj vNcs vNcp vNcr vNw vNg vNn vNq vIc vIcj vIcs vIcp vIcr vIw vIg vIn vIq vT vTj vTs vTp vTr vx vt gt vM gM i C hX hbl g1 g2 g3 g4 g5 s10 hI hK
  by_cases c11 : x = 11
  · refine z_tbl (pc := 33) (tgt := 569) C dL_law_33 11 c11 (by decide) (by decide) rfl (by decide) ?_
    exact law_c11 d dN dNc dNcj dNcs dNcp dNcr dNw dNg dNn dNq dI dIc dIcj dIcs dIcp dIcr dIw dIg dIn dIq dT dTj dTs dTp dTr dx dtt dt dM v vNc vNcj vNcs vNcp vNcr vNw vNg vNn vNq vIc vIcj vIcs vIcp vIcr vIw vIg vIn vIq vT vTj vTs vTp vTr vx vt gt vM gM i C hX hbl g1 g2 g3 g4 g5 s11 hI hK
  by_cases c12 : x = 12
  · refine z_tbl (pc := 33) (tgt := 592) C dL_law_33 12 c12 (by decide) (by decide) rfl (by decide) ?_
    exact law_c12 d dN dNc dNcj dNcs dNcp dNcr dNw dNg dNn dNq dI dIc dIcj dIcs dIcp dIcr dIw dIg dIn dIq dT dTj dTs dTp dTr dx dtt dt dM v vNc vNcj vNcs vNcp vNcr vNw vNg vNn vNq vIc vIcj vIcs vIcp vIcr vIw vIg vIn vIq vT vTj vTs vTp vTr vx vt gt vM gM i C hX hbl g1 g2 g3 g4 g5 s12 hI hK
  by_cases c13 : x = 13
  · refine z_tbl (pc := 33) (tgt := 605) C dL_law_33 13 c13 (by decide) (by decide) rfl (by decide) ?_
    exact law_c13 d dN dNc dNcj dNcs dNcp dNcr dNw dNg dNn dNq dI dIc dIcj dIcs dIcp dIcr dIw dIg dIn dIq dT dTj dTs dTp dTr dx dtt dt dM v vNc vNcj vNcs vNcp vNcr vNw vNg vNn vNq vIc vIcj vIcs vIcp vIcr vIw vIg vIn vIq vT vTj vTs vTp vTr vx vt gt vM gM i C hX hbl g1 g2 g3 g4 g5 s13 hI hK
  by_cases c14 : x = 14
  · refine z_tbl (pc := 33) (tgt := 628) C dL_law_33 14 c14 (by decide) (by decide) rfl (by decide) ?_
    exact law_c14 d dN dNc dNcj dNcs dNcp dNcr dNw dNg dNn dNq dI dIc dIcj dIcs dIcp dIcr dIw dIg dIn dIq dT dTj dTs dTp dTr dx dtt dt dM v vNc vNcj vNcs vNcp vNcr vNw vNg vNn vNq vIc vIcj vIcs vIcp vIcr vIw vIg vIn vIq vT vTj vTs vTp vTr vx vt gt vM gM i C hX hbl g1 g2 g3 g4 g5 s14 hI hK
  by_cases c15 : x = 15
  · refine z_tbl (pc := 33) (tgt := 651) C dL_law_33 15 c15 (by decide) (by decide) rfl (by decide) ?_
    exact law_c15 d dN dNc dNcj dNcs dNcp dNcr dNw dNg dNn dNq dI dIc dIcj dIcs dIcp dIcr dIw dIg dIn dIq dT dTj dTs dTp dTr dx dtt dt dM v vNc vNcj vNcs vNcp vNcr vNw vNg vNn vNq vIc vIcj vIcs vIcp vIcr vIw vIg vIn vIq vT vTj vTs vTp vTr vx vt gt vM gM i C hX hbl g1 g2 g3 g4 g5 s15 hI hK
  by_cases c16 : x = 16
  · refine z_tbl (pc := 33) (tgt := 684) C dL_law_33 16 c16 (by decide) (by decide) rfl (by decide) ?_
    exact law_c16 d dN dNc dNcj dNcs dNcp dNcr dNw dNg dNn dNq dI dIc dIcj dIcs dIcp dIcr dIw dIg dIn dIq dT dTj dTs dTp dTr dx dtt dt dM v vNc vNcj vNcs vNcp vNcr vNw vNg vNn vNq vIc vIcj vIcs vIcp vIcr vIw vIg vIn vIq vT vTj vTs vTp vTr vx vt gt vM gM i C hX hbl g1 g2 g3 g4 g5 s16 hI hK
  by_cases c17 : x = 17
  · refine z_tbl (pc := 33) (tgt := 717) C dL_law_33 17 c17 (by decide) (by decide) rfl (by decide) ?_
    exact law_c17 d dN dNc dNcj dNcs dNcp dNcr dNw dNg dNn dNq dI dIc dIcj dIcs dIcp dIcr dIw dIg dIn dIq dT dTj dTs dTp dTr dx dtt dt dM v vNc vNcj vNcs vNcp vNcr vNw vNg vNn vNq vIc vIcj vIcs vIcp vIcr vIw vIg vIn vIq vT vTj vTs vTp vTr vx vt gt vM gM i C hX hbl g1 g2 g3 g4 g5 s17 hI hK
  by_cases c18 : x = 18
  · refine z_tbl (pc := 33) (tgt := 750) C dL_law_33 18 c18 (by decide) (by decide) rfl (by decide) ?_
    exact law_c18 d dN dNc dNcj dNcs dNcp dNcr dNw dNg dNn dNq dI dIc dIcj dIcs dIcp dIcr dIw dIg dIn dIq dT dTj dTs dTp dTr dx dtt dt dM v vNc vNcj vNcs vNcp vNcr vNw vNg vNn vNq vIc vIcj vIcs vIcp vIcr vIw vIg vIn vIq vT vTj vTs vTp vTr vx vt gt vM gM i C hX hbl g1 g2 g3 g4 g5 s18 hI hK
  by_cases c19 : x = 19
  · refine z_tbl (pc := 33) (tgt := 783) C dL_law_33 19 c19 (by decide) (by decide) rfl (by decide) ?_
    exact law_c19 d dN dNc dNcj dNcs dNcp dNcr dNw dNg dNn dNq dI dIc dIcj dIcs dIcp dIcr dIw dIg dIn dIq dT dTj dTs dTp dTr dx dtt dt dM v vNc vNcj vNcs vNcp vNcr vNw vNg vNn vNq vIc vIcj vIcs vIcp vIcr vIw vIg vIn vIq vT vTj vTs vTp vTr vx vt gt vM gM i C hX hbl g1 g2 g3 g4 g5 s19 hI hK
  by_cases c20 : x = 20
  · refine z_tbl (pc := 33) (tgt := 806) C dL_law_33 20 c20 (by decide) (by decide) rfl (by decide) ?_
    exact law_c20 d dN dNc dNcj dNcs dNcp dNcr dNw dNg dNn dNq dI dIc dIcj dIcs dIcp dIcr dIw dIg dIn dIq dT dTj dTs dTp dTr dx dtt dt dM v vNc vNcj vNcs vNcp vNcr vNw vNg vNn vNq vIc vIcj vIcs vIcp vIcr vIw vIg vIn vIq vT vTj vTs vTp vTr vx vt gt vM gM i C hX hbl g1 g2 g3 g4 g5 s20 hI hK
  by_cases c21 : x = 21
  · refine z_tbl (pc := 33) (tgt := 839) C dL_law_33 21 c21 (by decide) (by decide) rfl (by decide) ?_
    exact law_c21 d dN dNc dNcj dNcs dNcp dNcr dNw dNg dNn dNq dI dIc dIcj dIcs dIcp dIcr dIw dIg dIn dIq dT dTj dTs dTp dTr dx dtt dt dM v vNc vNcj vNcs vNcp vNcr vNw vNg vNn vNq vIc vIcj vIcs vIcp vIcr vIw vIg vIn vIq vT vTj vTs vTp vTr vx vt gt vM gM i C hX hbl g1 g2 g3 g4 g5 s21 hI hK
  by_cases c22 : x = 22
  · refine z_tbl (pc := 33) (tgt := 872) C dL_law_33 22 c22 (by decide) (by decide) rfl (by decide) ?_
    exact law_c22 d dN dNc dNcj dNcs dNcp dNcr dNw dNg dNn dNq dI dIc dIcj dIcs dIcp dIcr dIw dIg dIn dIq dT dTj dTs dTp dTr dx dtt dt dM v vNc vNcj vNcs vNcp vNcr vNw vNg vNn vNq vIc vIcj vIcs vIcp vIcr vIw vIg vIn vIq vT vTj vTs vTp vTr vx vt gt vM gM i C hX hbl g1 g2 g3 g4 g5 s22 hI hK
  by_cases c23 : x = 23
  · refine z_tbl (pc := 33) (tgt := 905) C dL_law_33 23 c23 (by decide) (by decide) rfl (by decide) ?_
    exact law_c23 d dN dNc dNcj dNcs dNcp dNcr dNw dNg dNn dNq dI dIc dIcj dIcs dIcp dIcr dIw dIg dIn dIq dT dTj dTs dTp dTr dx dtt dt dM v vNc vNcj vNcs vNcp vNcr vNw vNg vNn vNq vIc vIcj vIcs vIcp vIcr vIw vIg vIn vIq vT vTj vTs vTp vTr vx vt gt vM gM i C hX hbl g1 g2 g3 g4 g5 s23 hI hK
  by_cases c24 : x = 24
  · refine z_tbl (pc := 33) (tgt := 938) C dL_law_33 24 c24 (by decide) (by decide) rfl (by decide) ?_
    exact law_c24 d dN dNc dNcj dNcs dNcp dNcr dNw dNg dNn dNq dI dIc dIcj dIcs dIcp dIcr dIw dIg dIn dIq dT dTj dTs dTp dTr dx dtt dt dM v vNc vNcj vNcs vNcp vNcr vNw vNg vNn vNq vIc vIcj vIcs vIcp vIcr vIw vIg vIn vIq vT vTj vTs vTp vTr vx vt gt vM gM i C hX hbl g1 g2 g3 g4 g5 s24 hI hK
  by_cases c25 : x = 25
  · refine z_tbl (pc := 33) (tgt := 981) C dL_law_33 25 c25 (by decide) (by decide) rfl (by decide) ?_
    exact law_c25 d dN dNc dNcj dNcs dNcp dNcr dNw dNg dNn dNq dI dIc dIcj dIcs dIcp dIcr dIw dIg dIn dIq dT dTj dTs dTp dTr dx dtt dt dM v vNc vNcj vNcs vNcp vNcr vNw vNg vNn vNq vIc vIcj vIcs vIcp vIcr vIw vIg vIn vIq vT vTj vTs vTp vTr vx vt gt vM gM i C hX hbl g1 g2 g3 g4 g5 s25 hI hK
  by_cases c26 : x = 26
  · refine z_tbl (pc := 33) (tgt := 1014) C dL_law_33 26 c26 (by decide) (by decide) rfl (by decide) ?_
    exact law_c26 d dN dNc dNcj dNcs dNcp dNcr dNw dNg dNn dNq dI dIc dIcj dIcs dIcp dIcr dIw dIg dIn dIq dT dTj dTs dTp dTr dx dtt dt dM v vNc vNcj vNcs vNcp vNcr vNw vNg vNn vNq vIc vIcj vIcs vIcp vIcr vIw vIg vIn vIq vT vTj vTs vTp vTr vx vt gt vM gM i C hX hbl g1 g2 g3 g4 g5 s26 hI hK
  by_cases c27 : x = 27
  · refine z_tbl (pc := 33) (tgt := 1057) C dL_law_33 27 c27 (by decide) (by decide) rfl (by decide) ?_
    exact law_c27 d dN dNc dNcj dNcs dNcp dNcr dNw dNg dNn dNq dI dIc dIcj dIcs dIcp dIcr dIw dIg dIn dIq dT dTj dTs dTp dTr dx dtt dt dM v vNc vNcj vNcs vNcp vNcr vNw vNg vNn vNq vIc vIcj vIcs vIcp vIcr vIw vIg vIn vIq vT vTj vTs vTp vTr vx vt gt vM gM i C hX hbl g1 g2 g3 g4 g5 s27 hI hK
  by_cases c28 : x = 28
  · refine z_tbl (pc := 33) (tgt := 1070) C dL_law_33 28 c28 (by decide) (by decide) rfl (by decide) ?_
    exact law_c28 d dN dNc dNcj dNcs dNcp dNcr dNw dNg dNn dNq dI dIc dIcj dIcs dIcp dIcr dIw dIg dIn dIq dT dTj dTs dTp dTr dx dtt dt dM v vNc vNcj vNcs vNcp vNcr vNw vNg vNn vNq vIc vIcj vIcs vIcp vIcr vIw vIg vIn vIq vT vTj vTs vTp vTr vx vt gt vM gM i C hX hbl g1 g2 g3 g4 g5 s28 hI hK
  by_cases c29 : x = 29
  · refine z_tbl (pc := 33) (tgt := 1093) C dL_law_33 29 c29 (by decide) (by decide) rfl (by decide) ?_
    exact law_c29 d dN dNc dNcj dNcs dNcp dNcr dNw dNg dNn dNq dI dIc dIcj dIcs dIcp dIcr dIw dIg dIn dIq dT dTj dTs dTp dTr dx dtt dt dM v vNc vNcj vNcs vNcp vNcr vNw vNg vNn vNq vIc vIcj vIcs vIcp vIcr vIw vIg vIn vIq vT vTj vTs vTp vTr vx vt gt vM gM i C hX hbl g1 g2 g3 g4 g5 s29 hI hK
  by_cases c30 : x = 30
  · refine z_tbl (pc := 33) (tgt := 1136) C dL_law_33 30 c30 (by decide) (by decide) rfl (by decide) ?_
    exact law_c30 d dN dNc dNcj dNcs dNcp dNcr dNw dNg dNn dNq dI dIc dIcj dIcs dIcp dIcr dIw dIg dIn dIq dT dTj dTs dTp dTr dx dtt dt dM v vNc vNcj vNcs vNcp vNcr vNw vNg vNn vNq vIc vIcj vIcs vIcp vIcr vIw vIg vIn vIq vT vTj vTs vTp vTr vx vt gt vM gM i C hX hbl g1 g2 g3 g4 g5 s30 hI hK
  by_cases c31 : x = 31
  · refine z_tbl (pc := 33) (tgt := 1179) C dL_law_33 31 c31 (by decide) (by decide) rfl (by decide) ?_
    exact law_c31 d dN dNc dNcj dNcs dNcp dNcr dNw dNg dNn dNq dI dIc dIcj dIcs dIcp dIcr dIw dIg dIn dIq dT dTj dTs dTp dTr dx dtt dt dM v vNc vNcj vNcs vNcp vNcr vNw vNg vNn vNq vIc vIcj vIcs vIcp vIcr vIw vIg vIn vIq vT vTj vTs vTp vTr vx vt gt vM gM i C hX hbl g1 g2 g3 g4 g5 s31 hI hK
  by_cases c32 : x = 32
  · refine z_tbl (pc := 33) (tgt := 1202) C dL_law_33 32 c32 (by decide) (by decide) rfl (by decide) ?_
    exact law_c32 d dN dNc dNcj dNcs dNcp dNcr dNw dNg dNn dNq dI dIc dIcj dIcs dIcp dIcr dIw dIg dIn dIq dT dTj dTs dTp dTr dx dtt dt dM v vNc vNcj vNcs vNcp vNcr vNw vNg vNn vNq vIc vIcj vIcs vIcp vIcr vIw vIg vIn vIq vT vTj vTs vTp vTr vx vt gt vM gM i C hX hbl g1 g2 g3 g4 g5 s32 hI hK
  by_cases c33 : x = 33
  · refine z_tbl (pc := 33) (tgt := 1235) C dL_law_33 33 c33 (by decide) (by decide) rfl (by decide) ?_
    exact law_c33 d dN dNc dNcj dNcs dNcp dNcr dNw dNg dNn dNq dI dIc dIcj dIcs dIcp dIcr dIw dIg dIn dIq dT dTj dTs dTp dTr dx dtt dt dM v vNc vNcj vNcs vNcp vNcr vNw vNg vNn vNq vIc vIcj vIcs vIcp vIcr vIw vIg vIn vIq vT vTj vTs vTp vTr vx vt gt vM gM i C hX hbl g1 g2 g3 g4 g5 s33 hI hK
  by_cases c34 : x = 34
  · refine z_tbl (pc := 33) (tgt := 1248) C dL_law_33 34 c34 (by decide) (by decide) rfl (by decide) ?_
    exact law_c34 d dN dNc dNcj dNcs dNcp dNcr dNw dNg dNn dNq dI dIc dIcj dIcs dIcp dIcr dIw dIg dIn dIq dT dTj dTs dTp dTr dx dtt dt dM v vNc vNcj vNcs vNcp vNcr vNw vNg vNn vNq vIc vIcj vIcs vIcp vIcr vIw vIg vIn vIq vT vTj vTs vTp vTr vx vt gt vM gM i C hX hbl g1 g2 g3 g4 g5 s34 hI hK
  by_cases c35 : x = 35
  · refine z_tbl (pc := 33) (tgt := 1281) C dL_law_33 35 c35 (by decide) (by decide) rfl (by decide) ?_
    exact law_c35 d dN dNc dNcj dNcs dNcp dNcr dNw dNg dNn dNq dI dIc dIcj dIcs dIcp dIcr dIw dIg dIn dIq dT dTj dTs dTp dTr dx dtt dt dM v vNc vNcj vNcs vNcp vNcr vNw vNg vNn vNq vIc vIcj vIcs vIcp vIcr vIw vIg vIn vIq vT vTj vTs vTp vTr vx vt gt vM gM i C hX hbl g1 g2 g3 g4 g5 s35 hI hK
  by_cases c36 : x = 36
  · refine z_tbl (pc := 33) (tgt := 1314) C dL_law_33 36 c36 (by decide) (by decide) rfl (by decide) ?_
    exact law_c36 d dN dNc dNcj dNcs dNcp dNcr dNw dNg dNn dNq dI dIc dIcj dIcs dIcp dIcr dIw dIg dIn dIq dT dTj dTs dTp dTr dx dtt dt dM v vNc vNcj vNcs vNcp vNcr vNw vNg vNn vNq vIc vIcj vIcs vIcp vIcr vIw vIg vIn vIq vT vTj vTs vTp vTr vx vt gt vM gM i C hX hbl g1 g2 g3 g4 g5 s36 hI hK
  by_cases c37 : x = 37
  · refine z_tbl (pc := 33) (tgt := 1347) C dL_law_33 37 c37 (by decide) (by decide) rfl (by decide) ?_
    exact law_c37 d dN dNc dNcj dNcs dNcp dNcr dNw dNg dNn dNq dI dIc dIcj dIcs dIcp dIcr dIw dIg dIn dIq dT dTj dTs dTp dTr dx dtt dt dM v vNc vNcj vNcs vNcp vNcr vNw vNg vNn vNq vIc vIcj vIcs vIcp vIcr vIw vIg vIn vIq vT vTj vTs vTp vTr vx vt gt vM gM i C hX hbl g1 g2 g3 g4 g5 s37 hI hK
  by_cases c38 : x = 38
  · refine z_tbl (pc := 33) (tgt := 1380) C dL_law_33 38 c38 (by decide) (by decide) rfl (by decide) ?_
    exact law_c38 d dN dNc dNcj dNcs dNcp dNcr dNw dNg dNn dNq dI dIc dIcj dIcs dIcp dIcr dIw dIg dIn dIq dT dTj dTs dTp dTr dx dtt dt dM v vNc vNcj vNcs vNcp vNcr vNw vNg vNn vNq vIc vIcj vIcs vIcp vIcr vIw vIg vIn vIq vT vTj vTs vTp vTr vx vt gt vM gM i C hX hbl g1 g2 g3 g4 g5 s38 hI hK
  by_cases c39 : x = 39
  · refine z_tbl (pc := 33) (tgt := 1403) C dL_law_33 39 c39 (by decide) (by decide) rfl (by decide) ?_
    exact law_c39 d dN dNc dNcj dNcs dNcp dNcr dNw dNg dNn dNq dI dIc dIcj dIcs dIcp dIcr dIw dIg dIn dIq dT dTj dTs dTp dTr dx dtt dt dM v vNc vNcj vNcs vNcp vNcr vNw vNg vNn vNq vIc vIcj vIcs vIcp vIcr vIw vIg vIn vIq vT vTj vTs vTp vTr vx vt gt vM gM i C hX hbl g1 g2 g3 g4 g5 s39 hI hK
  by_cases c40 : x = 40
  · refine z_tbl (pc := 33) (tgt := 1436) C dL_law_33 40 c40 (by decide) (by decide) rfl (by decide) ?_
    exact law_c40 d dN dNc dNcj dNcs dNcp dNcr dNw dNg dNn dNq dI dIc dIcj dIcs dIcp dIcr dIw dIg dIn dIq dT dTj dTs dTp dTr dx dtt dt dM v vNc vNcj vNcs vNcp vNcr vNw vNg vNn vNq vIc vIcj vIcs vIcp vIcr vIw vIg vIn vIq vT vTj vTs vTp vTr vx vt gt vM gM i C hX hbl g1 g2 g3 g4 g5 s40 hI hK
  by_cases c41 : x = 41
  · refine z_tbl (pc := 33) (tgt := 1500) C dL_law_33 41 c41 (by decide) (by decide) rfl (by decide) ?_
    exact law_c41 d dN dNc dNcj dNcs dNcp dNcr dNw dNg dNn dNq dI dIc dIcj dIcs dIcp dIcr dIw dIg dIn dIq dT dTj dTs dTp dTr dx dtt dt dM v vNc vNcj vNcs vNcp vNcr vNw vNg vNn vNq vIc vIcj vIcs vIcp vIcr vIw vIg vIn vIq vT vTj vTs vTp vTr vx vt gt vM gM i C hX hbl g1 g2 g3 g4 g5 s41 hI hK
  by_cases c42 : x = 42
  · refine z_tbl (pc := 33) (tgt := 1524) C dL_law_33 42 c42 (by decide) (by decide) rfl (by decide) ?_
    exact law_c42 d dN dNc dNcj dNcs dNcp dNcr dNw dNg dNn dNq dI dIc dIcj dIcs dIcp dIcr dIw dIg dIn dIq dT dTj dTs dTp dTr dx dtt dt dM v vNc vNcj vNcs vNcp vNcr vNw vNg vNn vNq vIc vIcj vIcs vIcp vIcr vIw vIg vIn vIq vT vTj vTs vTp vTr vx vt gt vM gM i C hX hbl g1 g2 g3 g4 g5 s42 hI hK
  by_cases c43 : x = 43
  · refine z_tbl (pc := 33) (tgt := 1557) C dL_law_33 43 c43 (by decide) (by decide) rfl (by decide) ?_
    exact law_c43 d dN dNc dNcj dNcs dNcp dNcr dNw dNg dNn dNq dI dIc dIcj dIcs dIcp dIcr dIw dIg dIn dIq dT dTj dTs dTp dTr dx dtt dt dM v vNc vNcj vNcs vNcp vNcr vNw vNg vNn vNq vIc vIcj vIcs vIcp vIcr vIw vIg vIn vIq vT vTj vTs vTp vTr vx vt gt vM gM i C hX hbl g1 g2 g3 g4 g5 s43 hI hK
  by_cases c44 : x = 44
  · refine z_tbl (pc := 33) (tgt := 1580) C dL_law_33 44 c44 (by decide) (by decide) rfl (by decide) ?_
    exact law_c44 d dN dNc dNcj dNcs dNcp dNcr dNw dNg dNn dNq dI dIc dIcj dIcs dIcp dIcr dIw dIg dIn dIq dT dTj dTs dTp dTr dx dtt dt dM v vNc vNcj vNcs vNcp vNcr vNw vNg vNn vNq vIc vIcj vIcs vIcp vIcr vIw vIg vIn vIq vT vTj vTs vTp vTr vx vt gt vM gM i C hX hbl g1 g2 g3 g4 g5 s44 hI hK
  by_cases c45 : x = 45
  · refine z_tbl (pc := 33) (tgt := 1613) C dL_law_33 45 c45 (by decide) (by decide) rfl (by decide) ?_
    exact law_c45 d dN dNc dNcj dNcs dNcp dNcr dNw dNg dNn dNq dI dIc dIcj dIcs dIcp dIcr dIw dIg dIn dIq dT dTj dTs dTp dTr dx dtt dt dM v vNc vNcj vNcs vNcp vNcr vNw vNg vNn vNq vIc vIcj vIcs vIcp vIcr vIw vIg vIn vIq vT vTj vTs vTp vTr vx vt gt vM gM i C hX hbl g1 g2 g3 g4 g5 s45 hI hK
  by_cases c46 : x = 46
  · refine z_tbl (pc := 33) (tgt := 1626) C dL_law_33 46 c46 (by decide) (by decide) rfl (by decide) ?_
    exact law_c46 d dN dNc dNcj dNcs dNcp dNcr dNw dNg dNn dNq dI dIc dIcj dIcs dIcp dIcr dIw dIg dIn dIq dT dTj dTs dTp dTr dx dtt dt dM v vNc vNcj vNcs vNcp vNcr vNw vNg vNn vNq vIc vIcj vIcs vIcp vIcr vIw vIg vIn vIq vT vTj vTs vTp vTr vx vt gt vM gM i C hX hbl g1 g2 g3 g4 g5 s46 hI hK
  by_cases c47 : x = 47
  · refine z_tbl (pc := 33) (tgt := 1639) C dL_law_33 47 c47 (by decide) (by decide) rfl (by decide) ?_
    exact law_c47 d dN dNc dNcj dNcs dNcp dNcr dNw dNg dNn dNq dI dIc dIcj dIcs dIcp dIcr dIw dIg dIn dIq dT dTj dTs dTp dTr dx dtt dt dM v vNc vNcj vNcs vNcp vNcr vNw vNg vNn vNq vIc vIcj vIcs vIcp vIcr vIw vIg vIn vIq vT vTj vTs vTp vTr vx vt gt vM gM i C hX hbl g1 g2 g3 g4 g5 s47 hI hK
  by_cases c48 : x = 48
  · refine z_tbl (pc := 33) (tgt := 1662) C dL_law_33 48 c48 (by decide) (by decide) rfl (by decide) ?_
    exact law_c48 d dN dNc dNcj dNcs dNcp dNcr dNw dNg dNn dNq dI dIc dIcj dIcs dIcp dIcr dIw dIg dIn dIq dT dTj dTs dTp dTr dx dtt dt dM v vNc vNcj vNcs vNcp vNcr vNw vNg vNn vNq vIc vIcj vIcs vIcp vIcr vIw vIg vIn vIq vT vTj vTs vTp vTr vx vt gt vM gM i C hX hbl g1 g2 g3 g4 g5 s48 hI hK
  by_cases c49 : x = 49
  · refine z_tbl (pc := 33) (tgt := 1705) C dL_law_33 49 c49 (by decide) (by decide) rfl (by decide) ?_
    exact law_c49 d dN dNc dNcj dNcs dNcp dNcr dNw dNg dNn dNq dI dIc dIcj dIcs dIcp dIcr dIw dIg dIn dIq dT dTj dTs dTp dTr dx dtt dt dM v vNc vNcj vNcs vNcp vNcr vNw vNg vNn vNq vIc vIcj vIcs vIcp vIcr vIw vIg vIn vIq vT vTj vTs vTp vTr vx vt gt vM gM i C hX hbl g1 g2 g3 g4 g5 s49 hI hK
  by_cases c50 : x = 50
  · refine z_tbl (pc := 33) (tgt := 1778) C dL_law_33 50 c50 (by decide) (by decide) rfl (by decide) ?_
    exact law_c50 d dN dNc dNcj dNcs dNcp dNcr dNw dNg dNn dNq dI dIc dIcj dIcs dIcp dIcr dIw dIg dIn dIq dT dTj dTs dTp dTr dx dtt dt dM v vNc vNcj vNcs vNcp vNcr vNw vNg vNn vNq vIc vIcj vIcs vIcp vIcr vIw vIg vIn vIq vT vTj vTs vTp vTr vx vt gt vM gM i C hX hbl g1 g2 g3 g4 g5 s50 hI hK
  by_cases c51 : x = 51
  · refine z_tbl (pc := 33) (tgt := 1812) C dL_law_33 51 c51 (by decide) (by decide) rfl (by decide) ?_
    exact law_c51 d dN dNc dNcj dNcs dNcp dNcr dNw dNg dNn dNq dI dIc dIcj dIcs dIcp dIcr dIw dIg dIn dIq dT dTj dTs dTp dTr dx dtt dt dM v vNc vNcj vNcs vNcp vNcr vNw vNg vNn vNq vIc vIcj vIcs vIcp vIcr vIw vIg vIn vIq vT vTj vTs vTp vTr vx vt gt vM gM i C hX hbl g1 g2 g3 g4 g5 s51 hI hK
  refine z_tblo (pc := 33) (tgt := 1875) C dL_law_33 (z_out0_51 c0 c1 c2 c3 c4 c5 c6 c7 c8 c9 c10 c11 c12 c13 c14 c15 c16 c17 c18 c19 c20 c21 c22 c23 c24 c25 c26 c27 c28 c29 c30 c31 c32 c33 c34 c35 c36 c37 c38 c39 c40 c41 c42 c43 c44 c45 c46 c47 c48 c49 c50 c51) (by decide) ?_
  exact hK v vNc vNcj vNcs vNcp vNcr vNw vNg vNn vNq vIc vIcj vIcs vIcp vIcr vIw vIg vIn vIq vT vTj vTs vTp vTr vx vt gt vM gM hI
set_option maxHeartbeats 8000000 in
set_option maxRecDepth 100000 in
theorem law_loop {p : Program} {l : Launch} {e : Env} {s : State} {m : MethodId} {below : List Frame} {meth : Method} {c : Code} {D : va_G} {cI cJ cT : ClassId} {b L : Nat} {xs : Nat → Int32} {QQ : State → Prop} {Inv : InvT} (d : Nat → Nat) (dN : Nat → Nat) (dNc : Nat → Nat) (dNcj : Nat → Nat) (dNcs : Nat → Nat) (dNcp : Nat → Nat) (dNcr : Nat → Nat) (dNw : Nat → Nat) (dNg : Nat → Nat) (dNn : Nat → Nat) (dNq : Nat → Nat) (dI : Nat → Nat) (dIc : Nat → Nat) (dIcj : Nat → Nat) (dIcs : Nat → Nat) (dIcp : Nat → Nat) (dIcr : Nat → Nat) (dIw : Nat → Nat) (dIg : Nat → Nat) (dIn : Nat → Nat) (dIq : Nat → Nat) (dT : Nat → Nat) (dTj : Nat → Nat) (dTs : Nat → Nat) (dTp : Nat → Nat) (dTr : Nat → Nat) (dx : Nat → Nat) (dtt : Nat) (dt : Nat → Nat → Nat) (dM : Nat → Nat) (C : CX p s m #[Value.ref b] c cL_law RL TB D (tyL cI cJ cT) (fun q : Nat => s.heap.size ≤ q) 4) (hX : va_X b L xs s s.heap) (hbl : b < s.heap.size) (s0 : Sim_X9_signal Inv) (s1 : Sim_X9_goes Inv) (s2 : Sim_X9_tell Inv) (s3 : Sim_X9_feed Inv) (s4 : Sim_X9_read Inv) (s5 : Sim_X9_safety Inv) (s6 : Sim_X9_phase Inv) (s7 : Sim_X9_start Inv) (s8 : Sim_X9_cycle Inv) (s9 : Sim_X9_come Inv) (s10 : Sim_X9_seed Inv) (s11 : Sim_X9_emergency Inv) (s12 : Sim_X9_over Inv) (s13 : Sim_X9_pass Inv) (s14 : Sim_X9_told Inv) (s15 : Sim_X9_of Inv) (s16 : Sim_X9_way Inv) (s17 : Sim_X9_clear Inv) (s18 : Sim_X9_narrow Inv) (s19 : Sim_X9_table Inv) (s20 : Sim_X9_phaseOf Inv) (s21 : Sim_X9_taken Inv) (s22 : Sim_X9_recorded Inv) (s23 : Sim_X9_greens Inv) (s24 : Sim_X9_could Inv) (s25 : Sim_X9_crowded Inv) (s26 : Sim_X9_green Inv) (s27 : Sim_X9_proved Inv) (s28 : Sim_X9_wave Inv) (s29 : Sim_X9_node Inv) (s30 : Sim_X9_change Inv) (s31 : Sim_X9_band Inv) (s32 : Sim_X9_nodeBest Inv) (s33 : Sim_X9_tune Inv) (s34 : Sim_X9_would Inv) (s35 : Sim_X9_turns Inv) (s36 : Sim_X9_best Inv) (s37 : Sim_X9_note Inv) (s38 : Sim_X9_fits Inv) (s39 : Sim_X9_day Inv) (s40 : Sim_X9_chance Inv) (s41 : Sim_X9_mean Inv) (s42 : Sim_X9_plan Inv) (s43 : Sim_X9_ends Inv) (s44 : Sim_X9_judge Inv) (s45 : Sim_X9_image Inv) (s46 : Sim_X9_undo Inv) (s47 : Sim_X9_count Inv) (s48 : Sim_X9_tape Inv) (s49 : Sim_X9_item Inv) (s50 : Sim_X9_peek Inv) (s51 : Sim_X9_shift Inv) (hL : L ≤ 3072) (hend : ∀ (ws : va_W) (lv : List (Nat × Value)), ZZ p l e room_1 s m #[Value.ref b] below meth c D (fun q : Nat => s.heap.size ≤ q) 4 lawNC lawNS QQ 1881 ws lv []) : ∀ (n k : Nat), k ≤ L + 6 → L + 7 ≤ k + n → ∀ (v : Lf) (vNc : Lf) (vNcj : Lf) (vNcs : Lf) (vNcp : Lf) (vNcr : Lf) (vNw : Lf) (vNg : Lf) (vNn : Lf) (vNq : Lf) (vIc : Lf) (vIcj : Lf) (vIcs : Lf) (vIcp : Lf) (vIcr : Lf) (vIw : Lf) (vIg : Lf) (vIn : Lf) (vIq : Lf) (vT : Lf) (vTj : Lf) (vTs : Lf) (vTp : Lf) (vTr : Lf) (vx : Lf) (vt : Nat → Lf) (gt : Nat → Lg) (vM : Lf) (gM : Lg), Inv v vNc vNcj vNcs vNcp vNcr vNw vNg vNn vNq vIc vIcj vIcs vIcp vIcr vIw vIg vIn vIq vT vTj vTs vTp vTr vx vt gt vM gM → ZZ p l e room_1 s m #[Value.ref b] below meth c D (fun q : Nat => s.heap.size ≤ q) 4 lawNC lawNS QQ 18 (wL cI cJ cT d dN dNc dNcj dNcs dNcp dNcr dNw dNg dNn dNq dI dIc dIcj dIcs dIcp dIcr dIw dIg dIn dIq dT dTj dTs dTp dTr dx dtt dt dM v vNc vNcj vNcs vNcp vNcr vNw vNg vNn vNq vIc vIcj vIcs vIcp vIcr vIw vIg vIn vIq vT vTj vTs vTp vTr vx vt gt vM gM) [(0, .ref b), (1, .ref (d 0)), (2, .ref (dM 0)), (3, .int (nI k))] [] := by
  intro n
  induction n with
  | zero => intro k h1 h2; exact absurd h2 (by omega)
  | succ n ih =>
    intro k h1 h2 v vNc vNcj vNcs vNcp vNcr vNw vNg vNn vNq vIc vIcj vIcs vIcp vIcr vIw vIg vIn vIq vT vTj vTs vTp vTr vx vt gt vM gM hI
    refine z_iload_n (pc := 18) C 3 dL_law_18 rfl ?_
    refine z_aload_n (pc := 19) C 0 dL_law_19 rfl ?_
    refine z_slen (pc := 20) C hX hbl (Nat.not_le.mpr hbl) dL_law_20 ?_
    refine z_bipush (pc := 21) (v := 6) C dL_law_21 (by decide) ?_
    refine z_isub (pc := 23) C dL_law_23 ?_
    refine z_icmp_gt (pc := 24) (tgt := 1881) C dL_law_24 (by decide) (fun _ => hend _ _) (fun c1 => ?_)
    have hk : k + 6 ≤ L := by
      have e1 : (nI L - nI 6).toInt = (L : Int) - 6 := pk_sub_toInt (by omega) (by omega)
      have e2 : (nI k).toInt = (k : Int) := nI_toInt (by omega)
      have c2 : ¬ (nI L - nI 6).toInt < (nI k).toInt := fun h => c1 (Int32.lt_iff_toInt_lt.mpr h)
      rw [e1, e2] at c2
      omega
    have gk : ∀ j : Nat, j < 6 → vp_in (nI k + nI j) L := fun j hj => by rw [nI_add]; exact vp_in_nI (by omega) (by omega)
    refine law_body d dN dNc dNcj dNcs dNcp dNcr dNw dNg dNn dNq dI dIc dIcj dIcs dIcp dIcr dIw dIg dIn dIq dT dTj dTs dTp dTr dx dtt dt dM v vNc vNcj vNcs vNcp vNcr vNw vNg vNn vNq vIc vIcj vIcs vIcp vIcr vIw vIg vIn vIq vT vTj vTs vTp vTr vx vt gt vM gM (nI k) C hX hbl (vp_in_nI (by omega) (by omega)) (gk 1 (by omega)) (gk 2 (by omega)) (gk 3 (by omega)) (gk 4 (by omega)) (gk 5 (by omega)) s0 s1 s2 s3 s4 s5 s6 s7 s8 s9 s10 s11 s12 s13 s14 s15 s16 s17 s18 s19 s20 s21 s22 s23 s24 s25 s26 s27 s28 s29 s30 s31 s32 s33 s34 s35 s36 s37 s38 s39 s40 s41 s42 s43 s44 s45 s46 s47 s48 s49 s50 s51 hI ?_
    intro v vNc vNcj vNcs vNcp vNcr vNw vNg vNn vNq vIc vIcj vIcs vIcp vIcr vIw vIg vIn vIq vT vTj vTs vTp vTr vx vt gt vM gM hI
    refine z_iinc (pc := 1875) (v := nI (k + 6)) (lv' := [(3, .int (nI (k + 6))), (0, .ref b), (1, .ref (d 0)), (2, .ref (dM 0))]) C 3 dL_law_1875 rfl (nI_add k 6) (by decide) rfl ?_
    refine z_goto (pc := 1878) (tgt := 18) C dL_law_1878 (by decide) ?_
    refine z_sub (lv' := [(0, .ref b), (1, .ref (d 0)), (2, .ref (dM 0)), (3, .int (nI (k + 6)))]) [1, 2, 3, 0] rfl ?_
    exact ih (k + 6) (by omega) (by omega) v vNc vNcj vNcs vNcp vNcr vNw vNg vNn vNq vIc vIcj vIcs vIcp vIcr vIw vIg vIn vIq vT vTj vTs vTp vTr vx vt gt vM gM hI

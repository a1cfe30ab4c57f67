/-! THE CLAIM OUT OF ONE WALK OF THE LAW'S BODY. Your part is whole_start (and what it stands on); all else here is the same for every law, but numbers. -/
def R_law : String := "SafeClearsLaw"
def lw_P (b : Addr) (xs : List Int32) (args : Array Value) (s : State) : Prop := args = #[.ref b] ∧ s.IntsAt b xs ∧ xs.length ≤ 3072 ∧ (Jvm.Cond.and given_1 narrow_1).before args s = true
def lw_Q (_ : Array Value) (s : State) (o : Outcome) (t : State) : Prop := o = .returned (some (.int 1)) ∧ Framed s o t [] 600000 7302249
def lw_Z (below : List Frame) (a : Array Value) (s : State) : State → Prop := fun t => ∃ o, t.status = .running ∧ Ended t below o ∧ lw_Q a s o t
/-- the law's own end, with 1 on the stack, nothing written that was there before, its room as the claim has it -/
theorem lw_ret {p : Program} {l : Launch} {e : Env} {s : State} {m : MethodId} {below : List Frame} {meth : Method} {c : Code} {b : Nat} (hx : p.tables.exec = Jvm.exec) (hb : c.code = code) (hr : meth.sig.returnType = ret) (hlocks : meth.locks = false) {pc : Nat} {H : Heap} {ls : Array Slot} (hdg : decode code pc = .ok (.ireturn, 1)) : W p l e room_1 s m #[Value.ref b] below meth c H [] 600000 7302249 (lw_Z below #[Value.ref b] s) (F0 m pc ls [.int 1]) := by
  intro T hT X
  obtain ⟨fs, hret, hrun, hended, hW, hframe⟩ := X.leave (v := some (.int 1)) (hlocks := hlocks) (fun h => by rw [hr] at h; cases h)
  have hmeth' : T.vm.method? m = some meth := X.method'
  refine ⟨T.setFrames fs, ?_, .returned (some (.int 1)), hrun, hended, rfl, ⟨_, rfl⟩, hW, hframe⟩
  jvm_step X.here [X.here.top, hx, hb, hdg, hmeth', hr, ret, narrow_b1]
  (try refine ⟨rfl, ?_⟩); (try refine ⟨rfl, ?_⟩)
  first | (intro acts; rw [hret _ acts rfl rfl rfl]) | rw [hret _ _ rfl rfl rfl]
  exact Steps.refl _
/-- what holds at the law's entry: the machine, the code, the tables' words (any of lw_tbl by 'hts w (by decide +kernel)'), the script of L ints xs at the cell b, what the Statement gives of the start (any of its parts by flat_of_before) -/
def lw_At (p : Program) (s : State) (m : MethodId) (meth : Method) (c : Code) (b L : Nat) (xs : Nat → Int32) : Prop :=
  p.tables.exec = Jvm.exec ∧ c.code = code ∧ meth.sig.returnType = ret ∧ c.maxLocals = 4 ∧ s.vm.findClass R_law = some m.cls ∧ (∀ w ∈ lw_tbl, w.before #[Value.ref b] s = true) ∧ va_X b L xs s s.heap ∧ b < s.heap.size ∧ meth.locks = false ∧ (Jvm.Cond.and given_1 narrow_1).before #[Value.ref b] s = true
set_option maxHeartbeats 8000000 in
set_option maxRecDepth 100000 in
theorem whole_of {Inv : InvT} (s0 : Sim_X9_signal Inv) (s1 : Sim_X9_goes Inv) (s2 : Sim_X9_tell Inv) (s3 : Sim_X9_feed Inv) (s4 : Sim_X9_read Inv) (s5 : Sim_X9_safety Inv) (s6 : Sim_X9_phase Inv) (s7 : Sim_X9_start Inv) (s8 : Sim_X9_cycle Inv) (s9 : Sim_X9_come Inv) (s10 : Sim_X9_seed Inv) (s11 : Sim_X9_emergency Inv) (s12 : Sim_X9_over Inv) (s13 : Sim_X9_pass Inv) (s14 : Sim_X9_told Inv) (s15 : Sim_X9_of Inv) (s16 : Sim_X9_way Inv) (s17 : Sim_X9_clear Inv) (s18 : Sim_X9_narrow Inv) (s19 : Sim_X9_table Inv) (s20 : Sim_X9_phaseOf Inv) (s21 : Sim_X9_taken Inv) (s22 : Sim_X9_recorded Inv) (s23 : Sim_X9_greens Inv) (s24 : Sim_X9_could Inv) (s25 : Sim_X9_crowded Inv) (s26 : Sim_X9_green Inv) (s27 : Sim_X9_proved Inv) (s28 : Sim_X9_wave Inv) (s29 : Sim_X9_node Inv) (s30 : Sim_X9_change Inv) (s31 : Sim_X9_band Inv) (s32 : Sim_X9_nodeBest Inv) (s33 : Sim_X9_tune Inv) (s34 : Sim_X9_would Inv) (s35 : Sim_X9_turns Inv) (s36 : Sim_X9_best Inv) (s37 : Sim_X9_note Inv) (s38 : Sim_X9_fits Inv) (s39 : Sim_X9_day Inv) (s40 : Sim_X9_chance Inv) (s41 : Sim_X9_mean Inv) (s42 : Sim_X9_plan Inv) (s43 : Sim_X9_ends Inv) (s44 : Sim_X9_judge Inv) (s45 : Sim_X9_image Inv) (s46 : Sim_X9_undo Inv) (s47 : Sim_X9_count Inv) (s48 : Sim_X9_tape Inv) (s49 : Sim_X9_item Inv) (s50 : Sim_X9_peek Inv) (s51 : Sim_X9_shift Inv) (hq : pX10_clears_ iX10 (fun vM => Inv (fun _ _ => 0) iX0 iX1 iX5 iX2 iX4_24 iX7 iX4_8 iX4_5 iX4_8 iX0 iX1 iX5 iX2 iX4_24 iX7 iX4_8 iX4_5 iX4_8 iX0 iX1 iX5 iX2 iX4_24 iX3 (fun _ => iX6) (fun _ => (fun _ _ => 0)) vM (fun _ _ => 0))) {p : Program} {e : Env} {s : State} {m : MethodId} {below : List Frame} {meth : Method} {c : Code} (l : Launch) {b L : Nat} {xs : Nat → Int32} (hL : L ≤ 3072) (C0 : lw_At p s m meth c b L xs) : W p l e room_1 s m #[Value.ref b] below meth c s.heap [] 0 0 (lw_Z below #[Value.ref b] s) (entryFrame m ([Value.ref b] : List Value).toArray 4) := by
  obtain ⟨hx, hb, hr, hml, hown, hts, hX, hbl, hlocks, hgv⟩ := id C0
  have hTB : ∀ w ∈ TB, w.before #[Value.ref b] s = true := fun w h => hts w (tb_in h)
  have hA : ∀ q : Nat, s.heap.size ≤ q → (fun q : Nat => s.heap.size ≤ q) q := fun _ h => h
  have hnA : ∀ a : Nat, a < s.heap.size → ¬ (fun q : Nat => s.heap.size ≤ q) a := fun a h => Nat.not_le.mpr h
  have hpr := flat_of_before _ hgv
  obtain ⟨c0, i0, hK0⟩ := u_known (C := RX0) (T := TX0) (N := 16) (n := 16) hTB uw0 (hTB _ wq473)
  obtain ⟨c1, i1, hK1⟩ := u_known (C := RX1) (T := TX1) (N := 7) (n := 7) hTB uw1 (hTB _ wq35)
  obtain ⟨c2, i2, hK2⟩ := u_known (C := RX2) (T := TX2) (N := 4) (n := 4) hTB uw2 (hTB _ wq43)
  obtain ⟨c3, i3, hK3⟩ := u_known (C := RX3) (T := TX3) (N := 9) (n := 9) hTB uw3 (hTB _ wq541)
  obtain ⟨c4, i4, hK4⟩ := u_known (C := RX4) (T := TX4) (N := 3) (n := 3) hTB uw4 (hTB _ wq47)
  obtain ⟨c5, i5, hK5⟩ := u_known (C := RX5) (T := TX5) (N := 8) (n := 8) hTB uw5 (hTB _ wq39)
  obtain ⟨c6, i6, hK6⟩ := u_known (C := RX6) (T := TX6) (N := 3) (n := 3) hTB uw6 (hTB _ wq545)
  obtain ⟨c7, i7, hK7⟩ := u_known (C := RX7) (T := TX7) (N := 3) (n := 3) hTB uw7 (hTB _ wq476)
  obtain ⟨c8, i8, hK8⟩ := u_known (C := RX8) (T := TX8) (N := 5) (n := 5) hTB uw8 (hTB _ wq525)
  obtain ⟨c9, i9, hK9⟩ := u_known (C := RX9) (T := TX9) (N := 12) (n := 12) hTB uw9 (hTB _ wq1150)
  obtain ⟨c10, i10, hK10⟩ := u_known (C := RX10) (T := TX10) (N := 17) (n := 17) hTB uw10 (hTB _ wq1152)
  obtain ⟨dC, dI, hKc⟩ : ∃ (dC : Nat → ClassId) (dI : Nat → Nat → Nat), ∀ (k : Nat) (q : vw_C), vwCl[k]? = some q → u_Kn s q.1 q.2.1 q.2.2 (dC k) (dI k) := by
    refine ⟨fun k => ([c0, c1, c2, c3, c4, c5, c6, c7, c8, c9, c10] : List ClassId).getD k c0, fun k => ([i0, i1, i2, i3, i4, i5, i6, i7, i8, i9, i10] : List (Nat → Nat)).getD k i0, ?_⟩
    intro k q hq
    match k, hq with
    | 0, hq => cases hq; exact hK0
    | 1, hq => cases hq; exact hK1
    | 2, hq => cases hq; exact hK2
    | 3, hq => cases hq; exact hK3
    | 4, hq => cases hq; exact hK4
    | 5, hq => cases hq; exact hK5
    | 6, hq => cases hq; exact hK6
    | 7, hq => cases hq; exact hK7
    | 8, hq => cases hq; exact hK8
    | 9, hq => cases hq; exact hK9
    | 10, hq => cases hq; exact hK10
    | k + 11, hq => simp [vwCl] at hq
  obtain ⟨cI, kI, pI, hI1, hI2, hI3⟩ := Cond.arrayClass_spec (hTB _ wqai)
  obtain ⟨cJ, kJ, pJ, hJ1, hJ2, hJ3⟩ := Cond.arrayClass_spec (hTB _ wqal)
  have hao : va_AO "SafeClears$Tape" s := va_AO.of (hts _ (tb2 (List.mem_of_getElem? (i := 76) rfl)))
  obtain ⟨pT, cT, kT, hT1, -, hT3, hT4, hT5⟩ := Cond.arrayOver_spec hao
  have hK : va_K (dC, dI) vwCl (tyL cI cJ cT) s := by
    refine ⟨hKc, fun k q hq => ?_⟩
    match k, hq with
    | 0, hq => cases hq; exact ⟨fun n z => ⟨fun k h => (by cases h), kI, hI2, pI, hI3⟩, hI1⟩
    | 1, hq => cases hq; exact ⟨fun n z => ⟨fun k h => (by cases h), kJ, hJ2, pJ, hJ3⟩, hJ1⟩
    | 2, hq => cases hq; exact ⟨fun n z => ⟨fun k h => (by cases h), kT, hT3, pT, hT4⟩, kT, pT, hT3, hT4, hT1, hT5⟩
    | k + 3, hq => simp at hq
  have hn : NWk s := by
    refine ⟨fun q hq => ?_, va_Nw.of rfl (hts _ (tb2 (List.mem_of_getElem? (i := 167) rfl))), va_Nw.of rfl (hts _ (tb2 (List.mem_of_getElem? (i := 173) rfl))), hao⟩
    simp only [nlk, List.mem_cons, List.not_mem_nil, or_false] at hq
    rcases hq with rfl | rfl | rfl | rfl | rfl | rfl | rfl | rfl | rfl | rfl | rfl | rfl | rfl
    · exact va_Nw.of rfl (hts _ (tb1 (List.mem_of_getElem? (i := 27) rfl)))
    · exact va_Nw.of rfl (hts _ (tb1 (List.mem_of_getElem? (i := 33) rfl)))
    · exact va_Nw.of rfl (hts _ (tb1 (List.mem_of_getElem? (i := 122) rfl)))
    · exact va_Nw.of rfl (hts _ (tb1 (List.mem_of_getElem? (i := 233) rfl)))
    · exact va_Nw.of rfl (hts _ (tb2 (List.mem_of_getElem? (i := 33) rfl)))
    · exact va_Nw.of rfl (hts _ (tb2 (List.mem_of_getElem? (i := 36) rfl)))
    · exact va_Nw.of rfl (hts _ (tb2 (List.mem_of_getElem? (i := 78) rfl)))
    · exact va_Nw.of rfl (hts _ (tb3 (List.mem_of_getElem? (i := 7) rfl)))
    · exact va_Nw.of rfl (hts _ (tb3 (List.mem_of_getElem? (i := 36) rfl)))
    · exact va_Nw.of rfl (hts _ (tb3 (List.mem_of_getElem? (i := 91) rfl)))
    · exact va_Nw.of rfl (hts _ (tb3 (List.mem_of_getElem? (i := 128) rfl)))
    · exact va_Nw.of rfl (hts _ (tb4 (List.mem_of_getElem? (i := 174) rfl)))
    · exact va_Nw.of rfl (hts _ (tb5 (List.mem_of_getElem? (i := 120) rfl)))
  have st0 : STk "SafeClears" "AMBER" 4 tbA (fun q : Nat => s.heap.size ≤ q) s s.heap := by
    have hel : ∀ j : Nat, j < 4 → (Term.elem (Term.static "SafeClears" "AMBER" "[I") (.int (Int32.ofNat j))).eval #[Value.ref b] s none [] s = some (.int (tbA j)) := by
      intro j hj
      rcases (show j = 0 ∨ j = 1 ∨ j = 2 ∨ j = 3 by omega) with rfl | rfl | rfl | rfl
      · exact va_eqt (hpr (Cond.eq (.elem (Term.static "SafeClears" "AMBER" "[I") (.int 0)) (.int 3)) (by decide +kernel))
      · exact va_eqt (hpr (Cond.eq (.elem (Term.static "SafeClears" "AMBER" "[I") (.int 1)) (.int 2)) (by decide +kernel))
      · exact va_eqt (hpr (Cond.eq (.elem (Term.static "SafeClears" "AMBER" "[I") (.int 2)) (.int 4)) (by decide +kernel))
      · exact va_eqt (hpr (Cond.eq (.elem (Term.static "SafeClears" "AMBER" "[I") (.int 3)) (.int 2)) (by decide +kernel))
    obtain ⟨t, ht, hT⟩ := va_Tof (N := 4) (ty := .int) (tm := (Term.static "SafeClears" "AMBER" "[I")) (args := #[Value.ref b]) (s := s) (f := fun j => .int (tbA j)) (A := fun q : Nat => s.heap.size ≤ q) (by decide) (hpr _ (by decide +kernel)) (va_eqt (hpr (Cond.eq (.length (Term.static "SafeClears" "AMBER" "[I")) (.int 4)) (by decide +kernel))) hel hnA
    exact ⟨t, va_Zref (hts _ (tb2 (List.mem_of_getElem? (i := 168) rfl))) (hTB _ wq112) ht hnA, hT⟩
  have st1 : STk "SafeClears" "PACE" 4 tbP (fun q : Nat => s.heap.size ≤ q) s s.heap := by
    have hel : ∀ j : Nat, j < 4 → (Term.elem (Term.static "SafeClears" "PACE" "[I") (.int (Int32.ofNat j))).eval #[Value.ref b] s none [] s = some (.int (tbP j)) := by
      intro j hj
      rcases (show j = 0 ∨ j = 1 ∨ j = 2 ∨ j = 3 by omega) with rfl | rfl | rfl | rfl
      · exact va_eqt (hpr (Cond.eq (.elem (Term.static "SafeClears" "PACE" "[I") (.int 0)) (.int 1)) (by decide +kernel))
      · exact va_eqt (hpr (Cond.eq (.elem (Term.static "SafeClears" "PACE" "[I") (.int 1)) (.int 3)) (by decide +kernel))
      · exact va_eqt (hpr (Cond.eq (.elem (Term.static "SafeClears" "PACE" "[I") (.int 2)) (.int 2)) (by decide +kernel))
      · exact va_eqt (hpr (Cond.eq (.elem (Term.static "SafeClears" "PACE" "[I") (.int 3)) (.int 1)) (by decide +kernel))
    obtain ⟨t, ht, hT⟩ := va_Tof (N := 4) (ty := .int) (tm := (Term.static "SafeClears" "PACE" "[I")) (args := #[Value.ref b]) (s := s) (f := fun j => .int (tbP j)) (A := fun q : Nat => s.heap.size ≤ q) (by decide) (hpr _ (by decide +kernel)) (va_eqt (hpr (Cond.eq (.length (Term.static "SafeClears" "PACE" "[I")) (.int 4)) (by decide +kernel))) hel hnA
    exact ⟨t, va_Zref (hts _ (tb2 (List.mem_of_getElem? (i := 174) rfl))) (hTB _ wq112) ht hnA, hT⟩
  have st2 : STk "SafeClears" "KINDS_OF_SORT" 5 tbK (fun q : Nat => s.heap.size ≤ q) s s.heap := by
    have hel : ∀ j : Nat, j < 5 → (Term.elem (Term.static "SafeClears" "KINDS_OF_SORT" "[I") (.int (Int32.ofNat j))).eval #[Value.ref b] s none [] s = some (.int (tbK j)) := by
      intro j hj
      rcases (show j = 0 ∨ j = 1 ∨ j = 2 ∨ j = 3 ∨ j = 4 by omega) with rfl | rfl | rfl | rfl | rfl
      · exact va_eqt (hpr (Cond.eq (.elem (Term.static "SafeClears" "KINDS_OF_SORT" "[I") (.int 0)) (.int 15)) (by decide +kernel))
      · exact va_eqt (hpr (Cond.eq (.elem (Term.static "SafeClears" "KINDS_OF_SORT" "[I") (.int 1)) (.int 13)) (by decide +kernel))
      · exact va_eqt (hpr (Cond.eq (.elem (Term.static "SafeClears" "KINDS_OF_SORT" "[I") (.int 2)) (.int 5)) (by decide +kernel))
      · exact va_eqt (hpr (Cond.eq (.elem (Term.static "SafeClears" "KINDS_OF_SORT" "[I") (.int 3)) (.int 1)) (by decide +kernel))
      · exact va_eqt (hpr (Cond.eq (.elem (Term.static "SafeClears" "KINDS_OF_SORT" "[I") (.int 4)) (.int 2)) (by decide +kernel))
    obtain ⟨t, ht, hT⟩ := va_Tof (N := 5) (ty := .int) (tm := (Term.static "SafeClears" "KINDS_OF_SORT" "[I")) (args := #[Value.ref b]) (s := s) (f := fun j => .int (tbK j)) (A := fun q : Nat => s.heap.size ≤ q) (by decide) (hpr _ (by decide +kernel)) (va_eqt (hpr (Cond.eq (.length (Term.static "SafeClears" "KINDS_OF_SORT" "[I")) (.int 5)) (by decide +kernel))) hel hnA
    exact ⟨t, va_Zref (hts _ (tb4 (List.mem_of_getElem? (i := 77) rfl))) (hTB _ wq112) ht hnA, hT⟩
  have st3 : STk "SafeClearsModel" "AMBER" 4 tbA (fun q : Nat => s.heap.size ≤ q) s s.heap := by
    have hel : ∀ j : Nat, j < 4 → (Term.elem (Term.static "SafeClearsModel" "AMBER" "[I") (.int (Int32.ofNat j))).eval #[Value.ref b] s none [] s = some (.int (tbA j)) := by
      intro j hj
      rcases (show j = 0 ∨ j = 1 ∨ j = 2 ∨ j = 3 by omega) with rfl | rfl | rfl | rfl
      · exact va_eqt (hpr (Cond.eq (.elem (Term.static "SafeClearsModel" "AMBER" "[I") (.int 0)) (.int 3)) (by decide +kernel))
      · exact va_eqt (hpr (Cond.eq (.elem (Term.static "SafeClearsModel" "AMBER" "[I") (.int 1)) (.int 2)) (by decide +kernel))
      · exact va_eqt (hpr (Cond.eq (.elem (Term.static "SafeClearsModel" "AMBER" "[I") (.int 2)) (.int 4)) (by decide +kernel))
      · exact va_eqt (hpr (Cond.eq (.elem (Term.static "SafeClearsModel" "AMBER" "[I") (.int 3)) (.int 2)) (by decide +kernel))
    obtain ⟨t, ht, hT⟩ := va_Tof (N := 4) (ty := .int) (tm := (Term.static "SafeClearsModel" "AMBER" "[I")) (args := #[Value.ref b]) (s := s) (f := fun j => .int (tbA j)) (A := fun q : Nat => s.heap.size ≤ q) (by decide) (hpr _ (by decide +kernel)) (va_eqt (hpr (Cond.eq (.length (Term.static "SafeClearsModel" "AMBER" "[I")) (.int 4)) (by decide +kernel))) hel hnA
    exact ⟨t, va_Zref (hts _ (tb5 (List.mem_of_getElem? (i := 208) rfl))) (hTB _ wq814) ht hnA, hT⟩
  have st4 : STk "SafeClearsModel" "PACE" 4 tbP (fun q : Nat => s.heap.size ≤ q) s s.heap := by
    have hel : ∀ j : Nat, j < 4 → (Term.elem (Term.static "SafeClearsModel" "PACE" "[I") (.int (Int32.ofNat j))).eval #[Value.ref b] s none [] s = some (.int (tbP j)) := by
      intro j hj
      rcases (show j = 0 ∨ j = 1 ∨ j = 2 ∨ j = 3 by omega) with rfl | rfl | rfl | rfl
      · exact va_eqt (hpr (Cond.eq (.elem (Term.static "SafeClearsModel" "PACE" "[I") (.int 0)) (.int 1)) (by decide +kernel))
      · exact va_eqt (hpr (Cond.eq (.elem (Term.static "SafeClearsModel" "PACE" "[I") (.int 1)) (.int 3)) (by decide +kernel))
      · exact va_eqt (hpr (Cond.eq (.elem (Term.static "SafeClearsModel" "PACE" "[I") (.int 2)) (.int 2)) (by decide +kernel))
      · exact va_eqt (hpr (Cond.eq (.elem (Term.static "SafeClearsModel" "PACE" "[I") (.int 3)) (.int 1)) (by decide +kernel))
    obtain ⟨t, ht, hT⟩ := va_Tof (N := 4) (ty := .int) (tm := (Term.static "SafeClearsModel" "PACE" "[I")) (args := #[Value.ref b]) (s := s) (f := fun j => .int (tbP j)) (A := fun q : Nat => s.heap.size ≤ q) (by decide) (hpr _ (by decide +kernel)) (va_eqt (hpr (Cond.eq (.length (Term.static "SafeClearsModel" "PACE" "[I")) (.int 4)) (by decide +kernel))) hel hnA
    exact ⟨t, va_Zref (hts _ (tb5 (List.mem_of_getElem? (i := 214) rfl))) (hTB _ wq814) ht hnA, hT⟩
  have C : CX p s m #[Value.ref b] c cL_law RL TB (dC, dI) (tyL cI cJ cT) (fun q : Nat => s.heap.size ≤ q) 4 := ⟨hx, hb, hml, hown, hTB, hK, hA, hn, st0, st1, st2, st3, st4⟩
  have hend : ∀ (ws : va_W) (lv : List (Nat × Value)), ZZ p l e room_1 s m #[Value.ref b] below meth c (dC, dI) (fun q : Nat => s.heap.size ≤ q) 4 lawNC lawNS (lw_Z below #[Value.ref b] s) 1881 ws lv [] := by
    intro ws lv H locs ls hP hD hS hL
    refine lv_iconst (v := 1) hx hb dL_law_1881 (by decide) ?_
    refine va_forget (fun q hq => hS.2.2 q hq) ?_
    refine W.widen (k := 600000) (n := 7302249) (Nat.le_of_ble_eq_true rfl) (Nat.le_of_ble_eq_true rfl) ?_
    exact lw_ret hx hb hr hlocks dL_law_1882
  have Z : ZZ p l e room_1 s m #[Value.ref b] below meth c (dC, dI) (fun q : Nat => s.heap.size ≤ q) 4 0 0 (lw_Z below #[Value.ref b] s) 0 [] [(0, .ref b)] [] := by
    refine z_new (pc := 0) C uw9 tyX9 tyX9_ok wq1149 wq1150 wq112 (ci := 9) rfl dfX9 (Nat.le_of_ble_eq_true rfl) (Nat.le_of_ble_eq_true rfl) dL_law_0 (fun q1 => ?_)
    refine z_ws (ws' := [(q1, .inr (9, [.null, .null, .null, .null, .null, .null, .null, .null, .null, .null, .int 0, .int 0]))]) rfl ?_
    refine z_dup (pc := 3) C dL_law_3 rfl ?_
    refine z_callv (pc := 4) (wr := ([] : va_W)) (w1 := fun (u1 : (Nat → Nat) × ((Nat → Nat) × ((Nat → Nat) × (Nat → Nat) × (Nat → Nat) × (Nat → Nat) × (Nat → Nat)) × (Nat → Nat) × (Nat → Nat) × (Nat → Nat) × (Nat → Nat)) × ((Nat → Nat) × ((Nat → Nat) × (Nat → Nat) × (Nat → Nat) × (Nat → Nat) × (Nat → Nat)) × (Nat → Nat) × (Nat → Nat) × (Nat → Nat) × (Nat → Nat)) × ((Nat → Nat) × (Nat → Nat) × (Nat → Nat) × (Nat → Nat) × (Nat → Nat)) × (Nat → Nat) × Nat × (Nat → Nat → Nat)) => ((wX9 u1.1 (u1.2.1.1 0) (u1.2.2.1.1 0) (u1.2.2.2.1.1 0) (u1.2.1.2.1.1 0) (u1.2.1.2.1.2.1 0) (u1.2.1.2.1.2.2.1 0) (u1.2.1.2.1.2.2.2.1 0) (u1.2.1.2.2.1 0) (u1.2.2.2.2.1 0) u1.2.2.2.2.2.1 (fun _ _ => 0)) ++ ((wX8 u1.2.1.1 (u1.2.1.2.1.1 0) (u1.2.1.2.2.1 0) (u1.2.1.2.2.2.1 0) (u1.2.1.2.2.2.2.1 0) (u1.2.1.2.2.2.2.2 0)) ++ ((wX0 u1.2.1.2.1.1 (u1.2.1.2.1.2.1 0) (u1.2.1.2.1.2.2.1 0) (u1.2.1.2.1.2.2.2.1 0) (u1.2.1.2.1.2.2.2.2 0) iX0) ++ ((wX1 cI u1.2.1.2.1.2.1 iX1) ++ ((wX5 cI u1.2.1.2.1.2.2.1 iX5) ++ ((wX2 cI u1.2.1.2.1.2.2.2.1 iX2) ++ ((wX4 cI 72 u1.2.1.2.1.2.2.2.2 iX4_24) ++ ((wX7 cI u1.2.1.2.2.1 iX7) ++ ((wX4 cI 24 u1.2.1.2.2.2.1 iX4_8) ++ ((wX4 cI 15 u1.2.1.2.2.2.2.1 iX4_5) ++ ((wX4 cI 24 u1.2.1.2.2.2.2.2 iX4_8) ++ ((wX8 u1.2.2.1.1 (u1.2.2.1.2.1.1 0) (u1.2.2.1.2.2.1 0) (u1.2.2.1.2.2.2.1 0) (u1.2.2.1.2.2.2.2.1 0) (u1.2.2.1.2.2.2.2.2 0)) ++ ((wX0 u1.2.2.1.2.1.1 (u1.2.2.1.2.1.2.1 0) (u1.2.2.1.2.1.2.2.1 0) (u1.2.2.1.2.1.2.2.2.1 0) (u1.2.2.1.2.1.2.2.2.2 0) iX0) ++ ((wX1 cI u1.2.2.1.2.1.2.1 iX1) ++ ((wX5 cI u1.2.2.1.2.1.2.2.1 iX5) ++ ((wX2 cI u1.2.2.1.2.1.2.2.2.1 iX2) ++ ((wX4 cI 72 u1.2.2.1.2.1.2.2.2.2 iX4_24) ++ ((wX7 cI u1.2.2.1.2.2.1 iX7) ++ ((wX4 cI 24 u1.2.2.1.2.2.2.1 iX4_8) ++ ((wX4 cI 15 u1.2.2.1.2.2.2.2.1 iX4_5) ++ ((wX4 cI 24 u1.2.2.1.2.2.2.2.2 iX4_8) ++ ((wX0 u1.2.2.2.1.1 (u1.2.2.2.1.2.1 0) (u1.2.2.2.1.2.2.1 0) (u1.2.2.2.1.2.2.2.1 0) (u1.2.2.2.1.2.2.2.2 0) iX0) ++ ((wX1 cI u1.2.2.2.1.2.1 iX1) ++ ((wX5 cI u1.2.2.2.1.2.2.1 iX5) ++ ((wX2 cI u1.2.2.2.1.2.2.2.1 iX2) ++ ((wX4 cI 72 u1.2.2.2.1.2.2.2.2 iX4_24) ++ ((wX3 cI u1.2.2.2.2.1 iX3) ++ (wTT cJ cT u1.2.2.2.2.2.1 u1.2.2.2.2.2.2 (fun _ => iX6) (fun _ => (fun _ _ => 0))))))))))))))))))))))))))))))) (w2 := fun (u1 : (Nat → Nat) × ((Nat → Nat) × ((Nat → Nat) × (Nat → Nat) × (Nat → Nat) × (Nat → Nat) × (Nat → Nat)) × (Nat → Nat) × (Nat → Nat) × (Nat → Nat) × (Nat → Nat)) × ((Nat → Nat) × ((Nat → Nat) × (Nat → Nat) × (Nat → Nat) × (Nat → Nat) × (Nat → Nat)) × (Nat → Nat) × (Nat → Nat) × (Nat → Nat) × (Nat → Nat)) × ((Nat → Nat) × (Nat → Nat) × (Nat → Nat) × (Nat → Nat) × (Nat → Nat)) × (Nat → Nat) × Nat × (Nat → Nat → Nat)) => ((wX9 u1.1 (u1.2.1.1 0) (u1.2.2.1.1 0) (u1.2.2.2.1.1 0) (u1.2.1.2.1.1 0) (u1.2.1.2.1.2.1 0) (u1.2.1.2.1.2.2.1 0) (u1.2.1.2.1.2.2.2.1 0) (u1.2.1.2.2.1 0) (u1.2.2.2.2.1 0) u1.2.2.2.2.2.1 (fun _ _ => 0)) ++ ((wX8 u1.2.1.1 (u1.2.1.2.1.1 0) (u1.2.1.2.2.1 0) (u1.2.1.2.2.2.1 0) (u1.2.1.2.2.2.2.1 0) (u1.2.1.2.2.2.2.2 0)) ++ ((wX0 u1.2.1.2.1.1 (u1.2.1.2.1.2.1 0) (u1.2.1.2.1.2.2.1 0) (u1.2.1.2.1.2.2.2.1 0) (u1.2.1.2.1.2.2.2.2 0) iX0) ++ ((wX1 cI u1.2.1.2.1.2.1 iX1) ++ ((wX5 cI u1.2.1.2.1.2.2.1 iX5) ++ ((wX2 cI u1.2.1.2.1.2.2.2.1 iX2) ++ ((wX4 cI 72 u1.2.1.2.1.2.2.2.2 iX4_24) ++ ((wX7 cI u1.2.1.2.2.1 iX7) ++ ((wX4 cI 24 u1.2.1.2.2.2.1 iX4_8) ++ ((wX4 cI 15 u1.2.1.2.2.2.2.1 iX4_5) ++ ((wX4 cI 24 u1.2.1.2.2.2.2.2 iX4_8) ++ ((wX8 u1.2.2.1.1 (u1.2.2.1.2.1.1 0) (u1.2.2.1.2.2.1 0) (u1.2.2.1.2.2.2.1 0) (u1.2.2.1.2.2.2.2.1 0) (u1.2.2.1.2.2.2.2.2 0)) ++ ((wX0 u1.2.2.1.2.1.1 (u1.2.2.1.2.1.2.1 0) (u1.2.2.1.2.1.2.2.1 0) (u1.2.2.1.2.1.2.2.2.1 0) (u1.2.2.1.2.1.2.2.2.2 0) iX0) ++ ((wX1 cI u1.2.2.1.2.1.2.1 iX1) ++ ((wX5 cI u1.2.2.1.2.1.2.2.1 iX5) ++ ((wX2 cI u1.2.2.1.2.1.2.2.2.1 iX2) ++ ((wX4 cI 72 u1.2.2.1.2.1.2.2.2.2 iX4_24) ++ ((wX7 cI u1.2.2.1.2.2.1 iX7) ++ ((wX4 cI 24 u1.2.2.1.2.2.2.1 iX4_8) ++ ((wX4 cI 15 u1.2.2.1.2.2.2.2.1 iX4_5) ++ ((wX4 cI 24 u1.2.2.1.2.2.2.2.2 iX4_8) ++ ((wX0 u1.2.2.2.1.1 (u1.2.2.2.1.2.1 0) (u1.2.2.2.1.2.2.1 0) (u1.2.2.2.1.2.2.2.1 0) (u1.2.2.2.1.2.2.2.2 0) iX0) ++ ((wX1 cI u1.2.2.2.1.2.1 iX1) ++ ((wX5 cI u1.2.2.2.1.2.2.1 iX5) ++ ((wX2 cI u1.2.2.2.1.2.2.2.1 iX2) ++ ((wX4 cI 72 u1.2.2.2.1.2.2.2.2 iX4_24) ++ ((wX3 cI u1.2.2.2.2.1 iX3) ++ (wTT cJ cT u1.2.2.2.2.2.1 u1.2.2.2.2.2.2 (fun _ => iX6) (fun _ => (fun _ _ => 0))))))))))))))))))))))))))))))) C (z_runI (pc := 4) (wc := [(q1, .inr (9, [.null, .null, .null, .null, .null, .null, .null, .null, .null, .null, .int 0, .int 0]))]) (As := []) C (fun sz => kX9_init q1 sz) [0] rfl (by decide) (gdC wq550) rfl rfl rfl wq112 wq1154 wq1155 rfl hdSX9_init ⟨Nat.le_of_ble_eq_true rfl, Nat.le_of_ble_eq_true rfl⟩ rfl (Nat.le_of_ble_eq_true rfl) ⟨Nat.le_of_ble_eq_true rfl, Nat.le_of_ble_eq_true rfl⟩ dL_law_4) [0] [] [0, 1, 2, 3, 4, 5, 6, 7, 8, 9, 10, 11, 12, 13, 14, 15, 16, 17, 18, 19, 20, 21, 22, 23, 24, 25, 26, 27, 28, 29, 30, 31, 32, 33, 34, 35, 36, 37, 38, 39, 40, 41, 42, 43, 44, 45, 46, 47, 48, 49, 50, 51, 52, 53, 54, 55, 56, 57, 58, 59, 60, 61, 62, 63, 64, 65, 66, 67, 68, 69, 70, 71, 72, 73, 74, 75, 76, 77, 78, 79, 80, 81, 82, 83, 84, 85, 86, 87, 88, 89, 90, 91, 92, 93, 94, 95, 96, 97, 98, 99, 100] rfl rfl (by decide) (by decide) (fun _ => rfl) (by decide +kernel) (fun u1 hh => ?_)
    have hh : u1.1 0 = q1 := hh
    subst hh
    refine z_astore_n (pc := 7) (lv' := [(1, .ref (u1.1 0)), (0, .ref b)]) C dL_law_7 (by decide) rfl ?_
    refine z_new (pc := 8) C uw10 tyX10 tyX10_ok wq1151 wq1152 wq814 (ci := 10) rfl dfX10 (Nat.le_of_ble_eq_true rfl) (Nat.le_of_ble_eq_true rfl) dL_law_8 (fun q2 => ?_)
    refine z_dup (pc := 11) C dL_law_11 rfl ?_
    refine z_callv (pc := 12) (wr := ((wX9 u1.1 (u1.2.1.1 0) (u1.2.2.1.1 0) (u1.2.2.2.1.1 0) (u1.2.1.2.1.1 0) (u1.2.1.2.1.2.1 0) (u1.2.1.2.1.2.2.1 0) (u1.2.1.2.1.2.2.2.1 0) (u1.2.1.2.2.1 0) (u1.2.2.2.2.1 0) u1.2.2.2.2.2.1 (fun _ _ => 0)) ++ ((wX8 u1.2.1.1 (u1.2.1.2.1.1 0) (u1.2.1.2.2.1 0) (u1.2.1.2.2.2.1 0) (u1.2.1.2.2.2.2.1 0) (u1.2.1.2.2.2.2.2 0)) ++ ((wX0 u1.2.1.2.1.1 (u1.2.1.2.1.2.1 0) (u1.2.1.2.1.2.2.1 0) (u1.2.1.2.1.2.2.2.1 0) (u1.2.1.2.1.2.2.2.2 0) iX0) ++ ((wX1 cI u1.2.1.2.1.2.1 iX1) ++ ((wX5 cI u1.2.1.2.1.2.2.1 iX5) ++ ((wX2 cI u1.2.1.2.1.2.2.2.1 iX2) ++ ((wX4 cI 72 u1.2.1.2.1.2.2.2.2 iX4_24) ++ ((wX7 cI u1.2.1.2.2.1 iX7) ++ ((wX4 cI 24 u1.2.1.2.2.2.1 iX4_8) ++ ((wX4 cI 15 u1.2.1.2.2.2.2.1 iX4_5) ++ ((wX4 cI 24 u1.2.1.2.2.2.2.2 iX4_8) ++ ((wX8 u1.2.2.1.1 (u1.2.2.1.2.1.1 0) (u1.2.2.1.2.2.1 0) (u1.2.2.1.2.2.2.1 0) (u1.2.2.1.2.2.2.2.1 0) (u1.2.2.1.2.2.2.2.2 0)) ++ ((wX0 u1.2.2.1.2.1.1 (u1.2.2.1.2.1.2.1 0) (u1.2.2.1.2.1.2.2.1 0) (u1.2.2.1.2.1.2.2.2.1 0) (u1.2.2.1.2.1.2.2.2.2 0) iX0) ++ ((wX1 cI u1.2.2.1.2.1.2.1 iX1) ++ ((wX5 cI u1.2.2.1.2.1.2.2.1 iX5) ++ ((wX2 cI u1.2.2.1.2.1.2.2.2.1 iX2) ++ ((wX4 cI 72 u1.2.2.1.2.1.2.2.2.2 iX4_24) ++ ((wX7 cI u1.2.2.1.2.2.1 iX7) ++ ((wX4 cI 24 u1.2.2.1.2.2.2.1 iX4_8) ++ ((wX4 cI 15 u1.2.2.1.2.2.2.2.1 iX4_5) ++ ((wX4 cI 24 u1.2.2.1.2.2.2.2.2 iX4_8) ++ ((wX0 u1.2.2.2.1.1 (u1.2.2.2.1.2.1 0) (u1.2.2.2.1.2.2.1 0) (u1.2.2.2.1.2.2.2.1 0) (u1.2.2.2.1.2.2.2.2 0) iX0) ++ ((wX1 cI u1.2.2.2.1.2.1 iX1) ++ ((wX5 cI u1.2.2.2.1.2.2.1 iX5) ++ ((wX2 cI u1.2.2.2.1.2.2.2.1 iX2) ++ ((wX4 cI 72 u1.2.2.2.1.2.2.2.2 iX4_24) ++ ((wX3 cI u1.2.2.2.2.1 iX3) ++ (wTT cJ cT u1.2.2.2.2.2.1 u1.2.2.2.2.2.2 (fun _ => iX6) (fun _ => (fun _ _ => 0))))))))))))))))))))))))))))))) (w1 := fun (u2 : (Nat → Nat) × Lf) => wX10 cI cJ u2.1 u2.2 (fun _ _ => 0)) (w2 := fun (u2 : (Nat → Nat) × Lf) => (((wX9 u1.1 (u1.2.1.1 0) (u1.2.2.1.1 0) (u1.2.2.2.1.1 0) (u1.2.1.2.1.1 0) (u1.2.1.2.1.2.1 0) (u1.2.1.2.1.2.2.1 0) (u1.2.1.2.1.2.2.2.1 0) (u1.2.1.2.2.1 0) (u1.2.2.2.2.1 0) u1.2.2.2.2.2.1 (fun _ _ => 0)) ++ ((wX8 u1.2.1.1 (u1.2.1.2.1.1 0) (u1.2.1.2.2.1 0) (u1.2.1.2.2.2.1 0) (u1.2.1.2.2.2.2.1 0) (u1.2.1.2.2.2.2.2 0)) ++ ((wX0 u1.2.1.2.1.1 (u1.2.1.2.1.2.1 0) (u1.2.1.2.1.2.2.1 0) (u1.2.1.2.1.2.2.2.1 0) (u1.2.1.2.1.2.2.2.2 0) iX0) ++ ((wX1 cI u1.2.1.2.1.2.1 iX1) ++ ((wX5 cI u1.2.1.2.1.2.2.1 iX5) ++ ((wX2 cI u1.2.1.2.1.2.2.2.1 iX2) ++ ((wX4 cI 72 u1.2.1.2.1.2.2.2.2 iX4_24) ++ ((wX7 cI u1.2.1.2.2.1 iX7) ++ ((wX4 cI 24 u1.2.1.2.2.2.1 iX4_8) ++ ((wX4 cI 15 u1.2.1.2.2.2.2.1 iX4_5) ++ ((wX4 cI 24 u1.2.1.2.2.2.2.2 iX4_8) ++ ((wX8 u1.2.2.1.1 (u1.2.2.1.2.1.1 0) (u1.2.2.1.2.2.1 0) (u1.2.2.1.2.2.2.1 0) (u1.2.2.1.2.2.2.2.1 0) (u1.2.2.1.2.2.2.2.2 0)) ++ ((wX0 u1.2.2.1.2.1.1 (u1.2.2.1.2.1.2.1 0) (u1.2.2.1.2.1.2.2.1 0) (u1.2.2.1.2.1.2.2.2.1 0) (u1.2.2.1.2.1.2.2.2.2 0) iX0) ++ ((wX1 cI u1.2.2.1.2.1.2.1 iX1) ++ ((wX5 cI u1.2.2.1.2.1.2.2.1 iX5) ++ ((wX2 cI u1.2.2.1.2.1.2.2.2.1 iX2) ++ ((wX4 cI 72 u1.2.2.1.2.1.2.2.2.2 iX4_24) ++ ((wX7 cI u1.2.2.1.2.2.1 iX7) ++ ((wX4 cI 24 u1.2.2.1.2.2.2.1 iX4_8) ++ ((wX4 cI 15 u1.2.2.1.2.2.2.2.1 iX4_5) ++ ((wX4 cI 24 u1.2.2.1.2.2.2.2.2 iX4_8) ++ ((wX0 u1.2.2.2.1.1 (u1.2.2.2.1.2.1 0) (u1.2.2.2.1.2.2.1 0) (u1.2.2.2.1.2.2.2.1 0) (u1.2.2.2.1.2.2.2.2 0) iX0) ++ ((wX1 cI u1.2.2.2.1.2.1 iX1) ++ ((wX5 cI u1.2.2.2.1.2.2.1 iX5) ++ ((wX2 cI u1.2.2.2.1.2.2.2.1 iX2) ++ ((wX4 cI 72 u1.2.2.2.1.2.2.2.2 iX4_24) ++ ((wX3 cI u1.2.2.2.2.1 iX3) ++ (wTT cJ cT u1.2.2.2.2.2.1 u1.2.2.2.2.2.2 (fun _ => iX6) (fun _ => (fun _ _ => 0)))))))))))))))))))))))))))))) ++ wX10 cI cJ u2.1 u2.2 (fun _ _ => 0))) C (z_runI (pc := 12) (wc := [(q2, .inr (10, [.null, .null, .null, .int 0, .int 0, .null, .null, .null, .null, .int 0, .int 0, .int 0, .null, .null, .null, .null, .int 0]))]) (As := []) C (fun sz => kX10_init q2 hq sz) [101] rfl (by decide) (gdC wq848) rfl rfl rfl wq814 wq1156 wq1157 rfl hdSX10_init ⟨Nat.le_of_ble_eq_true rfl, Nat.le_of_ble_eq_true rfl⟩ rfl (Nat.le_of_ble_eq_true rfl) ⟨Nat.le_of_ble_eq_true rfl, Nat.le_of_ble_eq_true rfl⟩ dL_law_12) [101] [0, 1, 2, 3, 4, 5, 6, 7, 8, 9, 10, 11, 12, 13, 14, 15, 16, 17, 18, 19, 20, 21, 22, 23, 24, 25, 26, 27, 28, 29, 30, 31, 32, 33, 34, 35, 36, 37, 38, 39, 40, 41, 42, 43, 44, 45, 46, 47, 48, 49, 50, 51, 52, 53, 54, 55, 56, 57, 58, 59, 60, 61, 62, 63, 64, 65, 66, 67, 68, 69, 70, 71, 72, 73, 74, 75, 76, 77, 78, 79, 80, 81, 82, 83, 84, 85, 86, 87, 88, 89, 90, 91, 92, 93, 94, 95, 96, 97, 98, 99, 100] [0, 1, 2, 3, 4, 5, 6, 7, 8, 9, 10, 11, 12, 13, 14, 15, 16, 17, 18, 19, 20, 21, 22, 23, 24, 25, 26, 27, 28, 29, 30, 31, 32, 33, 34, 35, 36, 37, 38, 39, 40, 41, 42, 43, 44, 45, 46, 47, 48, 49, 50, 51, 52, 53, 54, 55, 56, 57, 58, 59, 60, 61, 62, 63, 64, 65, 66, 67, 68, 69, 70, 71, 72, 73, 74, 75, 76, 77, 78, 79, 80, 81, 82, 83, 84, 85, 86, 87, 88, 89, 90, 91, 92, 93, 94, 95, 96, 97, 98, 99, 100, 101, 102, 103, 104, 105, 106, 107, 108, 109, 110, 111, 112] rfl rfl (by decide +kernel) (by decide +kernel) (fun _ => rfl) (by decide +kernel) (fun u2 hh => ?_)
    obtain ⟨hh, hI⟩ := hh
    subst hh
    refine z_astore_n (pc := 15) (lv' := [(2, .ref (u2.1 0)), (1, .ref (u1.1 0)), (0, .ref b)]) C dL_law_15 (by decide) rfl ?_
    refine z_iconst (pc := 16) (v := 0) C dL_law_16 (by decide) ?_
    refine z_istore_n (pc := 17) (lv' := [(3, .int 0), (2, .ref (u2.1 0)), (1, .ref (u1.1 0)), (0, .ref b)]) C dL_law_17 (by decide) rfl ?_
    refine z_sub (lv' := [(0, .ref b), (1, .ref (u1.1 0)), (2, .ref (u2.1 0)), (3, .int (nI 0))]) [3, 2, 1, 0] rfl ?_
    refine z_ws (ws' := wL cI cJ cT u1.1 u1.2.1.1 u1.2.1.2.1.1 u1.2.1.2.1.2.1 u1.2.1.2.1.2.2.1 u1.2.1.2.1.2.2.2.1 u1.2.1.2.1.2.2.2.2 u1.2.1.2.2.1 u1.2.1.2.2.2.1 u1.2.1.2.2.2.2.1 u1.2.1.2.2.2.2.2 u1.2.2.1.1 u1.2.2.1.2.1.1 u1.2.2.1.2.1.2.1 u1.2.2.1.2.1.2.2.1 u1.2.2.1.2.1.2.2.2.1 u1.2.2.1.2.1.2.2.2.2 u1.2.2.1.2.2.1 u1.2.2.1.2.2.2.1 u1.2.2.1.2.2.2.2.1 u1.2.2.1.2.2.2.2.2 u1.2.2.2.1.1 u1.2.2.2.1.2.1 u1.2.2.2.1.2.2.1 u1.2.2.2.1.2.2.2.1 u1.2.2.2.1.2.2.2.2 u1.2.2.2.2.1 u1.2.2.2.2.2.1 u1.2.2.2.2.2.2 u2.1 (fun _ _ => 0) iX0 iX1 iX5 iX2 iX4_24 iX7 iX4_8 iX4_5 iX4_8 iX0 iX1 iX5 iX2 iX4_24 iX7 iX4_8 iX4_5 iX4_8 iX0 iX1 iX5 iX2 iX4_24 iX3 (fun _ => iX6) (fun _ => (fun _ _ => 0)) u2.2 (fun _ _ => 0)) rfl ?_
    exact law_loop u1.1 u1.2.1.1 u1.2.1.2.1.1 u1.2.1.2.1.2.1 u1.2.1.2.1.2.2.1 u1.2.1.2.1.2.2.2.1 u1.2.1.2.1.2.2.2.2 u1.2.1.2.2.1 u1.2.1.2.2.2.1 u1.2.1.2.2.2.2.1 u1.2.1.2.2.2.2.2 u1.2.2.1.1 u1.2.2.1.2.1.1 u1.2.2.1.2.1.2.1 u1.2.2.1.2.1.2.2.1 u1.2.2.1.2.1.2.2.2.1 u1.2.2.1.2.1.2.2.2.2 u1.2.2.1.2.2.1 u1.2.2.1.2.2.2.1 u1.2.2.1.2.2.2.2.1 u1.2.2.1.2.2.2.2.2 u1.2.2.2.1.1 u1.2.2.2.1.2.1 u1.2.2.2.1.2.2.1 u1.2.2.2.1.2.2.2.1 u1.2.2.2.1.2.2.2.2 u1.2.2.2.2.1 u1.2.2.2.2.2.1 u1.2.2.2.2.2.2 u2.1 C hX hbl s0 s1 s2 s3 s4 s5 s6 s7 s8 s9 s10 s11 s12 s13 s14 s15 s16 s17 s18 s19 s20 s21 s22 s23 s24 s25 s26 s27 s28 s29 s30 s31 s32 s33 s34 s35 s36 s37 s38 s39 s40 s41 s42 s43 s44 s45 s46 s47 s48 s49 s50 s51 hL hend (L + 7) 0 (by omega) (by omega) (fun _ _ => 0) iX0 iX1 iX5 iX2 iX4_24 iX7 iX4_8 iX4_5 iX4_8 iX0 iX1 iX5 iX2 iX4_24 iX7 iX4_8 iX4_5 iX4_8 iX0 iX1 iX5 iX2 iX4_24 iX3 (fun _ => iX6) (fun _ => (fun _ _ => 0)) u2.2 (fun _ _ => 0) hI
  have hP0 : va_P (dC, dI) vwCl [] s.heap := fun k q h => by simp at h
  have hD0 : va_D (fun q : Nat => s.heap.size ≤ q) [] := ⟨fun i j p q h => by simp at h, fun k q h => by simp at h⟩
  have hl := lv_entry ([.ref b]) (n := 4) (Nat.le_of_ble_eq_true rfl)
  rw [lg_entry_eq]
  exact Z s.heap [] _ hP0 hD0 va_S.rf hl

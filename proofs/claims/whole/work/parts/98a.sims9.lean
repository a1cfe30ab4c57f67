theorem St.txtC {B t N K : Nat} {A : AS} {v vNc vNcj vNcs vNcp vNcr vNw vNg vNn vNq vIc vIcj vIcs vIcp vIcr vIw vIg vIn vIq vT vTj vTs vTp vTr vx : Lf} {vt : Nat → Lf} {gt : Nat → Lg} {vM : Lf} {gM : Lg} {vx' M' : Lf} (h : St B t N K A v vNc vNcj vNcs vNcp vNcr vNw vNg vNn vNq vIc vIcj vIcs vIcp vIcr vIw vIg vIn vIq vT vTj vTs vTp vTr vx vt gt vM gM) (o : ∀ c, c ≠ 0 → c ≠ 6 → c ≠ 7 → M' c = vM c) (o0 : ∀ k, (k = 3 ∨ k = 4) → M' 0 k = vM 0 k) (tx : TxR vx' M') : St B t N K A v vNc vNcj vNcs vNcp vNcr vNw vNg vNn vNq vIc vIcj vIcs vIcp vIcr vIw vIg vIn vIq vT vTj vTs vTp vTr vx' vt gt M' gM := by
  refine ⟨?_, ?_, h.hB, h.cnt, ?_, ?_, ?_, h.most, tx, ?_⟩
  · rw [o 1 (by decide) (by decide) (by decide)]; exact h.now
  · rw [o 4 (by decide) (by decide) (by decide), o 5 (by decide) (by decide) (by decide)]; exact h.tab
  · rw [o0 4 (by decide)]; exact h.cntM
  · rw [o0 3 (by decide)]; exact h.kept
  · rw [o0 3 (by decide), o 2 (by decide) (by decide) (by decide)]; exact h.img
  · exact ⟨by rw [o 8 (by decide) (by decide) (by decide), o 9 (by decide) (by decide) (by decide)]; exact h.tp.so, by rw [o 9 (by decide) (by decide) (by decide)]; exact h.tp.le, by rw [o 9 (by decide) (by decide) (by decide)]; exact h.tp.at'⟩
theorem sim_feed : Sim_X9_feed Inv := by
  intro v vNc vNcj vNcs vNcp vNcr vNw vNg vNn vNq vIc vIcj vIcs vIcp vIcr vIw vIg vIn vIq vT vTj vTs vTp vTr vx vt gt vM gM hInv x1
  obtain ⟨B, t, N, K, A, h⟩ := id hInv
  have hw := h.now
  have hN := hw.ci.hN
  have hK := hw.ci.hK
  have hM := hw.n13
  have hP := hw.n14
  obtain ⟨m, hm, em, hrow⟩ := h.txt.ok
  have nx : vx 0 1 = nI m := h.txt.n.trans em
  unfold pX9_feed
  refine w_in (fun c1 c2 => ?_) (fun c => ?_)
  · first | refine ⟨fun c => absurd c (by decide), fun _ => ?_⟩ | refine ⟨fun _ => ?_, fun c => absurd c (by decide)⟩
    obtain ⟨z, hz, ez⟩ := (up_iff (M := 127) (by decide) x1).mp ⟨c1, c2⟩
    rw [nx]
    refine ⟨fun l => ?_, fun l => ?_⟩
    · have l := (nlt (b := 100) (by omega) (by decide)).mp l
      unfold pX3_append
      rw [nx, nI_clamp (by omega)]
      have q1 : st vx 1 m x1 0 1 = nI m := by rw [st_at, if_neg (by omega), nx]
      rw [q1, st_at, if_pos ⟨rfl, rfl⟩]
      refine ⟨vp_in_nI (by omega) (by decide), ?_⟩
      unfold pX10_feed
      refine inY ⟨c1, c2⟩ ?_
      first | refine ⟨fun c => absurd c (by decide), fun _ => ?_⟩ | refine ⟨fun _ => ?_, fun c => absurd c (by decide)⟩
      rw [em, nI_clamp (by omega)]
      have q2 : st vM 6 m x1 0 9 = nI m := by rw [st_at, if_neg (by omega), em]
      rw [q2, st_at, if_pos ⟨rfl, rfl⟩]
      refine ⟨fun _ => ⟨vp_in_nI (by omega) (by decide), rfl, B, t, N, K, A, h.txtC (fun c e0 e6 e7 => ?_) (fun k hk => ?_) ⟨?_, m + 1, by omega, ?_, fun i hi => ?_⟩⟩, fun e => absurd (nI_inj (b := 100) (by omega) (by decide) e) (by omega)⟩
      · rw [st_oth _ _ _ e0, st_oth _ _ _ e6]
      · rw [st_at, if_neg (by omega), st_at, if_neg (by omega)]
      · rw [st_at, if_pos ⟨rfl, rfl⟩, st_at, if_pos ⟨rfl, rfl⟩]
      · rw [st_at, if_pos ⟨rfl, rfl⟩, nI_s]
      · by_cases ei : i = m
        · subst ei
          simp only [st_at]
          simp
          exact ⟨z, hz, ez⟩
        · have := hrow i (by omega)
          simp only [st_at]
          simp [ei]
          exact this
    · have l : m = 100 := by
        rcases Nat.lt_or_ge m 100 with e | e
        · exact absurd ((nlt (b := 100) (by omega) (by decide)).mpr e) l
        · omega
      unfold pX10_feed
      refine inY ⟨c1, c2⟩ ?_
      first | refine ⟨fun c => absurd c (by decide), fun _ => ?_⟩ | refine ⟨fun _ => ?_, fun c => absurd c (by decide)⟩
      rw [em, l]
      exact ⟨fun e => absurd rfl e, fun _ => ⟨rfl, hInv⟩⟩
  · first | refine ⟨fun c => absurd c (by decide), fun _ => ?_⟩ | refine ⟨fun _ => ?_, fun c => absurd c (by decide)⟩
    unfold pX10_feed
    refine inN c ?_
    first | refine ⟨fun c => absurd c (by decide), fun _ => ?_⟩ | refine ⟨fun _ => ?_, fun c => absurd c (by decide)⟩
    exact ⟨rfl, hInv⟩
theorem sim_cycle : Sim_X9_cycle Inv := by
  intro v vNc vNcj vNcs vNcp vNcr vNw vNg vNn vNq vIc vIcj vIcs vIcp vIcr vIw vIg vIn vIq vT vTj vTs vTp vTr vx vt gt vM gM hInv x1 x2 x3
  obtain ⟨B, t, N, K, A, h⟩ := id hInv
  have hw := h.now
  have hN := hw.ci.hN
  have hK := hw.ci.hK
  have hM := hw.n13
  have hP := hw.n14
  have m10 : vM 1 10 = A 0 0 10 := hw.ab.gl (k := 10) (by decide)
  have fin : ∀ (o p : Int32), (x1 = 0 ∨ ∃ c, 20 ≤ c ∧ c ≤ 240 ∧ x1 = nI c) → A 0 0 10 = A 0 0 10 ∧ Inv v (st (st (st vNc 0 13 x1) 0 14 o) 0 15 p) vNcj vNcs vNcp vNcr vNw vNg vNn vNq vIc vIcj vIcs vIcp vIcr vIw vIg vIn vIq vT vTj vTs vTp vTr vx vt gt (st (st (st vM 1 10 x1) 1 11 o) 1 12 p) gM := by
    intro o p hc
    refine ⟨rfl, ?_⟩
    rw [st_sa vM, st_sa1, st_sa1]
    have e10 : (nI 10 : Int32) = 10 := rfl
    refine h.nowC (t' := t) (N' := N) (K' := K) (A' := U (U (U A 0 0 10 x1) 0 0 11 o) 0 0 12 p) (hw.eng (((hw.ab.ug (k := 10) (by decide) x1).ug (k := 11) (by decide) o).ug (k := 12) (by decide) p) hw.tb ?_ ?_ (fun a _ w _ => by simp [U_at]) (fun g h1 _ => ?_) (fun x hx => by rw [U_ne _ _ _ _ (by omega), U_ne _ _ _ _ (by omega), U_ne _ _ _ _ (by omega)]) (fun q => hw.sp (by simpa [U_at] using q)) (hw.bd.same (by simp [U_at]) (by simp [U_at]) (by simp [U_at]) (by simp [U_ne]))) (h.tab.fr hw.ci (fun a _ w _ => by simp [U_at]) (by simp [U_at]))
    · refine hw.co.glob ?_ (by simp [U_ne]) (by simp [U_ne]) (by simp [U_ne]) (by simp [U_at]) (by simp [U_at])
      refine ⟨?_, ?_, ?_, ?_, ?_, ?_, ?_, ?_, ?_, ?_, ?_, ?_⟩ <;> simp [st_at, U_at, hw.co.cf.st, hw.co.cf.sec, hw.co.cf.cur, hw.co.cf.cut, hw.co.cf.em, hw.co.cf.wt, hw.co.cf.sv, hw.co.cf.ls, hw.co.cf.sd, hw.co.cf.cy, hw.co.cf.off, hw.co.cf.spl]
    · refine hw.ci.glob (by simp [U_ne]) (by simp [U_ne]) (by simp [U_ne]) (fun g hg => ?_) (by simpa [U_at] using hw.ci.em) (fun e => by simpa [U_at] using (hw.ci.st0 e).2.1) (by simpa [U_at] using hc)
      rw [U_at, if_neg (by omega), U_at, if_neg (by omega), U_at, if_neg (by omega)]
    · rw [U_at, if_neg (by omega), U_at, if_neg (by omega), U_at, if_neg (by omega)]
  unfold pX9_cycle
  have z11 : (11 : Int32).toNatClampNeg = 11 := by decide
  have z12 : (12 : Int32).toNatClampNeg = 12 := by decide
  by_cases c0 : x1 = 0
  · refine ⟨fun c => absurd c0 c, fun _ => ?_⟩
    unfold pX9_cycle_J9
    first | refine ⟨fun c => absurd c (by decide), fun _ => ?_⟩ | refine ⟨fun _ => ?_, fun c => absurd c (by decide)⟩
    unfold pX9_cycle_J51
    first | refine ⟨fun c => absurd c (by decide), fun _ => ?_⟩ | refine ⟨fun _ => ?_, fun c => absurd c (by decide)⟩
    unfold pX9_cycle_J82
    first | refine ⟨fun c => absurd c (by decide), fun _ => ?_⟩ | refine ⟨fun _ => ?_, fun c => absurd c (by decide)⟩
    unfold pX9_cycle_J99
    unfold pX10_cycle
    refine ⟨fun _ => ?_, fun c => absurd c0 c⟩
    unfold pX10_cycle_J39
    refine ⟨fun c => absurd c0 c, fun _ => ?_⟩
    unfold pX10_cycle_J71
    refine ⟨vp_in_nI (n := 11) (by decide) (by decide), fun c => absurd c0 c, fun _ => ?_⟩
    unfold pX10_cycle_J87
    refine ⟨vp_in_nI (n := 12) (by decide) (by decide), ?_⟩
    rw [hw.co.cf.cy, m10, z11, z12]
    exact fin 0 0 (.inl c0)
  · refine ⟨fun _ => ?_, fun c => absurd c c0⟩
    unfold pX9_cycle_J9
    first | refine ⟨fun c => absurd c (by decide), fun _ => ?_⟩ | refine ⟨fun _ => ?_, fun c => absurd c (by decide)⟩
    have mo : ∀ Q : Int32 → Lf → Prop, pX10_isIn x1 (20 : Int32) (240 : Int32) (fun r8 => ((r8 = 0 → (Q (-2 : Int32) vM)) ∧ (¬ r8 = 0 → (pX10_isIn x2 (0 : Int32) (x1 - (1 : Int32)) (fun r10 => ((r10 = 0 → (Q (-2 : Int32) vM)) ∧ (¬ r10 = 0 → (pX10_isIn x3 (1 : Int32) x1 (fun r12 => ((¬ r12 = 0 → (pX10_cycle_J39 x1 x2 x3 Q vM)) ∧ (r12 = 0 → (Q (-2 : Int32) vM)))))))))))) → pX10_cycle vM x1 x2 x3 Q := by
      intro Q hq
      unfold pX10_cycle
      exact ⟨fun c => absurd c c0, fun _ => hq⟩
    refine w_in (fun a1 a2 => ?_) (fun c => ?_)
    · first | refine ⟨fun c => absurd c (by decide), fun _ => ?_⟩ | refine ⟨fun _ => ?_, fun c => absurd c (by decide)⟩
      refine w_in (fun b1 b2 => ?_) (fun c => ?_)
      · first | refine ⟨fun c => absurd c (by decide), fun _ => ?_⟩ | refine ⟨fun _ => ?_, fun c => absurd c (by decide)⟩
        refine w_in (fun d1 d2 => ?_) (fun c => ?_)
        · first | refine ⟨fun c => absurd c (by decide), fun _ => ?_⟩ | refine ⟨fun _ => ?_, fun c => absurd c (by decide)⟩
          unfold pX9_cycle_J51
          first | refine ⟨fun c => absurd c (by decide), fun _ => ?_⟩ | refine ⟨fun _ => ?_, fun c => absurd c (by decide)⟩
          unfold pX9_cycle_J82
          first | refine ⟨fun c => absurd c (by decide), fun _ => ?_⟩ | refine ⟨fun _ => ?_, fun c => absurd c (by decide)⟩
          unfold pX9_cycle_J99
          refine mo _ (inY ⟨a1, a2⟩ ?_)
          first | refine ⟨fun c => absurd c (by decide), fun _ => ?_⟩ | refine ⟨fun _ => ?_, fun c => absurd c (by decide)⟩
          refine inY ⟨b1, b2⟩ ?_
          first | refine ⟨fun c => absurd c (by decide), fun _ => ?_⟩ | refine ⟨fun _ => ?_, fun c => absurd c (by decide)⟩
          refine inY ⟨d1, d2⟩ ?_
          first | refine ⟨fun c => absurd c (by decide), fun _ => ?_⟩ | refine ⟨fun _ => ?_, fun c => absurd c (by decide)⟩
          unfold pX10_cycle_J39
          refine ⟨fun _ => ?_, fun c => absurd c c0⟩
          unfold pX10_cycle_J71
          refine ⟨vp_in_nI (n := 11) (by decide) (by decide), fun _ => ?_, fun c => absurd c c0⟩
          unfold pX10_cycle_J87
          refine ⟨vp_in_nI (n := 12) (by decide) (by decide), ?_⟩
          rw [hw.co.cf.cy, m10, z11, z12]
          obtain ⟨y, h1, h2, e⟩ := (bd_iff (l := 20) (h := 240) (by decide) (by decide) x1).mp ⟨a1, a2⟩
          exact fin x2 x3 (.inr ⟨y, h1, h2, e⟩)
        · first | refine ⟨fun c => absurd c (by decide), fun _ => ?_⟩ | refine ⟨fun _ => ?_, fun c => absurd c (by decide)⟩
          refine mo _ (inY ⟨a1, a2⟩ ?_)
          first | refine ⟨fun c => absurd c (by decide), fun _ => ?_⟩ | refine ⟨fun _ => ?_, fun c => absurd c (by decide)⟩
          refine inY ⟨b1, b2⟩ ?_
          first | refine ⟨fun c => absurd c (by decide), fun _ => ?_⟩ | refine ⟨fun _ => ?_, fun c => absurd c (by decide)⟩
          refine inN c ?_
          first | refine ⟨fun c => absurd c (by decide), fun _ => ?_⟩ | refine ⟨fun _ => ?_, fun c => absurd c (by decide)⟩
          exact ⟨rfl, hInv⟩
      · first | refine ⟨fun c => absurd c (by decide), fun _ => ?_⟩ | refine ⟨fun _ => ?_, fun c => absurd c (by decide)⟩
        refine mo _ (inY ⟨a1, a2⟩ ?_)
        first | refine ⟨fun c => absurd c (by decide), fun _ => ?_⟩ | refine ⟨fun _ => ?_, fun c => absurd c (by decide)⟩
        refine inN c ?_
        first | refine ⟨fun c => absurd c (by decide), fun _ => ?_⟩ | refine ⟨fun _ => ?_, fun c => absurd c (by decide)⟩
        exact ⟨rfl, hInv⟩
    · first | refine ⟨fun c => absurd c (by decide), fun _ => ?_⟩ | refine ⟨fun _ => ?_, fun c => absurd c (by decide)⟩
      refine mo _ (inN c ?_)
      first | refine ⟨fun c => absurd c (by decide), fun _ => ?_⟩ | refine ⟨fun _ => ?_, fun c => absurd c (by decide)⟩
      exact ⟨rfl, hInv⟩

theorem sim_plan : Sim_X9_plan Inv := by
  intro v vNc vNcj vNcs vNcp vNcr vNw vNg vNn vNq vIc vIcj vIcs vIcp vIcr vIw vIg vIn vIq vT vTj vTs vTp vTr vx vt gt vM gM hInv x1 x2
  obtain ⟨B, t, N, K, A, h⟩ := id hInv
  have hw := h.now
  have hN := hw.ci.hN
  have hK := hw.ci.hK
  have hM := hw.n13
  have hP := hw.n14
  unfold pX9_plan
  obtain ⟨m, hm, em, hrow⟩ := hw.pl.row
  have m20 : vM 1 20 = nI m := (hw.ab.gl (k := 20) (by decide)).trans em
  have n0' : vNq 0 0 = nI m := hw.pl.n.trans em
  by_cases c0 : x1 = -1
  · refine ⟨fun c => absurd c0 c, fun _ => ?_⟩
    unfold pX10_plan
    refine ⟨fun c => absurd c0 c, fun _ => ?_⟩
    rw [st_sa vM]
    refine ⟨rfl, h.nowC (t' := t) (N' := N) (K' := K) (A' := U A 0 0 20 0) (hw.side (hw.ab.ug (k := 20) (by decide) 0) (by simp [U_ne]) (by simp [U_ne]) (by simp [U_ne]) (fun k hk => ?_) (hw.wv.fr (by simp [U_at]) (by simp [U_at]) (by simp [U_ne])) (hw.gt.fr (by simp [U_at]) (by simp [U_ne])) (hw.nt.fr (by simp [U_at]) (by simp [U_ne])) ⟨by simp [st_at, U_at], by simp [st_at, hw.pl.most], 0, by decide, by simp [U_at] <;> rfl, fun i hi => by omega⟩) (h.tab.fr hw.ci (fun a _ w _ => by simp [U_at]) (by simp [U_at]))⟩
    rw [U_at, if_neg (by omega)]
  · -- a row comes, or none
    have fin : ((x1 = 0 ∧ qb x2 99) ∨ (x1 = 1 ∧ qb x2 7) ∨ x1 = 2 ∨ (x1 = 3 ∧ qb x2 7)) → (∀ Q : Int32 → Lf → Prop, pX10_plan_J60 x1 x2 Q vM → pX10_plan vM x1 x2 Q) → pX9_plan_J62 x1 x2 (fun r vNq' => pX10_plan vM x1 x2 (fun r' vM' => r = r' ∧ Inv v vNc vNcj vNcs vNcp vNcr vNw vNg vNn vNq' vIc vIcj vIcs vIcp vIcr vIw vIg vIn vIq vT vTj vTs vTp vTr vx vt gt vM' gM)) vNq := by
      intro hok hmod
      unfold pX9_plan_J62
      by_cases l : m < 8
      · refine c_addY (M := 8) n0' hw.pl.most l (by decide) (by decide) (fun g' g0 g1 g2 => ?_)
        first | refine ⟨fun c => absurd c (by decide), fun _ => ?_⟩ | refine ⟨fun _ => ?_, fun c => absurd c (by decide)⟩
        refine hmod _ ?_
        unfold pX10_plan_J60
        rw [m20]
        have i0 : (355 : Int32) + (2 : Int32) * nI m = nI (355 + 2 * m) := by
          show nI 355 + nI 2 * nI m = _
          rw [pk_mul, nI_add]
        have i1 : (355 : Int32) + (2 : Int32) * nI m + 1 = nI (355 + 2 * m + 1) := by rw [i0]; exact nI_add _ 1
        refine ⟨fun _ => ?_, fun e => absurd (nI_inj (b := 8) (by omega) (by decide) e) (by omega)⟩
        have hab1 := hw.ab.up (x := 7) (i := m) (k := 0) ⟨rfl, by omega, by decide⟩ x1
        have hab2 := hab1.up (x := 7) (i := m) (k := 1) ⟨rfl, by omega, by decide⟩ x2
        have hab3 := hab2.ug (k := 20) (by decide) (nI m + 1)
        rw [i0, nI_clamp (by omega)]
        have q1 : st vM 1 (355 + 2 * m) x1 1 20 = nI m := by rw [st_at, if_neg (by omega), m20]
        rw [q1, i1, nI_clamp (by omega)]
        have q2 : st (st vM 1 (355 + 2 * m) x1) 1 (355 + 2 * m + 1) x2 1 20 = nI m := by rw [st_at, if_neg (by omega), q1]
        rw [q2]
        refine ⟨vp_in_nI (by omega) (by decide), vp_in_nI (by omega) (by decide), ?_, ?_⟩
        · rw [st_at, if_pos ⟨rfl, rfl⟩, g0, nI_s]
        · rw [st_sa vM, st_sa1, st_sa1]
          refine h.nowC (t' := t) (N' := N) (K' := K) (A' := U (U (U A 7 m 0 x1) 7 m 1 x2) 0 0 20 (nI m + 1)) (hw.side hab3 (by simp [U_ne]) (by simp [U_ne]) (by simp [U_ne]) (fun k hk => ?_) (hw.wv.fr (by simp [U_at]) (by simp [U_at]) (by simp [U_ne])) (hw.gt.fr (by simp [U_at]) (by simp [U_ne])) (hw.nt.fr (by simp [U_at]) (by simp [U_ne])) ⟨?_, g1, m + 1, by omega, by simp [U_at, nI_s], fun i hi => ⟨fun k hk => ?_, ?_⟩⟩) (h.tab.fr hw.ci (fun a _ w _ => by simp [U_at]) (by simp [U_at]))
          · rw [U_at, if_neg (by omega), U_at, if_neg (by omega), U_at, if_neg (by omega)]
          · rw [g0]; simp [U_at, nI_s]
          · rw [g2]
            by_cases ei : i = m
            · subst ei
              rcases (show k = 0 ∨ k = 1 by omega) with rfl | rfl
              · simp [U_at]
              · simp [U_at]
            · have := (hrow i (by omega)).1 k hk
              simp only [U_at]
              rw [if_neg (by omega), if_neg (by omega), if_neg (by omega), if_neg (by omega), if_neg (by omega), if_neg (by omega)]
              exact this
          · by_cases ei : i = m
            · subst ei
              simpa [U_at] using hok
            · have := (hrow i (by omega)).2
              simpa [U_at, ei] using this
      · have e8 : m = 8 := by omega
        refine c_addN (M := 8) n0' hw.pl.most (by omega) (by omega) ?_
        first | refine ⟨fun c => absurd c (by decide), fun _ => ?_⟩ | refine ⟨fun _ => ?_, fun c => absurd c (by decide)⟩
        refine hmod _ ?_
        unfold pX10_plan_J60
        rw [m20, e8]
        exact ⟨fun e => absurd rfl e, fun _ => ⟨rfl, hInv⟩⟩
    refine ⟨fun _ => w_in (fun c1 c2 => ?_) (fun c => ?_), fun c => absurd c c0⟩
    · first | refine ⟨fun c => absurd c (by decide), fun _ => ?_⟩ | refine ⟨fun _ => ?_, fun c => absurd c (by decide)⟩
      obtain ⟨k, hk, rfl⟩ := (up_iff (M := 3) (by decide) x1).mp ⟨c1, c2⟩
      have mo : ∀ Q : Int32 → Lf → Prop, ((¬ nI k = 0 → pX10_plan_J40 (nI k) x2 Q vM) ∧ (nI k = 0 → pX10_isIn x2 (0 : Int32) (99 : Int32) (fun r17 => ((r17 = 0 → (Q (-2 : Int32) vM)) ∧ (¬ r17 = 0 → (pX10_plan_J40 (nI k) x2 Q vM)))))) → pX10_plan vM (nI k) x2 Q := by
        intro Q hq
        unfold pX10_plan
        refine ⟨fun _ => inY ⟨c1, c2⟩ ?_, fun c => absurd c c0⟩
        first | refine ⟨fun c => absurd c (by decide), fun _ => ?_⟩ | refine ⟨fun _ => ?_, fun c => absurd c (by decide)⟩
        exact hq
      rcases (show k = 0 ∨ k = 1 ∨ k = 2 ∨ k = 3 by omega) with rfl | rfl | rfl | rfl
      · refine ⟨fun c => absurd rfl c, fun _ => ⟨fun c => absurd c (by decide), fun _ => w_in (fun d1 d2 => ?_) (fun d => ?_)⟩⟩
        · first | refine ⟨fun c => absurd c (by decide), fun _ => ?_⟩ | refine ⟨fun _ => ?_, fun c => absurd c (by decide)⟩
          refine fin (.inl ⟨rfl, (up_iff (M := 99) (by decide) x2).mp ⟨d1, d2⟩⟩) (fun Q hq => mo Q ⟨fun c => absurd rfl c, fun _ => inY ⟨d1, d2⟩ ?_⟩)
          first | refine ⟨fun c => absurd c (by decide), fun _ => ?_⟩ | refine ⟨fun _ => ?_, fun c => absurd c (by decide)⟩
          unfold pX10_plan_J40
          exact ⟨fun _ => hq, fun c => absurd c (by decide)⟩
        · first | refine ⟨fun c => absurd c (by decide), fun _ => ?_⟩ | refine ⟨fun _ => ?_, fun c => absurd c (by decide)⟩
          refine mo _ ⟨fun c => absurd rfl c, fun _ => inN d ?_⟩
          first | refine ⟨fun c => absurd c (by decide), fun _ => ?_⟩ | refine ⟨fun _ => ?_, fun c => absurd c (by decide)⟩
          exact ⟨rfl, hInv⟩
      · refine ⟨fun _ => ⟨fun c => absurd c (by decide), fun _ => w_in (fun d1 d2 => ?_) (fun d => ?_)⟩, fun c => absurd c (by decide)⟩
        · first | refine ⟨fun c => absurd c (by decide), fun _ => ?_⟩ | refine ⟨fun _ => ?_, fun c => absurd c (by decide)⟩
          refine fin (.inr (.inl ⟨rfl, (up_iff (M := 7) (by decide) x2).mp ⟨d1, d2⟩⟩)) (fun Q hq => mo Q ⟨fun _ => ?_, fun c => absurd c (by decide)⟩)
          unfold pX10_plan_J40
          refine ⟨fun c => absurd (by decide) c, fun _ => inY ⟨d1, d2⟩ ?_⟩
          first | refine ⟨fun c => absurd c (by decide), fun _ => ?_⟩ | refine ⟨fun _ => ?_, fun c => absurd c (by decide)⟩
          exact hq
        · first | refine ⟨fun c => absurd c (by decide), fun _ => ?_⟩ | refine ⟨fun _ => ?_, fun c => absurd c (by decide)⟩
          refine mo _ ⟨fun _ => ?_, fun c => absurd c (by decide)⟩
          unfold pX10_plan_J40
          refine ⟨fun c => absurd (by decide) c, fun _ => inN d ?_⟩
          first | refine ⟨fun c => absurd c (by decide), fun _ => ?_⟩ | refine ⟨fun _ => ?_, fun c => absurd c (by decide)⟩
          exact ⟨rfl, hInv⟩
      · refine ⟨fun _ => ⟨fun _ => ?_, fun c => absurd rfl c⟩, fun c => absurd c (by decide)⟩
        refine fin (.inr (.inr (.inl rfl))) (fun Q hq => mo Q ⟨fun _ => ?_, fun c => absurd c (by decide)⟩)
        unfold pX10_plan_J40
        exact ⟨fun _ => hq, fun c => absurd c (by decide)⟩
      · refine ⟨fun _ => ⟨fun c => absurd c (by decide), fun _ => w_in (fun d1 d2 => ?_) (fun d => ?_)⟩, fun c => absurd c (by decide)⟩
        · first | refine ⟨fun c => absurd c (by decide), fun _ => ?_⟩ | refine ⟨fun _ => ?_, fun c => absurd c (by decide)⟩
          refine fin (.inr (.inr (.inr ⟨rfl, (up_iff (M := 7) (by decide) x2).mp ⟨d1, d2⟩⟩))) (fun Q hq => mo Q ⟨fun _ => ?_, fun c => absurd c (by decide)⟩)
          unfold pX10_plan_J40
          refine ⟨fun c => absurd (by decide) c, fun _ => inY ⟨d1, d2⟩ ?_⟩
          first | refine ⟨fun c => absurd c (by decide), fun _ => ?_⟩ | refine ⟨fun _ => ?_, fun c => absurd c (by decide)⟩
          exact hq
        · first | refine ⟨fun c => absurd c (by decide), fun _ => ?_⟩ | refine ⟨fun _ => ?_, fun c => absurd c (by decide)⟩
          refine mo _ ⟨fun _ => ?_, fun c => absurd c (by decide)⟩
          unfold pX10_plan_J40
          refine ⟨fun c => absurd (by decide) c, fun _ => inN d ?_⟩
          first | refine ⟨fun c => absurd c (by decide), fun _ => ?_⟩ | refine ⟨fun _ => ?_, fun c => absurd c (by decide)⟩
          exact ⟨rfl, hInv⟩
    · first | refine ⟨fun c => absurd c (by decide), fun _ => ?_⟩ | refine ⟨fun _ => ?_, fun c => absurd c (by decide)⟩
      unfold pX10_plan
      refine ⟨fun _ => inN c ?_, fun c => absurd c c0⟩
      first | refine ⟨fun c => absurd c (by decide), fun _ => ?_⟩ | refine ⟨fun _ => ?_, fun c => absurd c (by decide)⟩
      exact ⟨rfl, hInv⟩

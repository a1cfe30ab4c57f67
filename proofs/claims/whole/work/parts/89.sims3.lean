theorem CoI.glob {t N K : Nat} {A B : AS} (h : CoI t N K A) (e1 : B 1 = A 1) (e2 : B 2 = A 2) (e3 : B 3 = A 3) (eg : ∀ g, (g = 1 ∨ g = 2 ∨ g = 3 ∨ g = 4 ∨ g = 5 ∨ g = 13 ∨ g = 14 ∨ g = 15) → B 0 0 g = A 0 0 g) (em : B 0 0 6 = -5 ∨ ∃ a, a < N ∧ B 0 0 6 = nI a ∧ ∃ q, q < K ∧ bt (A 2 q 0) a = true) (em0 : A 0 0 2 = 0 → B 0 0 6 = -5) (cy : B 0 0 10 = 0 ∨ ∃ c, 20 ≤ c ∧ c ≤ 240 ∧ B 0 0 10 = nI c) : CoI t N K B := by
  refine ⟨h.hN, h.hK, ?_, ?_, ?_, ?_, ?_, ?_, ?_, ?_, ?_, ?_, cy, ?_⟩
  · rw [eg _ (by decide)]; exact h.m
  · rw [eg _ (by decide)]; exact h.k
  · rw [eg _ (by decide)]; exact h.sec
  · rw [eg _ (by decide), eg _ (by decide), e1, e2]; exact h.st
  · intro e
    rw [eg _ (by decide)] at e
    obtain ⟨a, b, c, d⟩ := h.st0 e
    exact ⟨by rw [eg _ (by decide)]; exact a, em0 e, by rw [eg _ (by decide)]; exact c, by rw [e1]; exact d⟩
  · rw [eg _ (by decide)]; exact h.cut
  · rw [e2]; exact em
  · rw [e1]; exact h.sg
  · rw [e2]; exact h.ph
  · rw [eg _ (by decide), e3]; exact h.rc
  · rw [eg _ (by decide)]; exact h.sf
theorem CoR.glob {N K : Nat} {c j s p r c' : Lf} {A B : AS} (h : CoR N K c j s p r A) (cf : CF c' B) (e1 : B 1 = A 1) (e2 : B 2 = A 2) (e3 : B 3 = A 3) (g1 : B 0 0 1 = A 0 0 1) (g15 : B 0 0 15 = A 0 0 15) : CoR N K c' j s p r B :=
  h.step cf (h.sr.fr e1) g1 g15 (fun a w _ => by rw [e1]) e2 e3
theorem em_neg {t N K : Nat} {A : AS} (h : CoI t N K A) : 0 ≤ A 0 0 6 ↔ ¬ A 0 0 6 = -5 := by
  have hN := h.hN
  rcases h.em with e | ⟨a, ha, e, _⟩
  · rw [e]; decide
  · rw [e]; exact ⟨fun _ => m5 (by omega), fun _ => nI_pos' (by omega)⟩

theorem sim_over : Sim_X9_over Inv := by
  intro v vNc vNcj vNcs vNcp vNcr vNw vNg vNn vNq vIc vIcj vIcs vIcp vIcr vIw vIg vIn vIq vT vTj vTs vTp vTr vx vt gt vM gM hInv _
  obtain ⟨B, t, N, K, A, h⟩ := id hInv
  have hw := h.now
  have hN := hw.ci.hN
  have hK := hw.ci.hK
  have hM := hw.n13
  have hP := hw.n14
  unfold pX9_over pX10_over
  rw [hw.co.cf.em, hw.ab.gl (k := 6) (by decide), st_sa]
  have e := em_neg hw.ci
  refine ⟨fun c => ⟨fun _ => ⟨rfl, ?_⟩, fun c2 => absurd (e.mpr c) c2⟩, fun c => ⟨fun c2 => absurd c (e.mp c2), fun _ => ⟨rfl, hInv⟩⟩⟩
  refine h.nowC (t' := t) (N' := N) (K' := K) (A' := U A 0 0 6 (-5)) (hw.eng (hw.ab.ug (by decide) (-5)) hw.tb ?_ ?_ (fun a _ w _ => by simp [U_at]) (fun g h1 _ => ?_) (fun x hx => by rw [U_ne _ _ _ _ (by omega)]) (fun q => hw.sp (by simpa [U_at] using q)) (hw.bd.same (by simp [U_at]) (by simp [U_at]) (by simp [U_at]) (by simp [U_ne]))) (h.tab.fr hw.ci (fun a _ w _ => by simp [U_at]) (by simp [U_at]))
  · refine hw.co.glob ?_ (by simp [U_ne]) (by simp [U_ne]) (by simp [U_ne]) (by simp [U_at]) (by simp [U_at])
    refine ⟨?_, ?_, ?_, ?_, ?_, ?_, ?_, ?_, ?_, ?_, ?_, ?_⟩ <;> simp [st_at, U_at, hw.co.cf.st, hw.co.cf.sec, hw.co.cf.cur, hw.co.cf.cut, hw.co.cf.em, hw.co.cf.wt, hw.co.cf.sv, hw.co.cf.ls, hw.co.cf.sd, hw.co.cf.cy, hw.co.cf.off, hw.co.cf.spl]
  · refine hw.ci.glob (by simp [U_ne]) (by simp [U_ne]) (by simp [U_ne]) (fun g hg => ?_) (.inl (by simp [U_at])) (fun _ => by simp [U_at]) (by simpa [U_at] using hw.ci.cy)
    rw [U_at, if_neg (by omega)]
  · rw [U_at, if_neg (by omega)]
theorem sim_come : Sim_X9_come Inv := by
  intro v vNc vNcj vNcs vNcp vNcr vNw vNg vNn vNq vIc vIcj vIcs vIcp vIcr vIw vIg vIn vIq vT vTj vTs vTp vTr vx vt gt vM gM hInv x1 x2
  obtain ⟨B, t, N, K, A, h⟩ := id hInv
  have hw := h.now
  have hN := hw.ci.hN
  have hK := hw.ci.hK
  have hM := hw.n13
  have hP := hw.n14
  unfold pX9_come
  refine c_sig hN hw.co.jr (fun a ha ea => ?_) (fun e1 => ?_)
  · subst ea
    first | refine ⟨fun c => absurd c (by decide), fun _ => ?_⟩ | refine ⟨fun _ => ?_, fun c => absurd c (by decide)⟩
    refine w_in (fun c1 c2 => ?_) (fun c => ?_)
    · first | refine ⟨fun c => absurd c (by decide), fun _ => ?_⟩ | refine ⟨fun _ => ?_, fun c => absurd c (by decide)⟩
      obtain ⟨n, h1, h2, rfl⟩ := (bd_iff (l := 1) (h := 20) (by decide) (by decide) x2).mp ⟨c1, c2⟩
      obtain ⟨z, hz, ez⟩ := (hw.ci.sg a ha).queue
      refine c_join hN hw.co.sr ha hz ez h2 ?_
      rw [nI_clamp (by omega), st_at, if_pos ⟨rfl, rfl⟩]
      refine ⟨vp_in_nI (by omega) (by decide), ?_⟩
      unfold pX10_come
      refine m_sigY hN hM ha ?_
      first | refine ⟨fun c => absurd c (by decide), fun _ => ?_⟩ | refine ⟨fun _ => ?_, fun c => absurd c (by decide)⟩
      refine inY ⟨c1, c2⟩ ?_
      first | refine ⟨fun c => absurd c (by decide), fun _ => ?_⟩ | refine ⟨fun _ => ?_, fun c => absurd c (by decide)⟩
      refine un (P := fun z => pX10_joins z (nI a) (nI n) _) (m_joins hw.ab (by omega) (fun S' hS => ?_))
      rw [ez]
      refine ⟨rfl, ?_⟩
      have fr := Fr.join a (nI n) A
      refine h.nowC (t' := t) (N' := N) (K' := K) (A' := joinA a (nI n) A) (hw.eng hS hw.tb (hw.co.join ha hz ez h2) ?_ fr.kw fr.gl fr.f4 (fun q => ?_) (hw.bd.same (by simp [joinA, U_at]) (by simp [joinA, U_at]) (by simp [joinA, U_at]) (by simp [joinA, U_ne]))) (h.tab.fr hw.ci fr.kw fr.one)
      · refine hw.ci.one a (fun g _ _ _ h9 => by simp [joinA, U_at, h9]) (fun q => by simp [joinA, U_at]) (by simp [joinA, U_ne]) (fun b hb => by funext y; simp [joinA, U_at, hb]) (fun _ s => s.q (fun w h5 => by simp [joinA, U_at, h5]) ?_) (fun _ c => .inl (by simpa [joinA, U_at] using c))
        have : joinA a (nI n) A 1 a 5 = if A 1 a 5 + nI n < 99 then A 1 a 5 + nI n else 99 := by simp [joinA, U_at]
        rw [this, ez, nI_add]
        by_cases l : nI (z + n) < 99
        · rw [if_pos l]; exact ⟨z + n, by have := (nlt (b := 99) (by omega) (by decide)).mp l; omega, rfl⟩
        · rw [if_neg l]; exact ⟨99, by decide, rfl⟩
      · have sp := hw.sp (by simpa [joinA, U_at] using q)
        refine ⟨sp.len, sp.dg, fun b hb hb2 => ?_, fun b hb hb2 => ?_⟩
        · simpa [st_at] using sp.ru b hb hb2
        · simpa [st_at] using sp.nv b hb hb2
    · first | refine ⟨fun c => absurd c (by decide), fun _ => ?_⟩ | refine ⟨fun _ => ?_, fun c => absurd c (by decide)⟩
      unfold pX10_come
      refine m_sigY hN hM ha ?_
      first | refine ⟨fun c => absurd c (by decide), fun _ => ?_⟩ | refine ⟨fun _ => ?_, fun c => absurd c (by decide)⟩
      refine inN c ?_
      first | refine ⟨fun c => absurd c (by decide), fun _ => ?_⟩ | refine ⟨fun _ => ?_, fun c => absurd c (by decide)⟩
      exact ⟨rfl, hInv⟩
  · first | refine ⟨fun c => absurd c (by decide), fun _ => ?_⟩ | refine ⟨fun _ => ?_, fun c => absurd c (by decide)⟩
    unfold pX10_come
    refine m_sigN hN hM e1 ?_
    first | refine ⟨fun c => absurd c (by decide), fun _ => ?_⟩ | refine ⟨fun _ => ?_, fun c => absurd c (by decide)⟩
    exact ⟨rfl, hInv⟩
theorem sim_emergency : Sim_X9_emergency Inv := by
  intro v vNc vNcj vNcs vNcp vNcr vNw vNg vNn vNq vIc vIcj vIcs vIcp vIcr vIw vIg vIn vIq vT vTj vTs vTp vTr vx vt gt vM gM hInv x1
  obtain ⟨B, t, N, K, A, h⟩ := id hInv
  have hw := h.now
  have hN := hw.ci.hN
  have hK := hw.ci.hK
  have hM := hw.n13
  have hP := hw.n14
  unfold pX9_emergency
  have m2 : vM 1 2 = A 0 0 2 := hw.ab.gl (k := 2) (by decide)
  have m6 : vM 1 6 = A 0 0 6 := hw.ab.gl (k := 6) (by decide)
  have e6 := em_neg hw.ci
  refine c_sig hN hw.co.jr (fun a ha ea => ?_) (fun e1 => ?_)
  · subst ea
    first | refine ⟨fun c => absurd c (by decide), fun _ => ?_⟩ | refine ⟨fun _ => ?_, fun c => absurd c (by decide)⟩
    unfold pX0_declare
    rw [hw.co.cf.st, hw.co.cf.em]
    have no0 : A 0 0 2 = 0 → pX10_emergency vM (nI a) (fun r' vM' => -3 = r' ∧ Inv v vNc vNcj vNcs vNcp vNcr vNw vNg vNn vNq vIc vIcj vIcs vIcp vIcr vIw vIg vIn vIq vT vTj vTs vTp vTr vx vt gt vM' gM) := by
      intro c
      unfold pX10_emergency
      refine m_sigY hN hM ha ?_
      first | refine ⟨fun c => absurd c (by decide), fun _ => ?_⟩ | refine ⟨fun _ => ?_, fun c => absurd c (by decide)⟩
      rw [m2]
      exact ⟨fun _ => ⟨rfl, hInv⟩, fun c2 => absurd c c2⟩
    refine ⟨fun c => ?_, fun c => ⟨fun c2 => ?_, fun c2 => ?_⟩⟩
    · first | refine ⟨fun c => absurd c (by decide), fun _ => ?_⟩ | refine ⟨fun _ => ?_, fun c => absurd c (by decide)⟩
      exact no0 c
    · first | refine ⟨fun c => absurd c (by decide), fun _ => ?_⟩ | refine ⟨fun _ => ?_, fun c => absurd c (by decide)⟩
      unfold pX10_emergency
      refine m_sigY hN hM ha ?_
      first | refine ⟨fun c => absurd c (by decide), fun _ => ?_⟩ | refine ⟨fun _ => ?_, fun c => absurd c (by decide)⟩
      rw [m2, m6]
      exact ⟨fun c3 => absurd c3 c, fun _ => ⟨fun _ => ⟨rfl, hInv⟩, fun c3 => absurd (e6.mpr c2) c3⟩⟩
    · refine ⟨K + 1, c_first hK hw.co.pr (by omega) K 0 (by omega) ?_⟩
      by_cases ex : ∃ b, 0 ≤ b ∧ b < 0 + K ∧ fwA A a b = true
      · obtain ⟨p, ep, _, hp, hb⟩ := ffr_some (P := fwA A a) K 0 ex
        rw [ep]
        refine ⟨fun _ => ?_, fun c3 => absurd c3 (m5 (by omega))⟩
        first | refine ⟨fun c => absurd c (by decide), fun _ => ?_⟩ | refine ⟨fun _ => ?_, fun c => absurd c (by decide)⟩
        refine ⟨K + 1, c_first hK hw.co.pr (by omega) K 0 (by omega) ?_⟩
        unfold pX10_emergency
        refine m_sigY hN hM ha ?_
        first | refine ⟨fun c => absurd c (by decide), fun _ => ?_⟩ | refine ⟨fun _ => ?_, fun c => absurd c (by decide)⟩
        rw [m2, m6]
        refine ⟨fun c3 => absurd c3 c, fun _ => ⟨fun c3 => absurd c2 (e6.mp c3), fun _ => ?_⟩⟩
        refine un (P := fun z => pX10_firstWith z (nI a) _) ⟨K + 1, m_first hK hw.ci.k hw.ab (by omega) K 0 (by omega) ?_⟩
        rw [ep]
        refine ⟨fun _ => ?_, fun c3 => absurd (nI_pos' (by omega)) c3⟩
        rw [st_sa]
        have hab := hw.ab.ug (k := 6) (by decide) (nI a)
        have hk2 : U A 0 0 6 (nI a) 0 0 14 = nI K := by simp [U_at, hw.ci.k]
        refine ⟨K + 1, m_first hK hk2 hab (by omega) K 0 (by omega) ?_⟩
        rw [show fwA (U A 0 0 6 (nI a)) a = fwA A a from by funext z; simp [fwA, U_at], ep]
        refine ⟨rfl, ?_⟩
        refine h.nowC (t' := t) (N' := N) (K' := K) (A' := U A 0 0 6 (nI a)) (hw.eng hab hw.tb ?_ ?_ (fun a _ w _ => by simp [U_at]) (fun g h1 _ => ?_) (fun x hx => by rw [U_ne _ _ _ _ (by omega)]) (fun q => hw.sp (by simpa [U_at] using q)) (hw.bd.same (by simp [U_at]) (by simp [U_at]) (by simp [U_at]) (by simp [U_ne]))) (h.tab.fr hw.ci (fun a _ w _ => by simp [U_at]) (by simp [U_at]))
        · refine hw.co.glob ?_ (by simp [U_ne]) (by simp [U_ne]) (by simp [U_ne]) (by simp [U_at]) (by simp [U_at])
          refine ⟨?_, ?_, ?_, ?_, ?_, ?_, ?_, ?_, ?_, ?_, ?_, ?_⟩ <;> simp [st_at, U_at, hw.co.cf.st, hw.co.cf.sec, hw.co.cf.cur, hw.co.cf.cut, hw.co.cf.em, hw.co.cf.wt, hw.co.cf.sv, hw.co.cf.ls, hw.co.cf.sd, hw.co.cf.cy, hw.co.cf.off, hw.co.cf.spl]
        · refine hw.ci.glob (by simp [U_ne]) (by simp [U_ne]) (by simp [U_ne]) (fun g hg => ?_) (.inr ⟨a, ha, by simp [U_at], p, by omega, hb⟩) (fun q => absurd q c) (by simpa [U_at] using hw.ci.cy)
          rw [U_at, if_neg (by omega)]
        · rw [U_at, if_neg (by omega)]
      · have en := ffr_none (P := fwA A a) K 0 ex
        rw [en]
        refine ⟨fun c3 => absurd rfl c3, fun _ => ?_⟩
        first | refine ⟨fun c => absurd c (by decide), fun _ => ?_⟩ | refine ⟨fun _ => ?_, fun c => absurd c (by decide)⟩
        unfold pX10_emergency
        refine m_sigY hN hM ha ?_
        first | refine ⟨fun c => absurd c (by decide), fun _ => ?_⟩ | refine ⟨fun _ => ?_, fun c => absurd c (by decide)⟩
        rw [m2, m6]
        refine ⟨fun c3 => absurd c3 c, fun _ => ⟨fun c3 => absurd c2 (e6.mp c3), fun _ => ?_⟩⟩
        refine un (P := fun z => pX10_firstWith z (nI a) _) ⟨K + 1, m_first hK hw.ci.k hw.ab (by omega) K 0 (by omega) ?_⟩
        rw [en]
        exact ⟨fun c3 => absurd c3 (by decide), fun _ => ⟨rfl, hInv⟩⟩
  · first | refine ⟨fun c => absurd c (by decide), fun _ => ?_⟩ | refine ⟨fun _ => ?_, fun c => absurd c (by decide)⟩
    unfold pX10_emergency
    refine m_sigN hN hM e1 ?_
    first | refine ⟨fun c => absurd c (by decide), fun _ => ?_⟩ | refine ⟨fun _ => ?_, fun c => absurd c (by decide)⟩
    exact ⟨rfl, hInv⟩
theorem sim_recorded : Sim_X9_recorded Inv := by
  intro v vNc vNcj vNcs vNcp vNcr vNw vNg vNn vNq vIc vIcj vIcs vIcp vIcr vIw vIg vIn vIq vT vTj vTs vTp vTr vx vt gt vM gM hInv x1 x2
  obtain ⟨B, t, N, K, A, h⟩ := id hInv
  have hw := h.now
  have hN := hw.ci.hN
  have hK := hw.ci.hK
  have hM := hw.n13
  have hP := hw.n14
  unfold pX9_recorded
  refine w_in (fun c1 c2 => ?_) (fun c => ?_)
  · first | refine ⟨fun c => absurd c (by decide), fun _ => ?_⟩ | refine ⟨fun _ => ?_, fun c => absurd c (by decide)⟩
    obtain ⟨m, hm, em, hr⟩ := hw.ci.rc
    rw [hw.co.rr.n, em]
    have m15 : vM 1 15 = nI m := (hw.ab.gl (k := 15) (by decide)).trans em
    obtain ⟨k, hk, rfl⟩ := (up_iff (M := 2) (by decide) x2).mp ⟨c1, c2⟩
    refine w_in (fun d1 d2 => ?_) (fun d => ?_)
    · first | refine ⟨fun c => absurd c (by decide), fun _ => ?_⟩ | refine ⟨fun _ => ?_, fun c => absurd c (by decide)⟩
      obtain ⟨i, hi, rfl⟩ := (sg_iff (by omega) x1).mp ⟨d1, d2⟩
      have e : nI m - 1 - nI i = nI (m - 1 - i) := by
        rw [show nI m - 1 = nI m - nI 1 from rfl, nI_sub (by omega), nI_sub (by omega)]
      unfold pX4_at
      rw [e, ix3, nI_clamp (by omega), hw.co.rr.at' m hm em _ (by omega) k (by omega)]
      refine ⟨vp_in_nI (by omega) (by decide), ?_⟩
      unfold pX10_recorded
      refine inY ⟨c1, c2⟩ ?_
      first | refine ⟨fun c => absurd c (by decide), fun _ => ?_⟩ | refine ⟨fun _ => ?_, fun c => absurd c (by decide)⟩
      rw [m15]
      refine inY ⟨d1, d2⟩ ?_
      first | refine ⟨fun c => absurd c (by decide), fun _ => ?_⟩ | refine ⟨fun _ => ?_, fun c => absurd c (by decide)⟩
      unfold pX10_recordAt
      rw [e, ix234, nI_clamp (by omega), show vM 1 (234 + 3 * (m - 1 - i) + k) = A 3 (m - 1 - i) k from hw.ab 3 _ k ⟨by omega, by omega⟩]
      exact ⟨vp_in_nI (by omega) (by decide), rfl, hInv⟩
    · first | refine ⟨fun c => absurd c (by decide), fun _ => ?_⟩ | refine ⟨fun _ => ?_, fun c => absurd c (by decide)⟩
      unfold pX10_recorded
      refine inY ⟨c1, c2⟩ ?_
      first | refine ⟨fun c => absurd c (by decide), fun _ => ?_⟩ | refine ⟨fun _ => ?_, fun c => absurd c (by decide)⟩
      rw [m15]
      refine inN d ?_
      first | refine ⟨fun c => absurd c (by decide), fun _ => ?_⟩ | refine ⟨fun _ => ?_, fun c => absurd c (by decide)⟩
      exact ⟨rfl, hInv⟩
  · first | refine ⟨fun c => absurd c (by decide), fun _ => ?_⟩ | refine ⟨fun _ => ?_, fun c => absurd c (by decide)⟩
    unfold pX10_recorded
    refine inN c ?_
    first | refine ⟨fun c => absurd c (by decide), fun _ => ?_⟩ | refine ⟨fun _ => ?_, fun c => absurd c (by decide)⟩
    exact ⟨rfl, hInv⟩
theorem sim_start : Sim_X9_start Inv := by
  intro v vNc vNcj vNcs vNcp vNcr vNw vNg vNn vNq vIc vIcj vIcs vIcp vIcr vIw vIg vIn vIq vT vTj vTs vTp vTr vx vt gt vM gM hInv _
  obtain ⟨B, t, N, K, A, h⟩ := id hInv
  have hw := h.now
  have hN := hw.ci.hN
  have hK := hw.ci.hK
  have hM := hw.n13
  have hP := hw.n14
  unfold pX9_start
  have m2 : vM 1 2 = A 0 0 2 := hw.ab.gl (k := 2) (by decide)
  rw [hw.co.cf.st, hw.co.pr.n]
  unfold pX10_start
  rw [m2, hP]
  refine ⟨fun c => ⟨fun _ => ⟨rfl, hInv⟩, fun c2 => ?_⟩, fun c => ⟨fun c2 => ?_, fun c2 => ⟨fun c3 => absurd (c.symm.trans c3) (by decide), fun _ => ⟨fun c4 => absurd c2 c4, fun _ => ⟨rfl, hInv⟩⟩⟩⟩⟩
  · exact absurd (hw.ci.st.elim (fun q => absurd q c) (fun q => q.1)) c2
  · have k0 : 0 < K := by
      rcases Nat.eq_zero_or_pos K with e | e
      · rw [e] at c2; exact absurd rfl c2
      · exact e
    obtain ⟨s4, s6, s5, sg⟩ := hw.ci.st0 c
    unfold pX0_begin pX0_comeOn
    have ec : (0 : Int32).toNatClampNeg = 0 := by decide
    rw [ec, hw.co.pr.com 0 k0]
    have co1 : CoR N K (st vNc 0 4 1) vNcj vNcs vNcp vNcr (U A 0 0 2 1) := by
      refine hw.co.glob ?_ (by simp [U_ne]) (by simp [U_ne]) (by simp [U_ne]) (by simp [U_at]) (by simp [U_at])
      refine ⟨?_, ?_, ?_, ?_, ?_, ?_, ?_, ?_, ?_, ?_, ?_, ?_⟩ <;> simp [st_at, U_at, hw.co.cf.st, hw.co.cf.sec, hw.co.cf.cur, hw.co.cf.cut, hw.co.cf.em, hw.co.cf.wt, hw.co.cf.sv, hw.co.cf.ls, hw.co.cf.sd, hw.co.cf.cy, hw.co.cf.off, hw.co.cf.spl]
    have co2 := co1.on 0 k0
    have ea : U A 0 0 2 1 2 0 2 = A 2 0 2 := by simp [U_at]
    rw [ea] at co2
    refine ⟨vp_in_nI (n := 0) (by decide) (by decide), vp_in_nI (n := 0) (by decide) (by decide), ?_⟩
    refine ⟨fun c3 => absurd (c.symm.trans c3) (by decide), fun _ => ⟨fun _ => ?_, fun c4 => absurd c4 c2⟩⟩
    rw [st_sa]
    refine m_comesOn (p := 0) (hw.ab.ug (k := 2) (by decide) 1) (by decide) (fun S' hS => ?_)
    have e14 : comesOnA 0 (U A 0 0 2 1) 0 0 14 = nI K := by simp [comesOnA, U_at, hw.ci.k]
    refine ⟨?_, ?_⟩
    · rw [sa_self, hS.gl (k := 14) (by decide), e14]; exact co2.pr.n
    · have fr : Fr A (comesOnA 0 (U A 0 0 2 1)) := ((Fr.U0 A 2 _ (by decide) (by decide)).trans (Fr.U0 _ 4 _ (by decide) (by decide))).trans (Fr.U23 _ 2 0 2 _ (.inl rfl))
      refine h.nowC (t' := t) (N' := N) (K' := K) (A' := comesOnA 0 (U A 0 0 2 1)) (hw.eng hS hw.tb co2 ?_ fr.kw fr.gl fr.f4 (fun q => absurd q (by simp [comesOnA, U_at])) (hw.bd.same (by simp [comesOnA, U_at]) (by simp [comesOnA, U_at]) (by simp [comesOnA, U_at]) (by simp [comesOnA, U_ne]))) (h.tab.fr hw.ci fr.kw fr.one)
      have ci := hw.ci
      have g1 : comesOnA 0 (U A 0 0 2 1) 1 = A 1 := by simp [comesOnA, U_ne]
      have g2 : ∀ q, comesOnA 0 (U A 0 0 2 1) 2 q 0 = A 2 q 0 := fun q => by simp [comesOnA, U_at]
      have g3 : comesOnA 0 (U A 0 0 2 1) 3 = A 3 := by simp [comesOnA, U_ne]
      have g0 : ∀ g, g ≠ 2 → g ≠ 4 → comesOnA 0 (U A 0 0 2 1) 0 0 g = A 0 0 g := fun g a b => by simp [comesOnA, U_at, a, b]
      refine ⟨ci.hN, ci.hK, ?_, ?_, ?_, .inr ⟨by simp [comesOnA, U_at], 0, k0, by simp [comesOnA, U_at], fun a ha q => ?_⟩, fun q => absurd q (by simp [comesOnA, U_at]), ?_, ?_, ?_, ?_, ?_, ?_, ?_⟩
      · rw [g0 _ (by decide) (by decide)]; exact ci.m
      · rw [g0 _ (by decide) (by decide)]; exact ci.k
      · rw [g0 _ (by decide) (by decide)]; exact ci.sec
      · rw [g1] at q; exact absurd (sg a ha) q
      · rw [g0 _ (by decide) (by decide)]; exact ci.cut
      · rw [g0 _ (by decide) (by decide)]; simp only [g2]; exact ci.em
      · rw [g1]; exact ci.sg
      · simp only [g2]; exact ci.ph
      · rw [g0 _ (by decide) (by decide), g3]; exact ci.rc
      · rw [g0 _ (by decide) (by decide)]; exact ci.cy
      · rw [g0 _ (by decide) (by decide)]; exact ci.sf

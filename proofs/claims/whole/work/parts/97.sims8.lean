theorem sim_green : Sim_X9_green Inv := by
  intro v vNc vNcj vNcs vNcp vNcr vNw vNg vNn vNq vIc vIcj vIcs vIcp vIcr vIw vIg vIn vIq vT vTj vTs vTp vTr vx vt gt vM gM hInv x1 x2 x3
  obtain ⟨B, t, N, K, A, h⟩ := id hInv
  have hw := h.now
  have hN := hw.ci.hN
  have hK := hw.ci.hK
  have hM := hw.n13
  have hP := hw.n14
  unfold pX9_green
  obtain ⟨m, hm, em, hrow⟩ := hw.gt.row
  have m18 : vM 1 18 = nI m := (hw.ab.gl (k := 18) (by decide)).trans em
  have n0' : vNg 0 0 = nI m := hw.gt.n.trans em
  by_cases c0 : x1 = -1
  · refine ⟨fun c => absurd c0 c, fun _ => ?_⟩
    unfold pX10_green
    refine ⟨fun c => absurd c0 c, fun _ => ?_⟩
    rw [st_sa vM]
    refine ⟨rfl, h.nowC (t' := t) (N' := N) (K' := K) (A' := U A 0 0 18 0) (hw.side (hw.ab.ug (k := 18) (by decide) 0) (by simp [U_ne]) (by simp [U_ne]) (by simp [U_ne]) (fun k hk => ?_) (hw.wv.fr (by simp [U_at]) (by simp [U_at]) (by simp [U_ne])) ⟨by simp [st_at, U_at], by simp [st_at, hw.gt.most], 0, by decide, by simp [U_at] <;> rfl, fun i hi => by omega⟩ (hw.nt.fr (by simp [U_at]) (by simp [U_ne])) (hw.pl.fr (by simp [U_at]) (by simp [U_ne]))) (h.tab.fr hw.ci (fun a _ w _ => by simp [U_at]) (by simp [U_at]))⟩
    rw [U_at, if_neg (by omega)]
  · refine ⟨fun _ => c_sig hN hw.co.jr (fun a ha ea => ?_) (fun e1 => ?_), fun c => absurd c c0⟩
    · subst ea
      first | refine ⟨fun c => absurd c (by decide), fun _ => ?_⟩ | refine ⟨fun _ => ?_, fun c => absurd c (by decide)⟩
      have mo : ∀ Q : Int32 → Lf → Prop, pX10_isIn x2 (0 : Int32) (9998 : Int32) (fun r4 => ((r4 = 0 → (Q (-2 : Int32) vM)) ∧ (¬ r4 = 0 → ((x3 ≤ x2 → (Q (-2 : Int32) vM)) ∧ (¬ x3 ≤ x2 → ((x3 ≤ (9999 : Int32) → (pX10_green vM (nI a) x2 x3 Q)) ∧ (¬ x3 ≤ (9999 : Int32) → (Q (-2 : Int32) vM)))))))) → pX10_green vM (nI a) x2 x3 Q := by
        intro Q hq
        by_cases d : 0 ≤ x2 ∧ x2 ≤ 9998
        · have hq := ((w_isIn x2 0 9998 _).mp hq)
          rw [if_pos d] at hq
          have hq := hq.2 (by decide)
          by_cases d3 : x3 ≤ x2
          · unfold pX10_green
            refine ⟨fun _ => m_sigY hN hM ha ?_, fun c => absurd c c0⟩
            first | refine ⟨fun c => absurd c (by decide), fun _ => ?_⟩ | refine ⟨fun _ => ?_, fun c => absurd c (by decide)⟩
            refine inY d ?_
            first | refine ⟨fun c => absurd c (by decide), fun _ => ?_⟩ | refine ⟨fun _ => ?_, fun c => absurd c (by decide)⟩
            exact ⟨fun _ => hq.1 d3, fun c => absurd d3 c⟩
          · have hq := hq.2 d3
            by_cases d4 : x3 ≤ 9999
            · exact hq.1 d4
            · unfold pX10_green
              refine ⟨fun _ => m_sigY hN hM ha ?_, fun c => absurd c c0⟩
              first | refine ⟨fun c => absurd c (by decide), fun _ => ?_⟩ | refine ⟨fun _ => ?_, fun c => absurd c (by decide)⟩
              refine inY d ?_
              first | refine ⟨fun c => absurd c (by decide), fun _ => ?_⟩ | refine ⟨fun _ => ?_, fun c => absurd c (by decide)⟩
              exact ⟨fun c => absurd c d3, fun _ => ⟨fun c => absurd c d4, fun _ => hq.2 d4⟩⟩
        · have hq := ((w_isIn x2 0 9998 _).mp hq)
          rw [if_neg d] at hq
          have hq := hq.1 rfl
          unfold pX10_green
          refine ⟨fun _ => m_sigY hN hM ha ?_, fun c => absurd c c0⟩
          first | refine ⟨fun c => absurd c (by decide), fun _ => ?_⟩ | refine ⟨fun _ => ?_, fun c => absurd c (by decide)⟩
          refine inN d ?_
          first | refine ⟨fun c => absurd c (by decide), fun _ => ?_⟩ | refine ⟨fun _ => ?_, fun c => absurd c (by decide)⟩
          exact hq
      refine w_in (fun c1 c2 => ?_) (fun c => ?_)
      · first | refine ⟨fun c => absurd c (by decide), fun _ => ?_⟩ | refine ⟨fun _ => ?_, fun c => absurd c (by decide)⟩
        obtain ⟨f, hf, rfl⟩ := (up_iff (M := 9998) (by decide) x2).mp ⟨c1, c2⟩
        have lo3 : nI f + 1 ≤ x3 ↔ ¬ x3 ≤ nI f := by
          rw [nI_s, i_le, i_le, nI_toInt (by omega), nI_toInt (by omega)]
          omega
        refine w_in (fun d1 d2 => ?_) (fun d => ?_)
        · first | refine ⟨fun c => absurd c (by decide), fun _ => ?_⟩ | refine ⟨fun _ => ?_, fun c => absurd c (by decide)⟩
          have d3 := lo3.mp d1
          have hx3 : 0 ≤ x3.toInt ∧ x3.toInt ≤ 9999 := by
            have a1 := i_le.mp d1
            have a2 := i_le.mp d2
            rw [nI_s, nI_toInt (by omega)] at a1
            have e9 : (9999 : Int32).toInt = 9999 := by decide
            rw [e9] at a2
            omega
          obtain ⟨z, hz, rfl⟩ : ∃ z, z ≤ 9999 ∧ x3 = nI z := ⟨x3.toInt.toNat, by omega, nI_of_toInt hx3.1⟩
          by_cases l : m < 8
          · refine c_addY (M := 8) n0' hw.gt.most l (by decide) (by decide) (fun g' g0 g1 g2 => ?_)
            first | refine ⟨fun c => absurd c (by decide), fun _ => ?_⟩ | refine ⟨fun _ => ?_, fun c => absurd c (by decide)⟩
            unfold pX10_green
            refine ⟨fun _ => m_sigY hN hM ha ?_, fun c => absurd c c0⟩
            first | refine ⟨fun c => absurd c (by decide), fun _ => ?_⟩ | refine ⟨fun _ => ?_, fun c => absurd c (by decide)⟩
            refine inY ⟨c1, c2⟩ ?_
            first | refine ⟨fun c => absurd c (by decide), fun _ => ?_⟩ | refine ⟨fun _ => ?_, fun c => absurd c (by decide)⟩
            refine ⟨fun c => absurd c d3, fun _ => ⟨fun _ => ?_, fun c => absurd d2 c⟩⟩
            rw [m18]
            have i0 : (321 : Int32) + (3 : Int32) * nI m = nI (321 + 3 * m) := by
              show nI 321 + nI 3 * nI m = _
              rw [pk_mul, nI_add]
            have i1 : (321 : Int32) + (3 : Int32) * nI m + 1 = nI (321 + 3 * m + 1) := by rw [i0]; exact nI_add _ 1
            have i2 : (321 : Int32) + (3 : Int32) * nI m + 2 = nI (321 + 3 * m + 2) := by rw [i0]; exact nI_add _ 2
            refine ⟨fun _ => ?_, fun e => absurd (nI_inj (b := 8) (by omega) (by decide) e) (by omega)⟩
            have hab1 := hw.ab.up (x := 5) (i := m) (k := 0) ⟨by omega, by decide⟩ (nI a)
            have hab2 := hab1.up (x := 5) (i := m) (k := 1) ⟨by omega, by decide⟩ (nI f)
            have hab3 := hab2.up (x := 5) (i := m) (k := 2) ⟨by omega, by decide⟩ (nI z)
            have hab4 := hab3.ug (k := 18) (by decide) (nI m + 1)
            rw [i1, i2, i0, nI_clamp (by omega), nI_clamp (by omega), nI_clamp (by omega)]
            have q2 : st (st (st vM 1 (321 + 3 * m) (nI a)) 1 (321 + 3 * m + 1) (nI f)) 1 (321 + 3 * m + 2) (nI z) 1 18 = nI m := by
              rw [st_at, if_neg (by omega), st_at, if_neg (by omega), st_at, if_neg (by omega), m18]
            rw [q2]
            refine ⟨vp_in_nI (by omega) (by decide), vp_in_nI (by omega) (by decide), vp_in_nI (by omega) (by decide), ?_, ?_⟩
            · rw [st_at, if_pos ⟨rfl, rfl⟩, g0, nI_s]
            · rw [st_sa vM, st_sa1, st_sa1, st_sa1]
              refine h.nowC (t' := t) (N' := N) (K' := K) (A' := U (U (U (U A 5 m 0 (nI a)) 5 m 1 (nI f)) 5 m 2 (nI z)) 0 0 18 (nI m + 1)) (hw.side hab4 (by simp [U_ne]) (by simp [U_ne]) (by simp [U_ne]) (fun k hk => ?_) (hw.wv.fr (by simp [U_at]) (by simp [U_at]) (by simp [U_ne])) ⟨?_, g1, m + 1, by omega, by simp [U_at, nI_s], fun i hi => ⟨fun k hk => ?_, ?_⟩⟩ (hw.nt.fr (by simp [U_at]) (by simp [U_ne])) (hw.pl.fr (by simp [U_at]) (by simp [U_ne]))) (h.tab.fr hw.ci (fun a _ w _ => by simp [U_at]) (by simp [U_at]))
              · rw [U_at, if_neg (by omega), U_at, if_neg (by omega), U_at, if_neg (by omega), U_at, if_neg (by omega)]
              · rw [g0]; simp [U_at, nI_s]
              · rw [g2]
                by_cases ei : i = m
                · subst ei
                  rcases (show k = 0 ∨ k = 1 ∨ k = 2 by omega) with rfl | rfl | rfl
                  · simp [U_at]
                  · simp [U_at]
                  · simp [U_at]
                · have := (hrow i (by omega)).1 k hk
                  simp only [U_at]
                  rw [if_neg (by omega), if_neg (by omega), if_neg (by omega), if_neg (by omega), if_neg (by omega), if_neg (by omega), if_neg (by omega)]
                  exact this
              · by_cases ei : i = m
                · subst ei
                  refine ⟨⟨a, ha, by simp [U_at]⟩, ⟨f, by omega, by simp [U_at]⟩, ⟨z, hz, by simp [U_at]⟩⟩
                · have := (hrow i (by omega)).2
                  simpa [U_at, ei] using this
          · have e8 : m = 8 := by omega
            refine c_addN (M := 8) n0' hw.gt.most (by omega) (by omega) ?_
            first | refine ⟨fun c => absurd c (by decide), fun _ => ?_⟩ | refine ⟨fun _ => ?_, fun c => absurd c (by decide)⟩
            unfold pX10_green
            refine ⟨fun _ => m_sigY hN hM ha ?_, fun c => absurd c c0⟩
            first | refine ⟨fun c => absurd c (by decide), fun _ => ?_⟩ | refine ⟨fun _ => ?_, fun c => absurd c (by decide)⟩
            refine inY ⟨c1, c2⟩ ?_
            first | refine ⟨fun c => absurd c (by decide), fun _ => ?_⟩ | refine ⟨fun _ => ?_, fun c => absurd c (by decide)⟩
            refine ⟨fun c => absurd c d3, fun _ => ⟨fun _ => ?_, fun c => absurd d2 c⟩⟩
            rw [m18, e8]
            exact ⟨fun e => absurd rfl e, fun _ => ⟨rfl, hInv⟩⟩
        · first | refine ⟨fun c => absurd c (by decide), fun _ => ?_⟩ | refine ⟨fun _ => ?_, fun c => absurd c (by decide)⟩
          refine mo _ (inY ⟨c1, c2⟩ ?_)
          first | refine ⟨fun c => absurd c (by decide), fun _ => ?_⟩ | refine ⟨fun _ => ?_, fun c => absurd c (by decide)⟩
          refine ⟨fun _ => ⟨rfl, hInv⟩, fun d3 => ⟨fun d4 => absurd ⟨lo3.mpr d3, d4⟩ d, fun _ => ⟨rfl, hInv⟩⟩⟩
      · first | refine ⟨fun c => absurd c (by decide), fun _ => ?_⟩ | refine ⟨fun _ => ?_, fun c => absurd c (by decide)⟩
        refine mo _ (inN c ?_)
        first | refine ⟨fun c => absurd c (by decide), fun _ => ?_⟩ | refine ⟨fun _ => ?_, fun c => absurd c (by decide)⟩
        exact ⟨rfl, hInv⟩
    · first | refine ⟨fun c => absurd c (by decide), fun _ => ?_⟩ | refine ⟨fun _ => ?_, fun c => absurd c (by decide)⟩
      unfold pX10_green
      refine ⟨fun _ => m_sigN hN hM e1 ?_, fun c => absurd c c0⟩
      first | refine ⟨fun c => absurd c (by decide), fun _ => ?_⟩ | refine ⟨fun _ => ?_, fun c => absurd c (by decide)⟩
      exact ⟨rfl, hInv⟩

theorem sim_image : Sim_X9_image Inv := by
  intro v vNc vNcj vNcs vNcp vNcr vNw vNg vNn vNq vIc vIcj vIcs vIcp vIcr vIw vIg vIn vIq vT vTj vTs vTp vTr vx vt gt vM gM hInv _
  obtain ⟨B, t, N, K, A, h⟩ := id hInv
  have hw := h.now
  have hN := hw.ci.hN
  have hK := hw.ci.hK
  have hM := hw.n13
  have hP := hw.n14
  unfold pX9_image
  refine c_copyWo hw h.most.2.1 h.most.2.2.1 h.most.2.2.2.1 h.most.2.2.2.2 (fun c' j' s' p' r' w' g' n' q' k => ?_)
  unfold pX10_image
  refine m_copy (fun f hf => ?_)
  have ab : Ab f A := hw.ab.agree hf
  refine ⟨?_, B, t, N, K, A, ?_, ?_, h.hB, ?_, ?_, ?_, .inr ⟨?_, t, N, K, A, ?_⟩, ?_, ?_, ?_⟩
  · rw [st_at, if_neg (by decide), sa_ne _ _ (by decide), hw.co.cf.sec, hw.ab.gl (k := 3) (by decide)]
  · rw [st_oth _ _ _ (by decide), sa_ne _ _ (by decide)]; exact hw
  · rw [st_oth _ _ _ (by decide), sa_ne _ _ (by decide), st_oth _ _ _ (by decide), sa_ne _ _ (by decide)]; exact h.tab
  · rw [st_at, if_neg (by decide)]; exact h.cnt
  · rw [st_at, if_neg (by decide), sa_ne _ _ (by decide)]; exact h.cntM
  · rw [st_at, if_pos ⟨rfl, rfl⟩, st_at, if_pos ⟨rfl, rfl⟩]
  · rw [st_at, if_pos ⟨rfl, rfl⟩]
  · rw [st_oth _ _ _ (by decide), sa_self]; exact k f ab
  · have k' := k f ab
    exact ⟨h.most.1, k'.co.rr.most, k'.gt.most, k'.nt.most, k'.pl.most⟩
  · refine ⟨?_, ?_⟩
    · rw [st_at, if_neg (by decide), sa_ne _ _ (by decide)]; exact h.txt.n
    · rw [st_at, if_neg (by decide), sa_ne _ _ (by decide), st_oth _ _ _ (by decide), sa_ne _ _ (by decide)]; exact h.txt.ok
  · refine ⟨?_, ?_, ?_⟩
    · rw [st_oth _ _ _ (by decide), sa_ne _ _ (by decide), st_oth _ _ _ (by decide), sa_ne _ _ (by decide)]; exact h.tp.so
    · rw [st_oth _ _ _ (by decide), sa_ne _ _ (by decide)]; exact h.tp.le
    · rw [st_oth _ _ _ (by decide), sa_ne _ _ (by decide)]; exact h.tp.at'
theorem sim_phaseOf : Sim_X9_phaseOf Inv := by
  intro v vNc vNcj vNcs vNcp vNcr vNw vNg vNn vNq vIc vIcj vIcs vIcp vIcr vIw vIg vIn vIq vT vTj vTs vTp vTr vx vt gt vM gM hInv x1 x2
  obtain ⟨B, t, N, K, A, h⟩ := id hInv
  have hw := h.now
  have hN := hw.ci.hN
  have hK := hw.ci.hK
  have hM := hw.n13
  have hP := hw.n14
  have key : ∀ {Q : Int32 → Prop}, (∀ i, i < K → x1 = nI i → Q 1) → ((¬ ∃ i, i < K ∧ x1 = nI i) → Q 0) → pX9_within x1 0 (vNcp 0 0 - 1) Q := by
    intro Q q1 q0
    rw [hw.co.pr.n]
    refine w_in (fun c1 c2 => ?_) (fun c => q0 (fun e => c ((sg_iff (by omega) x1).mpr e)))
    obtain ⟨i, hi, e⟩ := (sg_iff (by omega) x1).mp ⟨c1, c2⟩
    exact q1 i hi e
  unfold pX9_phaseOf
  refine key (fun i hi ei => ?_) (fun e1 => ?_)
  · subst ei
    first | refine ⟨fun c => absurd c (by decide), fun _ => ?_⟩ | refine ⟨fun _ => ?_, fun c => absurd c (by decide)⟩
    rw [nI_clamp (by omega), hw.co.pr.set i hi, hw.co.pr.force i hi, hw.co.pr.com i hi]
    have low : ∀ k, k < 3 → pX10_phaseOf vM (nI i) (nI k) (fun r' => A 2 i k = r' ∧ Inv v vNc vNcj vNcs vNcp vNcr vNw vNg vNn vNq vIc vIcj vIcs vIcp vIcr vIw vIg vIn vIq vT vTj vTs vTp vTr vx vt gt vM gM) := by
      intro k hk
      unfold pX10_phaseOf
      refine m_phY hK hP hi ?_
      first | refine ⟨fun c => absurd c (by decide), fun _ => ?_⟩ | refine ⟨fun _ => ?_, fun c => absurd c (by decide)⟩
      refine inY ((up_iff (M := 3) (by decide) _).mpr ⟨k, by omega, rfl⟩) ?_
      first | refine ⟨fun c => absurd c (by decide), fun _ => ?_⟩ | refine ⟨fun _ => ?_, fun c => absurd c (by decide)⟩
      refine ⟨fun c => absurd ((nle (a := 3) (by decide) (by omega)).mp c) (by omega), fun _ => ?_⟩
      rw [ix216, nI_clamp (by omega), show vM 1 (216 + 3 * i + k) = A 2 i k from hw.ab 2 i k ⟨by omega, by omega⟩]
      exact ⟨vp_in_nI (by omega) (by decide), rfl, hInv⟩
    refine ⟨fun c => ⟨vp_in_nI (by omega) (by decide), by rw [c]; exact low 0 (by decide)⟩, fun c0 => ⟨fun c => ⟨vp_in_nI (by omega) (by decide), by rw [c]; exact low 1 (by decide)⟩, fun c1 => ⟨fun c => ⟨vp_in_nI (by omega) (by decide), by rw [c]; exact low 2 (by decide)⟩, fun c2 => ⟨fun c => ?_, fun c3 => ?_⟩⟩⟩⟩
    · refine c_called hw.co hw.ci (fun x hx => ?_)
      have fin : ∀ y, (calledP A N i → y = 1) → (¬ calledP A N i → y = 0) → pX10_phaseOf vM (nI i) x2 (fun r' => y = r' ∧ Inv v vNc vNcj vNcs vNcp vNcr vNw vNg vNn vNq vIc vIcj vIcs vIcp vIcr vIw vIg vIn vIq vT vTj vTs vTp vTr vx vt gt vM gM) := by
        intro y h1 h0
        unfold pX10_phaseOf
        refine m_phY hK hP hi ?_
        first | refine ⟨fun c => absurd c (by decide), fun _ => ?_⟩ | refine ⟨fun _ => ?_, fun c => absurd c (by decide)⟩
        refine inY ((up_iff (M := 3) (by decide) _).mpr ⟨3, by omega, c⟩) ?_
        first | refine ⟨fun c => absurd c (by decide), fun _ => ?_⟩ | refine ⟨fun _ => ?_, fun c => absurd c (by decide)⟩
        refine ⟨fun _ => un (P := fun z => pX10_isCalled z (nI i) _) (m_isCalled hN hw.ci.m hw.ab (by omega) (fun d => ?_) (fun d => ?_)), fun e => absurd (by rw [c]; decide) e⟩
        · first | refine ⟨fun c => absurd c (by decide), fun _ => ?_⟩ | refine ⟨fun _ => ?_, fun c => absurd c (by decide)⟩
          exact ⟨h1 d, hInv⟩
        · first | refine ⟨fun c => absurd c (by decide), fun _ => ?_⟩ | refine ⟨fun _ => ?_, fun c => absurd c (by decide)⟩
          exact ⟨h0 d, hInv⟩
      refine c_isIn (by omega) (fun d => ?_) (fun d => ?_)
      · first | refine ⟨fun c => absurd c (by decide), fun _ => ?_⟩ | refine ⟨fun _ => ?_, fun c => absurd c (by decide)⟩
        exact fin 1 (fun _ => rfl) (fun e => absurd ((hx i (by omega)).mp d).2 e)
      · first | refine ⟨fun c => absurd c (by decide), fun _ => ?_⟩ | refine ⟨fun _ => ?_, fun c => absurd c (by decide)⟩
        exact fin 0 (fun e => absurd ((hx i (by omega)).mpr ⟨hi, e⟩) d) (fun _ => rfl)
    · unfold pX10_phaseOf
      refine m_phY hK hP hi ?_
      first | refine ⟨fun c => absurd c (by decide), fun _ => ?_⟩ | refine ⟨fun _ => ?_, fun c => absurd c (by decide)⟩
      refine inN (fun e => ?_) ?_
      · obtain ⟨k, hk, e⟩ := (up_iff (M := 3) (by decide) _).mp e
        rcases (show k = 0 ∨ k = 1 ∨ k = 2 ∨ k = 3 by omega) with rfl | rfl | rfl | rfl
        · exact c0 e
        · exact c1 e
        · exact c2 e
        · exact c3 e
      · first | refine ⟨fun c => absurd c (by decide), fun _ => ?_⟩ | refine ⟨fun _ => ?_, fun c => absurd c (by decide)⟩
        exact ⟨rfl, hInv⟩
  · first | refine ⟨fun c => absurd c (by decide), fun _ => ?_⟩ | refine ⟨fun _ => ?_, fun c => absurd c (by decide)⟩
    unfold pX10_phaseOf
    refine m_phN hK hP e1 ?_
    first | refine ⟨fun c => absurd c (by decide), fun _ => ?_⟩ | refine ⟨fun _ => ?_, fun c => absurd c (by decide)⟩
    exact ⟨rfl, hInv⟩

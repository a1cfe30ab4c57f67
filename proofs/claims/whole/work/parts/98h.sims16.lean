theorem CoI.ruleC {t N K : Nat} {A : AS} (h : CoI t N K A) (a k : Nat) (hk : k < 4) (x : Int32) : CoI t N K (U A 1 a (1 + k) x) := by
  refine h.one a (fun g _ _ _ _ => by simp [U_at]) (fun q => by simp [U_at]) (by simp [U_ne]) (fun b hb => by funext y; simp [U_at, hb]) (fun _ s => ?_) (fun _ c => .inl ?_)
  · have e : ∀ w, ¬ w = 1 + k → U A 1 a (1 + k) x 1 a w = A 1 a w := fun w hw => by simp [U_at, hw]
    refine ⟨by rw [e _ (by omega)]; exact s.kind, by rw [e _ (by omega)]; exact s.queue, by rw [e _ (by omega), e _ (by omega)]; exact s.gr, by rw [e _ (by omega)]; exact s.beg, by rw [e _ (by omega)]; exact s.en, by rw [e _ (by omega)]; exact s.seen, by rw [e _ (by omega)]; exact s.len, fun i hi => by rw [e _ (by omega)]; exact s.cells i hi⟩
  · rw [U_at, if_neg (by omega)] at c; exact c
theorem SR.ruleC {N : Nat} {s : Lf} {A : AS} (h : SR N s A) (a k : Nat) (hk : k < 4) (x : Int32) : SR N (st s 1 (a * 4 + k) x) (U A 1 a (1 + k) x) := by
  have e : ∀ b w, ¬ (1 ≤ w ∧ w ≤ 4) → U A 1 a (1 + k) x 1 b w = A 1 b w := fun b w hw => by rw [U_at, if_neg (by omega)]
  have e0 : ∀ c i, c ≠ 1 → st s 1 (a * 4 + k) x c i = s c i := fun c i hc => by rw [st_at, if_neg (by omega)]
  refine ⟨fun b hb kk hkk => ?_, fun b hb => ?_, fun b hb => ?_, fun b hb => ?_, fun b hb => ?_, fun b hb => ?_, fun b hb => ?_, fun b hb => ?_, fun b hb hb2 => ?_, fun b hb hb2 => ?_⟩
  · rw [st_at, U_at]
    by_cases c : b = a ∧ kk = k
    · rw [if_pos (by omega), if_pos (by omega)]
    · rw [if_neg (by omega), if_neg (by omega)]; exact h.ru b hb kk hkk
  · rw [e0 _ _ (by decide), e _ _ (by omega)]; exact h.q b hb
  · rw [e0 _ _ (by decide), e _ _ (by omega)]; exact h.g b hb
  · rw [e0 _ _ (by decide), e _ _ (by omega)]; exact h.be b hb
  · rw [e0 _ _ (by decide), e _ _ (by omega)]; exact h.en b hb
  · rw [e0 _ _ (by decide), e _ _ (by omega)]; exact h.se b hb
  · rw [e0 _ _ (by decide), e _ _ (by omega)]; exact h.go b hb
  · rw [e0 _ _ (by decide), e _ _ (by omega)]; exact h.ti b hb
  · rw [e0 _ _ (by decide)]; exact h.q0 b hb hb2
  · rw [e0 _ _ (by decide)]; exact h.g0 b hb hb2
theorem c_ruleN {N : Nat} {s : Lf} {A : AS} (hN : N ≤ 8) (h : SR N s A) {a : Nat} (ha : a < N) (k : Nat) (hk : k < 4) {Q : Int32 → Prop} (q : Q (A 1 a (1 + k))) : pX5_rule s (nI a) (nI k) Q := c_rule hN h ha k hk q

theorem sim_tell : Sim_X9_tell Inv := by
  intro v vNc vNcj vNcs vNcp vNcr vNw vNg vNn vNq vIc vIcj vIcs vIcp vIcr vIw vIg vIn vIq vT vTj vTs vTp vTr vx vt gt vM gM hInv x1 x2 x3
  obtain ⟨B, t, N, K, A, h⟩ := id hInv
  have hw := h.now
  have hN := hw.ci.hN
  have hK := hw.ci.hK
  have hM := hw.n13
  have hP := hw.n14
  unfold pX9_tell
  refine c_sig hN hw.co.jr (fun a ha ea => ?_) (fun e1 => ?_)
  · subst ea
    first | refine ⟨fun c => absurd c (by decide), fun _ => ?_⟩ | refine ⟨fun _ => ?_, fun c => absurd c (by decide)⟩
    refine w_in (fun c1 c2 => ?_) (fun c => ?_)
    · first | refine ⟨fun c => absurd c (by decide), fun _ => ?_⟩ | refine ⟨fun _ => ?_, fun c => absurd c (by decide)⟩
      obtain ⟨k, hk, rfl⟩ := (up_iff (M := 3) (by decide) x2).mp ⟨c1, c2⟩
      have ix4 : nI a * (4 : Int32) + nI k = nI (a * 4 + k) := by
        show nI a * nI 4 + nI k = _
        rw [pk_mul, nI_add]
      have pre : ∀ Q : Int32 → Lf → Prop, ((¬ nI k = 0 → ((¬ nI k = (1 : Int32) → ((¬ nI k = (2 : Int32) → (pX10_isIn x3 (0 : Int32) (60 : Int32) (fun r8 => (pX10_tell_J84 (nI a) (nI k) x3 Q vM r8)))) ∧ (nI k = (2 : Int32) → (pX10_isIn x3 (1 : Int32) (9 : Int32) (fun r12 => (pX10_tell_J84 (nI a) (nI k) x3 Q vM r12)))))) ∧ (nI k = (1 : Int32) → (pX10_at vM (nI a) (1 : Int32) (fun r13 => (pX10_isIn x3 r13 (99 : Int32) (fun r14 => (pX10_tell_J84 (nI a) (nI k) x3 Q vM r14)))))))) ∧ (nI k = 0 → (pX10_at vM (nI a) (2 : Int32) (fun r15 => (pX10_isIn x3 (1 : Int32) (if r15 < (20 : Int32) then r15 else (20 : Int32)) (fun r16 => (pX10_tell_J84 (nI a) (nI k) x3 Q vM r16))))))) → pX10_tell vM (nI a) (nI k) x3 Q := by
        intro Q hq
        unfold pX10_tell
        refine m_sigY hN hM ha ?_
        first | refine ⟨fun c => absurd c (by decide), fun _ => ?_⟩ | refine ⟨fun _ => ?_, fun c => absurd c (by decide)⟩
        refine inY ⟨c1, c2⟩ ?_
        first | refine ⟨fun c => absurd c (by decide), fun _ => ?_⟩ | refine ⟨fun _ => ?_, fun c => absurd c (by decide)⟩
        exact hq
      have fin : ∀ l u : Int32, (∀ Q : Int32 → Lf → Prop, pX10_isIn x3 l u (fun r => pX10_tell_J84 (nI a) (nI k) x3 Q vM r) → pX10_tell vM (nI a) (nI k) x3 Q) → pX9_within x3 l u (fun r7 => ((¬ r7 = 0 → (pX5_rule vNcs (nI a) (nI k) (fun r9 => (vp_in ((nI a * (4 : Int32)) + nI k) 32 ∧ pX10_tell vM (nI a) (nI k) x3 (fun r' vM' => r9 = r' ∧ Inv v vNc vNcj (st vNcs 1 ((nI a * (4 : Int32)) + nI k).toNatClampNeg x3) vNcp vNcr vNw vNg vNn vNq vIc vIcj vIcs vIcp vIcr vIw vIg vIn vIq vT vTj vTs vTp vTr vx vt gt vM' gM))))) ∧ (r7 = 0 → pX10_tell vM (nI a) (nI k) x3 (fun r' vM' => (-2 : Int32) = r' ∧ Inv v vNc vNcj vNcs vNcp vNcr vNw vNg vNn vNq vIc vIcj vIcs vIcp vIcr vIw vIg vIn vIq vT vTj vTs vTp vTr vx vt gt vM' gM)))) := by
        intro l u hm
        refine w_in (fun d1 d2 => ?_) (fun d => ?_)
        · first | refine ⟨fun c => absurd c (by decide), fun _ => ?_⟩ | refine ⟨fun _ => ?_, fun c => absurd c (by decide)⟩
          refine c_ruleN hN hw.co.sr ha k (by omega) ?_
          rw [ix4, nI_clamp (by omega)]
          refine ⟨vp_in_nI (by omega) (by decide), hm _ (inY ⟨d1, d2⟩ ?_)⟩
          unfold pX10_tell_J84
          first | refine ⟨fun c => absurd c (by decide), fun _ => ?_⟩ | refine ⟨fun _ => ?_, fun c => absurd c (by decide)⟩
          rw [show (1 : Int32) + nI k = nI (1 + k) from nI_add 1 k]
          refine rd_atn hw.ab (by omega) (by omega) ?_
          refine un (P := fun z => pX10_puts z (nI a) (nI (1 + k)) x3 _) (m_puts hw.ab (1 + k) (by omega) (by omega) (fun S' hS => ?_))
          refine ⟨rfl, ?_⟩
          have fr := Fr.U1 A a (1 + k) x3 (by omega)
          refine h.nowC (t' := t) (N' := N) (K' := K) (A' := U A 1 a (1 + k) x3) (hw.eng hS hw.tb ?_ (hw.ci.ruleC a k (by omega) x3) fr.kw fr.gl fr.f4 (fun q => ?_) (hw.bd.same (by simp [U_at]) (by simp [U_at]) (by simp [U_at]) (by simp [U_ne]))) (h.tab.fr hw.ci fr.kw fr.one)
          · exact hw.co.step (hw.co.cf.fr (fun g => by simp [U_at])) (hw.co.sr.ruleC a k (by omega) x3) (by simp [U_at]) (by simp [U_at]) (fun b w hw2 => by rw [U_at, if_neg (by omega)]) (by simp [U_ne]) (by simp [U_ne])
          · have sp := hw.sp (by simpa [U_at] using q)
            refine ⟨sp.len, sp.dg, fun b hb hb2 => ?_, fun b hb hb2 => ?_⟩
            · have r := sp.ru b hb hb2
              simp only [st_at]
              rw [if_neg (by omega), if_neg (by omega), if_neg (by omega), if_neg (by omega)]
              exact r
            · simpa [st_at] using sp.nv b hb hb2
        · first | refine ⟨fun c => absurd c (by decide), fun _ => ?_⟩ | refine ⟨fun _ => ?_, fun c => absurd c (by decide)⟩
          refine hm _ (inN d ?_)
          unfold pX10_tell_J84
          first | refine ⟨fun c => absurd c (by decide), fun _ => ?_⟩ | refine ⟨fun _ => ?_, fun c => absurd c (by decide)⟩
          exact ⟨rfl, hInv⟩
      unfold pX5_lowest pX5_highest
      rcases (show k = 0 ∨ k = 1 ∨ k = 2 ∨ k = 3 by omega) with rfl | rfl | rfl | rfl
      · first | refine ⟨fun c => absurd c (by decide), fun _ => ?_⟩ | refine ⟨fun _ => ?_, fun c => absurd c (by decide)⟩
        first | refine ⟨fun c => absurd c (by decide), fun _ => ?_⟩ | refine ⟨fun _ => ?_, fun c => absurd c (by decide)⟩
        first | refine ⟨fun c => absurd c (by decide), fun _ => ?_⟩ | refine ⟨fun _ => ?_, fun c => absurd c (by decide)⟩
        refine c_rule hN hw.co.sr ha 1 (by decide) (fin _ _ (fun Q hq => pre Q ?_))
        first | refine ⟨fun c => absurd c (by decide), fun _ => ?_⟩ | refine ⟨fun _ => ?_, fun c => absurd c (by decide)⟩
        exact rd_at hw.ab 2 (by omega) (by decide) hq
      · first | refine ⟨fun c => absurd c (by decide), fun _ => ?_⟩ | refine ⟨fun _ => ?_, fun c => absurd c (by decide)⟩
        refine c_rule hN hw.co.sr ha 0 (by decide) ?_
        first | refine ⟨fun c => absurd c (by decide), fun _ => ?_⟩ | refine ⟨fun _ => ?_, fun c => absurd c (by decide)⟩
        first | refine ⟨fun c => absurd c (by decide), fun _ => ?_⟩ | refine ⟨fun _ => ?_, fun c => absurd c (by decide)⟩
        refine fin _ _ (fun Q hq => pre Q ?_)
        first | refine ⟨fun c => absurd c (by decide), fun _ => ?_⟩ | refine ⟨fun _ => ?_, fun c => absurd c (by decide)⟩
        first | refine ⟨fun c => absurd c (by decide), fun _ => ?_⟩ | refine ⟨fun _ => ?_, fun c => absurd c (by decide)⟩
        exact rd_at hw.ab 1 (by omega) (by decide) hq
      · first | refine ⟨fun c => absurd c (by decide), fun _ => ?_⟩ | refine ⟨fun _ => ?_, fun c => absurd c (by decide)⟩
        first | refine ⟨fun c => absurd c (by decide), fun _ => ?_⟩ | refine ⟨fun _ => ?_, fun c => absurd c (by decide)⟩
        first | refine ⟨fun c => absurd c (by decide), fun _ => ?_⟩ | refine ⟨fun _ => ?_, fun c => absurd c (by decide)⟩
        first | refine ⟨fun c => absurd c (by decide), fun _ => ?_⟩ | refine ⟨fun _ => ?_, fun c => absurd c (by decide)⟩
        first | refine ⟨fun c => absurd c (by decide), fun _ => ?_⟩ | refine ⟨fun _ => ?_, fun c => absurd c (by decide)⟩
        refine fin _ _ (fun Q hq => pre Q ?_)
        first | refine ⟨fun c => absurd c (by decide), fun _ => ?_⟩ | refine ⟨fun _ => ?_, fun c => absurd c (by decide)⟩
        first | refine ⟨fun c => absurd c (by decide), fun _ => ?_⟩ | refine ⟨fun _ => ?_, fun c => absurd c (by decide)⟩
        first | refine ⟨fun c => absurd c (by decide), fun _ => ?_⟩ | refine ⟨fun _ => ?_, fun c => absurd c (by decide)⟩
        exact hq
      · first | refine ⟨fun c => absurd c (by decide), fun _ => ?_⟩ | refine ⟨fun _ => ?_, fun c => absurd c (by decide)⟩
        first | refine ⟨fun c => absurd c (by decide), fun _ => ?_⟩ | refine ⟨fun _ => ?_, fun c => absurd c (by decide)⟩
        first | refine ⟨fun c => absurd c (by decide), fun _ => ?_⟩ | refine ⟨fun _ => ?_, fun c => absurd c (by decide)⟩
        first | refine ⟨fun c => absurd c (by decide), fun _ => ?_⟩ | refine ⟨fun _ => ?_, fun c => absurd c (by decide)⟩
        first | refine ⟨fun c => absurd c (by decide), fun _ => ?_⟩ | refine ⟨fun _ => ?_, fun c => absurd c (by decide)⟩
        refine fin _ _ (fun Q hq => pre Q ?_)
        first | refine ⟨fun c => absurd c (by decide), fun _ => ?_⟩ | refine ⟨fun _ => ?_, fun c => absurd c (by decide)⟩
        first | refine ⟨fun c => absurd c (by decide), fun _ => ?_⟩ | refine ⟨fun _ => ?_, fun c => absurd c (by decide)⟩
        first | refine ⟨fun c => absurd c (by decide), fun _ => ?_⟩ | refine ⟨fun _ => ?_, fun c => absurd c (by decide)⟩
        exact hq
    · first | refine ⟨fun c => absurd c (by decide), fun _ => ?_⟩ | refine ⟨fun _ => ?_, fun c => absurd c (by decide)⟩
      unfold pX10_tell
      refine m_sigY hN hM ha ?_
      first | refine ⟨fun c => absurd c (by decide), fun _ => ?_⟩ | refine ⟨fun _ => ?_, fun c => absurd c (by decide)⟩
      refine inN c ?_
      first | refine ⟨fun c => absurd c (by decide), fun _ => ?_⟩ | refine ⟨fun _ => ?_, fun c => absurd c (by decide)⟩
      exact ⟨rfl, hInv⟩
  · first | refine ⟨fun c => absurd c (by decide), fun _ => ?_⟩ | refine ⟨fun _ => ?_, fun c => absurd c (by decide)⟩
    unfold pX10_tell
    refine m_sigN hN hM e1 ?_
    first | refine ⟨fun c => absurd c (by decide), fun _ => ?_⟩ | refine ⟨fun _ => ?_, fun c => absurd c (by decide)⟩
    exact ⟨rfl, hInv⟩

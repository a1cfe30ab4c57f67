theorem c_fill {Q : (Nat → Int64) → Prop} : ∀ (k i : Nat) (f : Nat → Int64), i + k = 60 → (∀ x, x < i → f x = 0) → (∀ g : Nat → Int64, (∀ x, x < 60 → g x = 0) → Q g) → pJ7_fill_d0a16_L6 60 0 Q (k + 1) f (nI i) (nI 60) := by
  intro k
  induction k with
  | zero =>
    intro i f hi h q
    exact hdE (N := 60) rfl (by omega) (q f (fun x hx => h x (by omega)))
  | succ k ih =>
    intro i f hi h q
    refine hdG (N := 60) rfl (by omega) (by omega) ?_
    rw [nI_clamp (by omega), nI_s]
    refine ⟨vp_in_nI (by omega) (by decide), ih (i + 1) _ (by omega) (fun x hx => ?_) q⟩
    by_cases c : x = i
    · subst c; exact pk_uLs
    · rw [pk_uLn c]; exact h x (by omega)
theorem m_zero {x2 x3 : Int32} {y m : Nat} (hy : y < 6) (hm : m ≤ 60) {v : Lf} (em : v 9 y = nI m) {Q : Int32 → Lf → Lg → Prop} : ∀ (k i : Nat) (g : Lg), i + k = m → (∀ x, x < i → g 10 (60 * y + x) = 0) → (∀ g' : Lg, (∀ x, x < m → g' 10 (60 * y + x) = 0) → (∀ z, ¬ (60 * y ≤ z ∧ z < 60 * y + 60) → g' 10 z = g 10 z) → Q 1 v g') → pX10_tape_L67 (nI y) x2 x3 Q (k + 1) v g (nI i) := by
  intro k
  induction k with
  | zero =>
    intro i g hi h q
    refine ⟨vp_in_nI (by omega) (by decide), ?_⟩
    rw [nI_clamp (by omega)]
    exact hdE em (by omega) (q g (fun x hx => h x (by omega)) (fun _ _ => rfl))
  | succ k ih =>
    intro i g hi h q
    refine ⟨vp_in_nI (by omega) (by decide), ?_⟩
    rw [nI_clamp (by omega)]
    refine hdG em (by omega) (by omega) ?_
    rw [ix60, nI_clamp (by omega), nI_s]
    refine ⟨vp_in_nI (by omega) (by decide), ih (i + 1) _ (by omega) (fun x hx => ?_) (fun g' h1 h2 => q g' h1 (fun z hz => ?_))⟩
    · rw [sg_at]
      by_cases c : x = i
      · subst c; rw [if_pos ⟨rfl, rfl⟩]
      · rw [if_neg (by omega)]; exact h x (by omega)
    · rw [h2 z hz, sg_at, if_neg (by omega)]

theorem sim_tape : Sim_X9_tape Inv := by
  intro v vNc vNcj vNcs vNcp vNcr vNw vNg vNn vNq vIc vIcj vIcs vIcp vIcr vIw vIg vIn vIq vT vTj vTs vTp vTr vx vt gt vM gM hInv x1 x2 x3
  obtain ⟨B, t, N, K, A, h⟩ := id hInv
  have hw := h.now
  have hN := hw.ci.hN
  have hK := hw.ci.hK
  have hM := hw.n13
  have hP := hw.n14
  have tp := h.tp
  unfold pX9_tape
  refine c_tp (fun y hy ey => ?_) (fun e1 => ?_)
  · subst ey
    first | refine ⟨fun c => absurd c (by decide), fun _ => ?_⟩ | refine ⟨fun _ => ?_, fun c => absurd c (by decide)⟩
    have vy : vp_in (nI y) 6 := vp_in_nI (by omega) (by decide)
    rw [nI_clamp (by omega)]
    have pre : ∀ Q : Int32 → Lf → Lg → Prop, ((x2 < 0 → (pX10_tape_J31 (nI y) x2 x3 Q vM gM)) ∧ (¬ x2 < 0 → ((x3 ≤ (60 : Int32) → (pX10_tape_J31 (nI y) x2 x3 Q vM gM)) ∧ (¬ x3 ≤ (60 : Int32) → (Q (-2 : Int32) vM gM))))) → (-1 ≤ x2 ∧ x2 ≤ 4) → pX10_tape vM gM (nI y) x2 x3 Q := by
      intro Q hq hx
      unfold pX10_tape
      refine m_tpY hy ?_
      first | refine ⟨fun c => absurd c (by decide), fun _ => ?_⟩ | refine ⟨fun _ => ?_, fun c => absurd c (by decide)⟩
      refine inY hx ?_
      first | refine ⟨fun c => absurd c (by decide), fun _ => ?_⟩ | refine ⟨fun _ => ?_, fun c => absurd c (by decide)⟩
      exact hq
    refine ⟨fun c1 => w_in (fun a1 a2 => ?_) (fun c => ?_), fun c1 => ⟨vy, ?_⟩⟩
    · first | refine ⟨fun c => absurd c (by decide), fun _ => ?_⟩ | refine ⟨fun _ => ?_, fun c => absurd c (by decide)⟩
      obtain ⟨k, hk, rfl⟩ := (up_iff (M := 4) (by decide) x2).mp ⟨a1, a2⟩
      have k0 : ¬ nI k < 0 := nI_pos (by omega)
      have kx : -1 ≤ nI k ∧ nI k ≤ 4 := by
        refine ⟨i_le.mpr ?_, a2⟩
        rw [nI_toInt (by omega)]
        have : (-1 : Int32).toInt = -1 := by decide
        omega
      refine ⟨fun b1 => ⟨fun b2 => ⟨vy, ?_⟩, fun b2 => ?_⟩, fun b1 => pre _ ⟨fun e => absurd e k0, fun _ => ⟨fun e => absurd e b1, fun _ => ⟨rfl, hInv⟩⟩⟩ kx⟩
      · obtain ⟨m, hm, rfl⟩ := (up_iff (M := 60) (by decide) x3).mp ⟨b2, b1⟩
        unfold pX6_hold
        refine ⟨61, c_fill 60 0 _ (by omega) (fun x hx => by omega) (fun f hf => pre _ ⟨fun e => absurd e k0, fun _ => ⟨fun _ => ?_, fun e => absurd b1 e⟩⟩ kx)⟩
        unfold pX10_tape_J31
        refine ⟨fun e => absurd e k0, fun _ => ⟨fun _ => ?_, fun e => absurd b2 e⟩⟩
        unfold pX10_tape_J42
        rw [nI_clamp (by omega)]
        refine ⟨vy, fun _ => ?_, fun e => absurd (nI_pos' (by omega)) e⟩
        unfold pX10_tape_J63
        rw [nI_clamp (by omega)]
        have em : st (st vM 8 y (nI k)) 9 y (nI m) 9 y = nI m := by rw [st_at, if_pos ⟨rfl, rfl⟩]
        refine ⟨vy, m + 1, m_zero hy hm em m 0 gM (by omega) (fun x hx => by omega) (fun g' h1 h2 => ⟨rfl, B, t, N, K, A, h.tpC (fun c e8 e9 => ?_) ⟨fun u hu => ?_, fun u hu => ?_, fun u hu z hz ez i hi => ?_⟩⟩)⟩
        · rw [st_oth _ _ _ e9, st_oth _ _ _ e8]
        · rw [up_at]
          by_cases eu : u = y
          · subst eu
            rw [if_pos rfl]
            exact .inr ⟨by simp [st_at], k, hk, by simp [st_at]⟩
          · rw [if_neg eu]
            have := tp.so u hu
            simpa [st_at, eu] using this
        · rw [up_at]
          by_cases eu : u = y
          · subst eu
            rw [if_pos rfl]
            exact ⟨by simp [st_at], m, hm, by simp [st_at]⟩
          · rw [if_neg eu]
            have := tp.le u hu
            simpa [st_at, eu] using this
        · rw [up_at]
          by_cases eu : u = y
          · subst eu
            rw [em] at ez
            have : m = z := nI_inj (by omega) (by omega) ez
            rw [if_pos rfl, h1 i (by omega)]
            simp [sb, hf i (by omega)]
          · rw [if_neg eu, h2 _ (by omega)]
            refine tp.at' u hu z hz ?_ i hi
            simpa [st_at, eu] using ez
      · refine pre _ ⟨fun e => absurd e k0, fun _ => ⟨fun _ => ?_, fun e => absurd b1 e⟩⟩ kx
        unfold pX10_tape_J31
        exact ⟨fun e => absurd e k0, fun _ => ⟨fun e => absurd e b2, fun _ => ⟨rfl, hInv⟩⟩⟩
    · first | refine ⟨fun c => absurd c (by decide), fun _ => ?_⟩ | refine ⟨fun _ => ?_, fun c => absurd c (by decide)⟩
      unfold pX10_tape
      refine m_tpY hy ?_
      first | refine ⟨fun c => absurd c (by decide), fun _ => ?_⟩ | refine ⟨fun _ => ?_, fun c => absurd c (by decide)⟩
      refine inN (fun e => ?_) ?_
      · have t1 := i_le.mp e.1
        have e1' : (-1 : Int32).toInt = -1 := by decide
        rw [e1'] at t1
        by_cases l : 0 ≤ x2
        · exact c ⟨l, e.2⟩
        · have l := i_lt.mp (n_lt.mp l)
          have e0 : (0 : Int32).toInt = 0 := by decide
          rw [e0] at l
          exact c1 (Int32.toInt_inj.mp (by rw [e1']; omega))
      · first | refine ⟨fun c => absurd c (by decide), fun _ => ?_⟩ | refine ⟨fun _ => ?_, fun c => absurd c (by decide)⟩
        exact ⟨rfl, hInv⟩
    · subst c1
      unfold pX6_holdNothing
      refine pre _ ⟨fun _ => ?_, fun e => absurd (by decide) e⟩ (by decide)
      unfold pX10_tape_J31
      refine ⟨fun _ => ?_, fun e => absurd (by decide) e⟩
      unfold pX10_tape_J42
      rw [nI_clamp (by omega)]
      refine ⟨vy, fun e => absurd e (by decide), fun _ => ?_⟩
      unfold pX10_tape_J63
      rw [nI_clamp (by omega)]
      have em : st (st vM 8 y (-1)) 9 y 0 9 y = nI 0 := by rw [st_at, if_pos ⟨rfl, rfl⟩]; rfl
      refine ⟨vy, 1, m_zero hy (m := 0) (by decide) em 0 0 gM (by omega) (fun x hx => by omega) (fun g' h1 h2 => ⟨rfl, B, t, N, K, A, h.tpC (fun c e8 e9 => ?_) ⟨fun u hu => ?_, fun u hu => ?_, fun u hu z hz ez i hi => ?_⟩⟩)⟩
      · rw [st_oth _ _ _ e9, st_oth _ _ _ e8]
      · rw [up_at]
        by_cases eu : u = y
        · subst eu
          rw [if_pos rfl]
          exact .inl ⟨by simp [st_at], by simp [st_at], by simp [st_at]⟩
        · rw [if_neg eu]
          have := tp.so u hu
          simpa [st_at, eu] using this
      · rw [up_at]
        by_cases eu : u = y
        · subst eu
          rw [if_pos rfl]
          exact ⟨by simp [st_at], 0, by decide, em⟩
        · rw [if_neg eu]
          have := tp.le u hu
          simpa [st_at, eu] using this
      · by_cases eu : u = y
        · subst eu
          rw [em] at ez
          have : 0 = z := nI_inj (by omega) (by omega) ez
          omega
        · rw [h2 _ (by omega)]
          refine tp.at' u hu z hz ?_ i hi
          simpa [st_at, eu] using ez
  · first | refine ⟨fun c => absurd c (by decide), fun _ => ?_⟩ | refine ⟨fun _ => ?_, fun c => absurd c (by decide)⟩
    unfold pX10_tape
    refine m_tpN e1 ?_
    first | refine ⟨fun c => absurd c (by decide), fun _ => ?_⟩ | refine ⟨fun _ => ?_, fun c => absurd c (by decide)⟩
    exact ⟨rfl, hInv⟩

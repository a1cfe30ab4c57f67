theorem m_lay {v : Lf} {x1 x2 : Int32} {o j n : Nat} (ho : o < 6) (hj : j + n ≤ 60) {Q : Int32 → Lg → Prop} {g0 : Lg} {car : Nat → Int64} : ∀ (k s : Nat) (g : Lg), s + k = n → (∀ x, x < n → g 11 x = car x) → (∀ z, g 10 z = if 60 * o + j ≤ z ∧ z < 60 * o + j + s then car (z - (60 * o + j)) else g0 10 z) → (∀ g' : Lg, (∀ z, g' 10 z = if 60 * o + j ≤ z ∧ z < 60 * o + j + n then car (z - (60 * o + j)) else g0 10 z) → Q (nI n) g') → pX10_shift_L139 v x1 x2 (nI o) (nI j) (nI n) Q (k + 1) g (nI s) := by
  intro k
  induction k with
  | zero =>
    intro s g hs h1 h2 q
    have e : s = n := by omega
    subst e
    exact hdE rfl rfl (q g h2)
  | succ k ih =>
    intro s g hs h1 h2 q
    refine hdG rfl (by omega) (by omega) ?_
    rw [ix60, nI_add, nI_clamp (by omega), nI_clamp (by omega), nI_s]
    refine ⟨vp_in_nI (by omega) (by decide), vp_in_nI (by omega) (by decide), ih (s + 1) _ (by omega) (fun x hx => ?_) (fun z => ?_) q⟩
    · rw [sg_at, if_neg (by omega)]; exact h1 x hx
    · rw [sg_at]
      by_cases c : z = 60 * o + j + s
      · subst c
        rw [if_pos ⟨rfl, rfl⟩, if_pos (by omega), h1 s (by omega)]
        congr 1
        omega
      · rw [if_neg (by omega), h2 z]
        by_cases c2 : 60 * o + j ≤ z ∧ z < 60 * o + j + s
        · rw [if_pos c2, if_pos (by omega)]
        · rw [if_neg c2, if_neg (by omega)]
theorem m_carry {v : Lf} {y i o j n : Nat} (hy : y < 6) (ho : o < 6) (hi : i + n ≤ 60) (hj : j + n ≤ 60) {Q : Int32 → Lg → Prop} {g0 : Lg} (q : ∀ g' : Lg, (∀ z, g' 10 z = if 60 * o + j ≤ z ∧ z < 60 * o + j + n then g0 10 (60 * y + i + (z - (60 * o + j))) else g0 10 z) → Q (nI n) g') : ∀ (k s : Nat) (g : Lg), s + k = n → (∀ x, x < s → g 11 x = g0 10 (60 * y + i + x)) → g 10 = g0 10 → pX10_shift_L102 v (nI y) (nI i) (nI o) (nI j) (nI n) Q (k + 1) g (nI s) := by
  intro k
  induction k with
  | zero =>
    intro s g hs h1 h2
    have e : s = n := by omega
    subst e
    refine hdE rfl rfl ⟨s + 1, m_lay ho hj s 0 g (by omega) (car := fun x => g0 10 (60 * y + i + x)) h1 (g0 := g0) (fun z => ?_) q⟩
    rw [if_neg (by omega), h2]
  | succ k ih =>
    intro s g hs h1 h2
    refine hdG rfl (by omega) (by omega) ?_
    rw [ix60, nI_add, nI_clamp (by omega), nI_clamp (by omega), nI_s]
    refine ⟨vp_in_nI (by omega) (by decide), vp_in_nI (by omega) (by decide), ih (s + 1) _ (by omega) (fun x hx => ?_) ?_⟩
    · rw [sg_at]
      by_cases c : x = s
      · subst c; rw [if_pos ⟨rfl, rfl⟩, h2]
      · rw [if_neg (by omega)]; exact h1 x (by omega)
    · funext z
      rw [sg_at, if_neg (by omega), h2]
theorem c_places {vt : Nat → Lf} {gt : Nat → Lg} {M : Lf} {gM : Lg} (h : TpR vt gt M gM) {k m : Nat} (hk : k < 6) (hm : m ≤ 60) (em : M 9 k = nI m) {x n : Int32} {Q : Int32 → Prop} (q1 : ∀ i z, x = nI i → n = nI z → i + z ≤ m → Q 1) (q0 : (¬ ∃ i z, x = nI i ∧ n = nI z ∧ i + z ≤ m) → Q 0) : pX6_hasPlaces (vt k) x n Q := by
  unfold pX6_hasPlaces
  rw [(h.le k hk).1, em]
  refine w_in (fun c1 c2 => ?_) (fun c => ?_)
  · first | refine ⟨fun c => absurd c (by decide), fun _ => ?_⟩ | refine ⟨fun _ => ?_, fun c => absurd c (by decide)⟩
    obtain ⟨z, hz, rfl⟩ := (up_iff (M := m) (by omega) n).mp ⟨c1, c2⟩
    rw [nI_sub hz]
    refine w_in (fun d1 d2 => ?_) (fun d => ?_)
    · first | refine ⟨fun c => absurd c (by decide), fun _ => ?_⟩ | refine ⟨fun _ => ?_, fun c => absurd c (by decide)⟩
      obtain ⟨i, hi, rfl⟩ := (up_iff (M := m - z) (by omega) x).mp ⟨d1, d2⟩
      exact q1 i z rfl rfl (by omega)
    · first | refine ⟨fun c => absurd c (by decide), fun _ => ?_⟩ | refine ⟨fun _ => ?_, fun c => absurd c (by decide)⟩
      refine q0 (fun ⟨i, z2, e1, e2, l⟩ => d ?_)
      have hz2 : z2 < 2 ^ 31 := by omega
      have e3 : z = z2 := nI_inj (by omega) hz2 e2
      exact (up_iff (M := m - z) (by omega) x).mpr ⟨i, by omega, e1⟩
  · first | refine ⟨fun c => absurd c (by decide), fun _ => ?_⟩ | refine ⟨fun _ => ?_, fun c => absurd c (by decide)⟩
    exact q0 (fun ⟨i, z, e1, e2, l⟩ => c ((up_iff (M := m) (by omega) n).mpr ⟨z, by omega, e2⟩))
theorem fits_iff {m : Nat} (hm : m ≤ 60) (x n : Int32) : (¬ n < 0 ∧ ¬ x < 0 ∧ ¬ nI m - x < n) ↔ ∃ i z, x = nI i ∧ n = nI z ∧ i + z ≤ m := by
  constructor
  · rintro ⟨h1, h2, h3⟩
    obtain ⟨z, hz, rfl⟩ := nI_of h1
    obtain ⟨i, hi, rfl⟩ := nI_of h2
    refine ⟨i, z, rfl, rfl, ?_⟩
    have h3 := i_le.mp (n_le.mp h3)
    rw [nI_toInt hz, Int32.toInt_sub, nI_toInt (by omega), nI_toInt hi] at h3
    have : ((m : Int) - i).bmod (2 ^ 32) = (m : Int) - i := by
      apply Int.bmod_eq_of_le <;> omega
    rw [this] at h3
    omega
  · rintro ⟨i, z, rfl, rfl, l⟩
    refine ⟨nI_pos (by omega), nI_pos (by omega), ?_⟩
    rw [nI_sub (by omega)]
    exact fun c => by have := (nlt (by omega) (by omega)).mp c; omega

theorem sim_shift : Sim_X9_shift Inv := by
  intro v vNc vNcj vNcs vNcp vNcr vNw vNg vNn vNq vIc vIcj vIcs vIcp vIcr vIw vIg vIn vIq vT vTj vTs vTp vTr vx vt gt vM gM hInv x1 x2 x3 x4 x5
  obtain ⟨B, t, N, K, A, h⟩ := id hInv
  have hw := h.now
  have hN := hw.ci.hN
  have hK := hw.ci.hK
  have hM := hw.n13
  have hP := hw.n14
  have tp := h.tp
  unfold pX9_shift
  refine c_tp (fun y hy ey => ?_) (fun e1 => ?_)
  · subst ey
    first | refine ⟨fun c => absurd c (by decide), fun _ => ?_⟩ | refine ⟨fun _ => ?_, fun c => absurd c (by decide)⟩
    refine c_tp (fun o ho eo => ?_) (fun e1 => ?_)
    · subst eo
      first | refine ⟨fun c => absurd c (by decide), fun _ => ?_⟩ | refine ⟨fun _ => ?_, fun c => absurd c (by decide)⟩
      have vy : vp_in (nI y) 6 := vp_in_nI (by omega) (by decide)
      have vo : vp_in (nI o) 6 := vp_in_nI (by omega) (by decide)
      rw [nI_clamp (by omega), nI_clamp (by omega)]
      obtain ⟨s1, s2⟩ := tp_neg tp hy
      obtain ⟨o1, o2⟩ := tp_neg tp ho
      obtain ⟨_, m, hm, em⟩ := tp.le y hy
      obtain ⟨_, p, hp, ep⟩ := tp.le o ho
      have head : ∀ Q : Int32 → Lg → Prop, (((vM 8 y) < 0 → (Q (-11 : Int32) gM)) ∧ (¬ (vM 8 y) < 0 → (vp_in (nI o) 6 ∧ ((0 ≤ (vM 8 o) → (vp_in (nI y) 6 ∧ (vp_in (nI o) 6 ∧ (((vM 8 y) = (vM 8 o) → ((x5 < 0 → (Q (-13 : Int32) gM)) ∧ (¬ x5 < 0 → ((x2 < 0 → (Q (-13 : Int32) gM)) ∧ (¬ x2 < 0 → ((x4 < 0 → (Q (-13 : Int32) gM)) ∧ (¬ x4 < 0 → (vp_in (nI y) 6 ∧ (((nI m - x2) < x5 → (Q (-13 : Int32) gM)) ∧ (¬ (nI m - x2) < x5 → (vp_in (nI o) 6 ∧ ((x5 ≤ (nI p - x4) → (∃ n102, pX10_shift_L102 vM (nI y) x2 (nI o) x4 x5 Q n102 gM (0 : Int32))) ∧ (¬ x5 ≤ (nI p - x4) → (Q (-13 : Int32) gM)))))))))))))) ∧ (¬ (vM 8 y) = (vM 8 o) → (Q (-12 : Int32) gM)))))) ∧ (¬ 0 ≤ (vM 8 o) → (Q (-11 : Int32) gM)))))) → pX10_shift vM gM (nI y) x2 (nI o) x4 x5 Q := by
        intro Q hq
        unfold pX10_shift
        refine m_tpY hy ?_
        first | refine ⟨fun c => absurd c (by decide), fun _ => ?_⟩ | refine ⟨fun _ => ?_, fun c => absurd c (by decide)⟩
        refine m_tpY ho ?_
        first | refine ⟨fun c => absurd c (by decide), fun _ => ?_⟩ | refine ⟨fun _ => ?_, fun c => absurd c (by decide)⟩
        rw [nI_clamp (by omega), nI_clamp (by omega), em, ep]
        exact ⟨vy, hq⟩
      refine ⟨vy, vo, fun c1 => head _ ⟨fun _ => ⟨rfl, hInv⟩, fun e => absurd (s1.mp c1) e⟩, fun c1 => ?_⟩
      have ny : ¬ vM 8 y < 0 := fun e => c1 (s1.mpr e)
      refine ⟨fun c2 => ?_, fun c2 => head _ ⟨fun e => absurd e ny, fun _ => ⟨vo, fun e => absurd (o1.mp c2) (n_le.mpr e), fun _ => ⟨rfl, hInv⟩⟩⟩⟩
      have no : ¬ vM 8 o < 0 := fun e => c2 (o1.mpr e)
      rw [s2 ny, o2 no]
      have no' : 0 ≤ vM 8 o := n_le.mp no
      refine ⟨fun c3 => ?_, fun c3 => head _ ⟨fun e => absurd e ny, fun _ => ⟨vo, fun _ => ⟨vy, vo, fun e => absurd e c3, fun _ => ⟨rfl, hInv⟩⟩, fun e => absurd no' e⟩⟩⟩
      have body : ∀ Q : Int32 → Lg → Prop, ((x5 < 0 → (Q (-13 : Int32) gM)) ∧ (¬ x5 < 0 → ((x2 < 0 → (Q (-13 : Int32) gM)) ∧ (¬ x2 < 0 → ((x4 < 0 → (Q (-13 : Int32) gM)) ∧ (¬ x4 < 0 → (vp_in (nI y) 6 ∧ (((nI m - x2) < x5 → (Q (-13 : Int32) gM)) ∧ (¬ (nI m - x2) < x5 → (vp_in (nI o) 6 ∧ ((x5 ≤ (nI p - x4) → (∃ n102, pX10_shift_L102 vM (nI y) x2 (nI o) x4 x5 Q n102 gM (0 : Int32))) ∧ (¬ x5 ≤ (nI p - x4) → (Q (-13 : Int32) gM))))))))))))) → pX10_shift vM gM (nI y) x2 (nI o) x4 x5 Q := fun Q hq => head Q ⟨fun e => absurd e ny, fun _ => ⟨vo, fun _ => ⟨vy, vo, fun _ => hq, fun e => absurd c3 e⟩, fun e => absurd no' e⟩⟩
      have f1 := fits_iff hm x2 x5
      have f2 := fits_iff hp x4 x5
      have bad : ¬ ((∃ i z, x2 = nI i ∧ x5 = nI z ∧ i + z ≤ m) ∧ (∃ i z, x4 = nI i ∧ x5 = nI z ∧ i + z ≤ p)) → pX10_shift vM gM (nI y) x2 (nI o) x4 x5 (fun r' gM' => (-13 : Int32) = r' ∧ Inv v vNc vNcj vNcs vNcp vNcr vNw vNg vNn vNq vIc vIcj vIcs vIcp vIcr vIw vIg vIn vIq vT vTj vTs vTp vTr vx vt gt vM gM') := by
        intro hb
        refine body _ ⟨fun _ => ⟨rfl, hInv⟩, fun d1 => ⟨fun _ => ⟨rfl, hInv⟩, fun d2 => ⟨fun _ => ⟨rfl, hInv⟩, fun d3 => ⟨vy, fun _ => ⟨rfl, hInv⟩, fun d4 => ⟨vo, fun d5 => absurd ⟨f1.mp ⟨d1, d2, d4⟩, f2.mp ⟨d1, d3, n_le.mpr d5⟩⟩ hb, fun _ => ⟨rfl, hInv⟩⟩⟩⟩⟩⟩
      refine c_places tp hy hm em (fun i z e2 e5 l => ?_) (fun e => ?_)
      · first | refine ⟨fun c => absurd c (by decide), fun _ => ?_⟩ | refine ⟨fun _ => ?_, fun c => absurd c (by decide)⟩
        refine c_places tp ho hp ep (fun j z2 e4 e52 l2 => ?_) (fun e => ?_)
        · first | refine ⟨fun c => absurd c (by decide), fun _ => ?_⟩ | refine ⟨fun _ => ?_, fun c => absurd c (by decide)⟩
          have ez : z = z2 := nI_inj (by omega) (by omega) (e5.symm.trans e52)
          subst ez
          obtain ⟨g1, g2, g3⟩ := f1.mpr ⟨i, z, e2, e5, l⟩
          obtain ⟨_, g4, g5⟩ := f2.mpr ⟨j, z, e4, e5, l2⟩
          subst e2 e4 e5
          rw [nI_clamp (by omega), nI_clamp (by omega), nI_clamp (by omega)]
          refine ⟨⟨g2, g4, g1, by omega, by omega⟩, body _ ⟨fun e => absurd e g1, fun _ => ⟨fun e => absurd e g2, fun _ => ⟨fun e => absurd e g4, fun _ => ⟨vy, fun e => absurd e g3, fun _ => ⟨vo, fun _ => ⟨z + 1, m_carry hy ho (by omega) (by omega) (g0 := gM) (fun g' hg => ?_) z 0 gM (by omega) (fun x hx => by omega) rfl⟩, fun e => absurd (n_le.mp g5) e⟩⟩⟩⟩⟩⟩
          refine ⟨rfl, B, t, N, K, A, h.tpC (fun c _ _ => rfl) ⟨tp.so, tp.le, fun u hu w hw2 ew x hx => ?_⟩⟩
          rw [up_at, hg]
          by_cases eu : u = o
          · subst eu
            have ew2 : p = w := nI_inj (by omega) (by omega) (ep.symm.trans ew)
            subst ew2
            rw [if_pos rfl]
            simp only [sb, if_true]
            by_cases cx : j ≤ x ∧ x < j + z
            · rw [pk_cpy_in cx.1 cx.2, if_pos (by omega), tp.at' y hy m hm em (i + (x - j)) (by omega)]
              congr 1
              omega
            · rw [pk_cpy_out (by omega), if_neg (by omega)]
              exact tp.at' u hu p hp ep x hx
          · rw [if_neg eu, if_neg (by omega)]
            exact tp.at' u hu w hw2 ew x hx
        · first | refine ⟨fun c => absurd c (by decide), fun _ => ?_⟩ | refine ⟨fun _ => ?_, fun c => absurd c (by decide)⟩
          exact bad (fun q => e q.2)
      · first | refine ⟨fun c => absurd c (by decide), fun _ => ?_⟩ | refine ⟨fun _ => ?_, fun c => absurd c (by decide)⟩
        exact bad (fun q => e q.1)
    · first | refine ⟨fun c => absurd c (by decide), fun _ => ?_⟩ | refine ⟨fun _ => ?_, fun c => absurd c (by decide)⟩
      unfold pX10_shift
      refine m_tpY hy ?_
      first | refine ⟨fun c => absurd c (by decide), fun _ => ?_⟩ | refine ⟨fun _ => ?_, fun c => absurd c (by decide)⟩
      refine m_tpN e1 ?_
      first | refine ⟨fun c => absurd c (by decide), fun _ => ?_⟩ | refine ⟨fun _ => ?_, fun c => absurd c (by decide)⟩
      exact ⟨rfl, hInv⟩
  · first | refine ⟨fun c => absurd c (by decide), fun _ => ?_⟩ | refine ⟨fun _ => ?_, fun c => absurd c (by decide)⟩
    unfold pX10_shift
    refine m_tpN e1 ?_
    first | refine ⟨fun c => absurd c (by decide), fun _ => ?_⟩ | refine ⟨fun _ => ?_, fun c => absurd c (by decide)⟩
    exact ⟨rfl, hInv⟩

theorem m_tp {x : Int32} {Q : Int32 → Prop} (q1 : ∀ k, k < 6 → x = nI k → Q 1) (q0 : (¬ ∃ k, k < 6 ∧ x = nI k) → Q 0) : pX10_isTape x Q := by
  refine (w_isTape x Q).mpr ?_
  have e := up_iff (M := 5) (by decide) x
  by_cases c : 0 ≤ x ∧ x ≤ 5
  · rw [if_pos c]
    obtain ⟨k, hk, ek⟩ := e.mp c
    exact q1 k (by omega) ek
  · rw [if_neg c]
    exact q0 (fun ⟨k, hk, ek⟩ => c (e.mpr ⟨k, by omega, ek⟩))
theorem m_tpY {k : Nat} (hk : k < 6) {Q : Int32 → Prop} (q : Q 1) : pX10_isTape (nI k) Q := m_tp (fun _ _ _ => q) (fun e => absurd ⟨k, hk, rfl⟩ e)
theorem m_tpN {x : Int32} (h : ¬ ∃ k, k < 6 ∧ x = nI k) {Q : Int32 → Prop} (q : Q 0) : pX10_isTape x Q := m_tp (fun k a b => absurd ⟨k, a, b⟩ h) (fun _ => q)
theorem c_tp {x : Int32} {Q : Int32 → Prop} (q1 : ∀ k, k < 6 → x = nI k → Q 1) (q0 : (¬ ∃ k, k < 6 ∧ x = nI k) → Q 0) : pX9_within x 0 5 Q := by
  have e := up_iff (M := 5) (by decide) x
  refine w_in (fun c1 c2 => ?_) (fun c => q0 (fun ⟨k, hk, ek⟩ => c (e.mpr ⟨k, by omega, ek⟩)))
  obtain ⟨k, hk, ek⟩ := e.mp ⟨c1, c2⟩
  exact q1 k (by omega) ek
theorem tp_neg {vt : Nat → Lf} {gt : Nat → Lg} {M : Lf} {gM : Lg} (h : TpR vt gt M gM) {k : Nat} (hk : k < 6) : (vt k 0 0 = -5 ↔ M 8 k < 0) ∧ (¬ M 8 k < 0 → vt k 0 0 = M 8 k) := by
  rcases h.so k hk with ⟨a, b, _⟩ | ⟨a, q, hq, e⟩
  · rw [a, b]; exact ⟨⟨fun _ => by decide, fun _ => rfl⟩, fun c => absurd (by decide) c⟩
  · rw [a, e]; exact ⟨⟨fun c => absurd c (m5 (by omega)), fun c => absurd c (nI_pos (by omega))⟩, fun _ => rfl⟩
theorem ix60 (a b : Nat) : (60 : Int32) * nI a + nI b = nI (60 * a + b) := by
  show nI 60 * nI a + nI b = _
  rw [pk_mul, nI_add]
theorem c_place {vt : Nat → Lf} {gt : Nat → Lg} {M : Lf} {gM : Lg} (h : TpR vt gt M gM) {k : Nat} (hk : k < 6) {x : Int32} {Q : Int32 → Prop} (q1 : ∀ m i, m ≤ 60 → M 9 k = nI m → i < m → x = nI i → Q 1) (q0 : ¬ (0 ≤ x ∧ x ≤ M 9 k - 1) → Q 0) : pX6_hasPlace (vt k) x Q := by
  unfold pX6_hasPlace
  obtain ⟨e, m, hm, em⟩ := h.le k hk
  rw [e]
  refine w_in (fun c1 c2 => ⟨rfl, ?_⟩) (fun c => ⟨rfl, q0 c⟩)
  rw [em] at c2
  obtain ⟨i, hi, ei⟩ := (sg_iff (by omega) x).mp ⟨c1, c2⟩
  exact q1 m i hm em hi ei

theorem sim_peek : Sim_X9_peek Inv := by
  intro v vNc vNcj vNcs vNcp vNcr vNw vNg vNn vNq vIc vIcj vIcs vIcp vIcr vIw vIg vIn vIq vT vTj vTs vTp vTr vx vt gt vM gM hInv x1 x2
  obtain ⟨B, t, N, K, A, h⟩ := id hInv
  have hw := h.now
  have hN := hw.ci.hN
  have hK := hw.ci.hK
  have hM := hw.n13
  have hP := hw.n14
  have tp := h.tp
  unfold pX9_peek
  refine c_tp (fun k hk ek => ?_) (fun e1 => ?_)
  · subst ek
    first | refine ⟨fun c => absurd c (by decide), fun _ => ?_⟩ | refine ⟨fun _ => ?_, fun c => absurd c (by decide)⟩
    rw [nI_clamp (by omega)]
    have tn := tp_neg tp hk
    refine ⟨vp_in_nI (by omega) (by decide), c_place tp hk (fun m i hm em hi ei => ?_) (fun e2 => ?_)⟩
    · subst ei
      first | refine ⟨fun c => absurd c (by decide), fun _ => ?_⟩ | refine ⟨fun _ => ?_, fun c => absurd c (by decide)⟩
      rw [nI_clamp (by omega)]
      refine ⟨vp_in_nI (by omega) (by decide), vp_in_nI (by omega) (by decide), ?_⟩
      unfold pX10_peek
      refine m_tpY hk ?_
      first | refine ⟨fun c => absurd c (by decide), fun _ => ?_⟩ | refine ⟨fun _ => ?_, fun c => absurd c (by decide)⟩
      rw [nI_clamp (by omega)]
      have nn : ¬ vM 8 k < 0 := by
        rcases tp.so k hk with ⟨_, _, c⟩ | ⟨_, q, hq, e⟩
        · have := nI_inj (b := 0) (by omega) (by decide) (em.symm.trans c)
          omega
        · rw [e]; exact nI_pos (by omega)
      refine ⟨vp_in_nI (by omega) (by decide), fun c => absurd c nn, fun _ => ⟨vp_in_nI (by omega) (by decide), inY ?_ ?_⟩⟩
      · rw [em]; exact (sg_iff (by omega) _).mpr ⟨i, hi, rfl⟩
      · first | refine ⟨fun c => absurd c (by decide), fun _ => ?_⟩ | refine ⟨fun _ => ?_, fun c => absurd c (by decide)⟩
        rw [ix60, nI_clamp (by omega)]
        exact ⟨vp_in_nI (by omega) (by decide), tp.at' k hk m hm em i hi, hInv⟩
    · first | refine ⟨fun c => absurd c (by decide), fun _ => ?_⟩ | refine ⟨fun _ => ?_, fun c => absurd c (by decide)⟩
      unfold pX10_peek
      refine m_tpY hk ?_
      first | refine ⟨fun c => absurd c (by decide), fun _ => ?_⟩ | refine ⟨fun _ => ?_, fun c => absurd c (by decide)⟩
      rw [nI_clamp (by omega)]
      refine ⟨vp_in_nI (by omega) (by decide), fun _ => ⟨rfl, hInv⟩, fun _ => ⟨vp_in_nI (by omega) (by decide), inN e2 ?_⟩⟩
      first | refine ⟨fun c => absurd c (by decide), fun _ => ?_⟩ | refine ⟨fun _ => ?_, fun c => absurd c (by decide)⟩
      exact ⟨rfl, hInv⟩
  · first | refine ⟨fun c => absurd c (by decide), fun _ => ?_⟩ | refine ⟨fun _ => ?_, fun c => absurd c (by decide)⟩
    unfold pX10_peek
    refine m_tpN e1 ?_
    first | refine ⟨fun c => absurd c (by decide), fun _ => ?_⟩ | refine ⟨fun _ => ?_, fun c => absurd c (by decide)⟩
    exact ⟨rfl, hInv⟩
theorem St.tpC {B t N K : Nat} {A : AS} {v vNc vNcj vNcs vNcp vNcr vNw vNg vNn vNq vIc vIcj vIcs vIcp vIcr vIw vIg vIn vIq vT vTj vTs vTp vTr vx : Lf} {vt : Nat → Lf} {gt : Nat → Lg} {vM : Lf} {gM : Lg} {vt' : Nat → Lf} {gt' : Nat → Lg} {M' : Lf} {gM' : Lg} (h : St B t N K A v vNc vNcj vNcs vNcp vNcr vNw vNg vNn vNq vIc vIcj vIcs vIcp vIcr vIw vIg vIn vIq vT vTj vTs vTp vTr vx vt gt vM gM) (o : ∀ c, c ≠ 8 → c ≠ 9 → M' c = vM c) (tp : TpR vt' gt' M' gM') : St B t N K A v vNc vNcj vNcs vNcp vNcr vNw vNg vNn vNq vIc vIcj vIcs vIcp vIcr vIw vIg vIn vIq vT vTj vTs vTp vTr vx vt' gt' M' gM' := by
  refine ⟨?_, ?_, h.hB, h.cnt, ?_, ?_, ?_, h.most, ?_, tp⟩
  · rw [o 1 (by decide) (by decide)]; exact h.now
  · rw [o 4 (by decide) (by decide), o 5 (by decide) (by decide)]; exact h.tab
  · rw [o 0 (by decide) (by decide)]; exact h.cntM
  · rw [o 0 (by decide) (by decide)]; exact h.kept
  · rw [o 0 (by decide) (by decide), o 2 (by decide) (by decide)]; exact h.img
  · exact ⟨by rw [o 0 (by decide) (by decide)]; exact h.txt.n, by rw [o 0 (by decide) (by decide), o 6 (by decide) (by decide)]; exact h.txt.ok⟩
theorem sg_at (g : Lg) (c i : Nat) (x : Int64) (d k : Nat) : sg g c i x d k = if d = c ∧ k = i then x else g d k := by
  by_cases h : d = c
  · subst h
    by_cases h2 : k = i
    · subst h2; simp [sg, vp_updL]
    · simp [sg, vp_updL, h2]
  · simp [sg, h]
theorem up_at {α : Type} (f : Nat → α) (i : Nat) (x : α) (k : Nat) : va_up f i x k = if k = i then x else f k := by
  by_cases h : k = i
  · subst h; simp [va_up]
  · simp [va_up, h]
theorem sim_item : Sim_X9_item Inv := by
  intro v vNc vNcj vNcs vNcp vNcr vNw vNg vNn vNq vIc vIcj vIcs vIcp vIcr vIw vIg vIn vIq vT vTj vTs vTp vTr vx vt gt vM gM hInv x1 x2 x3
  obtain ⟨B, t, N, K, A, h⟩ := id hInv
  have hw := h.now
  have hN := hw.ci.hN
  have hK := hw.ci.hK
  have hM := hw.n13
  have hP := hw.n14
  have tp := h.tp
  unfold pX9_item
  refine c_tp (fun k hk ek => ?_) (fun e1 => ?_)
  · subst ek
    first | refine ⟨fun c => absurd c (by decide), fun _ => ?_⟩ | refine ⟨fun _ => ?_, fun c => absurd c (by decide)⟩
    rw [nI_clamp (by omega)]
    obtain ⟨t1, t2⟩ := tp_neg tp hk
    refine ⟨vp_in_nI (by omega) (by decide), fun c1 => ?_, fun c1 => ?_⟩
    · have nn : ¬ vM 8 k < 0 := fun e => c1 (t1.mpr e)
      refine c_place tp hk (fun m i hm em hi ei => ?_) (fun e2 => ?_)
      · subst ei
        first | refine ⟨fun c => absurd c (by decide), fun _ => ?_⟩ | refine ⟨fun _ => ?_, fun c => absurd c (by decide)⟩
        rw [nI_clamp (by omega)]
        have mo : ∀ (y : Int64), (∀ Q : Int32 → Lg → Prop, pX10_item_J124 vM (nI k) (nI i) x3 Q gM ((60 : Int32) * nI k + nI i) y → pX10_item vM gM (nI k) (nI i) x3 Q) → vp_in (nI i) 60 ∧ pX10_item vM gM (nI k) (nI i) x3 (fun r' gM' => (1 : Int32) = r' ∧ Inv v vNc vNcj vNcs vNcp vNcr vNw vNg vNn vNq vIc vIcj vIcs vIcp vIcr vIw vIg vIn vIq vT vTj vTs vTp vTr vx vt (va_up gt k (sg (gt k) 1 i y)) vM gM') := by
          intro y hq
          refine ⟨vp_in_nI (by omega) (by decide), hq _ ?_⟩
          unfold pX10_item_J124
          rw [ix60, nI_clamp (by omega)]
          refine ⟨vp_in_nI (by omega) (by decide), rfl, B, t, N, K, A, h.tpC (fun c _ _ => rfl) ⟨tp.so, tp.le, fun u hu z hz ez v hv => ?_⟩⟩
          rw [up_at, sg_at]
          by_cases eu : u = k
          · subst eu
            rw [if_pos rfl, sg_at]
            by_cases ev : v = i
            · subst ev
              rw [if_pos ⟨rfl, rfl⟩, if_pos ⟨rfl, rfl⟩]
            · rw [if_neg (by omega), if_neg (by omega)]
              exact tp.at' u hu z hz ez v hv
          · rw [if_neg eu, if_neg (by omega)]
            exact tp.at' u hu z hz ez v hv
        have pre : ∀ Q : Int32 → Lg → Prop, (vp_in (nI k) 6 ∧ ((¬ (vM 8 k) = 0 → (vp_in (nI k) 6 ∧ ((¬ (vM 8 k) = (1 : Int32) → (vp_in (nI k) 6 ∧ ((¬ (vM 8 k) = (2 : Int32) → (vp_in (nI k) 6 ∧ ((¬ (vM 8 k) = (3 : Int32) → (((lg_cmp x3 (0 : Int64)) = 0 → (pX10_item_J124 vM (nI k) (nI i) x3 Q gM (((60 : Int32) * (nI k)) + (nI i)) (0 : Int64))) ∧ (¬ (lg_cmp x3 (0 : Int64)) = 0 → (pX10_item_J124 vM (nI k) (nI i) x3 Q gM (((60 : Int32) * (nI k)) + (nI i)) (1 : Int64))))) ∧ ((vM 8 k) = (3 : Int32) → (pX10_item_J124 vM (nI k) (nI i) x3 Q gM (((60 : Int32) * (nI k)) + (nI i)) x3))))) ∧ ((vM 8 k) = (2 : Int32) → (pX10_item_J124 vM (nI k) (nI i) x3 Q gM (((60 : Int32) * (nI k)) + (nI i)) ((((x3).toInt32)).toInt64)))))) ∧ ((vM 8 k) = (1 : Int32) → (pX10_item_J124 vM (nI k) (nI i) x3 Q gM (((60 : Int32) * (nI k)) + (nI i)) ((((((x3).toInt32)).toInt16.toInt32)).toInt64)))))) ∧ ((vM 8 k) = 0 → (pX10_item_J124 vM (nI k) (nI i) x3 Q gM (((60 : Int32) * (nI k)) + (nI i)) ((((((x3).toInt32)).toInt8.toInt32)).toInt64))))) → pX10_item vM gM (nI k) (nI i) x3 Q := by
          intro Q hq
          unfold pX10_item
          refine m_tpY hk ?_
          first | refine ⟨fun c => absurd c (by decide), fun _ => ?_⟩ | refine ⟨fun _ => ?_, fun c => absurd c (by decide)⟩
          rw [nI_clamp (by omega)]
          refine ⟨vp_in_nI (by omega) (by decide), fun _ => ⟨vp_in_nI (by omega) (by decide), inY ?_ ?_⟩, fun c => absurd (n_le.mp nn) c⟩
          · rw [em]; exact (sg_iff (by omega) _).mpr ⟨i, hi, rfl⟩
          · first | refine ⟨fun c => absurd c (by decide), fun _ => ?_⟩ | refine ⟨fun _ => ?_, fun c => absurd c (by decide)⟩
            exact hq
        have vk : vp_in (nI k) 6 := vp_in_nI (by omega) (by decide)
        unfold pX6_narrowed
        rw [t2 nn]
        refine ⟨fun d0 => mo _ (fun Q hq => pre Q ⟨vk, fun c => absurd d0 c, fun _ => hq⟩), fun d0 => ⟨fun d1 => mo _ (fun Q hq => pre Q ⟨vk, fun _ => ⟨vk, fun c => absurd d1 c, fun _ => hq⟩, fun c => absurd c d0⟩), fun d1 => ⟨fun d2 => mo _ (fun Q hq => pre Q ⟨vk, fun _ => ⟨vk, fun _ => ⟨vk, fun c => absurd d2 c, fun _ => hq⟩, fun c => absurd c d1⟩, fun c => absurd c d0⟩), fun d2 => ⟨fun d3 => mo _ (fun Q hq => pre Q ⟨vk, fun _ => ⟨vk, fun _ => ⟨vk, fun _ => ⟨vk, fun c => absurd d3 c, fun _ => hq⟩, fun c => absurd c d2⟩, fun c => absurd c d1⟩, fun c => absurd c d0⟩), fun d3 => ⟨fun d4 => mo _ (fun Q hq => pre Q ⟨vk, fun _ => ⟨vk, fun _ => ⟨vk, fun _ => ⟨vk, fun _ => ⟨fun _ => hq, fun c => absurd d4 c⟩, fun c => absurd c d3⟩, fun c => absurd c d2⟩, fun c => absurd c d1⟩, fun c => absurd c d0⟩), fun d4 => mo _ (fun Q hq => pre Q ⟨vk, fun _ => ⟨vk, fun _ => ⟨vk, fun _ => ⟨vk, fun _ => ⟨fun c => absurd c d4, fun _ => hq⟩, fun c => absurd c d3⟩, fun c => absurd c d2⟩, fun c => absurd c d1⟩, fun c => absurd c d0⟩)⟩⟩⟩⟩⟩
      · first | refine ⟨fun c => absurd c (by decide), fun _ => ?_⟩ | refine ⟨fun _ => ?_, fun c => absurd c (by decide)⟩
        unfold pX10_item
        refine m_tpY hk ?_
        first | refine ⟨fun c => absurd c (by decide), fun _ => ?_⟩ | refine ⟨fun _ => ?_, fun c => absurd c (by decide)⟩
        rw [nI_clamp (by omega)]
        refine ⟨vp_in_nI (by omega) (by decide), fun _ => ⟨vp_in_nI (by omega) (by decide), inN e2 ?_⟩, fun c => absurd (n_le.mp nn) c⟩
        first | refine ⟨fun c => absurd c (by decide), fun _ => ?_⟩ | refine ⟨fun _ => ?_, fun c => absurd c (by decide)⟩
        exact ⟨rfl, hInv⟩
    · have nn : vM 8 k < 0 := t1.mp c1
      unfold pX10_item
      refine m_tpY hk ?_
      first | refine ⟨fun c => absurd c (by decide), fun _ => ?_⟩ | refine ⟨fun _ => ?_, fun c => absurd c (by decide)⟩
      rw [nI_clamp (by omega)]
      exact ⟨vp_in_nI (by omega) (by decide), fun c => absurd nn (n_le.mpr c), fun _ => ⟨rfl, hInv⟩⟩
  · first | refine ⟨fun c => absurd c (by decide), fun _ => ?_⟩ | refine ⟨fun _ => ?_, fun c => absurd c (by decide)⟩
    unfold pX10_item
    refine m_tpN e1 ?_
    first | refine ⟨fun c => absurd c (by decide), fun _ => ?_⟩ | refine ⟨fun _ => ?_, fun c => absurd c (by decide)⟩
    exact ⟨rfl, hInv⟩

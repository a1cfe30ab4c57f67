def jdA (A : AS) (f : Nat → Int64) (m z : Nat) : Nat → Nat → Int32
  | 0, _ => -5
  | k + 1, i => if z + i < m then (if lg_cmp (f (z + i)) (lightA A i).toInt64 = 0 then jdA A f m z k (i + 1) else nI i) else 100 + nI i
theorem c_judge {t N K : Nat} {c j s p r : Lf} {A : AS} {vt : Nat → Lf} {gt : Nat → Lg} {M : Lf} {gM : Lg} (ht : t < 2 ^ 30) (hI : CoI t N K A) (co : CoR N K c j s p r A) (tp : TpR vt gt M gM) {y m z : Nat} (hy : y < 6) (hm : m ≤ 60) (em : M 9 y = nI m) (hz : z < m) {Q : Int32 → Prop} : ∀ (k i : Nat), i + k = N → Q (jdA A (fun x => gM 10 (60 * y + x)) m z k i) → pX9_judge_L40 c j s vt gt (nI y) (nI z) Q (k + 1) (nI i) := by
  have hN := hI.hN
  intro k
  induction k with
  | zero =>
    intro i hi q
    exact hdE co.jr.n (by omega) q
  | succ k ih =>
    intro i hi q
    refine hdG co.jr.n (by omega) (by omega) ?_
    unfold jdA at q
    rw [nI_add, nI_clamp (by omega), nI_clamp (by omega)]
    refine c_place tp hy (fun m2 i2 hm2 em2 hi2 ei2 => ?_) (fun e => ?_)
    · have e1 : m2 = m := nI_inj (by omega) (by omega) (em2.symm.trans em)
      have e2 : z + i = i2 := nI_inj (by omega) (by omega) ei2
      rw [if_pos (by omega)] at q
      first | refine ⟨fun c => absurd c (by decide), fun _ => ?_⟩ | refine ⟨fun _ => ?_, fun c => absurd c (by decide)⟩
      refine ⟨vp_in_nI (by omega) (by decide), c_light ht hI co (by omega) ?_⟩
      rw [tp.at' y hy m hm em (z + i) (by omega)]
      refine ⟨fun c => ?_, fun c => ?_⟩
      · rw [if_pos c] at q
        rw [nI_s]
        exact ih (i + 1) (by omega) q
      · rw [if_neg c] at q
        exact q
    · rw [if_neg (fun l => e (by rw [em]; exact (sg_iff (by omega) _).mpr ⟨z + i, l, rfl⟩))] at q
      first | refine ⟨fun c => absurd c (by decide), fun _ => ?_⟩ | refine ⟨fun _ => ?_, fun c => absurd c (by decide)⟩
      exact q
theorem m_judge {t N K : Nat} {v : Lf} {A : AS} {gM : Lg} (hI : CoI t N K A) (h : Ab (v 1) A) {y m z : Nat} (hy : y < 6) (hm : m ≤ 60) (em : v 9 y = nI m) (hz : z < m) (hs : ¬ v 8 y < 0) {Q : Int32 → Prop} : ∀ (k i : Nat), i + k = N → Q (jdA A (fun x => gM 10 (60 * y + x)) m z k i) → pX10_judge_L23 v gM (nI y) (nI z) Q (k + 1) (nI i) := by
  have hN := hI.hN
  have hM : v 1 13 = nI N := (h.gl (k := 13) (by decide)).trans hI.m
  intro k
  induction k with
  | zero =>
    intro i hi q
    exact hdE hM (by omega) q
  | succ k ih =>
    intro i hi q
    refine hdG hM (by omega) (by omega) ?_
    unfold jdA at q
    rw [nI_clamp (by omega), em]
    have cnd : (0 ≤ nI z ∧ nI z ≤ nI m - 1 - nI i) ↔ z + i < m := by
      have e1 : nI m - 1 = nI (m - 1) := by rw [show nI m - 1 = nI m - nI 1 from rfl, nI_sub (by omega)]
      rw [e1, i_le, i_le, pk_sub_toInt (by omega) (by omega), nI_toInt (by omega)]
      have e0 : (0 : Int32).toInt = 0 := by decide
      rw [e0]
      omega
    refine ⟨vp_in_nI (by omega) (by decide), fun c => absurd c hs, fun _ => ⟨vp_in_nI (by omega) (by decide), ?_⟩⟩
    by_cases l : z + i < m
    · rw [if_pos l] at q
      refine inY (cnd.mpr l) ?_
      first | refine ⟨fun c => absurd c (by decide), fun _ => ?_⟩ | refine ⟨fun _ => ?_, fun c => absurd c (by decide)⟩
      rw [ix60, nI_add, nI_clamp (by omega)]
      refine ⟨vp_in_nI (by omega) (by decide), m_light hI h (by omega) ?_⟩
      rw [show 60 * y + z + i = 60 * y + (z + i) by omega]
      refine ⟨fun c => ?_, fun c => ?_⟩
      · rw [if_pos c] at q
        rw [nI_s]
        exact ih (i + 1) (by omega) q
      · rw [if_neg c] at q
        exact q
    · rw [if_neg l] at q
      refine inN (fun e => l (cnd.mp e)) ?_
      first | refine ⟨fun c => absurd c (by decide), fun _ => ?_⟩ | refine ⟨fun _ => ?_, fun c => absurd c (by decide)⟩
      exact q

theorem sim_judge : Sim_X9_judge Inv := by
  intro v vNc vNcj vNcs vNcp vNcr vNw vNg vNn vNq vIc vIcj vIcs vIcp vIcr vIw vIg vIn vIq vT vTj vTs vTp vTr vx vt gt vM gM hInv x1 x2
  obtain ⟨B, t, N, K, A, h⟩ := id hInv
  have hw := h.now
  have hN := hw.ci.hN
  have hK := hw.ci.hK
  have hM := hw.n13
  have hP := hw.n14
  have tp := h.tp
  have ht : t < 2 ^ 30 := by have := hw.tb; have := h.hB; omega
  unfold pX9_judge
  refine c_tp (fun y hy ey => ?_) (fun e1 => ?_)
  · subst ey
    first | refine ⟨fun c => absurd c (by decide), fun _ => ?_⟩ | refine ⟨fun _ => ?_, fun c => absurd c (by decide)⟩
    rw [nI_clamp (by omega)]
    obtain ⟨t1, t2⟩ := tp_neg tp hy
    have s0 : vM 8 y ≤ 0 ↔ (vt y 0 0 = -5 ∨ vt y 0 0 = 0) := by
      rcases tp.so y hy with ⟨a, b, _⟩ | ⟨a, q, hq, e⟩
      · rw [a, b]; exact ⟨fun _ => .inl rfl, fun _ => by decide⟩
      · rw [a, e]
        constructor
        · intro l
          have := (nle (b := 0) (by omega) (by decide)).mp l
          exact .inr (by rw [show q = 0 by omega]; rfl)
        · rintro (l | l)
          · exact absurd l (m5 (by omega))
          · rw [l]; decide
    have run : vM 8 y ≤ 0 → pX9_judge_J37 vNc vNcj vNcs vt gt (nI y) x2 (fun r => pX10_judge vM gM (nI y) x2 (fun r' => r = r' ∧ Inv v vNc vNcj vNcs vNcp vNcr vNw vNg vNn vNq vIc vIcj vIcs vIcp vIcr vIw vIg vIn vIq vT vTj vTs vTp vTr vx vt gt vM gM)) := by
      intro hs
      unfold pX9_judge_J37
      have head : ∀ r, (∃ n, pX10_judge_L23 vM gM (nI y) x2 (fun r' => r = r' ∧ Inv v vNc vNcj vNcs vNcp vNcr vNw vNg vNn vNq vIc vIcj vIcs vIcp vIcr vIw vIg vIn vIq vT vTj vTs vTp vTr vx vt gt vM gM) n (0 : Int32)) → pX10_judge vM gM (nI y) x2 (fun r' => r = r' ∧ Inv v vNc vNcj vNcs vNcp vNcr vNw vNg vNn vNq vIc vIcj vIcs vIcp vIcr vIw vIg vIn vIq vT vTj vTs vTp vTr vx vt gt vM gM) := by
        intro r hr
        unfold pX10_judge
        refine m_tpY hy ?_
        first | refine ⟨fun c => absurd c (by decide), fun _ => ?_⟩ | refine ⟨fun _ => ?_, fun c => absurd c (by decide)⟩
        rw [nI_clamp (by omega)]
        exact ⟨vp_in_nI (by omega) (by decide), fun _ => hr, fun c => absurd hs c⟩
      by_cases n0 : N = 0
      · subst n0
        refine ⟨1, hdE (N := 0) (i := 0) hw.co.jr.n rfl (head _ ⟨1, hdE (N := 0) (i := 0) hM rfl ⟨rfl, hInv⟩⟩)⟩
      · obtain ⟨le1, m, hm, em⟩ := tp.le y hy
        by_cases hp : 0 ≤ x2 ∧ x2 ≤ vM 9 y - 1
        · have hp2 := hp
          rw [em] at hp2
          obtain ⟨z, hz, rfl⟩ := (sg_iff (by omega) x2).mp hp2
          have ns : ¬ vM 8 y < 0 := by
            rcases tp.so y hy with ⟨_, _, c⟩ | ⟨_, q, hq, e⟩
            · have := nI_inj (b := 0) (by omega) (by decide) (em.symm.trans c)
              omega
            · rw [e]; exact nI_pos (by omega)
          exact ⟨N + 1, c_judge ht hw.ci hw.co tp hy hm em hz N 0 (by omega) (head _ ⟨N + 1, m_judge hw.ci hw.ab hy hm em hz ns N 0 (by omega) ⟨rfl, hInv⟩⟩)⟩
        · refine ⟨1, hdG (N := N) (i := 0) hw.co.jr.n (by omega) (by omega) ?_⟩
          rw [nI_clamp (by omega), show x2 + 0 = x2 from Int32.add_zero x2]
          refine c_place tp hy (fun m2 i2 hm2 em2 hi2 ei2 => absurd ?_ hp) (fun _ => ?_)
          · rw [em2, ei2]; exact (sg_iff (by omega) _).mpr ⟨i2, hi2, rfl⟩
          · first | refine ⟨fun c => absurd c (by decide), fun _ => ?_⟩ | refine ⟨fun _ => ?_, fun c => absurd c (by decide)⟩
            refine head _ ⟨1, hdG (N := N) (i := 0) hM (by omega) (by omega) ?_⟩
            rw [nI_clamp (by omega)]
            refine ⟨vp_in_nI (by omega) (by decide), fun _ => ⟨rfl, hInv⟩, fun _ => ⟨vp_in_nI (by omega) (by decide), ?_⟩⟩
            rw [show vM 9 y - 1 - (0 : Int32) = vM 9 y - 1 from Int32.sub_zero _]
            refine inN hp ?_
            first | refine ⟨fun c => absurd c (by decide), fun _ => ?_⟩ | refine ⟨fun _ => ?_, fun c => absurd c (by decide)⟩
            exact ⟨rfl, hInv⟩
    refine ⟨vp_in_nI (by omega) (by decide), fun c => run (s0.mpr (.inl c)), fun c => ⟨fun c2 => run (s0.mpr (.inr c2)), fun c2 => ?_⟩⟩
    unfold pX10_judge
    refine m_tpY hy ?_
    first | refine ⟨fun c => absurd c (by decide), fun _ => ?_⟩ | refine ⟨fun _ => ?_, fun c => absurd c (by decide)⟩
    rw [nI_clamp (by omega)]
    exact ⟨vp_in_nI (by omega) (by decide), fun l => absurd (s0.mp l) (fun e => e.elim c c2), fun _ => ⟨rfl, hInv⟩⟩
  · first | refine ⟨fun c => absurd c (by decide), fun _ => ?_⟩ | refine ⟨fun _ => ?_, fun c => absurd c (by decide)⟩
    unfold pX10_judge
    refine m_tpN e1 ?_
    first | refine ⟨fun c => absurd c (by decide), fun _ => ?_⟩ | refine ⟨fun _ => ?_, fun c => absurd c (by decide)⟩
    exact ⟨rfl, hInv⟩

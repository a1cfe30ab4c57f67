def nowP (A : AS) (N : Nat) (c s : Int32) (z : Nat) : Prop := z < N ∧ A 1 z 6 = 1 ∧ cbP A z (A 1 z 7) (-5) c s
theorem c_now {t N K : Nat} {co j s' p r' : Lf} {A : AS} (hI : CoI t N K A) (h : CoR N K co j s' p r' A) {c s : Int32} {Q : Int32 → Prop} (q : ∀ r, Bits r (nowP A N c s) → Q r) : pX0_takersNow j s' c s Q := by
  have hN := hI.hN
  have L : ∀ (k i : Nat) (r : Int32), i + k = N → Bits r (fun z => z < i ∧ nowP A N c s z) → pX0_takersNow_L5 j s' c s Q (k + 1) r (nI i) := by
    intro k
    induction k with
    | zero =>
      intro i r hi hr
      refine hdE h.jr.n (by omega) (q r (hr.same (fun z _ => ⟨fun y => ⟨by have := y.1; omega, y⟩, fun y => y.2⟩)))
    | succ k ih =>
      intro i r hi hr
      have no : ¬ nowP A N c s i → pX0_takersNow_J85 j s' c s Q (fun x3 x4 => pX0_takersNow_L5 j s' c s Q (k + 1) x3 x4) r (nI i) := by
        intro d
        unfold pX0_takersNow_J85
        rw [nI_s]
        refine ih (i + 1) r (by omega) (hr.same (fun b _ => ⟨fun ⟨h1, h2⟩ => ⟨?_, h2⟩, fun ⟨h1, h2⟩ => ⟨by omega, h2⟩⟩))
        rcases Nat.lt_or_ge b i with l | l
        · exact l
        · exact absurd ((show b = i by omega) ▸ h2) d
      refine hdG h.jr.n (by omega) (by omega) (c_green (by omega) (fun g => ?_) (fun g => ?_))
      · first | refine ⟨fun c => absurd c (by decide), fun _ => ?_⟩ | refine ⟨fun _ => ?_, fun c => absurd c (by decide)⟩
        have g1 := (h.sr.g1 (by omega)).mp g
        refine c_placeOf hI h.jr (by omega) ?_
        unfold pX0_takersNow_J44
        rw [nI_clamp (by omega), h.sr.be i (by omega)]
        refine ⟨fun d => no (fun y => y.2.2.1 d), fun d => ⟨vp_in_nI (by omega) (by decide), ?_⟩⟩
        unfold pX1_reaches
        refine c_pace hI h.jr (by omega) ⟨fun d2 => no (fun y => n_lt.mpr d2 y.2.2.2.1), fun d2 => ?_⟩
        unfold pX0_takersNow_J85
        rw [nI_s]
        refine ih (i + 1) _ (by omega) (hr.put (by omega) (fun b _ => ⟨fun ⟨h1, h2⟩ => ?_, fun e => ?_⟩))
        · rcases Nat.lt_or_ge b i with l | l
          · exact .inl ⟨l, h2⟩
          · exact .inr (by omega)
        · rcases e with e | e
          · exact ⟨by omega, e.2⟩
          · exact ⟨by omega, e ▸ ⟨by omega, g1, d, n_le.mp d2, .inl (by decide)⟩⟩
      · first | refine ⟨fun c => absurd c (by decide), fun _ => ?_⟩ | refine ⟨fun _ => ?_, fun c => absurd c (by decide)⟩
        unfold pX0_takersNow_J44
        exact ⟨fun _ => no (fun y => g ((h.sr.g1 (by omega)).mpr y.2.1)), fun d => absurd rfl d⟩
  exact ⟨N + 1, L N 0 0 (by omega) (Bits.zero' (fun i _ e => by omega))⟩
theorem m_now {t N K : Nat} {v : Lf} {A : AS} (hI : CoI t N K A) (h : Ab (v 1) A) {c s x3 : Int32} {P : Nat → Prop} {Q : Int32 → Prop} (q : ∀ r, Bits r (fun z => P z ∨ nowP A N c s z) → Q r) : ∀ (k i : Nat) (r : Int32), i + k = N → Bits r (fun z => P z ∨ (z < i ∧ nowP A N c s z)) → pX10_coulds_L158 v c s x3 Q (k + 1) r (nI i) := by
  have hN := hI.hN
  have hm : v 1 13 = nI N := (h.gl (k := 13) (by decide)).trans hI.m
  intro k
  induction k with
  | zero =>
    intro i r hi hr
    refine hdE hm (by omega) (q r (hr.same (fun z _ => ⟨fun y => y.imp id (fun y => ⟨by have := y.1; omega, y⟩), fun y => y.imp id (fun y => y.2)⟩)))
  | succ k ih =>
    intro i r hi hr
    have no : ¬ nowP A N c s i → pX10_coulds_J212 v c s x3 Q (fun x4 x5 => pX10_coulds_L158 v c s x3 Q (k + 1) x4 x5) r (nI i) := by
      intro d
      unfold pX10_coulds_J212
      rw [nI_s]
      refine ih (i + 1) r (by omega) (hr.same (fun b _ => ⟨fun y => y.imp id (fun ⟨h1, h2⟩ => ⟨?_, h2⟩), fun y => y.imp id (fun ⟨h1, h2⟩ => ⟨by omega, h2⟩)⟩))
      rcases Nat.lt_or_ge b i with l | l
      · exact l
      · exact absurd ((show b = i by omega) ▸ h2) d
    refine hdG hm (by omega) (by omega) (rd_at h 6 (by omega) (by decide) ⟨fun d => no (fun y => d y.2.1), fun d => rd_at h 7 (by omega) (by decide) (m_couldBy hI h (by omega) (fun d2 => ?_) (fun d2 => ?_))⟩)
    · first | refine ⟨fun c => absurd c (by decide), fun _ => ?_⟩ | refine ⟨fun _ => ?_, fun c => absurd c (by decide)⟩
      unfold pX10_coulds_J212
      rw [nI_s]
      refine ih (i + 1) _ (by omega) (hr.put (by omega) (fun b _ => ⟨fun y => ?_, fun e => ?_⟩))
      · rcases y with y | ⟨h1, h2⟩
        · exact .inl (.inl y)
        · rcases Nat.lt_or_ge b i with l | l
          · exact .inl (.inr ⟨l, h2⟩)
          · exact .inr (by omega)
      · rcases e with e | e
        · exact e.imp id (fun y => ⟨by omega, y.2⟩)
        · exact .inr ⟨by omega, e ▸ ⟨by omega, d, d2⟩⟩
    · first | refine ⟨fun c => absurd c (by decide), fun _ => ?_⟩ | refine ⟨fun _ => ?_, fun c => absurd c (by decide)⟩
      exact no (fun y => d2 y.2.2)
theorem m_rows3 {t N K n : Nat} {v : Lf} {A : AS} (hI : CoI t N K A) (h : Ab (v 1) A) (hn : n ≤ 24) (en : A 0 0 15 = nI n) (row : ∀ i, i < n → ∃ a, a < N ∧ A 3 i 0 = nI a) {c s x3 : Int32} {Q : Int32 → Prop} (q : ∀ r, Bits r (fun z => rowP A N 3 n c s z ∨ nowP A N c s z) → Q r) : ∀ (k i : Nat) (r : Int32), i + k = n → Bits r (rowP A N 3 i c s) → pX10_coulds_L93 v c s x3 Q (k + 1) r (nI i) := by
  have hN := hI.hN
  have hm : v 1 15 = nI n := (h.gl (k := 15) (by decide)).trans en
  have rd : ∀ i k, i < 24 → k < 3 → ∀ Q : Int32 → Prop, Q (A 3 i k) → pX10_recordAt v (nI i) (nI k) Q := by
    intro i k hi hk Q hq
    unfold pX10_recordAt
    rw [ix234, nI_clamp (by omega), show v 1 (234 + 3 * i + k) = A 3 i k from h 3 i k ⟨hi, hk⟩]
    exact ⟨vp_in_nI (by omega) (by decide), hq⟩
  intro k
  induction k with
  | zero =>
    intro i r hi hr
    have e : i = n := by omega
    subst e
    refine hdE hm rfl ⟨N + 1, m_now hI h (P := rowP A N 3 i c s) q N 0 r (by omega) (hr.same (fun z _ => ⟨fun y => y.elim id (fun y => by omega), .inl⟩))⟩
  | succ k ih =>
    intro i r hi hr
    obtain ⟨a, ha, ea⟩ := row i (by omega)
    have ps := rowP_s (x := 3) (c := c) (s := s) hN ha ea
    refine hdG hm (by omega) (by omega) (rd i 0 (by omega) (by decide) _ (rd i 1 (by omega) (by decide) _ (rd i 2 (by omega) (by decide) _ ?_)))
    rw [ea]
    refine m_couldBy hI h ha (fun d => ?_) (fun d => ?_)
    · first | refine ⟨fun c => absurd c (by decide), fun _ => ?_⟩ | refine ⟨fun _ => ?_, fun c => absurd c (by decide)⟩
      refine rd i 0 (by omega) (by decide) _ ?_
      rw [ea]
      unfold pX10_coulds_J149
      rw [nI_s]
      exact ih (i + 1) _ (by omega) (hr.put (by omega) (fun z _ => (ps z).trans ⟨fun y => y.imp id (fun y => y.1), fun y => y.imp id (fun y => ⟨y, d⟩)⟩))
    · first | refine ⟨fun c => absurd c (by decide), fun _ => ?_⟩ | refine ⟨fun _ => ?_, fun c => absurd c (by decide)⟩
      unfold pX10_coulds_J149
      rw [nI_s]
      exact ih (i + 1) r (by omega) (hr.same (fun z _ => (ps z).trans ⟨fun y => y.elim id (fun y => absurd y.2 d), .inl⟩))
theorem m_rows5 {t N K n : Nat} {v : Lf} {A : AS} (hI : CoI t N K A) (h : Ab (v 1) A) (hn : n ≤ 8) (en : A 0 0 18 = nI n) (row : ∀ i, i < n → ∃ a, a < N ∧ A 5 i 0 = nI a) {c s x3 : Int32} {Q : Int32 → Prop} (q : ∀ r, Bits r (rowP A N 5 n c s) → Q r) : ∀ (k i : Nat) (r : Int32), i + k = n → Bits r (rowP A N 5 i c s) → pX10_coulds_L11 v c s x3 Q (k + 1) r (nI i) := by
  have hN := hI.hN
  have hm : v 1 18 = nI n := (h.gl (k := 18) (by decide)).trans en
  have z0 : ∀ p, (321 : Int32) + (3 : Int32) * nI p = nI (321 + 3 * p) := fun p => by
    show nI 321 + nI 3 * nI p = _
    rw [pk_mul, nI_add]
  intro k
  induction k with
  | zero =>
    intro i r hi hr
    have e : i = n := by omega
    subst e
    exact hdE hm rfl (q r hr)
  | succ k ih =>
    intro i r hi hr
    obtain ⟨a, ha, ea⟩ := row i (by omega)
    have ps := rowP_s (x := 5) (c := c) (s := s) hN ha ea
    refine hdG hm (by omega) (by omega) ?_
    have vp : ∀ k, k < 3 → vp_in (nI (321 + 3 * i + k)) 372 := fun k hk => vp_in_nI (by omega) (by decide)
    rw [ix321 i 1, ix321 i 2, z0, nI_clamp (by omega), nI_clamp (by omega), nI_clamp (by omega), show v 1 (321 + 3 * i) = A 5 i 0 from h 5 i 0 ⟨by omega, by decide⟩, show v 1 (321 + 3 * i + 1) = A 5 i 1 from h 5 i 1 ⟨by omega, by decide⟩, show v 1 (321 + 3 * i + 2) = A 5 i 2 from h 5 i 2 ⟨by omega, by decide⟩, ea]
    refine ⟨vp 0 (by decide), vp 1 (by decide), vp 2 (by decide), m_couldBy hI h ha (fun d => ?_) (fun d => ?_)⟩
    · first | refine ⟨fun c => absurd c (by decide), fun _ => ?_⟩ | refine ⟨fun _ => ?_, fun c => absurd c (by decide)⟩
      refine ⟨vp 0 (by decide), ?_⟩
      unfold pX10_coulds_J81
      rw [nI_s]
      exact ih (i + 1) _ (by omega) (hr.put (by omega) (fun z _ => (ps z).trans ⟨fun y => y.imp id (fun y => y.1), fun y => y.imp id (fun y => ⟨y, d⟩)⟩))
    · first | refine ⟨fun c => absurd c (by decide), fun _ => ?_⟩ | refine ⟨fun _ => ?_, fun c => absurd c (by decide)⟩
      unfold pX10_coulds_J81
      rw [nI_s]
      exact ih (i + 1) r (by omega) (hr.same (fun z _ => (ps z).trans ⟨fun y => y.elim id (fun y => absurd y.2 d), .inl⟩))
def cldP (A : AS) (N n g : Nat) (by1 : Bool) (c s : Int32) (z : Nat) : Prop := if by1 = true then rowP A N 5 g c s z else (rowP A N 3 n c s z ∨ nowP A N c s z)
theorem both_could {B t N K : Nat} {A : AS} {co j s' p r' w g n' q' : Lf} {v : Lf} (hB : B ≤ 12000) (hw : Wo B t N K A co j s' p r' w g n' q' (v 1)) {x3 : Int32} (hx : x3 = 0 ∨ x3 = 1) (c s : Int32) : ∃ P : Nat → Prop, (∀ z, P z → z < N) ∧ (∀ Q : Int32 → Prop, (∀ r, Bits r P → Q r) → pX8_takersOf j s' r' g c s x3 Q) ∧ (∀ Q : Int32 → Prop, (∀ r, Bits r P → Q r) → pX10_coulds v c s x3 Q) := by
  have hI := hw.ci
  have hN := hI.hN
  obtain ⟨n, hn, en, rown⟩ := hI.rc
  obtain ⟨m, hm, em, rowm⟩ := hw.gt.row
  rcases hx with rfl | rfl
  · refine ⟨fun z => rowP A N 3 n c s z ∨ nowP A N c s z, fun z y => y.elim (fun ⟨_, _, y, _⟩ => y) (fun y => y.1), fun Q hq => ?_, fun Q hq => ?_⟩
    · unfold pX8_takersOf
      refine ⟨fun d => absurd rfl d, fun _ => c_rows (n := n) (x := 3) hI hw.co.jr (hw.co.rr.n.trans en) (by omega) (by decide) (fun i hi => ⟨fun k hk => hw.co.rr.at' n hn en i hi k hk, (rown i hi).1, ?_⟩) (fun r hr => c_now hI hw.co (fun r2 hr2 => hq _ (fun z hz => ?_)))⟩
      · obtain ⟨x, hx, ex⟩ := (rown i hi).2.2
        have := hw.tb
        rw [ex]
        exact nI_pos (by omega)
      · rw [b_or, Bool.or_eq_true, hr z hz, hr2 z hz]
    · unfold pX10_coulds
      exact ⟨fun _ => ⟨n + 1, m_rows3 hI hw.ab hn en (fun i hi => (rown i hi).1) hq n 0 0 (by omega) (Bits.zero' (fun z _ ⟨i, h, _⟩ => by omega))⟩, fun d => absurd d (by decide)⟩
  · refine ⟨rowP A N 5 m c s, fun z ⟨_, _, y, _⟩ => y, fun Q hq => ?_, fun Q hq => ?_⟩
    · unfold pX8_takersOf
      refine ⟨fun _ => c_rows (n := m) (x := 5) hI hw.co.jr (hw.gt.n.trans em) (by omega) (by decide) (fun i hi => ⟨(rowm i hi).1, (rowm i hi).2.1, ?_⟩) hq, fun d => absurd d (by decide)⟩
      obtain ⟨x, hx, ex⟩ := (rowm i hi).2.2.2
      rw [ex]
      exact nI_pos (by omega)
    · unfold pX10_coulds
      exact ⟨fun d => absurd rfl d, fun _ => ⟨m + 1, m_rows5 hI hw.ab hm em (fun i hi => (rowm i hi).2.1) hq m 0 0 (by omega) (Bits.zero' (fun z _ ⟨i, h, _⟩ => by omega))⟩⟩


def lightA (A : AS) (a : Nat) : Int32 := if A 1 a 6 = 1 then 2 else if A 1 a 8 < 0 then 0 else if A 1 a 8 + ambA A a ≤ A 0 0 3 then 0 else 1
theorem m_amber {t N K : Nat} {v : Lf} {A : AS} (hI : CoI t N K A) (h : Ab (v 1) A) {a : Nat} (ha : a < N) {Q : Int32 → Prop} (q : Q (ambA A a)) : pX10_amber v (nI a) Q := by
  have hN := hI.hN
  unfold pX10_amber
  refine rd_at h 0 (by omega) (by decide) ?_
  obtain ⟨k, hk, e⟩ := (hI.sg a ha).kind
  refine ⟨?_, q⟩
  rw [e]; exact vp_in_nI (by omega) (by decide)
theorem m_pace {t N K : Nat} {v : Lf} {A : AS} (hI : CoI t N K A) (h : Ab (v 1) A) {a : Nat} (ha : a < N) {Q : Int32 → Prop} (q : Q (pacA A a)) : pX10_pace v (nI a) Q := by
  have hN := hI.hN
  unfold pX10_pace
  refine rd_at h 0 (by omega) (by decide) ?_
  obtain ⟨k, hk, e⟩ := (hI.sg a ha).kind
  refine ⟨?_, q⟩
  rw [e]; exact vp_in_nI (by omega) (by decide)
theorem c_amber {t N K : Nat} {j : Lf} {A : AS} (hI : CoI t N K A) (h : JR N j A) {a : Nat} (ha : a < N) {Q : Int32 → Prop} (q : Q (ambA A a)) : pX1_amber j (nI a) Q := by
  have hN := hI.hN
  unfold pX1_amber
  rw [nI_clamp (by omega), h.kind a ha]
  obtain ⟨k, hk, e⟩ := (hI.sg a ha).kind
  refine ⟨vp_in_nI (by omega) (by decide), ?_, q⟩
  rw [e]; exact vp_in_nI (by omega) (by decide)
theorem c_pace {t N K : Nat} {j : Lf} {A : AS} (hI : CoI t N K A) (h : JR N j A) {a : Nat} (ha : a < N) {Q : Int32 → Prop} (q : Q (pacA A a)) : pX1_pace j (nI a) Q := by
  have hN := hI.hN
  unfold pX1_pace
  rw [nI_clamp (by omega), h.kind a ha]
  obtain ⟨k, hk, e⟩ := (hI.sg a ha).kind
  refine ⟨vp_in_nI (by omega) (by decide), ?_, q⟩
  rw [e]; exact vp_in_nI (by omega) (by decide)
theorem m_light {t N K : Nat} {v : Lf} {A : AS} (hI : CoI t N K A) (h : Ab (v 1) A) {a : Nat} (ha : a < N) {Q : Int32 → Prop} (q : Q (lightA A a)) : pX10_light v (nI a) Q := by
  have hN := hI.hN
  unfold pX10_light
  unfold lightA at q
  refine rd_at h 6 (by omega) (by decide) ⟨fun c => ?_, fun c => by rw [if_pos c] at q; exact q⟩
  rw [if_neg c] at q
  refine rd_at h 8 (by omega) (by decide) ⟨fun c2 => by rw [if_pos c2] at q; exact q, fun c2 => ?_⟩
  rw [if_neg c2] at q
  refine rd_at h 8 (by omega) (by decide) (m_amber hI h ha ?_)
  rw [h.gl (k := 3) (by decide)]
  exact ⟨fun c3 => by rw [if_pos c3] at q; exact q, fun c3 => by rw [if_neg c3] at q; exact q⟩
theorem c_light {t N K : Nat} {c j s p r : Lf} {A : AS} (ht : t < 2 ^ 30) (hI : CoI t N K A) (h : CoR N K c j s p r A) {a : Nat} (ha : a < N) {Q : Int32 → Prop} (q : Q (lightA A a)) : pX0_lightOf c j s (nI a) Q := by
  have hN := hI.hN
  unfold pX0_lightOf
  unfold lightA at q
  have hn := nv_neg ht (hI.sg a ha).en
  refine c_green (by omega) (fun g => ?_) (fun g => ?_)
  · first | refine ⟨fun c => absurd c (by decide), fun _ => ?_⟩ | refine ⟨fun _ => ?_, fun c => absurd c (by decide)⟩
    rw [if_pos ((h.sr.g1 ha).mp g)] at q; exact q
  · first | refine ⟨fun c => absurd c (by decide), fun _ => ?_⟩ | refine ⟨fun _ => ?_, fun c => absurd c (by decide)⟩
    rw [if_neg (fun e => g ((h.sr.g1 ha).mpr e))] at q
    rw [nI_clamp (by omega), h.sr.en a ha, h.cf.sec]
    refine ⟨vp_in_nI (by omega) (by decide), fun c2 => by rw [if_pos (hn.mpr c2)] at q; exact q, fun c2 => c_amber hI h.jr ha ?_⟩
    rw [if_neg (fun e => c2 (hn.mp e))] at q
    exact ⟨fun c3 => by rw [if_pos c3] at q; exact q, fun c3 => by rw [if_neg c3] at q; exact q⟩
theorem m_lights {t N K : Nat} {v : Lf} {A : AS} (hI : CoI t N K A) (h : Ab (v 1) A) {x : Int32} {Q : Int32 → Prop} (q : ∀ r, Bits r (fun a => a < N ∧ lightA A a = x) → Q r) : pX10_lights v x Q := by
  have hN := hI.hN
  have hm : v 1 13 = nI N := (h.gl (k := 13) (by decide)).trans hI.m
  have L : ∀ (k i : Nat) (r : Int32), i + k = N → Bits r (fun a => a < i ∧ lightA A a = x) → pX10_lights_L4 v x Q (k + 1) r (nI i) := by
    intro k
    induction k with
    | zero =>
      intro i r hi hr
      refine hdE hm (by omega) (q r ?_)
      rw [show i = N by omega] at hr
      exact hr
    | succ k ih =>
      intro i r hi hr
      refine hdG hm (by omega) (by omega) (m_light hI h (by omega) ⟨fun c => ?_, fun c => ?_⟩)
      · unfold pX10_lights_J32
        rw [nI_s, or_0]
        refine ih (i + 1) r (by omega) (hr.same (fun b _ => ⟨fun ⟨h1, h2⟩ => ⟨?_, h2⟩, fun ⟨h1, h2⟩ => ⟨by omega, h2⟩⟩))
        rcases Nat.lt_or_ge b i with l | l
        · exact l
        · exact absurd ((show b = i by omega) ▸ h2) c
      · unfold pX10_lights_J32
        rw [nI_s]
        refine ih (i + 1) _ (by omega) (hr.put (by omega) (fun b _ => ⟨fun ⟨h1, h2⟩ => ?_, fun e => ?_⟩))
        · rcases Nat.lt_or_ge b i with l | l
          · exact .inl ⟨l, h2⟩
          · exact .inr (by omega)
        · rcases e with e | e
          · exact ⟨by omega, e.2⟩
          · exact ⟨by omega, e ▸ c⟩
  exact ⟨N + 1, L N 0 0 (by omega) (Bits.zero' (fun i _ e => by omega))⟩
theorem c_ambers {t N K : Nat} {c j s p r : Lf} {A : AS} (ht : t < 2 ^ 30) (hI : CoI t N K A) (h : CoR N K c j s p r A) {Q : Int32 → Prop} (q : ∀ r, Bits r (fun a => a < N ∧ lightA A a = 1) → Q r) : pX0_amberSignals c j s Q := by
  have hN := hI.hN
  have L : ∀ (k i : Nat) (r : Int32), i + k = N → Bits r (fun a => a < i ∧ lightA A a = 1) → pX0_amberSignals_L4 c j s Q (k + 1) r (nI i) := by
    intro k
    induction k with
    | zero =>
      intro i r hi hr
      refine hdE h.jr.n (by omega) (q r ?_)
      rw [show i = N by omega] at hr
      exact hr
    | succ k ih =>
      intro i r hi hr
      refine hdG h.jr.n (by omega) (by omega) (c_light ht hI h (by omega) ⟨fun c => ?_, fun c => ?_⟩)
      · unfold pX0_amberSignals_J30
        rw [nI_s]
        refine ih (i + 1) r (by omega) (hr.same (fun b _ => ⟨fun ⟨h1, h2⟩ => ⟨?_, h2⟩, fun ⟨h1, h2⟩ => ⟨by omega, h2⟩⟩))
        rcases Nat.lt_or_ge b i with l | l
        · exact l
        · exact absurd ((show b = i by omega) ▸ h2) c
      · unfold pX0_amberSignals_J30
        rw [nI_s]
        refine ih (i + 1) _ (by omega) (hr.put (by omega) (fun b _ => ⟨fun ⟨h1, h2⟩ => ?_, fun e => ?_⟩))
        · rcases Nat.lt_or_ge b i with l | l
          · exact .inl ⟨l, h2⟩
          · exact .inr (by omega)
        · rcases e with e | e
          · exact ⟨by omega, e.2⟩
          · exact ⟨by omega, e ▸ c⟩
  exact ⟨N + 1, L N 0 0 (by omega) (Bits.zero' (fun i _ e => by omega))⟩
theorem green_bits {N K : Nat} {c j s p r : Lf} {A : AS} (hN : N ≤ 8) (h : CoR N K c j s p r A) : Bits (s 0 0) (fun a => a < N ∧ lightA A a = 2) := by
  intro i hi
  rcases Nat.lt_or_ge i N with l | l
  · rw [h.sr.g1 l]
    show A 1 i 6 = 1 ↔ i < N ∧ lightA A i = 2
    unfold lightA
    by_cases c : A 1 i 6 = 1
    · rw [if_pos c]; simp [c, l]
    · rw [if_neg c]
      constructor
      · exact fun e => absurd e c
      · intro ⟨_, e⟩
        split at e
        · exact absurd e (by decide)
        · split at e <;> exact absurd e (by decide)
  · rw [h.sr.g0 i l hi]
    constructor
    · intro e; exact absurd e (by decide)
    · intro e; omega
theorem bits_exN (P : Nat → Prop) {n : Nat} (h : n ≤ 32) : ∃ r, Bits r (fun i => i < n ∧ P i) := bits_ex P n h
theorem cy_facts {t N K : Nat} {A : AS} (h : CoI t N K A) : A 0 0 10 ≤ 0 ↔ A 0 0 10 = 0 := by
  rcases h.cy with e | ⟨c, h1, h2, e⟩
  · rw [e]; decide
  · rw [e, n0 (by omega)]
    exact (nle (b := 0) (by omega) (by decide)).trans (by omega)
theorem fact_both {t N K : Nat} {A : AS} (ht : t < 2 ^ 30) (hI : CoI t N K A) (k : Nat) (hk : k ≤ 18) : ∃ x : Int32, (∀ c j s p r, CoR N K c j s p r A → ∀ Q : Int32 → Prop, Q x → pX0_fact c j s p (nI k) Q) ∧ (∀ v, Ab (v 1) A → ∀ Q : Int32 → Prop, Q x → pX10_told v (nI k) Q) := by
  have hN := hI.hN
  have hK := hI.hK
  match k, hk with
  | 0, _ => exact ⟨A 0 0 3, fun c j s p r h Q q => by
      show pX0_fact c j s p 0 Q
      unfold pX0_fact
      repeat (first | refine ⟨fun c => absurd c (by decide), fun _ => ?_⟩ | refine ⟨fun _ => ?_, fun c => absurd c (by decide)⟩)
      rw [h.cf.sec]; exact q, fun v h Q q => by
      show pX10_told v 0 Q
      unfold pX10_told
      repeat (first | refine ⟨fun c => absurd c (by decide), fun _ => ?_⟩ | refine ⟨fun _ => ?_, fun c => absurd c (by decide)⟩)
      rw [h.gl (k := 3) (by decide)]; exact q⟩
  | 1, _ => exact ⟨A 0 0 4, fun c j s p r h Q q => by
      show pX0_fact c j s p 1 Q
      unfold pX0_fact
      repeat (first | refine ⟨fun c => absurd c (by decide), fun _ => ?_⟩ | refine ⟨fun _ => ?_, fun c => absurd c (by decide)⟩)
      rw [h.cf.cur]; exact q, fun v h Q q => by
      show pX10_told v 1 Q
      unfold pX10_told
      repeat (first | refine ⟨fun c => absurd c (by decide), fun _ => ?_⟩ | refine ⟨fun _ => ?_, fun c => absurd c (by decide)⟩)
      rw [h.gl (k := 4) (by decide)]; exact q⟩
  | 2, _ => exact ⟨A 0 0 5, fun c j s p r h Q q => by
      show pX0_fact c j s p 2 Q
      unfold pX0_fact
      repeat (first | refine ⟨fun c => absurd c (by decide), fun _ => ?_⟩ | refine ⟨fun _ => ?_, fun c => absurd c (by decide)⟩)
      rw [h.cf.cut]; exact q, fun v h Q q => by
      show pX10_told v 2 Q
      unfold pX10_told
      repeat (first | refine ⟨fun c => absurd c (by decide), fun _ => ?_⟩ | refine ⟨fun _ => ?_, fun c => absurd c (by decide)⟩)
      rw [h.gl (k := 5) (by decide)]; exact q⟩
  | 3, _ => exact ⟨A 0 0 6, fun c j s p r h Q q => by
      show pX0_fact c j s p 3 Q
      unfold pX0_fact
      repeat (first | refine ⟨fun c => absurd c (by decide), fun _ => ?_⟩ | refine ⟨fun _ => ?_, fun c => absurd c (by decide)⟩)
      rw [h.cf.em]; exact q, fun v h Q q => by
      show pX10_told v 3 Q
      unfold pX10_told
      repeat (first | refine ⟨fun c => absurd c (by decide), fun _ => ?_⟩ | refine ⟨fun _ => ?_, fun c => absurd c (by decide)⟩)
      rw [h.gl (k := 6) (by decide)]; exact q⟩
  | 4, _ => exact ⟨A 0 0 7, fun c j s p r h Q q => by
      show pX0_fact c j s p 4 Q
      unfold pX0_fact
      repeat (first | refine ⟨fun c => absurd c (by decide), fun _ => ?_⟩ | refine ⟨fun _ => ?_, fun c => absurd c (by decide)⟩)
      rw [h.cf.wt]; exact q, fun v h Q q => by
      show pX10_told v 4 Q
      unfold pX10_told
      repeat (first | refine ⟨fun c => absurd c (by decide), fun _ => ?_⟩ | refine ⟨fun _ => ?_, fun c => absurd c (by decide)⟩)
      rw [h.gl (k := 7) (by decide)]; exact q⟩
  | 5, _ => exact ⟨A 0 0 8, fun c j s p r h Q q => by
      show pX0_fact c j s p 5 Q
      unfold pX0_fact
      repeat (first | refine ⟨fun c => absurd c (by decide), fun _ => ?_⟩ | refine ⟨fun _ => ?_, fun c => absurd c (by decide)⟩)
      rw [h.cf.sv]; exact q, fun v h Q q => by
      show pX10_told v 5 Q
      unfold pX10_told
      repeat (first | refine ⟨fun c => absurd c (by decide), fun _ => ?_⟩ | refine ⟨fun _ => ?_, fun c => absurd c (by decide)⟩)
      rw [h.gl (k := 8) (by decide)]; exact q⟩
  | 6, _ => exact ⟨A 0 0 9, fun c j s p r h Q q => by
      show pX0_fact c j s p 6 Q
      unfold pX0_fact
      repeat (first | refine ⟨fun c => absurd c (by decide), fun _ => ?_⟩ | refine ⟨fun _ => ?_, fun c => absurd c (by decide)⟩)
      rw [h.cf.ls]; exact q, fun v h Q q => by
      show pX10_told v 6 Q
      unfold pX10_told
      repeat (first | refine ⟨fun c => absurd c (by decide), fun _ => ?_⟩ | refine ⟨fun _ => ?_, fun c => absurd c (by decide)⟩)
      rw [h.gl (k := 9) (by decide)]; exact q⟩
  | 7, _ =>
    obtain ⟨x, hx⟩ := bits_exN (fun a => lightA A a = 2) (n := N) (by omega)
    exact ⟨x, fun c j s p r h Q q => by
      show pX0_fact c j s p 7 Q
      unfold pX0_fact
      repeat (first | refine ⟨fun c => absurd c (by decide), fun _ => ?_⟩ | refine ⟨fun _ => ?_, fun c => absurd c (by decide)⟩)
      rw [(green_bits hN h).eq hx]; exact q, fun v h Q q => by
      show pX10_told v 7 Q
      unfold pX10_told
      repeat (first | refine ⟨fun c => absurd c (by decide), fun _ => ?_⟩ | refine ⟨fun _ => ?_, fun c => absurd c (by decide)⟩)
      exact m_lights hI h (fun r hr => by rw [hr.eq hx]; exact q)⟩
  | 8, _ =>
    obtain ⟨x, hx⟩ := bits_exN (fun a => lightA A a = 1) (n := N) (by omega)
    exact ⟨x, fun c j s p r h Q q => by
      show pX0_fact c j s p 8 Q
      unfold pX0_fact
      repeat (first | refine ⟨fun c => absurd c (by decide), fun _ => ?_⟩ | refine ⟨fun _ => ?_, fun c => absurd c (by decide)⟩)
      exact c_ambers ht hI h (fun r hr => by rw [hr.eq hx]; exact q), fun v h Q q => by
      show pX10_told v 8 Q
      unfold pX10_told
      repeat (first | refine ⟨fun c => absurd c (by decide), fun _ => ?_⟩ | refine ⟨fun _ => ?_, fun c => absurd c (by decide)⟩)
      exact m_lights hI h (fun r hr => by rw [hr.eq hx]; exact q)⟩
  | 9, _ => exact ⟨csA N K A, fun c j s p r h Q q => by
      show pX0_fact c j s p 9 Q
      unfold pX0_fact
      repeat (first | refine ⟨fun c => absurd c (by decide), fun _ => ?_⟩ | refine ⟨fun _ => ?_, fun c => absurd c (by decide)⟩)
      exact c_called h hI (fun r hr => by rw [hr.eq (csA_ok N hK A)]; exact q), fun v h Q q => by
      show pX10_told v 9 Q
      unfold pX10_told
      repeat (first | refine ⟨fun c => absurd c (by decide), fun _ => ?_⟩ | refine ⟨fun _ => ?_, fun c => absurd c (by decide)⟩)
      exact un (P := fun z => pX10_called z _) ⟨K + 1, m_called hN hK hI.m hI.k h (fun r hr => by rw [hr.eq (csA_ok N hK A)]; exact q) K 0 0 (by omega) (Bits.zero' (fun i _ e => by omega))⟩⟩
  | 10, _ => exact ⟨A 0 0 0, fun c j s p r h Q q => by
      show pX0_fact c j s p 10 Q
      unfold pX0_fact
      repeat (first | refine ⟨fun c => absurd c (by decide), fun _ => ?_⟩ | refine ⟨fun _ => ?_, fun c => absurd c (by decide)⟩)
      rw [h.cf.sd]; exact q, fun v h Q q => by
      show pX10_told v 10 Q
      unfold pX10_told
      repeat (first | refine ⟨fun c => absurd c (by decide), fun _ => ?_⟩ | refine ⟨fun _ => ?_, fun c => absurd c (by decide)⟩)
      rw [h.gl (k := 0) (by decide)]; exact q⟩
  | 11, _ => exact ⟨A 0 0 1, fun c j s p r h Q q => by
      show pX0_fact c j s p 11 Q
      unfold pX0_fact
      repeat (first | refine ⟨fun c => absurd c (by decide), fun _ => ?_⟩ | refine ⟨fun _ => ?_, fun c => absurd c (by decide)⟩)
      rw [h.jr.sf]; exact q, fun v h Q q => by
      show pX10_told v 11 Q
      unfold pX10_told
      repeat (first | refine ⟨fun c => absurd c (by decide), fun _ => ?_⟩ | refine ⟨fun _ => ?_, fun c => absurd c (by decide)⟩)
      rw [h.gl (k := 1) (by decide)]; exact q⟩
  | 12, _ => exact ⟨A 0 0 10, fun c j s p r h Q q => by
      show pX0_fact c j s p 12 Q
      unfold pX0_fact
      repeat (first | refine ⟨fun c => absurd c (by decide), fun _ => ?_⟩ | refine ⟨fun _ => ?_, fun c => absurd c (by decide)⟩)
      rw [h.cf.cy]; exact q, fun v h Q q => by
      show pX10_told v 12 Q
      unfold pX10_told
      repeat (first | refine ⟨fun c => absurd c (by decide), fun _ => ?_⟩ | refine ⟨fun _ => ?_, fun c => absurd c (by decide)⟩)
      unfold pX10_told_J176
      rw [show ((10 : Int32) + 12) - 12 = nI 10 from by decide, nI_clamp (by decide), h.gl (k := 10) (by decide)]
      exact ⟨vp_in_nI (by decide) (by decide), q⟩⟩
  | 13, _ => exact ⟨A 0 0 11, fun c j s p r h Q q => by
      show pX0_fact c j s p 13 Q
      unfold pX0_fact
      repeat (first | refine ⟨fun c => absurd c (by decide), fun _ => ?_⟩ | refine ⟨fun _ => ?_, fun c => absurd c (by decide)⟩)
      rw [h.cf.off]; exact q, fun v h Q q => by
      show pX10_told v 13 Q
      unfold pX10_told
      repeat (first | refine ⟨fun c => absurd c (by decide), fun _ => ?_⟩ | refine ⟨fun _ => ?_, fun c => absurd c (by decide)⟩)
      unfold pX10_told_J176
      rw [show ((10 : Int32) + 13) - 12 = nI 11 from by decide, nI_clamp (by decide), h.gl (k := 11) (by decide)]
      exact ⟨vp_in_nI (by decide) (by decide), q⟩⟩
  | 14, _ => exact ⟨A 0 0 12, fun c j s p r h Q q => by
      show pX0_fact c j s p 14 Q
      unfold pX0_fact
      repeat (first | refine ⟨fun c => absurd c (by decide), fun _ => ?_⟩ | refine ⟨fun _ => ?_, fun c => absurd c (by decide)⟩)
      rw [h.cf.spl]; exact q, fun v h Q q => by
      show pX10_told v 14 Q
      unfold pX10_told
      repeat (first | refine ⟨fun c => absurd c (by decide), fun _ => ?_⟩ | refine ⟨fun _ => ?_, fun c => absurd c (by decide)⟩)
      unfold pX10_told_J176
      rw [show ((10 : Int32) + 14) - 12 = nI 12 from by decide, nI_clamp (by decide), h.gl (k := 12) (by decide)]
      exact ⟨vp_in_nI (by decide) (by decide), q⟩⟩
  | 15, _ => 
    by_cases c0 : A 0 0 10 = 0
    · exact ⟨-5, fun c j s p r h Q q => by
      show pX0_fact c j s p 15 Q
      unfold pX0_fact
      repeat (first | refine ⟨fun c => absurd c (by decide), fun _ => ?_⟩ | refine ⟨fun _ => ?_, fun c => absurd c (by decide)⟩)
      unfold pX0_local
      rw [h.cf.cy]
      exact ⟨fun _ => q, fun c => absurd ((cy_facts hI).mpr c0) c⟩, fun v h Q q => by
      show pX10_told v 15 Q
      unfold pX10_told
      repeat (first | refine ⟨fun c => absurd c (by decide), fun _ => ?_⟩ | refine ⟨fun _ => ?_, fun c => absurd c (by decide)⟩)
      rw [h.gl (k := 10) (by decide)]
      exact ⟨fun c => absurd c0 c, fun _ => q⟩⟩
    · exact ⟨lo A, fun c j s p r h Q q => by
      show pX0_fact c j s p 15 Q
      unfold pX0_fact
      repeat (first | refine ⟨fun c => absurd c (by decide), fun _ => ?_⟩ | refine ⟨fun _ => ?_, fun c => absurd c (by decide)⟩)
      exact c_local h.cf hI (fun c => c0 ((cy_facts hI).mp c)) q, fun v h Q q => by
      show pX10_told v 15 Q
      unfold pX10_told
      repeat (first | refine ⟨fun c => absurd c (by decide), fun _ => ?_⟩ | refine ⟨fun _ => ?_, fun c => absurd c (by decide)⟩)
      rw [h.gl (k := 10) (by decide)]
      exact ⟨fun _ => un (P := fun z => pX10_local z _) (m_local h c0 q), fun c => absurd c c0⟩⟩
  | 16, _ => exact ⟨nI N, fun c j s p r h Q q => by
      show pX0_fact c j s p 16 Q
      unfold pX0_fact
      repeat (first | refine ⟨fun c => absurd c (by decide), fun _ => ?_⟩ | refine ⟨fun _ => ?_, fun c => absurd c (by decide)⟩)
      rw [h.jr.n]; exact q, fun v h Q q => by
      show pX10_told v 16 Q
      unfold pX10_told
      repeat (first | refine ⟨fun c => absurd c (by decide), fun _ => ?_⟩ | refine ⟨fun _ => ?_, fun c => absurd c (by decide)⟩)
      rw [h.gl (k := 13) (by decide), hI.m]; exact q⟩
  | 17, _ => exact ⟨nI K, fun c j s p r h Q q => by
      show pX0_fact c j s p 17 Q
      unfold pX0_fact
      repeat (first | refine ⟨fun c => absurd c (by decide), fun _ => ?_⟩ | refine ⟨fun _ => ?_, fun c => absurd c (by decide)⟩)
      rw [h.pr.n]; exact q, fun v h Q q => by
      show pX10_told v 17 Q
      unfold pX10_told
      repeat (first | refine ⟨fun c => absurd c (by decide), fun _ => ?_⟩ | refine ⟨fun _ => ?_, fun c => absurd c (by decide)⟩)
      rw [h.gl (k := 14) (by decide), hI.k]; exact q⟩
  | 18, _ => exact ⟨lp (quS A) N 0 0, fun c j s p r h Q q => by
      show pX0_fact c j s p 18 Q
      unfold pX0_fact
      repeat (first | refine ⟨fun c => absurd c (by decide), fun _ => ?_⟩ | refine ⟨fun _ => ?_, fun c => absurd c (by decide)⟩)
      exact c_all hN h.sr q, fun v h Q q => by
      show pX10_told v 18 Q
      unfold pX10_told
      repeat (first | refine ⟨fun c => absurd c (by decide), fun _ => ?_⟩ | refine ⟨fun _ => ?_, fun c => absurd c (by decide)⟩)
      exact un (P := fun z => pX10_queues z _) ⟨N + 1, m_queues hN hI.m h N 0 0 (by omega) q⟩⟩
  | k + 19, hk => exact absurd hk (by omega)
theorem sim_told : Sim_X9_told Inv := by
  intro v vNc vNcj vNcs vNcp vNcr vNw vNg vNn vNq vIc vIcj vIcs vIcp vIcr vIw vIg vIn vIq vT vTj vTs vTp vTr vx vt gt vM gM hInv x1
  obtain ⟨B, t, N, K, A, h⟩ := id hInv
  have hw := h.now
  have hN := hw.ci.hN
  have hK := hw.ci.hK
  have hM := hw.n13
  have hP := hw.n14
  have ht : t < 2 ^ 30 := by have := hw.tb; have := h.hB; omega
  unfold pX9_told
  refine w_in (fun c1 c2 => ?_) (fun c => ?_)
  · first | refine ⟨fun c => absurd c (by decide), fun _ => ?_⟩ | refine ⟨fun _ => ?_, fun c => absurd c (by decide)⟩
    obtain ⟨k, hk, rfl⟩ := (up_iff (M := 18) (by decide) x1).mp ⟨c1, c2⟩
    obtain ⟨x, h1, h2⟩ := fact_both ht hw.ci k hk
    exact h1 _ _ _ _ _ hw.co _ (h2 _ hw.ab _ ⟨rfl, hInv⟩)
  · first | refine ⟨fun c => absurd c (by decide), fun _ => ?_⟩ | refine ⟨fun _ => ?_, fun c => absurd c (by decide)⟩
    have ne : ∀ k, k ≤ 18 → ¬ x1 = nI k := fun k hk e => c ((up_iff (M := 18) (by decide) x1).mpr ⟨k, hk, e⟩)
    unfold pX10_told
    refine ⟨fun e => absurd e (ne 0 (by decide)), fun _ => ?_⟩
    refine ⟨fun e => absurd e (ne 1 (by decide)), fun _ => ?_⟩
    refine ⟨fun e => absurd e (ne 2 (by decide)), fun _ => ?_⟩
    refine ⟨fun e => absurd e (ne 3 (by decide)), fun _ => ?_⟩
    refine ⟨fun e => absurd e (ne 4 (by decide)), fun _ => ?_⟩
    refine ⟨fun e => absurd e (ne 5 (by decide)), fun _ => ?_⟩
    refine ⟨fun e => absurd e (ne 6 (by decide)), fun _ => ?_⟩
    refine ⟨fun e => absurd e (ne 7 (by decide)), fun _ => ?_⟩
    refine ⟨fun e => absurd e (ne 8 (by decide)), fun _ => ?_⟩
    refine ⟨fun e => absurd e (ne 9 (by decide)), fun _ => ?_⟩
    refine ⟨fun e => absurd e (ne 10 (by decide)), fun _ => ?_⟩
    refine ⟨fun e => absurd e (ne 11 (by decide)), fun _ => ?_⟩
    refine ⟨fun e => absurd e (ne 12 (by decide)), fun _ => ?_⟩
    refine ⟨fun e => absurd e (ne 13 (by decide)), fun _ => ?_⟩
    refine ⟨fun e => absurd e (ne 14 (by decide)), fun _ => ?_⟩
    refine ⟨fun e => absurd e (ne 15 (by decide)), fun _ => ?_⟩
    refine ⟨fun e => absurd e (ne 16 (by decide)), fun _ => ?_⟩
    refine ⟨fun e => absurd e (ne 17 (by decide)), fun _ => ?_⟩
    refine ⟨fun e => absurd e (ne 18 (by decide)), fun _ => ?_⟩
    exact ⟨rfl, hInv⟩

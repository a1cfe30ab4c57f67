theorem m_placeIn {t N K : Nat} {v : Lf} {A : AS} (hI : CoI t N K A) (h : Ab (v 1) A) {a : Nat} (ha : a < N) {c : Int32} {Q : Int32 → Prop} (q : Q (placeA A a c)) : pX10_placeIn v (nI a) c Q := by
  have hN := hI.hN
  obtain ⟨l1, l2, l3⟩ := len_ok hI ha
  have L : ∀ (k i : Nat), i + k = lenA A a → Q (ffr (fun i => decide (A 1 a (12 + i) = c)) k i) → pX10_placeIn_L2 v (nI a) c Q (k + 1) (nI i) := by
    intro k
    induction k with
    | zero =>
      intro i hi q
      exact rd_at h 11 (by omega) (by decide) (hdE l3 (by omega) q)
    | succ k ih =>
      intro i hi q
      refine rd_at h 11 (by omega) (by decide) (hdG l3 (by omega) (by omega) ?_)
      rw [show (12 : Int32) + nI i = nI (12 + i) from nI_add 12 i]
      refine rd_atn h (by omega) (by omega) ⟨fun d => ?_, fun d => ?_⟩
      · rw [nI_s]
        rw [ffr, if_neg (by simpa using d)] at q
        exact ih (i + 1) (by omega) q
      · rw [ffr, if_pos (by simpa using d)] at q
        exact q
  exact ⟨lenA A a + 1, L _ 0 (by omega) q⟩
theorem c_placeOf {t N K : Nat} {j : Lf} {A : AS} (hI : CoI t N K A) (h : JR N j A) {a : Nat} (ha : a < N) {c : Int32} {Q : Int32 → Prop} (q : Q (placeA A a c)) : pX1_placeOf j (nI a) c Q := by
  have hN := hI.hN
  obtain ⟨l1, l2, l3⟩ := len_ok hI ha
  have e : j 2 a = nI (lenA A a) := (h.len a ha).trans l3
  have L : ∀ (k i : Nat), i + k = lenA A a → Q (ffr (fun i => decide (A 1 a (12 + i) = c)) k i) → pX1_placeOf_L2 j (nI a) c Q (k + 1) (nI i) := by
    intro k
    induction k with
    | zero =>
      intro i hi q
      refine ⟨vp_in_nI (by omega) (by decide), ?_⟩
      rw [nI_clamp (by omega)]
      exact hdE e (by omega) q
    | succ k ih =>
      intro i hi q
      refine ⟨vp_in_nI (by omega) (by decide), ?_⟩
      rw [nI_clamp (by omega)]
      refine hdG e (by omega) (by omega) ((w_cellAt j (by omega) _).mpr ?_)
      rw [h.cell a ha i (by omega) (by rw [l3]; exact (nlt (by omega) (by omega)).mpr (by omega))]
      refine ⟨fun d => ?_, fun d => ?_⟩
      · rw [nI_s]
        rw [ffr, if_neg (by simpa using d)] at q
        exact ih (i + 1) (by omega) q
      · rw [ffr, if_pos (by simpa using d)] at q
        exact q
  exact ⟨lenA A a + 1, L _ 0 (by omega) q⟩
def cbP (A : AS) (a : Nat) (b e c s : Int32) : Prop := ¬ placeA A a c = -5 ∧ b + pacA A a * placeA A a c ≤ s ∧ (e < 0 ∨ ¬ (e + ambA A a) + pacA A a * (placeA A a c + 1) ≤ s)
theorem m_couldBy {t N K : Nat} {v : Lf} {A : AS} (hI : CoI t N K A) (h : Ab (v 1) A) {a : Nat} (ha : a < N) {b e c s : Int32} {Q : Int32 → Prop} (q1 : cbP A a b e c s → Q 1) (q0 : ¬ cbP A a b e c s → Q 0) : pX10_couldBy v (nI a) b e c s Q := by
  have hl := (len_ok hI ha).2.1
  have pn : placeA A a c < 0 ↔ placeA A a c = -5 := by
    rcases place_ok hI ha c with x | ⟨i, hi, x, _⟩
    · rw [x]; decide
    · rw [x]; exact ⟨fun d => absurd d (nI_pos (by omega)), fun d => absurd d (m5 (by omega))⟩
  unfold pX10_couldBy pX10_couldBy_J58
  refine m_placeIn hI h ha ⟨fun d => q0 (fun x => x.1 (pn.mp d)), fun d => m_pace hI h ha ⟨fun d2 => ⟨fun d3 => q1 ⟨fun x => d (pn.mpr x), d2, .inl d3⟩, fun d3 => m_amber hI h ha (m_pace hI h ha ⟨fun d4 => q0 (fun x => x.2.2.elim d3 (fun y => y d4)), fun d4 => q1 ⟨fun x => d (pn.mpr x), d2, .inr d4⟩⟩)⟩, fun d2 => q0 (fun x => d2 x.2.1)⟩⟩
def rowP (A : AS) (N x n : Nat) (c s : Int32) (z : Nat) : Prop := ∃ i, i < n ∧ z < N ∧ A x i 0 = nI z ∧ cbP A z (A x i 1) (A x i 2) c s
theorem rowP_s {A : AS} {N x i : Nat} {c s : Int32} {a : Nat} (hN : N ≤ 8) (ha : a < N) (e : A x i 0 = nI a) (z : Nat) : rowP A N x (i + 1) c s z ↔ rowP A N x i c s z ∨ (z = a ∧ cbP A a (A x i 1) (A x i 2) c s) := by
  constructor
  · rintro ⟨k, h1, h2, h3, h4⟩
    rcases Nat.lt_or_ge k i with l | l
    · exact .inl ⟨k, l, h2, h3, h4⟩
    · have : k = i := by omega
      subst this
      have : z = a := nI_inj (by omega) (by omega) (h3.symm.trans e)
      subst this
      exact .inr ⟨rfl, h4⟩
  · rintro (⟨k, h1, h2⟩ | ⟨rfl, h⟩)
    · exact ⟨k, by omega, h2⟩
    · exact ⟨i, by omega, ha, e, h⟩
theorem c_rows {t N K n nO : Nat} {j o : Lf} {A : AS} {x : Nat} (hI : CoI t N K A) (hj : JR N j A) (ho : o 0 0 = nI n) (hn : 3 * n ≤ nO) (hnO : nO < 2 ^ 20) (row : ∀ i, i < n → (∀ k, k < 3 → o 1 (i * 3 + k) = A x i k) ∧ (∃ a, a < N ∧ A x i 0 = nI a) ∧ ¬ A x i 2 < 0) {c s : Int32} {Q : Int32 → Prop} (q : ∀ r, Bits r (rowP A N x n c s) → Q r) : pX8_takersByRows nO o j c s Q := by
  have hN := hI.hN
  have rd : ∀ i, i < n → ∀ (k : Nat), k < 3 → ∀ Q : Int32 → Prop, Q (A x i k) → pX4_at nO o (nI i) (nI k) Q := by
    intro i hi k hk Q hq
    unfold pX4_at
    rw [ix3, nI_clamp (by omega), (row i hi).1 k hk]
    exact ⟨vp_in_nI (by omega) (by omega), hq⟩
  have L : ∀ (k i : Nat) (r : Int32), i + k = n → Bits r (rowP A N x i c s) → pX8_takersByRows_L15 nO o j c s Q (k + 1) r (nI i) := by
    intro k
    induction k with
    | zero =>
      intro i r hi hr
      refine hdE ho (by omega) (q r ?_)
      rw [show i = n by omega] at hr
      exact hr
    | succ k ih =>
      intro i r hi hr
      refine hdG ho (by omega) (by omega) (rd i (by omega) 0 (by decide) _ ?_)
      obtain ⟨_, ⟨a, ha, ea⟩, e2⟩ := row i (by omega)
      rw [ea]
      have ps := rowP_s (c := c) (s := s) hN ha ea
      have no : ¬ cbP A a (A x i 1) (A x i 2) c s → pX8_takersByRows_J99 nO o j c s Q (fun x5 x6 => pX8_takersByRows_L15 nO o j c s Q (k + 1) x5 x6) r (nI i) := by
        intro d
        unfold pX8_takersByRows_J99
        rw [nI_s]
        exact ih (i + 1) r (by omega) (hr.same (fun z _ => (ps z).trans ⟨fun y => y.elim id (fun y => absurd y.2 d), .inl⟩))
      refine c_placeOf hI hj ha ⟨fun d => no (fun y => y.1 d), fun d => rd i (by omega) 1 (by decide) _ ?_⟩
      unfold pX1_reaches
      refine c_pace hI hj ha ⟨fun d2 => no (fun y => n_lt.mpr d2 y.2.1), fun d2 => rd i (by omega) 2 (by decide) _ ?_⟩
      unfold pX1_leaves
      refine c_amber hI hj ha (c_pace hI hj ha ⟨fun d3 => no (fun y => y.2.2.elim e2 (fun y => y d3)), fun d3 => ?_⟩)
      unfold pX8_takersByRows_J99
      rw [nI_s]
      exact ih (i + 1) _ (by omega) (hr.put (by omega) (fun z _ => (ps z).trans ⟨fun y => y.imp id (fun y => y.1), fun y => y.imp id (fun y => ⟨y, d, n_le.mp d2, .inr d3⟩)⟩))
  exact ⟨n + 1, L n 0 0 (by omega) (Bits.zero' (fun z _ ⟨i, h, _⟩ => by omega))⟩


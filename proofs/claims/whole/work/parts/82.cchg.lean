theorem c_isHeld {t N K y : Nat} {c : Lf} {A : AS} (h : CF c A) (hI : CoI t N K A) (hy : A 0 0 4 = nI y) (hy2 : y < 6) {Q : Int32 → Prop} (q1 : heldP A y → Q 1) (q0 : ¬ heldP A y → Q 0) : pX0_isHeld c Q := by
  unfold pX0_isHeld
  rw [h.cy, h.cur, hy, h.spl]
  exact ⟨fun c1 => q0 (fun e => e.1 c1), fun c1 => ⟨fun c2 => q0 (fun e => c2 (by rw [e.2.1]; rfl)), fun c2 => c_local h hI c1 ⟨fun c3 => q0 (fun e => n_lt.mpr e.2.2 c3), fun c3 => q1 ⟨c1, (n0 (by omega)).mp c2, n_lt.mp c3⟩⟩⟩⟩
theorem c_isForced {t N K y : Nat} {c p : Lf} {A : AS} (h : CF c A) (hp : PR K p A) (hI : CoI t N K A) (hy : A 0 0 4 = nI y) (hy2 : y < K) {Q : Int32 → Prop} (q1 : forcedP A y → Q 1) (q0 : ¬ forcedP A y → Q 0) : pX0_isForced c p Q := by
  have hK := hI.hK
  unfold pX0_isForced
  rw [h.cy, h.cur, hy, nI_clamp (by omega), hp.force y hy2]
  exact ⟨fun c1 => q0 (fun e => e.1 c1), fun c1 => ⟨fun c2 => q0 (fun e => e.2.1 ((n0 (by omega)).mp c2)), fun c2 => c_local h hI c1 ⟨vp_in_nI (by omega) (by decide), fun c3 => q0 (fun e => e.2.2 c3), fun c3 => q1 ⟨c1, fun e => c2 (by rw [e]; rfl), c3⟩⟩⟩⟩
theorem c_greenFor {N : Nat} {c s : Lf} {A : AS} (hN : N ≤ 8) (h : CF c A) (hs : SR N s A) {i : Nat} (hi : i < N) {x : Int32} {Q : Int32 → Prop} (q1 : A 1 i 6 = 1 → ¬ A 0 0 3 - A 1 i 7 < x → Q 1) (q0 : ¬ (A 1 i 6 = 1 ∧ ¬ A 0 0 3 - A 1 i 7 < x) → Q 0) : pX0_isGreenFor c s (nI i) x Q := by
  unfold pX0_isGreenFor
  refine c_green (by omega) (fun g => ⟨fun c => absurd c (by decide), fun _ => ?_⟩) (fun g => ⟨fun _ => q0 (fun e => g ((hs.g1 hi).mpr e.1)), fun c => absurd rfl c⟩)
  rw [nI_clamp (by omega), h.sec, hs.be i hi]
  exact ⟨vp_in_nI (by omega) (by decide), fun c => q0 (fun e => e.2 c), fun c => q1 ((hs.g1 hi).mp g) c⟩
theorem alls {R : Nat → Prop} {i N : Nat} (h : R i) (q : ∀ b, i + 1 ≤ b → b < N → R b) : ∀ b, i ≤ b → b < N → R b := by
  intro b h1 h2
  rcases Nat.eq_or_lt_of_le h1 with e | e
  · exact e ▸ h
  · exact q b e h2
theorem c_least {t N K y : Nat} {c j s p r : Lf} {A : AS} (h : CoR N K c j s p r A) (hI : CoI t N K A) (hy : A 0 0 4 = nI y) (hy2 : y < K) {Q : Int32 → Prop} : ∀ (k i : Nat), i + k = N → ((∀ b, i ≤ b → b < N → okL A y b) → Q 1) → ((¬ ∀ b, i ≤ b → b < N → okL A y b) → Q 0) → pX0_areAllGreenForLeast_L2 c j s p Q (k + 1) (nI i) := by
  have hN := hI.hN
  have hK := hI.hK
  intro k
  induction k with
  | zero =>
    intro i hi q1 q0
    exact hdE h.jr.n (by omega) (q1 (fun b h1 h2 => by omega))
  | succ k ih =>
    intro i hi q1 q0
    have hi2 : i < N := by omega
    have go : okL A y i → pX0_areAllGreenForLeast_J40 c j s p Q (fun x1 => pX0_areAllGreenForLeast_L2 c j s p Q (k + 1) x1) (nI i) := by
      intro hp
      unfold pX0_areAllGreenForLeast_J40
      rw [nI_s]
      exact ih (i + 1) (by omega) (fun q => q1 (alls hp q)) (fun q => q0 (fun r => q (fun b h1 h2 => r b (by omega) h2)))
    refine hdG h.jr.n (by omega) (by omega) (c_inPhase hK h.cf h.pr hy hy2 (by omega) (fun c1 => ⟨fun c => absurd c (by decide), fun _ => ?_⟩) (fun c1 => ⟨fun _ => go (fun e => absurd e c1), fun c => absurd rfl c⟩))
    exact c_rule hN h.sr hi2 0 (by decide) (c_greenFor hN h.cf h.sr hi2 (fun g1 g2 => ⟨fun _ => go (fun _ => ⟨g1, g2⟩), fun c => absurd c (by decide)⟩) (fun g => ⟨fun c => absurd rfl c, fun _ => q0 (fun r => g (r i (by omega) hi2 c1))⟩))
theorem c_most {t N K y : Nat} {c j s p r : Lf} {A : AS} (h : CoR N K c j s p r A) (hI : CoI t N K A) (hy : A 0 0 4 = nI y) (hy2 : y < K) {Q : Int32 → Prop} : ∀ (k i : Nat), i + k = N → ((∃ b, i ≤ b ∧ b < N ∧ lgP A y b) → Q 1) → ((¬ ∃ b, i ≤ b ∧ b < N ∧ lgP A y b) → Q 0) → pX0_isOneGreenForMost_L2 c j s p Q (k + 1) (nI i) := by
  have hN := hI.hN
  have hK := hI.hK
  intro k
  induction k with
  | zero =>
    intro i hi q1 q0
    exact hdE h.jr.n (by omega) (q0 (fun ⟨b, h1, h2, _⟩ => by omega))
  | succ k ih =>
    intro i hi q1 q0
    have hi2 : i < N := by omega
    have go : ¬ lgP A y i → pX0_isOneGreenForMost_J40 c j s p Q (fun x1 => pX0_isOneGreenForMost_L2 c j s p Q (k + 1) x1) (nI i) := by
      intro hp
      unfold pX0_isOneGreenForMost_J40
      rw [nI_s]
      refine ih (i + 1) (by omega) (fun ⟨b, h1, h2⟩ => q1 ⟨b, by omega, h2⟩) (fun q => q0 (fun ⟨b, h1, h2⟩ => ?_))
      rcases Nat.eq_or_lt_of_le h1 with e | e
      · exact hp (e ▸ h2.2)
      · exact q ⟨b, e, h2⟩
    refine hdG h.jr.n (by omega) (by omega) (c_inPhase hK h.cf h.pr hy hy2 (by omega) (fun c1 => ⟨fun c => absurd c (by decide), fun _ => ?_⟩) (fun c1 => ⟨fun _ => go (fun e => c1 e.1), fun c => absurd rfl c⟩))
    exact c_rule hN h.sr hi2 1 (by decide) (c_greenFor hN h.cf h.sr hi2 (fun g1 g2 => ⟨fun c => absurd c (by decide), fun _ => q1 ⟨i, by omega, hi2, c1, g1, g2⟩⟩) (fun g => ⟨fun _ => go (fun e => g e.2), fun c => absurd rfl c⟩))
theorem c_gaps {t N K y : Nat} {c j s p r : Lf} {A : AS} (ht : t < 2 ^ 30) (h : CoR N K c j s p r A) (hI : CoI t N K A) (hy : A 0 0 4 = nI y) (hy2 : y < K) {Q : Int32 → Prop} : ∀ (k i : Nat), i + k = N → ((∀ b, i ≤ b → b < N → idP A y b) → Q 1) → ((¬ ∀ b, i ≤ b → b < N → idP A y b) → Q 0) → pX0_areAllGapsOver_L2 c j s p Q (k + 1) (nI i) := by
  have hN := hI.hN
  have hK := hI.hK
  intro k
  induction k with
  | zero =>
    intro i hi q1 q0
    exact hdE h.jr.n (by omega) (q1 (fun b h1 h2 => by omega))
  | succ k ih =>
    intro i hi q1 q0
    have hi2 : i < N := by omega
    have go : idP A y i → pX0_areAllGapsOver_J57 c j s p Q (fun x1 => pX0_areAllGapsOver_L2 c j s p Q (k + 1) x1) (nI i) := by
      intro hp
      unfold pX0_areAllGapsOver_J57
      rw [nI_s]
      exact ih (i + 1) (by omega) (fun q => q1 (alls hp q)) (fun q => q0 (fun r => q (fun b h1 h2 => r b (by omega) h2)))
    have hn := nv_neg ht (hI.sg i hi2).seen
    refine hdG h.jr.n (by omega) (by omega) ?_
    rw [nI_clamp (by omega), h.sr.se i hi2, h.cf.sec]
    refine ⟨vp_in_nI (by omega) (by decide), c_inPhase hK h.cf h.pr hy hy2 (by omega) (fun c1 => ⟨fun c => absurd c (by decide), fun _ => ?_⟩) (fun c1 => ⟨fun _ => go (fun e => absurd e c1), fun c => absurd rfl c⟩)⟩
    exact ⟨fun c2 => go (fun _ => .inl (hn.mpr c2)), fun c2 => c_rule hN h.sr hi2 2 (by decide) ⟨fun c3 => go (fun _ => .inr (n_le.mpr c3)), fun c3 => q0 (fun r => (r i (by omega) hi2 c1).elim (fun e => c2 (hn.mp e)) (fun e => c3 (n_le.mp e)))⟩⟩
theorem c_fresh {t N K y : Nat} {c j s p r : Lf} {A : AS} (h : CoR N K c j s p r A) (hI : CoI t N K A) (hs : A 0 0 2 = 1) (hy : A 0 0 4 = nI y) (hy2 : y < K) {Q : Int32 → Prop} : ∀ (k i : Nat), i + k = N → ((∀ b, i ≤ b → b < N → cutP A y b) → Q 0) → ((¬ ∀ b, i ≤ b → b < N → cutP A y b) → Q 1) → pX0_isOneTooFreshToCut_L2 c j s Q (k + 1) (nI i) := by
  have hN := hI.hN
  have hK := hI.hK
  intro k
  induction k with
  | zero =>
    intro i hi q1 q0
    exact hdE h.jr.n (by omega) (q1 (fun b h1 h2 => by omega))
  | succ k ih =>
    intro i hi q1 q0
    have hi2 : i < N := by omega
    have go : cutP A y i → pX0_isOneTooFreshToCut_J58 c j s Q (fun x1 => pX0_isOneTooFreshToCut_L2 c j s Q (k + 1) x1) (nI i) := by
      intro hp
      unfold pX0_isOneTooFreshToCut_J58
      rw [nI_s]
      exact ih (i + 1) (by omega) (fun q => q1 (alls hp q)) (fun q => q0 (fun r => q (fun b h1 h2 => r b (by omega) h2)))
    refine hdG h.jr.n (by omega) (by omega) (c_rule hN h.sr hi2 0 (by decide) (c_green (by omega) (fun g => ⟨fun c => absurd c (by decide), fun _ => ?_⟩) (fun g => ⟨fun _ => go (fun _ e => absurd ((h.sr.gi hi2).mpr e) g), fun c => absurd rfl c⟩)))
    rw [nI_clamp (by omega), h.sr.be i hi2, h.cf.sec]
    have g0 := (h.sr.gi hi2).mp g
    have gy : bt (A 2 y 0) i = true := by
      rcases hI.st with e | ⟨_, z, hz, ez, gz⟩
      · exact absurd (e.symm.trans hs) (by decide)
      · have : z = y := nI_inj (by omega) (by omega) (ez.symm.trans hy)
        exact this ▸ gz i hi2 g0
    exact ⟨vp_in_nI (by omega) (by decide), fun c => go (fun _ _ => n_le.mpr c), fun c => q0 (fun r => r i (by omega) hi2 gy g0 (n_lt.mp c))⟩
theorem c_next2 {K y : Nat} (hK : K ≤ 6) (hy2 : y < K) {c p : Lf} {cs : Int32} (hcy : c 0 6 = nI y) {Q : Int32 → Prop} (pr : ∃ b, b < y ∧ bt cs b = true) (q : ∀ b, b < y → bt cs b = true → (∀ e, e < b → ¬ bt cs e = true) → Q (nI b)) : ∀ (k i : Nat), i + k = y → (∀ e, e < i → ¬ bt cs e = true) → pX0_nextOf_L61 c p cs Q (k + 1) (nI i) := by
  intro k
  induction k with
  | zero =>
    intro i hi hn
    obtain ⟨b, hb, e⟩ := pr
    exact absurd e (hn b (by omega))
  | succ k ih =>
    intro i hi hn
    refine hdG hcy (by omega) (by omega) (c_isIn (by omega) (fun c1 => ⟨fun c => absurd c (by decide), fun _ => q i (by omega) c1 hn⟩) (fun c1 => ⟨fun _ => ?_, fun c => absurd rfl c⟩))
    rw [nI_s]
    refine ih (i + 1) (by omega) (fun e he => ?_)
    rcases Nat.lt_or_ge e i with l | l
    · exact hn e l
    · exact (show e = i by omega) ▸ c1
theorem c_next1 {K y : Nat} (hK : K ≤ 6) (hy2 : y < K) {c p : Lf} {cs : Int32} (hcy : c 0 6 = nI y) (hp : p 0 0 = nI K) {Q : Int32 → Prop} (pr : ∃ b, b < K ∧ bt cs b = true) (ny : ¬ bt cs y = true) (q : ∀ b, b < K → bt cs b = true → (∃ d, b = (y + 1 + d) % K ∧ ∀ e, e < d → ¬ bt cs ((y + 1 + e) % K) = true) → Q (nI b)) : ∀ (k i : Nat), i + k = K → y + 1 ≤ i → (∀ e, y + 1 ≤ e → e < i → ¬ bt cs e = true) → pX0_nextOf_L32 c p cs Q (k + 1) (nI i) := by
  intro k
  induction k with
  | zero =>
    intro i hi hi1 hn
    have hiK : i = K := by omega
    subst hiK
    refine hdE hp rfl ?_
    obtain ⟨b, hb, e⟩ := pr
    have hby : b < y := by
      rcases Nat.lt_trichotomy b y with l | l | l
      · exact l
      · exact absurd (l ▸ e) ny
      · exact absurd e (hn b (by omega) hb)
    refine ⟨y + 1, c_next2 hK hy2 hcy ⟨b, hby, e⟩ (fun b hb hb2 hb3 => q b (by omega) hb2 ⟨b + i - (y + 1), ?_, fun e he => ?_⟩) y 0 (by omega) (fun e he => by omega)⟩
    · rw [show y + 1 + (b + i - (y + 1)) = b + i by omega, Nat.add_mod_right, Nat.mod_eq_of_lt (by omega)]
    · rcases Nat.lt_or_ge (y + 1 + e) i with l | l
      · rw [Nat.mod_eq_of_lt l]; exact hn _ (by omega) l
      · rw [show y + 1 + e = (y + 1 + e - i) + i by omega, Nat.add_mod_right, Nat.mod_eq_of_lt (by omega)]
        exact hb3 _ (by omega)
  | succ k ih =>
    intro i hi hi1 hn
    refine hdG hp (by omega) (by omega) (c_isIn (by omega) (fun c1 => ⟨fun c => absurd c (by decide), fun _ => q i (by omega) c1 ⟨i - (y + 1), ?_, fun e he => ?_⟩⟩) (fun c1 => ⟨fun _ => ?_, fun c => absurd rfl c⟩))
    · rw [show y + 1 + (i - (y + 1)) = i by omega, Nat.mod_eq_of_lt (by omega)]
    · rw [Nat.mod_eq_of_lt (by omega)]
      exact hn _ (by omega) (by omega)
    · rw [nI_s]
      refine ih (i + 1) (by omega) (by omega) (fun e he he2 => ?_)
      rcases Nat.lt_or_ge e i with l | l
      · exact hn e he l
      · exact (show e = i by omega) ▸ c1
theorem c_nextOf {t N K y : Nat} {c j s p r : Lf} {A : AS} (h : CoR N K c j s p r A) (hI : CoI t N K A) (hy : A 0 0 4 = nI y) (hy2 : y < K) {cs : Int32} (pr : ∃ b, b < K ∧ bt cs b = true) (ny : ¬ bt cs y = true) {Q : Int32 → Prop} (q : ∀ b, NXT A K y cs b → Q (nI b)) : pX0_nextOf c p cs Q := by
  have hK := hI.hK
  unfold pX0_nextOf
  have J : (¬ ∃ c, c < K ∧ A 0 0 5 = nI c ∧ bt cs c = true) → pX0_nextOf_J25 c p cs Q := by
    intro hn
    unfold pX0_nextOf_J25
    rw [h.cf.cur, hy, nI_s]
    exact ⟨K - (y + 1) + 1, c_next1 hK hy2 (by rw [h.cf.cur, hy]) h.pr.n pr ny (fun b hb hb2 hb3 => q b ⟨hb, hb2, .inr ⟨hn, hb3⟩⟩) (K - (y + 1)) (y + 1) (by omega) (by omega) (fun e h1 h2 => by omega)⟩
  rw [h.cf.cut]
  rcases hI.cut with e | ⟨d, hd, e⟩
  · refine ⟨fun _ => J ?_, fun c => absurd e c⟩
    rintro ⟨d, h1, h2, _⟩
    exact m5 (by omega) (h2.symm.trans e)
  · rw [e]
    refine ⟨fun c => absurd c (m5 (by omega)), fun _ => c_isIn (by omega) (fun c1 => ⟨fun c => absurd c (by decide), fun _ => q d ⟨hd, c1, .inl e⟩⟩) (fun c1 => ⟨fun _ => J ?_, fun c => absurd rfl c⟩)⟩
    rintro ⟨b, h1, h2, h3⟩
    have : d = b := nI_inj (by omega) (by omega) (e.symm.trans h2)
    exact c1 (this ▸ h3)

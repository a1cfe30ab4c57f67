theorem ffr_some {P : Nat → Bool} : ∀ (k i : Nat), (∃ b, i ≤ b ∧ b < i + k ∧ P b = true) → ∃ p, ffr P k i = nI p ∧ i ≤ p ∧ p < i + k ∧ P p = true := by
  intro k
  induction k with
  | zero => exact fun i ⟨b, h1, h2, _⟩ => by omega
  | succ k ih =>
    intro i ⟨b, h1, h2, h3⟩
    rw [ffr]
    by_cases c : P i = true
    · rw [if_pos c]
      exact ⟨i, rfl, by omega, by omega, c⟩
    · rw [if_neg c]
      have hb : i + 1 ≤ b := by
        rcases Nat.eq_or_lt_of_le h1 with e | e
        · exact absurd (e ▸ h3) c
        · exact e
      obtain ⟨p, e1, e2, e3, e4⟩ := ih (i + 1) ⟨b, hb, by omega, h3⟩
      exact ⟨p, e1, by omega, by omega, e4⟩
theorem ffr_none {P : Nat → Bool} : ∀ (k i : Nat), (¬ ∃ b, i ≤ b ∧ b < i + k ∧ P b = true) → ffr P k i = -5 := by
  intro k
  induction k with
  | zero => exact fun _ _ => rfl
  | succ k ih =>
    intro i h
    rw [ffr, if_neg (fun c => h ⟨i, by omega, by omega, c⟩)]
    exact ih (i + 1) (fun ⟨b, h1, h2, h3⟩ => h ⟨b, by omega, by omega, h3⟩)
def V (x : Int32) (P : Prop) : Prop := (x = 1 ∧ P) ∨ (x = 0 ∧ ¬ P)
theorem V.t {P : Prop} (h : P) : V 1 P := .inl ⟨rfl, h⟩
theorem V.f {P : Prop} (h : ¬ P) : V 0 P := .inr ⟨rfl, h⟩
theorem V.ne {x : Int32} {P : Prop} (h : V x P) : ¬ x = 0 ↔ P := by
  rcases h with ⟨rfl, h⟩ | ⟨rfl, h⟩
  · exact ⟨fun _ => h, fun _ => by decide⟩
  · exact ⟨fun c => absurd rfl c, fun c => absurd c h⟩
theorem V.e {x : Int32} {P : Prop} (h : V x P) : x = 0 ↔ ¬ P := by
  rcases h with ⟨rfl, h⟩ | ⟨rfl, h⟩
  · exact ⟨fun c => absurd c (by decide), fun c => absurd h c⟩
  · exact ⟨fun _ => h, fun _ => rfl⟩
theorem V.same {x : Int32} {P R : Prop} (h : V x P) (e : P ↔ R) : V x R := by
  rcases h with ⟨rfl, h⟩ | ⟨rfl, h⟩
  · exact V.t (e.mp h)
  · exact V.f (fun c => h (e.mpr c))
theorem V.and {x y : Int32} {P R T : Prop} (h : V x P) (h2 : V y R) (e : T ↔ P ∧ R) : V (x &&& y) T := by
  rcases h with ⟨rfl, h⟩ | ⟨rfl, h⟩ <;> rcases h2 with ⟨rfl, h2⟩ | ⟨rfl, h2⟩
  · exact V.t (e.mpr ⟨h, h2⟩)
  · exact V.f (fun c => h2 (e.mp c).2)
  · exact V.f (fun c => h (e.mp c).1)
  · exact V.f (fun c => h (e.mp c).1)
theorem V.or {x y : Int32} {P R T : Prop} (h : V x P) (h2 : V y R) (e : T ↔ P ∨ R) : V (x ||| y) T := by
  rcases h with ⟨rfl, h⟩ | ⟨rfl, h⟩ <;> rcases h2 with ⟨rfl, h2⟩ | ⟨rfl, h2⟩
  · exact V.t (e.mpr (.inl h))
  · exact V.t (e.mpr (.inl h))
  · exact V.t (e.mpr (.inr h2))
  · exact V.f (fun c => (e.mp c).elim h h2)
theorem all_s {R : Nat → Prop} {c : Prop} {i : Nat} : (c ∧ ∀ b, b < i + 1 → R b) ↔ (c ∧ ∀ b, b < i → R b) ∧ R i := by
  constructor
  · exact fun ⟨h, h2⟩ => ⟨⟨h, fun b hb => h2 b (by omega)⟩, h2 i (by omega)⟩
  · intro ⟨⟨h, h2⟩, h3⟩
    refine ⟨h, fun b hb => ?_⟩
    rcases Nat.lt_or_ge b i with e | e
    · exact h2 b e
    · exact (show b = i by omega) ▸ h3
theorem ex_s {R : Nat → Prop} {i : Nat} : (∃ b, b < i + 1 ∧ R b) ↔ (∃ b, b < i ∧ R b) ∨ R i := by
  constructor
  · intro ⟨b, h, h2⟩
    rcases Nat.lt_or_ge b i with e | e
    · exact .inl ⟨b, e, h2⟩
    · exact .inr ((show b = i by omega) ▸ h2)
  · rintro (⟨b, h, h2⟩ | h)
    · exact ⟨b, by omega, h2⟩
    · exact ⟨i, by omega, h⟩
def cutP (A : AS) (y b : Nat) : Prop := bt (A 2 y 0) b = true → ¬ A 1 b 6 = 0 → ¬ A 0 0 3 - A 1 b 7 < (A 1 b 1 + 1) / 2
def mayE (A : AS) (N y em : Nat) : Prop := (¬ bt (A 2 y 0) em = true) ∧ ∀ b, b < N → cutP A y b
def cutA (A : AS) : AS := if 0 ≤ A 0 0 5 then A else U A 0 0 5 (A 0 0 4)
theorem m_byEm1 {v : Lf} {N K y em p : Nat} (hN : N ≤ 8) (hK : K ≤ 6) {Q : Lf → Prop} {S : Nat → Int32} {A : AS} (hm : A 0 0 13 = nI N) (hk : A 0 0 14 = nI K) (he : A 0 0 6 = nI em) (hem : em < 32) (hr : rOk A) (h : Ab S A) (hp : ffr (fwA A em) K 0 = nI p) (hp2 : p < K) (q1 : mayE A N y em → ∀ S', Ab S' (changesA N p (cutA A)) → Q (sa v 1 S')) (q0 : ¬ mayE A N y em → Q (sa v 1 S)) : ∀ (k i : Nat) (x : Int32), i + k = N → V x ((¬ bt (A 2 y 0) em = true) ∧ ∀ b, b < i → cutP A y b) → pX10_changesByEmergency_L33 Q (k + 1) (sa v 1 S) (A 2 y 0) x (nI i) := by
  intro k
  induction k with
  | zero =>
    intro i x hi hx
    have hx : V x (mayE A N y em) := by rw [show i = N by omega] at hx; exact hx
    refine hdE (h.gv (by decide) hm) (by omega) ⟨fun c => ?_, fun c => q0 (hx.e.mp c)⟩
    have q1 := q1 (hx.ne.mp c)
    have J : ∀ {S1 : Nat → Int32} {A1 : AS}, Ab S1 A1 → A1 0 0 6 = nI em → A1 0 0 14 = nI K → A1 0 0 13 = nI N → rOk A1 → A1 2 = A 2 → (∀ S', Ab S' (changesA N p A1) → Q (sa v 1 S')) → pX10_changesByEmergency_J120 Q (sa v 1 S1) := by
      intro S1 A1 h1 e1 e2 e3 e4 e5 q
      unfold pX10_changesByEmergency_J120
      rw [h1.gv (by decide) e1]
      refine ⟨K + 1, m_first hK e2 h1 hem K 0 (by omega) ?_⟩
      rw [show fwA A1 em = fwA A em from by funext z; rw [fwA, e5], hp]
      exact ⟨N + 1, m_changes hN (by omega) N 0 (by omega) e3 e4 h1 q⟩
    rw [h.gw (k := 5) (by decide), h.gw (k := 4) (by decide), st_sa1]
    refine ⟨fun c2 => J h he hk hm hr rfl ?_, fun c2 => J (h.ug (k := 5) (by decide) _) (by simp [U_at, he]) (by simp [U_at, hk]) (by simp [U_at, hm]) (by simpa [rOk, U_at] using hr) (by funext i j; simp [U_at]) ?_⟩
    · simpa only [cutA, if_pos c2] using q1
    · simpa only [cutA, if_neg c2] using q1
  | succ k ih =>
    intro i x hi hx
    have yes : cutP A y i → pX10_changesByEmergency_J81 Q (fun v x1 x2 x3 => pX10_changesByEmergency_L33 Q (k + 1) v x1 x2 x3) (sa v 1 S) (A 2 y 0) (nI i) x := by
      intro c
      unfold pX10_changesByEmergency_J81 pX10_changesByEmergency_J86
      rw [nI_s]
      exact ih _ _ (by omega) (hx.and (V.t c) all_s)
    refine hdG (h.gv (by decide) hm) (by omega) (by omega) (m_has (by omega) (fun c1 => ⟨fun c => absurd c (by decide), fun _ => ?_⟩) (fun c1 => ⟨fun _ => yes (fun c => absurd c c1), fun c => absurd rfl c⟩))
    refine m_at h 6 (by omega) (by decide) ⟨fun c2 => yes (fun _ c => absurd c2 c), fun c2 => m_greenFor h (by omega) (m_at h 1 (by omega) (by decide) ⟨fun c3 => ?_, fun c3 => yes (fun _ _ => c3)⟩)⟩
    unfold pX10_changesByEmergency_J86
    rw [nI_s]
    exact ih _ _ (by omega) (hx.and (V.f (fun c => c c1 c2 c3)) all_s)
theorem m_byEm {v : Lf} {N K y em p : Nat} (hN : N ≤ 8) (hK : K ≤ 6) {Q : Lf → Prop} {S : Nat → Int32} {A : AS} (hm : A 0 0 13 = nI N) (hk : A 0 0 14 = nI K) (hy : A 0 0 4 = nI y) (hy2 : y < K) (he : A 0 0 6 = nI em) (hem : em < 32) (hr : rOk A) (h : Ab S A) (hp : ffr (fwA A em) K 0 = nI p) (hp2 : p < K) (q1 : mayE A N y em → ∀ S', Ab S' (changesA N p (cutA A)) → Q (sa v 1 S')) (q0 : ¬ mayE A N y em → Q (sa v 1 S)) : pX10_changesByEmergency (sa v 1 S) Q := by
  unfold pX10_changesByEmergency pX10_changesByEmergency_J30
  rw [h.gv (by decide) hy, h.gv (by decide) he]
  refine m_set h (by omega) (m_has hem (fun c => ⟨fun _ => ⟨N + 1, m_byEm1 hN hK hm hk he hem hr h hp hp2 q1 q0 N 0 0 (by omega) (V.f (fun r => r.1 c))⟩, fun c => absurd c (by decide)⟩) (fun c => ⟨fun c => absurd rfl c, fun _ => ⟨N + 1, m_byEm1 hN hK hm hk he hem hr h hp hp2 q1 q0 N 0 1 (by omega) (V.t ⟨c, fun b hb => by omega⟩)⟩⟩))
def okL (A : AS) (y b : Nat) : Prop := bt (A 2 y 0) b = true → A 1 b 6 = 1 ∧ ¬ A 0 0 3 - A 1 b 7 < A 1 b 1
def lgP (A : AS) (y b : Nat) : Prop := bt (A 2 y 0) b = true ∧ A 1 b 6 = 1 ∧ ¬ A 0 0 3 - A 1 b 7 < A 1 b 2
def idP (A : AS) (y b : Nat) : Prop := bt (A 2 y 0) b = true → A 1 b 9 < 0 ∨ ¬ A 0 0 3 - A 1 b 9 < A 1 b 3
def heldP (A : AS) (y : Nat) : Prop := ¬ A 0 0 10 ≤ 0 ∧ y = 0 ∧ lo A < A 0 0 12
def forcedP (A : AS) (y : Nat) : Prop := ¬ A 0 0 10 ≤ 0 ∧ ¬ y = 0 ∧ ¬ lo A < A 2 y 1
def goC (A : AS) (N y : Nat) (c0 : Prop) : Prop := (c0 ∧ ∀ b, b < N → okL A y b) ∧ ¬ heldP A y ∧ (forcedP A y ∨ (∃ b, b < N ∧ lgP A y b) ∨ ∀ b, b < N → idP A y b)
theorem m_265 {v : Lf} {Q : Lf → Prop} {x2 x3 x4 x5 x6 : Int32} {P3 P4 P5 P6 : Prop} (h3 : V x3 P3) (h4 : V x4 P4) (h5 : V x5 P5) (h6 : V x6 P6) (q1 : P3 → P6 ∨ P4 ∨ P5 → pX10_changesByCalls_J285 Q v x2) (q0 : ¬ (P3 ∧ (P6 ∨ P4 ∨ P5)) → Q v) : pX10_changesByCalls_J265 Q v x2 x3 x4 x5 x6 := by
  unfold pX10_changesByCalls_J265
  refine ⟨fun c => q0 (fun r => h3.e.mp c r.1), fun c => ⟨fun c6 => q1 (h3.ne.mp c) (.inl (h6.ne.mp c6)), fun c6 => ⟨fun c4 => q1 (h3.ne.mp c) (.inr (.inl (h4.ne.mp c4))), fun c4 => ⟨fun c5 => q1 (h3.ne.mp c) (.inr (.inr (h5.ne.mp c5))), fun c5 => q0 (fun r => r.2.elim (h6.e.mp c6) (fun r => r.elim (h4.e.mp c4) (h5.e.mp c5)))⟩⟩⟩⟩
theorem n0 {y : Nat} (h : y < 2 ^ 31) : nI y = 0 ↔ y = 0 := nI_eq (b := 0) h (by decide)
theorem m_calls1 {v : Lf} {N y : Nat} (hN : N ≤ 8) (hy2 : y < 6) {Q : Lf → Prop} {S : Nat → Int32} {A : AS} (hm : A 0 0 13 = nI N) (hy : A 0 0 4 = nI y) (h : Ab S A) {x2 : Int32} {c0 : Prop} (q1 : goC A N y c0 → pX10_changesByCalls_J285 Q (sa v 1 S) x2) (q0 : ¬ goC A N y c0 → Q (sa v 1 S)) : ∀ (k i : Nat) (x3 x4 x5 : Int32), i + k = N → V x3 (c0 ∧ ∀ b, b < i → okL A y b) → V x4 (∃ b, b < i ∧ lgP A y b) → V x5 (True ∧ ∀ b, b < i → idP A y b) → pX10_changesByCalls_L35 Q (k + 1) (sa v 1 S) (A 2 y 0) x2 x3 x4 x5 (nI i) := by
  intro k
  induction k with
  | zero =>
    intro i x3 x4 x5 hi h3 h4 h5
    rw [show i = N by omega] at h3 h4 h5
    refine hdE (h.gv (by decide) hm) (by omega) ?_
    have h5 : V x5 (∀ b, b < N → idP A y b) := h5.same ⟨fun r => r.2, fun r => ⟨trivial, r⟩⟩
    rw [h.gw (k := 10) (by decide), h.gv (v := v) (k := 4) (by decide) hy, h.gw (k := 12) (by decide)]
    refine ⟨fun c => m_265 h3 h4 h5 (V.f (P := forcedP A y) (fun r => r.1 c)) (fun r1 r2 => q1 ⟨r1, fun r => r.1 c, r2⟩) (fun r => q0 (fun s => r ⟨s.1, s.2.2⟩)), fun c => ⟨fun c2 => ?_, fun c2 => ?_⟩⟩
    · have ny : ¬ y = 0 := fun e => c2 ((n0 (by omega)).mpr e)
      refine m_local h (fun e => c (by rw [e]; decide)) ?_
      rw [show (216 : Int32) + (3 : Int32) * nI y + (1 : Int32) = nI (216 + 3 * y + 1) from ix216 y 1, nI_clamp (by omega), sa_self, show S (216 + 3 * y + 1) = A 2 y 1 from h 2 y 1 ⟨hy2, by decide⟩]
      have fin : ∀ x6, V x6 (forcedP A y) → pX10_changesByCalls_J263 Q (sa v 1 S) x2 x3 x4 x5 x6 := fun x6 h6 =>
        m_265 h3 h4 h5 h6 (fun r1 r2 => q1 ⟨r1, fun r => ny r.2.1, r2⟩) (fun r => q0 (fun s => r ⟨s.1, s.2.2⟩))
      exact ⟨vp_in_nI (by omega) (by decide), fun c3 => fin 0 (V.f (fun r => r.2.2 c3)), fun c3 => fin 1 (V.t ⟨c, ny, c3⟩)⟩
    · have ey : y = 0 := (n0 (by omega)).mp c2
      have h6 : V 0 (forcedP A y) := V.f (fun r => r.2.1 ey)
      have fin : ∀ x, V x (¬ heldP A y) → pX10_changesByCalls_J227 Q (sa v 1 S) x2 x4 x5 0 x3 x := fun x hx =>
        m_265 (h3.and hx Iff.rfl) h4 h5 h6 (fun r1 r2 => q1 ⟨r1.1, r1.2, r2⟩) (fun r => q0 (fun s => r ⟨⟨s.1, s.2.1⟩, s.2.2⟩))
      refine m_local h (fun e => c (by rw [e]; decide)) ?_
      exact ⟨fun c3 => fin 0 (V.f (fun r => r ⟨c, ey, c3⟩)), fun c3 => fin 1 (V.t (fun r => c3 r.2.2))⟩
  | succ k ih =>
    intro i x3 x4 x5 hi h3 h4 h5
    have lst : ∀ z3 z4 z5, V z3 (c0 ∧ ∀ b, b < i + 1 → okL A y b) → V z4 (∃ b, b < i + 1 ∧ lgP A y b) → V z5 (True ∧ ∀ b, b < i + 1 → idP A y b) → pX10_changesByCalls_J179 Q (fun v x1 x2 x3 x4 x5 x6 => pX10_changesByCalls_L35 Q (k + 1) v x1 x2 x3 x4 x5 x6) (sa v 1 S) (A 2 y 0) x2 z3 z4 z5 (nI i) := by
      intro z3 z4 z5 e3 e4 e5
      unfold pX10_changesByCalls_J179
      rw [nI_s]
      exact ih (i + 1) _ _ _ (by omega) e3 e4 e5
    refine hdG (h.gv (by decide) hm) (by omega) (by omega) (m_has (by omega) (fun c1 => ⟨fun _ => ?_, fun c => absurd c (by decide)⟩) (fun c1 => ⟨fun c => absurd rfl c, fun _ => ?_⟩))
    · -- in the set
      have j5 : ∀ z3 z4, V z3 (c0 ∧ ∀ b, b < i + 1 → okL A y b) → V z4 (∃ b, b < i + 1 ∧ lgP A y b) → pX10_at (sa v 1 S) (nI i) 9 (fun r41 => ((r41 < 0 → (pX10_changesByCalls_J171 Q (fun v x1 x2 x3 x4 x5 x6 => pX10_changesByCalls_L35 Q (k + 1) v x1 x2 x3 x4 x5 x6) (sa v 1 S) (A 2 y 0) x2 z3 z4 (nI i) x5)) ∧ (¬ r41 < 0 → (pX10_at (sa v 1 S) (nI i) (9 : Int32) (fun r44 => (pX10_at (sa v 1 S) (nI i) (3 : Int32) (fun r45 => (((((sa v 1 S) 1 3) - r44) < r45 → (pX10_changesByCalls_J176 Q (fun v x1 x2 x3 x4 x5 x6 => pX10_changesByCalls_L35 Q (k + 1) v x1 x2 x3 x4 x5 x6) (sa v 1 S) (A 2 y 0) x2 z3 z4 (nI i) x5 (0 : Int32))) ∧ (¬ (((sa v 1 S) 1 3) - r44) < r45 → (pX10_changesByCalls_J171 Q (fun v x1 x2 x3 x4 x5 x6 => pX10_changesByCalls_L35 Q (k + 1) v x1 x2 x3 x4 x5 x6) (sa v 1 S) (A 2 y 0) x2 z3 z4 (nI i) x5)))))))))) := by
        intro z3 z4 e3 e4
        have y1 : idP A y i → pX10_changesByCalls_J171 Q (fun v x1 x2 x3 x4 x5 x6 => pX10_changesByCalls_L35 Q (k + 1) v x1 x2 x3 x4 x5 x6) (sa v 1 S) (A 2 y 0) x2 z3 z4 (nI i) x5 := fun r => lst z3 z4 _ e3 e4 (h5.and (V.t r) all_s)
        refine m_at h 9 (by omega) (by decide) ⟨fun c => y1 (fun _ => .inl c), fun c => m_at h 9 (by omega) (by decide) (m_at h 3 (by omega) (by decide) ?_)⟩
        rw [h.gw (k := 3) (by decide)]
        exact ⟨fun c3 => lst z3 z4 _ e3 e4 (h5.and (V.f (fun r => (r c1).elim c (fun r => r c3))) all_s), fun c3 => y1 (fun _ => .inr c3)⟩
      have j4 : ∀ z3, V z3 (okL A y i) → pX10_changesByCalls_J93 Q (fun v x1 x2 x3 x4 x5 x6 => pX10_changesByCalls_L35 Q (k + 1) v x1 x2 x3 x4 x5 x6) (sa v 1 S) (A 2 y 0) x2 x4 x5 (nI i) x3 z3 := by
        intro z3 e3
        unfold pX10_changesByCalls_J93
        have e3 := h3.and e3 all_s
        have no : ¬ lgP A y i → pX10_changesByCalls_J129 Q (fun v x1 x2 x3 x4 x5 x6 => pX10_changesByCalls_L35 Q (k + 1) v x1 x2 x3 x4 x5 x6) (sa v 1 S) (A 2 y 0) x2 (x3 &&& z3) x5 (nI i) x4 := fun r => j5 _ _ e3 (h4.or (V.f r) ex_s)
        refine m_at h 6 (by omega) (by decide) ⟨fun c => no (fun r => c r.2.1), fun c => m_greenFor h (by omega) (m_at h 2 (by omega) (by decide) ⟨fun c2 => no (fun r => r.2.2 c2), fun c2 => j5 _ _ e3 (h4.or (V.t ⟨c1, c, c2⟩) ex_s)⟩)⟩
      refine m_at h 6 (by omega) (by decide) ⟨fun c => j4 0 (V.f (fun r => c (r c1).1)), fun c => m_greenFor h (by omega) (m_at h 1 (by omega) (by decide) ⟨fun c2 => j4 0 (V.f (fun r => (r c1).2 c2)), fun c2 => j4 1 (V.t (fun _ => ⟨c, c2⟩))⟩)⟩
    · have s3 : V x3 (c0 ∧ ∀ b, b < i + 1 → okL A y b) := h3.same ⟨fun r => all_s.mpr ⟨r, fun c => absurd c c1⟩, fun r => (all_s.mp r).1⟩
      have s4 : V x4 (∃ b, b < i + 1 ∧ lgP A y b) := h4.same ⟨fun r => ex_s.mpr (.inl r), fun r => (ex_s.mp r).resolve_right (fun c => c1 c.1)⟩
      have s5 : V x5 (True ∧ ∀ b, b < i + 1 → idP A y b) := h5.same ⟨fun r => all_s.mpr ⟨r, fun c => absurd c c1⟩, fun r => (all_s.mp r).1⟩
      exact lst _ _ _ s3 s4 s5
theorem least {R : Nat → Prop} : ∀ {d : Nat}, R d → ∃ d, R d ∧ ∀ e, e < d → ¬ R e := by
  intro d
  induction d using Nat.strongRecOn with
  | _ d ih =>
    intro h
    by_cases c : ∃ e, e < d ∧ R e
    · obtain ⟨e, h1, h2⟩ := c
      exact ih e h1 h2
    · exact ⟨d, h, fun e he r => c ⟨e, he, r⟩⟩
def NXT (A : AS) (K y : Nat) (cs : Int32) (p : Nat) : Prop := p < K ∧ bt cs p = true ∧ (A 0 0 5 = nI p ∨ ((¬ ∃ c, c < K ∧ A 0 0 5 = nI c ∧ bt cs c = true) ∧ ∃ d, p = (y + 1 + d) % K ∧ ∀ e, e < d → ¬ bt cs ((y + 1 + e) % K) = true))
theorem NXT.uniq {A : AS} {K y : Nat} {cs : Int32} {p r : Nat} (hK : K ≤ 6) (h : NXT A K y cs p) (h2 : NXT A K y cs r) : p = r := by
  obtain ⟨h1, h3, h4⟩ := h
  obtain ⟨g1, g3, g4⟩ := h2
  rcases h4 with h4 | ⟨h4, d, e1, e2⟩ <;> rcases g4 with g4 | ⟨g4, d2, f1, f2⟩
  · exact nI_inj (by omega) (by omega) (h4.symm.trans g4)
  · exact absurd ⟨p, h1, h4, h3⟩ g4
  · exact absurd ⟨r, g1, g4, g3⟩ h4
  · rcases Nat.lt_trichotomy d d2 with l | l | l
    · exact absurd (e1 ▸ h3) (f2 d l)
    · rw [e1, f1, l]
    · exact absurd (f1 ▸ g3) (e2 d2 l)
theorem rm6 : ∀ K, K < 7 → ∀ p, p < K → (nI p + 1) - (nI p + 1) / nI K * nI K = nI ((p + 1) % K) := by decide +kernel
theorem m_find {v : Lf} {Q : Lf → Prop} {S : Nat → Int32} {A : AS} {K : Nat} (hK : K ≤ 6) (h : Ab S A) (hk : A 0 0 14 = nI K) {cs : Int32} : ∀ (d p : Nat), p < K → bt cs ((p + d) % K) = true → (∀ e, e < d → ¬ bt cs ((p + e) % K) = true) → pX10_changesByCalls_J351 Q (sa v 1 S) (nI ((p + d) % K)) → pX10_changesByCalls_L325 Q (d + 1) (sa v 1 S) cs (nI p) := by
  intro d
  induction d with
  | zero =>
    intro p hp h1 h2 q
    rw [Nat.add_zero, Nat.mod_eq_of_lt hp] at h1 q
    exact m_has (by omega) (fun c1 => ⟨fun _ => q, fun c => absurd c (by decide)⟩) (fun c1 => absurd h1 c1)
  | succ d ih =>
    intro p hp h1 h2 q
    have h0 := h2 0 (by omega)
    rw [Nat.add_zero, Nat.mod_eq_of_lt hp] at h0
    refine m_has (by omega) (fun c1 => absurd c1 h0) (fun c1 => ⟨fun c => absurd rfl c, fun _ => ?_⟩)
    rw [h.gv (v := v) (by decide) hk, rm6 K (by omega) p hp]
    have e : ∀ z, ((p + 1) % K + z) % K = (p + (z + 1)) % K := fun z => by
      rw [Nat.mod_add_mod]
      congr 1
      omega
    refine ⟨fun c => by have := (n0 (by omega)).mp c; omega, ih ((p + 1) % K) (Nat.mod_lt _ (by omega)) (by rw [e]; exact h1) (fun z hz => by rw [e]; exact h2 (z + 1) (by omega)) (by rw [e]; exact q)⟩
theorem m_next {v : Lf} {Q : Lf → Prop} {S : Nat → Int32} {A : AS} {K y : Nat} (hK : K ≤ 6) (hy2 : y < K) (h : Ab S A) (hk : A 0 0 14 = nI K) (hy : A 0 0 4 = nI y) (hc : A 0 0 5 = -5 ∨ ∃ c, c < K ∧ A 0 0 5 = nI c) {cs : Int32} (hs : ∃ b, b < K ∧ bt cs b = true) (q : ∀ p, NXT A K y cs p → pX10_changesByCalls_J351 Q (sa v 1 S) (nI p)) : pX10_changesByCalls_J285 Q (sa v 1 S) cs := by
  unfold pX10_changesByCalls_J285
  have J : (¬ ∃ c, c < K ∧ A 0 0 5 = nI c ∧ bt cs c = true) → pX10_changesByCalls_J307 Q (sa v 1 S) cs := by
    intro hn
    unfold pX10_changesByCalls_J307
    rw [h.gv (v := v) (k := 14) (by decide) hk, h.gv (v := v) (k := 4) (by decide) hy, rm6 K (by omega) y hy2]
    refine ⟨fun c => by have := (n0 (by omega)).mp c; omega, ?_⟩
    obtain ⟨b, hb, hb2⟩ := hs
    have e : ∀ z, ((y + 1) % K + z) % K = (y + 1 + z) % K := fun z => by rw [Nat.mod_add_mod]
    obtain ⟨d, h1, h2⟩ := least (R := fun d => bt cs (((y + 1) % K + d) % K) = true) (d := b + K - (y + 1)) (by
      show bt cs (((y + 1) % K + (b + K - (y + 1))) % K) = true
      rw [e, show y + 1 + (b + K - (y + 1)) = b + K by omega, Nat.add_mod_right, Nat.mod_eq_of_lt hb]
      exact hb2)
    exact ⟨d + 1, m_find hK h hk d _ (Nat.mod_lt _ (by omega)) h1 h2 (q _ ⟨Nat.mod_lt _ (by omega), h1, .inr ⟨hn, d, e d, fun z hz => by rw [← e]; exact h2 z hz⟩⟩)⟩
  rcases hc with hc | ⟨c, hc1, hc⟩
  · rw [h.gv (v := v) (k := 5) (by decide) hc]
    refine ⟨fun _ => J ?_, fun c => absurd (by decide) c⟩
    rintro ⟨c, c1, c2, -⟩
    rw [hc] at c2
    have := congrArg Int32.toInt c2
    rw [nI_toInt (by omega)] at this
    have e : (-5 : Int32).toInt = -5 := by decide
    omega
  · rw [h.gv (v := v) (k := 5) (by decide) hc]
    have ng : ¬ nI c < 0 := fun r => by
      have := (nlt (b := 0) (by omega) (by decide)).mp r
      omega
    refine ⟨fun r => absurd r ng, fun _ => m_has (by omega) (fun c1 => ⟨fun _ => q c ⟨hc1, c1, .inl hc⟩, fun r => absurd r (by decide)⟩) (fun c1 => ⟨fun r => absurd rfl r, fun _ => J ?_⟩)⟩
    rintro ⟨d, d1, d2, d3⟩
    have : c = d := nI_inj (by omega) (by omega) (hc.symm.trans d2)
    exact c1 (this ▸ d3)
theorem bt_ne0 {x : Int32} {i : Nat} (h : bt x i = true) : ¬ x = 0 := fun e => by rw [e, b_0] at h; exact absurd h (by decide)
theorem ne0_bt {x : Int32} (h : ¬ x = 0) : ∃ i, i < 32 ∧ bt x i = true := by
  by_cases c : ∃ i, i < 32 ∧ bt x i = true
  · exact c
  · exact absurd (b_ext (fun i hi => by
      rw [b_0]
      cases e : bt x i
      · rfl
      · exact absurd ⟨i, hi, e⟩ c)) h
theorem m_byCalls {v : Lf} {N K y : Nat} (hN : N ≤ 8) (hK : K ≤ 6) {Q : Lf → Prop} {S : Nat → Int32} {A : AS} (hm : A 0 0 13 = nI N) (hk : A 0 0 14 = nI K) (hy : A 0 0 4 = nI y) (hy2 : y < K) (hc : A 0 0 5 = -5 ∨ ∃ c, c < K ∧ A 0 0 5 = nI c) (hr : rOk A) (h : Ab S A) {cs : Int32} (hcs : Bits cs (fun p => p < K ∧ calledP A N p)) (q1 : goC A N y (¬ cs = 0) → ∀ p, NXT A K y cs p → ∀ S', Ab S' (changesA N p (U A 0 0 5 (-5))) → Q (sa v 1 S')) (q0 : ¬ goC A N y (¬ cs = 0) → Q (sa v 1 S)) : pX10_changesByCalls (sa v 1 S) Q := by
  unfold pX10_changesByCalls
  rw [h.gv (v := v) (k := 4) (by decide) hy]
  refine m_set h (by omega) ⟨K + 1, m_called hN hK hm hk h (fun r hr2 => ?_) K 0 0 (by omega) (Bits.zero' (fun i _ c => by omega))⟩
  rw [hr2.eq hcs]
  have go : ∀ x, V x (¬ cs = 0) → pX10_changesByCalls_J25 Q (sa v 1 S) (A 2 y 0) cs x := by
    intro x hx
    refine ⟨N + 1, m_calls1 hN (by omega) hm hy h (c0 := ¬ cs = 0) (fun g => ?_) q0 N 0 x 0 1 (by omega) (hx.same ⟨fun r => ⟨r, fun b hb => by omega⟩, fun r => r.1⟩) (V.f (fun ⟨b, hb, _⟩ => by omega)) (V.t ⟨trivial, fun b hb => by omega⟩)⟩
    have hs : ∃ b, b < K ∧ bt cs b = true := by
      obtain ⟨i, hi, hb⟩ := ne0_bt g.1.1
      exact ⟨i, ((hcs i hi).mp hb).1, hb⟩
    refine m_next hK hy2 h hk hy hc hs (fun p hp => ?_)
    unfold pX10_changesByCalls_J351
    rw [st_sa1]
    have h1 := h.ug (k := 5) (by decide) (-5)
    exact ⟨N + 1, m_changes hN (by have := hp.1; omega) N 0 (by omega) (by simp [U_at, hm]) (by simpa [rOk, U_at] using hr) h1 (q1 g p hp)⟩
  exact ⟨fun c => go 0 (V.f (fun r => r c)), fun c => go 1 (V.t c)⟩

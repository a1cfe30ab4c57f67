theorem hdE {x : Int32} {P R : Prop} {N i : Nat} (e : x = nI N) (hi : i = N) (p : P) : (x ≤ nI i → P) ∧ (¬ x ≤ nI i → R) := by
  subst hi
  rw [e]
  exact ⟨fun _ => p, fun c => absurd (i_le.mpr (Int.le_refl _)) c⟩
theorem hdG {x : Int32} {P R : Prop} {N i : Nat} (e : x = nI N) (hi : i < N) (b : N < 2 ^ 31) (p : R) : (x ≤ nI i → P) ∧ (¬ x ≤ nI i → R) := by
  rw [e]
  exact ⟨fun c => absurd ((nle b (by omega)).mp c) (by omega), fun _ => p⟩
theorem Ab.gv {S : Nat → Int32} {A : AS} (h : Ab S A) {v : Lf} {k : Nat} (hk : k < 24) {x : Int32} (e : A 0 0 k = x) : sa v 1 S 1 k = x := by
  rw [sa_self, h.gl hk, e]
theorem Ab.gw {S : Nat → Int32} {A : AS} (h : Ab S A) {v : Lf} {k : Nat} (hk : k < 24) : sa v 1 S 1 k = A 0 0 k := by
  rw [sa_self, h.gl hk]
theorem Ab.ug {S : Nat → Int32} {A : AS} (h : Ab S A) {k : Nat} (hk : k < 24) (x : Int32) : Ab (upd S k x) (U A 0 0 k x) := h.up (x := 0) (i := 0) (k := k) ⟨rfl, hk⟩ x
theorem lp_inv {α : Type} {f : Nat → α → α} (P : α → Prop) (h : ∀ i x, P x → P (f i x)) : ∀ k i x, P x → P (lp f k i x) := by
  intro k
  induction k with
  | zero => exact fun _ _ q => q
  | succ k ih => exact fun i x q => ih _ _ (h i x q)
theorem go_gl (k i : Nat) (A : AS) {g : Nat} (hg : g ≠ 8) : lp goS k i A 0 0 g = A 0 0 g := by
  refine lp_inv (fun B : AS => B 0 0 g = A 0 0 g) (fun i B h => ?_) k i A rfl
  unfold goS
  split
  · exact h
  · simp [go1, U_at, hg, h]
def quS (A : AS) (i : Nat) (x : Int32) : Int32 := x + A 1 i 5
theorem m_queues {v : Lf} {N : Nat} (hN : N ≤ 8) {Q : Int32 → Prop} {S : Nat → Int32} {A : AS} (hm : A 0 0 13 = nI N) (h : Ab S A) : ∀ (k i : Nat) (x : Int32), i + k = N → Q (lp (quS A) k i x) → pX10_queues_L4 (sa v 1 S) Q (k + 1) x (nI i) := by
  intro k
  induction k with
  | zero =>
    intro i x hi q
    exact hdE (h.gv (by decide) hm) (by omega) q
  | succ k ih =>
    intro i x hi q
    refine hdG (h.gv (by decide) hm) (by omega) (by omega) (m_at h 5 (by omega) (by decide) ?_)
    rw [nI_s]
    exact ih _ _ (by omega) q
def endsS (N : Nat) (A : AS) : AS := U (U (lp goS N 0 A) 0 0 7 (lp goS N 0 A 0 0 7 + lp (quS (lp goS N 0 A)) N 0 0)) 0 0 3 (A 0 0 3 + 1)
theorem m_ends {v : Lf} {N : Nat} (hN : N ≤ 8) {Q : Lf → Prop} {S : Nat → Int32} {A : AS} (hm : A 0 0 13 = nI N) (h : Ab S A) (q : ∀ S', Ab S' (endsS N A) → Q (sa v 1 S')) : pX10_ends (sa v 1 S) Q := by
  refine ⟨N + 1, m_going hN N 0 (by omega) hm h (fun S1 h1 => ⟨N + 1, m_queues hN (by rw [go_gl _ _ _ (by decide), hm]) h1 N 0 0 (by omega) ?_⟩)⟩
  rw [st_sa1, st_sa1, sa_self]
  refine q _ ?_
  have e := (h1.ug (k := 7) (by decide) (lp goS N 0 A 0 0 7 + lp (quS (lp goS N 0 A)) N 0 0))
  have e2 := e.ug (k := 3) (by decide) (A 0 0 3 + 1)
  rw [h1.gl (k := 7) (by decide), sa_self, e.gl (k := 3) (by decide)]
  have e3 : U (lp goS N 0 A) 0 0 7 (lp goS N 0 A 0 0 7 + lp (quS (lp goS N 0 A)) N 0 0) 0 0 3 = A 0 0 3 := by
    simp [U_at, go_gl]
  rw [e3]
  exact e2
def mtP (C : Nat → Int32) (A : AS) (a b : Nat) : Prop := 0 ≤ C (8 * a + b) → ¬ A 1 b 8 < 0 → C (8 * b + a) ≤ A 0 0 3 - A 1 b 8
theorem n_le {a b : Int32} : ¬ a < b ↔ b ≤ a := by rw [i_lt, i_le]; omega
theorem n_lt {a b : Int32} : ¬ a ≤ b ↔ b < a := by rw [i_lt, i_le]; omega
theorem ix8 (a b : Nat) : (8 : Int32) * nI a + nI b = nI (8 * a + b) := by
  show nI 8 * nI a + nI b = _
  rw [pk_mul, nI_add]
theorem m_meet {v : Lf} {S : Nat → Int32} {a b : Nat} (ha : a < 8) (hb : b < 8) {Q : Int32 → Prop} (q1 : 0 ≤ v 4 (8 * a + b) → Q 1) (q0 : ¬ 0 ≤ v 4 (8 * a + b) → Q 0) : pX10_meet (sa v 1 S) (nI a) (nI b) Q := by
  refine (w_meetM _ (by omega) Q).mpr ?_
  rw [sa_ne _ _ (by decide)]
  by_cases c : 0 ≤ v 4 (8 * a + b)
  · rw [if_pos c]; exact q1 c
  · rw [if_neg c]; exact q0 c
theorem m_mayTurn {v : Lf} {N : Nat} (hN : N ≤ 8) {Q : Int32 → Prop} {S : Nat → Int32} {A : AS} (hm : A 0 0 13 = nI N) (h : Ab S A) {a : Nat} (ha : a < 8) : ∀ (k i : Nat), i + k = N → ((∀ b, i ≤ b → b < N → mtP (v 4) A a b) → Q 1) → ((¬ ∀ b, i ≤ b → b < N → mtP (v 4) A a b) → Q 0) → pX10_mayTurn_L2 (sa v 1 S) (nI a) Q (k + 1) (nI i) := by
  intro k
  induction k with
  | zero =>
    intro i hi q1 q0
    exact hdE (h.gv (by decide) hm) (by omega) (q1 (fun b h1 h2 => by omega))
  | succ k ih =>
    intro i hi q1 q0
    have go : mtP (v 4) A a i → pX10_mayTurn_J62 (sa v 1 S) (nI a) Q (fun x2 => pX10_mayTurn_L2 (sa v 1 S) (nI a) Q (k + 1) x2) (nI i) := by
      intro hp
      unfold pX10_mayTurn_J62
      rw [nI_s]
      have key : (∀ b, i + 1 ≤ b → b < N → mtP (v 4) A a b) → (∀ b, i ≤ b → b < N → mtP (v 4) A a b) := by
        intro q b h1 h2
        rcases Nat.eq_or_lt_of_le h1 with e | e
        · exact e ▸ hp
        · exact q b e h2
      exact ih (i + 1) (by omega) (fun q => q1 (key q)) (fun q => q0 (fun r => q (fun b h1 h2 => r b (by omega) h2)))
    refine hdG (h.gv (by decide) hm) (by omega) (by omega) (m_meet ha (by omega) (fun c1 => ⟨fun c => absurd c (by decide), fun _ => ?_⟩) (fun c1 => ⟨fun _ => go (fun c => absurd c c1), fun c => absurd rfl c⟩))
    refine m_at h 8 (by omega) (by decide) ⟨fun c2 => go (fun _ c => absurd c2 c), fun c2 => m_at h 8 (by omega) (by decide) ?_⟩
    rw [ix8, nI_clamp (by omega), h.gw (by decide), sa_ne _ _ (by decide)]
    refine ⟨vp_in_nI (by omega) (by decide), fun c3 => go (fun _ _ => c3), fun c3 => q0 (fun r => c3 (r i (by omega) (by omega) c1 c2))⟩
noncomputable def turnS (C : Nat → Int32) (N q i : Nat) (A : AS) : AS := @ite AS (bt (A 2 q 0) i = true ∧ ¬ A 1 i 6 = 1 ∧ (∀ b, 0 ≤ b → b < N → mtP C A i b)) (Classical.propDecidable _) (U (U (U A 1 i 6 1) 1 i 7 (A 0 0 3)) 1 i 20 (A 1 i 20 + 1)) A
theorem m_has {x : Int32} {i : Nat} (hi : i < 32) {Q : Int32 → Prop} (q1 : bt x i = true → Q 1) (q0 : ¬ bt x i = true → Q 0) : pX10_has x (nI i) Q := by
  refine (w_has x hi Q).mpr ?_
  by_cases c : bt x i = true
  · rw [if_pos c]; exact q1 c
  · rw [if_neg c]; exact q0 c
theorem m_turning {v : Lf} {N y : Nat} (hN : N ≤ 8) (hy : y < 6) {Q : Lf → Prop} : ∀ (k i : Nat) {S : Nat → Int32} {A : AS}, i + k = N → A 0 0 13 = nI N → A 0 0 4 = nI y → Ab S A → (∀ S', Ab S' (lp (turnS (v 4) N y) k i A) → Q (sa v 1 S')) → pX10_turning_L2 Q (k + 1) (sa v 1 S) (nI i) := by
  intro k
  induction k with
  | zero =>
    intro i S A hi hm hc h q
    exact hdE (h.gv (by decide) hm) (by omega) (q S h)
  | succ k ih =>
    intro i S A hi hm hc h q
    refine hdG (h.gv (by decide) hm) (by omega) (by omega) ?_
    rw [h.gv (v := v) (by decide) hc]
    have no : ¬ (bt (A 2 y 0) i = true ∧ ¬ A 1 i 6 = 1 ∧ (∀ b, 0 ≤ b → b < N → mtP (v 4) A i b)) → pX10_turning_J89 Q (fun v x1 => pX10_turning_L2 Q (k + 1) v x1) (sa v 1 S) (nI i) := by
      intro c
      unfold pX10_turning_J89
      rw [nI_s]
      refine ih (i + 1) (by omega) hm hc h ?_
      simpa only [lp, turnS, if_neg c] using q
    refine m_set h hy (m_has (by omega) (fun c1 => ⟨fun c => absurd c (by decide), fun _ => ?_⟩) (fun c1 => ⟨fun _ => no (fun c => c1 c.1), fun c => absurd rfl c⟩))
    refine m_at h 6 (by omega) (by decide) ⟨fun c2 => no (fun c => c.2.1 c2), fun c2 => ⟨N + 1, m_mayTurn hN hm h (by omega) N 0 (by omega) (fun c3 => ⟨fun _ => ?_, fun c => absurd c (by decide)⟩) (fun c3 => ⟨fun c => absurd rfl c, fun _ => no (fun c => c3 c.2.2)⟩)⟩⟩
    refine m_puts h 6 (by omega) (by decide) (fun S1 h1 => ?_)
    rw [h1.gw (by decide)]
    refine m_puts h1 7 (by omega) (by decide) (fun S2 h2 => m_at h2 20 (by omega) (by decide) (m_puts h2 20 (by omega) (by decide) (fun S3 h3 => ?_)))
    unfold pX10_turning_J89
    rw [nI_s]
    refine ih (i + 1) (by omega) (by simp [U_at, hm]) (by simp [U_at, hc]) h3 ?_
    simp only [lp, turnS, if_pos (And.intro c1 (And.intro c2 c3))] at q
    simpa [U_at] using q

abbrev WvR (w : Lf) (A : AS) : Prop := (w 0 0 = A 0 0 16) ∧ (w 0 1 = A 0 0 17) ∧ (∃ R, 20 ≤ R ∧ R ≤ 60 ∧ A 0 0 16 = nI R ∧ ∃ n, n ≤ 5 ∧ A 0 0 17 = nI n ∧ ∀ i, i < n → (∀ k, k < 3 → w 1 (i * 3 + k) = A 4 i k) ∧ (∃ q, q < R ∧ A 4 i 0 = nI q) ∧ (∃ q, 1 ≤ q ∧ q ≤ R ∧ A 4 i 1 = nI q) ∧ qb (A 4 i 2) 99)
theorem WvR.rd {w : Lf} {A : AS} (h : WvR w A) : w 0 0 = A 0 0 16 := h.1
theorem WvR.n {w : Lf} {A : AS} (h : WvR w A) : w 0 1 = A 0 0 17 := h.2.1
theorem WvR.rdok {w : Lf} {A : AS} (h : WvR w A) : ∃ R, 20 ≤ R ∧ R ≤ 60 ∧ A 0 0 16 = nI R ∧ ∃ n, n ≤ 5 ∧ A 0 0 17 = nI n ∧ ∀ i, i < n → (∀ k, k < 3 → w 1 (i * 3 + k) = A 4 i k) ∧ (∃ q, q < R ∧ A 4 i 0 = nI q) ∧ (∃ q, 1 ≤ q ∧ q ≤ R ∧ A 4 i 1 = nI q) ∧ qb (A 4 i 2) 99 := h.2.2
abbrev GtR (N : Nat) (g : Lf) (A : AS) : Prop := (g 0 0 = A 0 0 18) ∧ (g 0 1 = 8) ∧ (∃ n, n ≤ 8 ∧ A 0 0 18 = nI n ∧ ∀ i, i < n → (∀ k, k < 3 → g 1 (i * 3 + k) = A 5 i k) ∧ (∃ a, a < N ∧ A 5 i 0 = nI a) ∧ qb (A 5 i 1) 9999 ∧ qb (A 5 i 2) 9999)
theorem GtR.n {N : Nat} {g : Lf} {A : AS} (h : GtR N g A) : g 0 0 = A 0 0 18 := h.1
theorem GtR.most {N : Nat} {g : Lf} {A : AS} (h : GtR N g A) : g 0 1 = 8 := h.2.1
theorem GtR.row {N : Nat} {g : Lf} {A : AS} (h : GtR N g A) : ∃ n, n ≤ 8 ∧ A 0 0 18 = nI n ∧ ∀ i, i < n → (∀ k, k < 3 → g 1 (i * 3 + k) = A 5 i k) ∧ (∃ a, a < N ∧ A 5 i 0 = nI a) ∧ qb (A 5 i 1) 9999 ∧ qb (A 5 i 2) 9999 := h.2.2
abbrev NtR (z : Lf) (A : AS) : Prop := (z 0 0 = A 0 0 19) ∧ (z 0 1 = 5) ∧ (∃ m, m ≤ 5 ∧ A 0 0 19 = nI m ∧ ∀ i, i < m → ∀ k, k < 2 → z 1 (i * 3 + k) = A 6 i k)
theorem NtR.n {z : Lf} {A : AS} (h : NtR z A) : z 0 0 = A 0 0 19 := h.1
theorem NtR.most {z : Lf} {A : AS} (h : NtR z A) : z 0 1 = 5 := h.2.1
theorem NtR.row {z : Lf} {A : AS} (h : NtR z A) : ∃ m, m ≤ 5 ∧ A 0 0 19 = nI m ∧ ∀ i, i < m → ∀ k, k < 2 → z 1 (i * 3 + k) = A 6 i k := h.2.2
abbrev PlR (q : Lf) (A : AS) : Prop := (q 0 0 = A 0 0 20) ∧ (q 0 1 = 8) ∧ (∃ m, m ≤ 8 ∧ A 0 0 20 = nI m ∧ ∀ i, i < m → (∀ k, k < 2 → q 1 (i * 3 + k) = A 7 i k) ∧ ((A 7 i 0 = 0 ∧ qb (A 7 i 1) 99) ∨ (A 7 i 0 = 1 ∧ qb (A 7 i 1) 7) ∨ A 7 i 0 = 2 ∨ (A 7 i 0 = 3 ∧ qb (A 7 i 1) 7)))
theorem PlR.n {q : Lf} {A : AS} (h : PlR q A) : q 0 0 = A 0 0 20 := h.1
theorem PlR.most {q : Lf} {A : AS} (h : PlR q A) : q 0 1 = 8 := h.2.1
theorem PlR.row {q : Lf} {A : AS} (h : PlR q A) : ∃ m, m ≤ 8 ∧ A 0 0 20 = nI m ∧ ∀ i, i < m → (∀ k, k < 2 → q 1 (i * 3 + k) = A 7 i k) ∧ ((A 7 i 0 = 0 ∧ qb (A 7 i 1) 99) ∨ (A 7 i 0 = 1 ∧ qb (A 7 i 1) 7) ∨ A 7 i 0 = 2 ∨ (A 7 i 0 = 3 ∧ qb (A 7 i 1) 7)) := h.2.2
abbrev SpR (N : Nat) (j s : Lf) : Prop := (∀ a, N ≤ a → a < 8 → j 2 a = 0) ∧ (∀ a, a < 8 → j 5 (a * 8 + a) = -5) ∧ (∀ a, N ≤ a → a < 8 → s 1 (a * 4) = 5 ∧ s 1 (a * 4 + 1) = 40 ∧ s 1 (a * 4 + 2) = 3 ∧ s 1 (a * 4 + 3) = 0) ∧ (∀ a, N ≤ a → a < 8 → s 3 a = -5 ∧ s 4 a = 0 ∧ s 5 a = -5 ∧ s 6 a = -5 ∧ s 7 a = 0)
theorem SpR.len {N : Nat} {j s : Lf} (h : SpR N j s) : ∀ a, N ≤ a → a < 8 → j 2 a = 0 := h.1
theorem SpR.dg {N : Nat} {j s : Lf} (h : SpR N j s) : ∀ a, a < 8 → j 5 (a * 8 + a) = -5 := h.2.1
theorem SpR.ru {N : Nat} {j s : Lf} (h : SpR N j s) : ∀ a, N ≤ a → a < 8 → s 1 (a * 4) = 5 ∧ s 1 (a * 4 + 1) = 40 ∧ s 1 (a * 4 + 2) = 3 ∧ s 1 (a * 4 + 3) = 0 := h.2.2.1
theorem SpR.nv {N : Nat} {j s : Lf} (h : SpR N j s) : ∀ a, N ≤ a → a < 8 → s 3 a = -5 ∧ s 4 a = 0 ∧ s 5 a = -5 ∧ s 6 a = -5 ∧ s 7 a = 0 := h.2.2.2
def Ro (A : AS) : Prop := ∃ m, m ≤ 24 ∧ A 0 0 15 = nI m ∧ ∀ i, i < m → A 3 i 1 ≤ A 3 i 2
theorem Ro.same {A B : AS} (h : Ro A) (e15 : B 0 0 15 = A 0 0 15) (e3 : B 3 = A 3) : Ro B := by
  unfold Ro
  rw [e15, e3]
  exact h
theorem recW_ro {A : AS} {m : Nat} (hm : m < 24) (hc : A 0 0 15 = nI m) (h : ∀ i, i < m → A 3 i 1 ≤ A 3 i 2) {i : Nat} {b e : Int32} (hbe : b ≤ e) : Ro (recW i b e A) := by
  refine ⟨m + 1, by omega, by simp [recW, U_at, hc, nI_s], fun j hj => ?_⟩
  have hcl : (A 0 0 15).toNatClampNeg = m := by rw [hc, nI_clamp (by omega)]
  by_cases c : j = m
  · subst c
    simp [recW, U_at, hcl]
    exact hbe
  · have := h j (by omega)
    simp [recW, U_at, hcl, c]
    exact this
theorem recS_def (i : Nat) (b e : Int32) (A : AS) : recS i b e A = recW i b e (if A 0 0 15 = 24 then U (shR A) 0 0 15 (A 0 0 15 - 1) else A) := rfl
theorem Ro.rcd {A : AS} (h : Ro A) {i : Nat} {b e : Int32} (hbe : b ≤ e) : Ro (recS i b e A) := by
  obtain ⟨m, hm, hc, h⟩ := h
  rw [recS_def]
  by_cases c : A 0 0 15 = 24
  · rw [if_pos c]
    have e24 : m = 24 := nI_inj (by omega) (by decide) (hc.symm.trans c)
    refine recW_ro (m := 23) (by decide) (by simp [U_at, c] <;> rfl) (fun j hj => ?_) hbe
    have := h (j + 1) (by omega)
    simp [U_at, shR, hj]
    exact this
  · rw [if_neg c]
    have : m < 24 := by
      rcases Nat.lt_or_ge m 24 with l | l
      · exact l
      · exact absurd (hc.trans (by rw [show m = 24 by omega]; rfl)) c
    exact recW_ro this hc h hbe
theorem Ro.ch {t N K : Nat} {A : AS} (ht : t < 2 ^ 30) (h : CoI t N K A) (r : Ro A) (p : Nat) {i : Nat} (hi : i < N) : Ro (chS p i A) := by
  unfold chS
  split
  · exact r
  · split
    · exact r
    · rename_i c _
      refine Ro.rcd (r.same (by simp [U_at]) (by simp [U_ne])) ?_
      obtain ⟨q, hq, e⟩ := ((h.sg i hi).gr.resolve_left c).2
      rw [e, h.sec]
      exact (nle (by omega) (by omega)).mpr hq
theorem Ro.changes {t N K : Nat} {A : AS} (ht : t < 2 ^ 30) (h : CoI t N K A) (r : Ro A) (p : Nat) : Ro (changesA N p A) := by
  have h1 := lp_invI (f := chS p) (fun _ B => CoI t N K B ∧ Ro B) N (fun i B hi h => ⟨h.1.ch p hi, h.2.ch ht h.1 p hi⟩) N 0 A (by omega) ⟨h, r⟩
  unfold changesA
  exact h1.2.same (by simp [comesOnA, U_at]) (by simp [comesOnA, U_ne])
theorem Ro.chg {t N K : Nat} {A : AS} (ht : t < 2 ^ 30) (h : CoI t N K A) (hs : A 0 0 2 = 1) (r : Ro A) : Ro (chgA N K A) := by
  unfold chgA
  split
  · split
    · exact Ro.changes ht (h.setCut hs (.inl rfl)) (r.same (by simp [U_at]) (by simp [U_ne])) _
    · exact r
  · split
    · refine Ro.changes ht (h.cutE hs) ?_ _
      unfold cutA
      split
      · exact r
      · exact r.same (by simp [U_at]) (by simp [U_ne])
    · exact r
theorem come_3 (k i : Nat) (A : AS) : lp comeS k i A 3 = A 3 := lp_inv (fun B : AS => B 3 = A 3) (fun i B h => ((comeS_one i B).2.2.1).trans h) k i A rfl
theorem seen_3 (k i : Nat) (A : AS) : lp seenS k i A 3 = A 3 := by
  refine lp_inv (fun B : AS => B 3 = A 3) (fun i B h => ?_) k i A rfl
  unfold seenS
  split
  · exact h
  · rw [U_ne _ _ _ _ (by decide)]; exact h
theorem turn_3 (C : Nat → Int32) (N y k i : Nat) (A : AS) : lp (turnS C N y) k i A 3 = A 3 := by
  refine lp_inv (fun B : AS => B 3 = A 3) (fun i B h => ?_) k i A rfl
  unfold turnS
  split
  · rw [U_ne _ _ _ _ (by decide), U_ne _ _ _ _ (by decide), U_ne _ _ _ _ (by decide)]; exact h
  · exact h
theorem go_3 (k i : Nat) (A : AS) : lp goS k i A 3 = A 3 := by
  refine lp_inv (fun B : AS => B 3 = A 3) (fun i B h => ?_) k i A rfl
  unfold goS
  split
  · exact h
  · unfold go1
    rw [U_ne _ _ _ _ (by decide), U_ne _ _ _ _ (by decide), U_ne _ _ _ _ (by decide)]; exact h
theorem Ro.sec {t N K : Nat} {A : AS} (ht : t < 2 ^ 30) (h : CoI t N K A) (hs : A 0 0 2 = 1) (C : Nat → Int32) (r : Ro A) : Ro (secA C N K A) := by
  have r1 : Ro (comingS N A) := r.same (coming_g (by decide) (by decide) N A) ((seen_3 N 0 _).trans (come_3 N 0 A))
  have hs1 : comingS N A 0 0 2 = 1 := (coming_g (by decide) (by decide) N A).trans hs
  have r2 := r1.chg ht h.coming hs1
  have r3 : Ro (turnsA C N K A) := r2.same (turn_g C N _ N 0 _ 15) (turn_3 C N _ N 0 _)
  unfold secA endsS
  refine r3.same ?_ ?_
  · simp [U_at, go_gl]
  · rw [U_ne _ _ _ _ (by decide), U_ne _ _ _ _ (by decide), go_3]
abbrev Bd (t : Nat) (A : AS) : Prop := (qb (A 0 0 7) (800 * t)) ∧ (qb (A 0 0 8) (800 * t)) ∧ (Ro A)
theorem Bd.wt {t : Nat} {A : AS} (h : Bd t A) : qb (A 0 0 7) (800 * t) := h.1
theorem Bd.sv {t : Nat} {A : AS} (h : Bd t A) : qb (A 0 0 8) (800 * t) := h.2.1
theorem Bd.ro {t : Nat} {A : AS} (h : Bd t A) : Ro A := h.2.2
theorem Bd.same {t : Nat} {A B : AS} (h : Bd t A) (e7 : B 0 0 7 = A 0 0 7) (e8 : B 0 0 8 = A 0 0 8) (e15 : B 0 0 15 = A 0 0 15) (e3 : B 3 = A 3) : Bd t B := ⟨e7 ▸ h.wt, e8 ▸ h.sv, h.ro.same e15 e3⟩
theorem chg_g {g : Nat} (h4 : g ≠ 4) (h5 : g ≠ 5) (h15 : g ≠ 15) (N K : Nat) (A : AS) : chgA N K A 0 0 g = A 0 0 g := by
  have s2 : ∀ p B, changesA N p B 0 0 g = B 0 0 g := fun p B => by
    have := ch_g p N 0 B (g := g) h15
    simpa [changesA, comesOnA, U_at, h4] using this
  unfold chgA
  split
  · split
    · rw [s2]; simp [U_at, h5]
    · rfl
  · split
    · rw [s2]; unfold cutA; split <;> simp [U_at, h5]
    · rfl
theorem turns_g {g : Nat} (h0 : g ≠ 0) (h9 : g ≠ 9) (h4 : g ≠ 4) (h5 : g ≠ 5) (h15 : g ≠ 15) (C : Nat → Int32) (N K : Nat) (A : AS) : turnsA C N K A 0 0 g = A 0 0 g := by
  unfold turnsA
  rw [turn_g, chg_g h4 h5 h15, coming_g h0 h9]
theorem qb_add {x y : Int32} {m n : Nat} (h : qb x m) (h2 : qb y n) : qb (x + y) (m + n) := by
  obtain ⟨a, ha, rfl⟩ := h
  obtain ⟨b, hb, rfl⟩ := h2
  exact ⟨a + b, by omega, nI_add a b⟩
theorem go_8 {t N K : Nat} {A : AS} (ht : t < 2 ^ 30) (h : CoI t N K A) {i m : Nat} (hi : i < N) (hm : qb (A 0 0 8) m) : qb (goS i A 0 0 8) (m + 99) := by
  unfold goS
  split
  · exact hm.mono (by omega)
  · rename_i c
    obtain ⟨k, hk, ek⟩ := mostGo_ok ht h hi c
    obtain ⟨q, hq, eq⟩ := (h.sg i hi).queue
    have hn : qb (if A 1 i 5 < mostGo A i then A 1 i 5 else mostGo A i) 99 := by
      split
      · exact ⟨q, hq, eq⟩
      · exact ⟨k, hk, ek⟩
    have e : go1 i A (if A 1 i 5 < mostGo A i then A 1 i 5 else mostGo A i) 0 0 8 = A 0 0 8 + (if A 1 i 5 < mostGo A i then A 1 i 5 else mostGo A i) := by simp [go1, U_at]
    rw [e]
    exact qb_add hm hn
theorem Bd.sec {t N K : Nat} {A : AS} (ht : t < 2 ^ 20) (h : CoI t N K A) (hs : A 0 0 2 = 1) (C : Nat → Int32) (b : Bd t A) : Bd (t + 1) (secA C N K A) := by
  have hN := h.hN
  obtain ⟨i1, _⟩ := h.turns hs C
  have e7 : turnsA C N K A 0 0 7 = A 0 0 7 := turns_g (by decide) (by decide) (by decide) (by decide) (by decide) C N K A
  have e8 : turnsA C N K A 0 0 8 = A 0 0 8 := turns_g (by decide) (by decide) (by decide) (by decide) (by decide) C N K A
  have b7 := b.wt
  have b8 := b.sv
  have r9 := b.ro.sec (t := t) (by omega) h hs C
  rw [← e7] at b7
  rw [← e8] at b8
  unfold secA at r9 ⊢
  revert i1 b7 b8 r9
  generalize turnsA C N K A = D
  intro i1 b7 b8 r9
  have g := lp_invI (f := goS) (fun i E => CoI t N K E ∧ qb (E 0 0 8) (800 * t + 99 * i)) N (fun i E hi ⟨q1, q2⟩ => ⟨q1.go (by omega) i, by
    have := go_8 (by omega) q1 hi q2
    rw [show 800 * t + 99 * (i + 1) = 800 * t + 99 * i + 99 by omega]
    exact this⟩) N 0 D (by omega) ⟨i1, b8⟩
  have g7 : lp goS N 0 D 0 0 7 = D 0 0 7 := go_gl N 0 D (by decide)
  rw [← g7] at b7
  unfold endsS at r9 ⊢
  revert g b7 r9
  generalize lp goS N 0 D = E
  intro b7 r9 g
  have s := lp_invI (f := quS E) (fun i x => qb x (99 * i)) N (fun i x hi hx => by
    have := qb_add hx (g.1.sg i hi).queue
    rw [show 99 * (i + 1) = 99 * i + 99 by omega]
    exact this) N 0 0 (by omega) ⟨0, by omega, rfl⟩
  revert s r9
  generalize lp (quS E) N 0 0 = z
  intro r9 s
  rw [Nat.zero_add] at s g
  refine ⟨?_, ?_, r9⟩
  · have e : U (U E 0 0 7 (E 0 0 7 + z)) 0 0 3 (D 0 0 3 + 1) 0 0 7 = E 0 0 7 + z := by simp [U_at]
    rw [e]
    exact (qb_add b7 s).mono (by omega)
  · have e : U (U E 0 0 7 (E 0 0 7 + z)) 0 0 3 (D 0 0 3 + 1) 0 0 8 = E 0 0 8 := by simp [U_at]
    rw [e]
    exact g.2.mono (by omega)
theorem Bd.passes {N K : Nat} (C : Nat → Int32) : ∀ (k i : Nat) {t : Nat} {A : AS}, t + k < 2 ^ 20 → CoI t N K A → A 0 0 2 = 1 → Bd t A → Bd (t + k) (lp (fun _ => secA C N K) k i A) := by
  intro k
  induction k with
  | zero => exact fun i t A ht hI hs b => b
  | succ k ih =>
    intro i t A ht hI hs b
    obtain ⟨i9, s9⟩ := hI.second (by omega) hs C
    have := ih (i + 1) (t := t + 1) (by omega) i9 s9 (b.sec (by omega) hI hs C)
    rw [show t + (k + 1) = t + 1 + k by omega]
    exact this
abbrev Wo (B t N K : Nat) (A : AS) (c j s p r w g n q : Lf) (S : Nat → Int32) : Prop := (Ab S A) ∧ (t ≤ B) ∧ (CoR N K c j s p r A) ∧ (CoI t N K A) ∧ (TbR N j A) ∧ (A 0 0 2 = 0 → SpR N j s) ∧ (WvR w A) ∧ (GtR N g A) ∧ (NtR n A) ∧ (PlR q A) ∧ (∀ a, N ≤ a → a < 8 → A 1 a 11 = 0) ∧ (Bd t A)
theorem Wo.ab {B t N K : Nat} {A : AS} {c j s p r w g n q : Lf} {S : Nat → Int32} (h : Wo B t N K A c j s p r w g n q S) : Ab S A := h.1
theorem Wo.tb {B t N K : Nat} {A : AS} {c j s p r w g n q : Lf} {S : Nat → Int32} (h : Wo B t N K A c j s p r w g n q S) : t ≤ B := h.2.1
theorem Wo.co {B t N K : Nat} {A : AS} {c j s p r w g n q : Lf} {S : Nat → Int32} (h : Wo B t N K A c j s p r w g n q S) : CoR N K c j s p r A := h.2.2.1
theorem Wo.ci {B t N K : Nat} {A : AS} {c j s p r w g n q : Lf} {S : Nat → Int32} (h : Wo B t N K A c j s p r w g n q S) : CoI t N K A := h.2.2.2.1
theorem Wo.tb' {B t N K : Nat} {A : AS} {c j s p r w g n q : Lf} {S : Nat → Int32} (h : Wo B t N K A c j s p r w g n q S) : TbR N j A := h.2.2.2.2.1
theorem Wo.sp {B t N K : Nat} {A : AS} {c j s p r w g n q : Lf} {S : Nat → Int32} (h : Wo B t N K A c j s p r w g n q S) : A 0 0 2 = 0 → SpR N j s := h.2.2.2.2.2.1
theorem Wo.wv {B t N K : Nat} {A : AS} {c j s p r w g n q : Lf} {S : Nat → Int32} (h : Wo B t N K A c j s p r w g n q S) : WvR w A := h.2.2.2.2.2.2.1
theorem Wo.gt {B t N K : Nat} {A : AS} {c j s p r w g n q : Lf} {S : Nat → Int32} (h : Wo B t N K A c j s p r w g n q S) : GtR N g A := h.2.2.2.2.2.2.2.1
theorem Wo.nt {B t N K : Nat} {A : AS} {c j s p r w g n q : Lf} {S : Nat → Int32} (h : Wo B t N K A c j s p r w g n q S) : NtR n A := h.2.2.2.2.2.2.2.2.1
theorem Wo.pl {B t N K : Nat} {A : AS} {c j s p r w g n q : Lf} {S : Nat → Int32} (h : Wo B t N K A c j s p r w g n q S) : PlR q A := h.2.2.2.2.2.2.2.2.2.1
theorem Wo.z {B t N K : Nat} {A : AS} {c j s p r w g n q : Lf} {S : Nat → Int32} (h : Wo B t N K A c j s p r w g n q S) : ∀ a, N ≤ a → a < 8 → A 1 a 11 = 0 := h.2.2.2.2.2.2.2.2.2.2.1
theorem Wo.bd {B t N K : Nat} {A : AS} {c j s p r w g n q : Lf} {S : Nat → Int32} (h : Wo B t N K A c j s p r w g n q S) : Bd t A := h.2.2.2.2.2.2.2.2.2.2.2
abbrev TxR (x : Lf) (M : Lf) : Prop := (x 0 1 = M 0 9) ∧ (∃ m, m ≤ 100 ∧ M 0 9 = nI m ∧ ∀ i, i < m → x 1 i = M 6 i ∧ qb (M 6 i) 127)
theorem TxR.n {x : Lf} {M : Lf} (h : TxR x M) : x 0 1 = M 0 9 := h.1
theorem TxR.ok {x : Lf} {M : Lf} (h : TxR x M) : ∃ m, m ≤ 100 ∧ M 0 9 = nI m ∧ ∀ i, i < m → x 1 i = M 6 i ∧ qb (M 6 i) 127 := h.2
abbrev TpR (vt : Nat → Lf) (gt : Nat → Lg) (M : Lf) (gM : Lg) : Prop := (∀ t, t < 6 → (vt t 0 0 = -5 ∧ M 8 t = -1 ∧ M 9 t = 0) ∨ (vt t 0 0 = M 8 t ∧ qb (M 8 t) 4)) ∧ (∀ t, t < 6 → vt t 0 1 = M 9 t ∧ qb (M 9 t) 60) ∧ (∀ t, t < 6 → ∀ m, m ≤ 60 → M 9 t = nI m → ∀ i, i < m → gt t 1 i = gM 10 (60 * t + i))
theorem TpR.so {vt : Nat → Lf} {gt : Nat → Lg} {M : Lf} {gM : Lg} (h : TpR vt gt M gM) : ∀ t, t < 6 → (vt t 0 0 = -5 ∧ M 8 t = -1 ∧ M 9 t = 0) ∨ (vt t 0 0 = M 8 t ∧ qb (M 8 t) 4) := h.1
theorem TpR.le {vt : Nat → Lf} {gt : Nat → Lg} {M : Lf} {gM : Lg} (h : TpR vt gt M gM) : ∀ t, t < 6 → vt t 0 1 = M 9 t ∧ qb (M 9 t) 60 := h.2.1
theorem TpR.at' {vt : Nat → Lf} {gt : Nat → Lg} {M : Lf} {gM : Lg} (h : TpR vt gt M gM) : ∀ t, t < 6 → ∀ m, m ≤ 60 → M 9 t = nI m → ∀ i, i < m → gt t 1 i = gM 10 (60 * t + i) := h.2.2
abbrev St (B t N K : Nat) (A : AS) (v vNc vNcj vNcs vNcp vNcr vNw vNg vNn vNq vIc vIcj vIcs vIcp vIcr vIw vIg vIn vIq vT vTj vTs vTp vTr vx : Lf) (vt : Nat → Lf) (gt : Nat → Lg) (vM : Lf) (gM : Lg) : Prop := (Wo B t N K A vNc vNcj vNcs vNcp vNcr vNw vNg vNn vNq (vM 1)) ∧ (MtR N A (vM 4) (vM 5)) ∧ (B ≤ 12000) ∧ (v 0 11 = nI B) ∧ (vM 0 4 = nI B) ∧ (v 0 10 = vM 0 3) ∧ (vM 0 3 = 0 ∨ (vM 0 3 = 1 ∧ ∃ t2 N2 K2 A2, Wo B t2 N2 K2 A2 vIc vIcj vIcs vIcp vIcr vIw vIg vIn vIq (vM 2))) ∧ (vTr 0 1 = 24 ∧ vIcr 0 1 = 24 ∧ vIg 0 1 = 8 ∧ vIn 0 1 = 5 ∧ vIq 0 1 = 8) ∧ (TxR vx vM) ∧ (TpR vt gt vM gM)
theorem St.now {B t N K : Nat} {A : AS} {v vNc vNcj vNcs vNcp vNcr vNw vNg vNn vNq vIc vIcj vIcs vIcp vIcr vIw vIg vIn vIq vT vTj vTs vTp vTr vx : Lf} {vt : Nat → Lf} {gt : Nat → Lg} {vM : Lf} {gM : Lg} (h : St B t N K A v vNc vNcj vNcs vNcp vNcr vNw vNg vNn vNq vIc vIcj vIcs vIcp vIcr vIw vIg vIn vIq vT vTj vTs vTp vTr vx vt gt vM gM) : Wo B t N K A vNc vNcj vNcs vNcp vNcr vNw vNg vNn vNq (vM 1) := h.1
theorem St.tab {B t N K : Nat} {A : AS} {v vNc vNcj vNcs vNcp vNcr vNw vNg vNn vNq vIc vIcj vIcs vIcp vIcr vIw vIg vIn vIq vT vTj vTs vTp vTr vx : Lf} {vt : Nat → Lf} {gt : Nat → Lg} {vM : Lf} {gM : Lg} (h : St B t N K A v vNc vNcj vNcs vNcp vNcr vNw vNg vNn vNq vIc vIcj vIcs vIcp vIcr vIw vIg vIn vIq vT vTj vTs vTp vTr vx vt gt vM gM) : MtR N A (vM 4) (vM 5) := h.2.1
theorem St.hB {B t N K : Nat} {A : AS} {v vNc vNcj vNcs vNcp vNcr vNw vNg vNn vNq vIc vIcj vIcs vIcp vIcr vIw vIg vIn vIq vT vTj vTs vTp vTr vx : Lf} {vt : Nat → Lf} {gt : Nat → Lg} {vM : Lf} {gM : Lg} (h : St B t N K A v vNc vNcj vNcs vNcp vNcr vNw vNg vNn vNq vIc vIcj vIcs vIcp vIcr vIw vIg vIn vIq vT vTj vTs vTp vTr vx vt gt vM gM) : B ≤ 12000 := h.2.2.1
theorem St.cnt {B t N K : Nat} {A : AS} {v vNc vNcj vNcs vNcp vNcr vNw vNg vNn vNq vIc vIcj vIcs vIcp vIcr vIw vIg vIn vIq vT vTj vTs vTp vTr vx : Lf} {vt : Nat → Lf} {gt : Nat → Lg} {vM : Lf} {gM : Lg} (h : St B t N K A v vNc vNcj vNcs vNcp vNcr vNw vNg vNn vNq vIc vIcj vIcs vIcp vIcr vIw vIg vIn vIq vT vTj vTs vTp vTr vx vt gt vM gM) : v 0 11 = nI B := h.2.2.2.1
theorem St.cntM {B t N K : Nat} {A : AS} {v vNc vNcj vNcs vNcp vNcr vNw vNg vNn vNq vIc vIcj vIcs vIcp vIcr vIw vIg vIn vIq vT vTj vTs vTp vTr vx : Lf} {vt : Nat → Lf} {gt : Nat → Lg} {vM : Lf} {gM : Lg} (h : St B t N K A v vNc vNcj vNcs vNcp vNcr vNw vNg vNn vNq vIc vIcj vIcs vIcp vIcr vIw vIg vIn vIq vT vTj vTs vTp vTr vx vt gt vM gM) : vM 0 4 = nI B := h.2.2.2.2.1
theorem St.kept {B t N K : Nat} {A : AS} {v vNc vNcj vNcs vNcp vNcr vNw vNg vNn vNq vIc vIcj vIcs vIcp vIcr vIw vIg vIn vIq vT vTj vTs vTp vTr vx : Lf} {vt : Nat → Lf} {gt : Nat → Lg} {vM : Lf} {gM : Lg} (h : St B t N K A v vNc vNcj vNcs vNcp vNcr vNw vNg vNn vNq vIc vIcj vIcs vIcp vIcr vIw vIg vIn vIq vT vTj vTs vTp vTr vx vt gt vM gM) : v 0 10 = vM 0 3 := h.2.2.2.2.2.1
theorem St.img {B t N K : Nat} {A : AS} {v vNc vNcj vNcs vNcp vNcr vNw vNg vNn vNq vIc vIcj vIcs vIcp vIcr vIw vIg vIn vIq vT vTj vTs vTp vTr vx : Lf} {vt : Nat → Lf} {gt : Nat → Lg} {vM : Lf} {gM : Lg} (h : St B t N K A v vNc vNcj vNcs vNcp vNcr vNw vNg vNn vNq vIc vIcj vIcs vIcp vIcr vIw vIg vIn vIq vT vTj vTs vTp vTr vx vt gt vM gM) : vM 0 3 = 0 ∨ (vM 0 3 = 1 ∧ ∃ t2 N2 K2 A2, Wo B t2 N2 K2 A2 vIc vIcj vIcs vIcp vIcr vIw vIg vIn vIq (vM 2)) := h.2.2.2.2.2.2.1
theorem St.most {B t N K : Nat} {A : AS} {v vNc vNcj vNcs vNcp vNcr vNw vNg vNn vNq vIc vIcj vIcs vIcp vIcr vIw vIg vIn vIq vT vTj vTs vTp vTr vx : Lf} {vt : Nat → Lf} {gt : Nat → Lg} {vM : Lf} {gM : Lg} (h : St B t N K A v vNc vNcj vNcs vNcp vNcr vNw vNg vNn vNq vIc vIcj vIcs vIcp vIcr vIw vIg vIn vIq vT vTj vTs vTp vTr vx vt gt vM gM) : vTr 0 1 = 24 ∧ vIcr 0 1 = 24 ∧ vIg 0 1 = 8 ∧ vIn 0 1 = 5 ∧ vIq 0 1 = 8 := h.2.2.2.2.2.2.2.1
theorem St.txt {B t N K : Nat} {A : AS} {v vNc vNcj vNcs vNcp vNcr vNw vNg vNn vNq vIc vIcj vIcs vIcp vIcr vIw vIg vIn vIq vT vTj vTs vTp vTr vx : Lf} {vt : Nat → Lf} {gt : Nat → Lg} {vM : Lf} {gM : Lg} (h : St B t N K A v vNc vNcj vNcs vNcp vNcr vNw vNg vNn vNq vIc vIcj vIcs vIcp vIcr vIw vIg vIn vIq vT vTj vTs vTp vTr vx vt gt vM gM) : TxR vx vM := h.2.2.2.2.2.2.2.2.1
theorem St.tp {B t N K : Nat} {A : AS} {v vNc vNcj vNcs vNcp vNcr vNw vNg vNn vNq vIc vIcj vIcs vIcp vIcr vIw vIg vIn vIq vT vTj vTs vTp vTr vx : Lf} {vt : Nat → Lf} {gt : Nat → Lg} {vM : Lf} {gM : Lg} (h : St B t N K A v vNc vNcj vNcs vNcp vNcr vNw vNg vNn vNq vIc vIcj vIcs vIcp vIcr vIw vIg vIn vIq vT vTj vTs vTp vTr vx vt gt vM gM) : TpR vt gt vM gM := h.2.2.2.2.2.2.2.2.2
def Inv : InvT := fun v vNc vNcj vNcs vNcp vNcr vNw vNg vNn vNq vIc vIcj vIcs vIcp vIcr vIw vIg vIn vIq vT vTj vTs vTp vTr vx vt gt vM gM => ∃ B t N K A, St B t N K A v vNc vNcj vNcs vNcp vNcr vNw vNg vNn vNq vIc vIcj vIcs vIcp vIcr vIw vIg vIn vIq vT vTj vTs vTp vTr vx vt gt vM gM
theorem un {v : Lf} {P : Lf → Prop} (h : P (sa v 1 (v 1))) : P v := by rw [sa_id] at h; exact h
theorem w_in {x l h : Int32} {Q : Int32 → Prop} (q1 : l ≤ x → x ≤ h → Q 1) (q0 : ¬ (l ≤ x ∧ x ≤ h) → Q 0) : pX9_within x l h Q := by
  refine (w_within x l h Q).mpr ?_
  by_cases c : l ≤ x ∧ x ≤ h
  · rw [if_pos c]; exact q1 c.1 c.2
  · rw [if_neg c]; exact q0 c
theorem w_inM {x l h : Int32} {Q : Int32 → Prop} (q1 : l ≤ x → x ≤ h → Q 1) (q0 : ¬ (l ≤ x ∧ x ≤ h) → Q 0) : pX10_isIn x l h Q := w_in q1 q0
theorem c_sig {N : Nat} (hN : N ≤ 8) {j : Lf} {A : AS} (h : JR N j A) {x : Int32} {Q : Int32 → Prop} (q1 : ∀ a, a < N → x = nI a → Q 1) (q0 : (¬ ∃ a, a < N ∧ x = nI a) → Q 0) : pX9_isSignal j x Q := by
  refine (w_isSig j x Q).mpr ?_
  rw [h.n]
  by_cases c : 0 ≤ x ∧ x ≤ nI N - 1
  · rw [if_pos c]
    obtain ⟨a, ha, e⟩ := (sg_iff (by omega) x).mp c
    exact q1 a ha e
  · rw [if_neg c]
    exact q0 (fun e => c ((sg_iff (by omega) x).mpr e))
theorem m_sig {N : Nat} (hN : N ≤ 8) {v : Lf} (h : v 1 13 = nI N) {x : Int32} {Q : Int32 → Prop} (q1 : ∀ a, a < N → x = nI a → Q 1) (q0 : (¬ ∃ a, a < N ∧ x = nI a) → Q 0) : pX10_isSignal v x Q := by
  refine (w_isSigM v x Q).mpr ?_
  rw [h]
  by_cases c : 0 ≤ x ∧ x ≤ nI N - 1
  · rw [if_pos c]
    obtain ⟨a, ha, e⟩ := (sg_iff (by omega) x).mp c
    exact q1 a ha e
  · rw [if_neg c]
    exact q0 (fun e => c ((sg_iff (by omega) x).mpr e))
theorem m_phs {K : Nat} (hK : K ≤ 6) {v : Lf} (h : v 1 14 = nI K) {x : Int32} {Q : Int32 → Prop} (q1 : ∀ a, a < K → x = nI a → Q 1) (q0 : (¬ ∃ a, a < K ∧ x = nI a) → Q 0) : pX10_isPhase v x Q := by
  refine (w_isPhM v x Q).mpr ?_
  rw [h]
  by_cases c : 0 ≤ x ∧ x ≤ nI K - 1
  · rw [if_pos c]
    obtain ⟨a, ha, e⟩ := (sg_iff (by omega) x).mp c
    exact q1 a ha e
  · rw [if_neg c]
    exact q0 (fun e => c ((sg_iff (by omega) x).mpr e))
theorem Wo.eng {B t N K B' t' : Nat} {A A' : AS} {c j s p r w g n q c' s' p' r' : Lf} {S S' : Nat → Int32} (h : Wo B t N K A c j s p r w g n q S) (ab : Ab S' A') (tb : t' ≤ B') (co : CoR N K c' j s' p' r' A') (ci : CoI t' N K A') (kw : KW 8 A A') (fr : ∀ g, 16 ≤ g → g < 21 → A' 0 0 g = A 0 0 g) (f4 : ∀ x, 4 ≤ x → A' x = A x) (sp : A' 0 0 2 = 0 → SpR N j s') (bd : Bd t' A') : Wo B' t' N K A' c' j s' p' r' w g n q S' := by
  refine ⟨ab, tb, co, ci, h.tb'.fr h.ci (fun a ha w e => kw a (Nat.lt_of_lt_of_le ha h.ci.hN) w e), sp, ⟨?_, ?_, ?_⟩, ⟨?_, h.gt.most, ?_⟩, ⟨?_, h.nt.most, ?_⟩, ⟨?_, h.pl.most, ?_⟩, fun a h1 h2 => (kw a h2 11 (.inr (by decide))).trans (h.z a h1 h2), bd⟩
  · rw [fr _ (by decide) (by decide)]; exact h.wv.rd
  · rw [fr _ (by decide) (by decide)]; exact h.wv.n
  · rw [fr _ (by decide) (by decide), fr _ (by decide) (by decide), f4 _ (by decide)]; exact h.wv.rdok
  · rw [fr _ (by decide) (by decide)]; exact h.gt.n
  · rw [fr _ (by decide) (by decide), f4 _ (by decide)]; exact h.gt.row
  · rw [fr _ (by decide) (by decide)]; exact h.nt.n
  · rw [fr _ (by decide) (by decide), f4 _ (by decide)]; exact h.nt.row
  · rw [fr _ (by decide) (by decide)]; exact h.pl.n
  · rw [fr _ (by decide) (by decide), f4 _ (by decide)]; exact h.pl.row
theorem KW.rfl' {N : Nat} {A : AS} : KW N A A := fun _ _ _ _ => rfl
theorem St.nowC {B t N K t' N' K' : Nat} {A A' : AS} {v vNc vNcj vNcs vNcp vNcr vNw vNg vNn vNq vIc vIcj vIcs vIcp vIcr vIw vIg vIn vIq vT vTj vTs vTp vTr vx : Lf} {vt : Nat → Lf} {gt : Nat → Lg} {vM : Lf} {gM : Lg} {vNc' vNcj' vNcs' vNcp' vNcr' vNw' vNg' vNn' vNq' : Lf} {S' : Nat → Int32} (h : St B t N K A v vNc vNcj vNcs vNcp vNcr vNw vNg vNn vNq vIc vIcj vIcs vIcp vIcr vIw vIg vIn vIq vT vTj vTs vTp vTr vx vt gt vM gM) (w : Wo B t' N' K' A' vNc' vNcj' vNcs' vNcp' vNcr' vNw' vNg' vNn' vNq' S') (m : MtR N' A' (vM 4) (vM 5)) : Inv v vNc' vNcj' vNcs' vNcp' vNcr' vNw' vNg' vNn' vNq' vIc vIcj vIcs vIcp vIcr vIw vIg vIn vIq vT vTj vTs vTp vTr vx vt gt (sa vM 1 S') gM := by
  refine ⟨B, t', N', K', A', ?_, ?_, h.hB, h.cnt, ?_, ?_, ?_, h.most, ?_, ?_⟩
  · rw [sa_self]; exact w
  · rw [sa_ne _ _ (by decide), sa_ne _ _ (by decide)]; exact m
  · rw [sa_ne _ _ (by decide)]; exact h.cntM
  · rw [sa_ne _ _ (by decide)]; exact h.kept
  · rw [sa_ne _ _ (by decide), sa_ne _ _ (by decide)]; exact h.img
  · exact ⟨by rw [sa_ne _ _ (by decide)]; exact h.txt.n, by rw [sa_ne _ _ (by decide), sa_ne _ _ (by decide)]; exact h.txt.ok⟩
  · exact ⟨by rw [sa_ne _ _ (by decide), sa_ne _ _ (by decide)]; exact h.tp.so, by rw [sa_ne _ _ (by decide)]; exact h.tp.le, by rw [sa_ne _ _ (by decide)]; exact h.tp.at'⟩

abbrev Fr (A B : AS) : Prop := (∀ a w, (w = 0 ∨ 11 ≤ w ∧ w < 20) → B 1 a w = A 1 a w) ∧ (∀ g, 16 ≤ g → g < 21 → B 0 0 g = A 0 0 g) ∧ (∀ x, 4 ≤ x → B x = A x) ∧ (B 0 0 1 = A 0 0 1)
theorem Fr.w {A B : AS} (h : Fr A B) : ∀ a w, (w = 0 ∨ 11 ≤ w ∧ w < 20) → B 1 a w = A 1 a w := h.1
theorem Fr.gl {A B : AS} (h : Fr A B) : ∀ g, 16 ≤ g → g < 21 → B 0 0 g = A 0 0 g := h.2.1
theorem Fr.f4 {A B : AS} (h : Fr A B) : ∀ x, 4 ≤ x → B x = A x := h.2.2.1
theorem Fr.one {A B : AS} (h : Fr A B) : B 0 0 1 = A 0 0 1 := h.2.2.2
theorem Fr.refl (A : AS) : Fr A A := ⟨fun _ _ _ => rfl, fun _ _ _ => rfl, fun _ _ => rfl, rfl⟩
theorem Fr.trans {A B C : AS} (h : Fr A B) (h2 : Fr B C) : Fr A C := ⟨fun a w e => (h2.w a w e).trans (h.w a w e), fun g e e2 => (h2.gl g e e2).trans (h.gl g e e2), fun x e => (h2.f4 x e).trans (h.f4 x e), h2.one.trans h.one⟩
theorem Fr.kw {A B : AS} (h : Fr A B) {N : Nat} : KW N A B := fun a _ w e => h.w a w e
theorem Fr.loop {f : Nat → AS → AS} (h : ∀ i A, Fr A (f i A)) (k i : Nat) (A : AS) : Fr A (lp f k i A) := lp_inv (fun B => Fr A B) (fun i B q => q.trans (h i B)) k i A (Fr.refl A)
theorem Fr.U1 (A : AS) (i w : Nat) (x : Int32) (h : ¬ (w = 0 ∨ 11 ≤ w ∧ w < 20)) : Fr A (U A 1 i w x) := ⟨fun a z e => by rw [U_at, if_neg (by omega)], fun g _ _ => by simp [U_at], fun y e => U_ne _ _ _ _ (by omega), by simp [U_at]⟩
theorem Fr.U0 (A : AS) (g : Nat) (x : Int32) (h : g ≠ 1) (h2 : g < 16) : Fr A (U A 0 0 g x) := ⟨fun a z e => by simp [U_at], fun k _ _ => by rw [U_at, if_neg (by omega)], fun y e => U_ne _ _ _ _ (by omega), by rw [U_at, if_neg (by omega)]⟩
theorem Fr.U23 (A : AS) (y i w : Nat) (x : Int32) (h : y = 2 ∨ y = 3) : Fr A (U A y i w x) := ⟨fun a z e => by rw [U_at, if_neg (by omega)], fun k _ _ => by rw [U_at, if_neg (by omega)], fun z e => U_ne _ _ _ _ (by omega), by rw [U_at, if_neg (by omega)]⟩
theorem Fr.join (i : Nat) (n : Int32) (A : AS) : Fr A (joinA i n A) := (Fr.U1 A i 5 _ (by omega)).trans (Fr.U0 _ 9 _ (by decide) (by decide))
theorem Fr.come (i : Nat) (A : AS) : Fr A (comeS i A) := by
  unfold comeS
  split
  · exact Fr.refl A
  · split
    · exact Fr.U0 A 0 _ (by decide) (by decide)
    · exact (Fr.U0 A 0 _ (by decide) (by decide)).trans (Fr.join i 1 _)
theorem Fr.seen (i : Nat) (A : AS) : Fr A (seenS i A) := by
  unfold seenS
  split
  · exact Fr.refl A
  · exact Fr.U1 A i 9 _ (by omega)
theorem Fr.rec' (a : Nat) (b e : Int32) (A : AS) : Fr A (recS a b e A) := by
  refine ⟨fun x w _ => by rw [recS_1], fun g h1 h2 => recS_g a b e A (by omega), fun x hx => ?_, recS_g a b e A (by decide)⟩
  funext i k
  unfold recS recW
  have n0 : ¬ x = 0 := by omega
  have n3 : ¬ x = 3 := by omega
  split <;> simp [U_at, shR, n0, n3]
theorem Fr.ch (p i : Nat) (A : AS) : Fr A (chS p i A) := by
  unfold chS
  split
  · exact Fr.refl A
  · split
    · exact Fr.refl A
    · exact ((Fr.U1 A i 6 _ (by omega)).trans (Fr.U1 _ i 8 _ (by omega))).trans (Fr.rec' _ _ _ _)
theorem Fr.changes (N p : Nat) (A : AS) : Fr A (changesA N p A) := ((Fr.loop (Fr.ch p) N 0 A).trans (Fr.U0 _ 4 _ (by decide) (by decide))).trans (Fr.U23 _ 2 p 2 _ (.inl rfl))
theorem Fr.cut (A : AS) : Fr A (cutA A) := by
  unfold cutA
  split
  · exact Fr.refl A
  · exact Fr.U0 A 5 _ (by decide) (by decide)
theorem Fr.chg (N K : Nat) (A : AS) : Fr A (chgA N K A) := by
  unfold chgA
  split
  · split
    · exact (Fr.U0 A 5 _ (by decide) (by decide)).trans (Fr.changes _ _ _)
    · exact Fr.refl A
  · split
    · exact (Fr.cut A).trans (Fr.changes _ _ _)
    · exact Fr.refl A
theorem Fr.turn (C : Nat → Int32) (N y i : Nat) (A : AS) : Fr A (turnS C N y i A) := by
  unfold turnS
  split
  · exact ((Fr.U1 A i 6 _ (by omega)).trans (Fr.U1 _ i 7 _ (by omega))).trans (Fr.U1 _ i 20 _ (by omega))
  · exact Fr.refl A
theorem Fr.go (i : Nat) (A : AS) : Fr A (goS i A) := by
  unfold goS
  split
  · exact Fr.refl A
  · exact ((Fr.U1 A i 5 _ (by omega)).trans (Fr.U1 _ i 10 _ (by omega))).trans (Fr.U0 _ 8 _ (by decide) (by decide))
theorem Fr.turns (C : Nat → Int32) (N K : Nat) (A : AS) : Fr A (turnsA C N K A) := (((Fr.loop Fr.come N 0 A).trans (Fr.loop Fr.seen N 0 _)).trans (Fr.chg N K _)).trans (Fr.loop (Fr.turn C N _) N 0 _)
theorem Fr.ends (N : Nat) (A : AS) : Fr A (endsS N A) := ((Fr.loop Fr.go N 0 A).trans (Fr.U0 _ 7 _ (by decide) (by decide))).trans (Fr.U0 _ 3 _ (by decide) (by decide))
theorem Fr.sec (C : Nat → Int32) (N K : Nat) (A : AS) : Fr A (secA C N K A) := (Fr.turns C N K A).trans (Fr.ends N _)
theorem Fr.passes (C : Nat → Int32) (N K n : Nat) (A : AS) : Fr A (lp (fun _ => secA C N K) n 0 A) := Fr.loop (fun _ A => Fr.sec C N K A) n 0 A

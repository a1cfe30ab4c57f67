def seedN (s : Int32) : Int32 := s * 1103515245 + 12345
def drawN (s : Int32) : Int32 := ((seedN s).toUInt32 >>> ((9 : Int32).toUInt32 &&& Int32.toUInt32 31)).toInt32 - ((seedN s).toUInt32 >>> ((9 : Int32).toUInt32 &&& Int32.toUInt32 31)).toInt32 / 60 * 60
def joinA (i : Nat) (n : Int32) (A : AS) : AS := U (U A 1 i 5 (if A 1 i 5 + n < 99 then A 1 i 5 + n else 99)) 0 0 9 (A 0 0 9 + (if 0 < A 1 i 5 + n - 99 then A 1 i 5 + n - 99 else 0))
def comeS (i : Nat) (A : AS) : AS := if A 1 i 4 ≤ 0 then A else if A 1 i 4 ≤ drawN (A 0 0 0) then U A 0 0 0 (seedN (A 0 0 0)) else joinA i 1 (U A 0 0 0 (seedN (A 0 0 0)))
def seenS (i : Nat) (A : AS) : AS := if A 1 i 5 ≤ 0 then A else U A 1 i 9 (A 0 0 3)
theorem m_draws {v : Lf} {S : Nat → Int32} {A : AS} (h : Ab S A) {Q : Int32 → Lf → Prop} (q : ∀ S', Ab S' (U A 0 0 0 (seedN (A 0 0 0))) → Q (drawN (A 0 0 0)) (sa v 1 S')) : pX10_draws (sa v 1 S) 60 Q := by
  unfold pX10_draws
  refine ⟨by decide, ?_⟩
  rw [st_sa1, sa_self, sa_self, upd_self, h.gl (by decide)]
  exact q _ (h.ug (k := 0) (by decide) _)
theorem m_joins {v : Lf} {S : Nat → Int32} {A : AS} (h : Ab S A) {i : Nat} (hi : i < 8) {n : Int32} {Q : Int32 → Lf → Prop} (q : ∀ S', Ab S' (joinA i n A) → Q (if A 1 i 5 + n < 99 then A 1 i 5 + n else 99) (sa v 1 S')) : pX10_joins (sa v 1 S) (nI i) n Q := by
  unfold pX10_joins
  refine m_at h 5 hi (by decide) (m_puts h 5 hi (by decide) (fun S1 h1 => ?_))
  rw [st_sa1, sa_self, h1.gl (k := 9) (by decide)]
  have h2 := h1.ug (k := 9) (by decide) (A 0 0 9 + (if 0 < A 1 i 5 + n - 99 then A 1 i 5 + n - 99 else 0))
  refine m_at h2 5 hi (by decide) ?_
  simp only [U_at]
  simpa [joinA] using q _ h2
theorem m_coming1 {v : Lf} {N : Nat} (hN : N ≤ 8) {Q : Lf → Prop} : ∀ (k i : Nat) {S : Nat → Int32} {A : AS}, i + k = N → A 0 0 13 = nI N → Ab S A → (∀ S', Ab S' (lp seenS k i A) → Q (sa v 1 S')) → pX10_coming_L52 Q (k + 1) (sa v 1 S) (nI i) := by
  intro k
  induction k with
  | zero =>
    intro i S A hi hm h q
    exact hdE (h.gv (by decide) hm) (by omega) (q S h)
  | succ k ih =>
    intro i S A hi hm h q
    refine hdG (h.gv (by decide) hm) (by omega) (by omega) (m_at h 5 (by omega) (by decide) ⟨fun c => ?_, fun c => ?_⟩)
    · unfold pX10_coming_J85
      rw [nI_s]
      refine ih (i + 1) (by omega) hm h ?_
      simpa only [lp, seenS, if_pos c] using q
    · rw [h.gw (by decide)]
      refine m_puts h 9 (by omega) (by decide) (fun S1 h1 => ?_)
      unfold pX10_coming_J85
      rw [nI_s]
      refine ih (i + 1) (by omega) (by simp [U_at, hm]) h1 ?_
      simpa only [lp, seenS, if_neg c] using q
theorem come_g {g : Nat} (h0 : g ≠ 0) (h9 : g ≠ 9) (k i : Nat) (A : AS) : lp comeS k i A 0 0 g = A 0 0 g := by
  refine lp_inv (fun B : AS => B 0 0 g = A 0 0 g) (fun i B h => ?_) k i A rfl
  unfold comeS
  split
  · exact h
  · split <;> simp [joinA, U_at, h0, h9, h]
def comingS (N : Nat) (A : AS) : AS := lp seenS N 0 (lp comeS N 0 A)
theorem m_coming2 {v : Lf} {N : Nat} (hN : N ≤ 8) {Q : Lf → Prop} : ∀ (k i : Nat) {S : Nat → Int32} {A : AS}, i + k = N → A 0 0 13 = nI N → Ab S A → (∀ S', Ab S' (lp seenS N 0 (lp comeS k i A)) → Q (sa v 1 S')) → pX10_coming_L2 Q (k + 1) (sa v 1 S) (nI i) := by
  intro k
  induction k with
  | zero =>
    intro i S A hi hm h q
    exact hdE (h.gv (by decide) hm) (by omega) ⟨N + 1, m_coming1 hN N 0 (by omega) hm h q⟩
  | succ k ih =>
    intro i S A hi hm h q
    refine hdG (h.gv (by decide) hm) (by omega) (by omega) (m_at h 4 (by omega) (by decide) ⟨fun c => ?_, fun c => m_draws h (fun S1 h1 => m_at h1 4 (by omega) (by decide) ?_)⟩)
    · unfold pX10_coming_J44
      rw [nI_s]
      refine ih (i + 1) (by omega) hm h ?_
      simpa only [lp, comeS, if_pos c] using q
    · simp only [U_at]
      refine ⟨fun c2 => ?_, fun c2 => m_joins h1 (by omega) (fun S2 h2 => ?_)⟩
      · unfold pX10_coming_J44
        rw [nI_s]
        refine ih (i + 1) (by omega) (by simp [U_at, hm]) h1 ?_
        have c2 : A 1 i 4 ≤ drawN (A 0 0 0) := by simpa using c2
        simpa only [lp, comeS, if_neg c, if_pos c2] using q
      · unfold pX10_coming_J44
        rw [nI_s]
        refine ih (i + 1) (by omega) (by simp [U_at, joinA, hm]) h2 ?_
        have c2 : ¬ A 1 i 4 ≤ drawN (A 0 0 0) := by simpa using c2
        simpa only [lp, comeS, if_neg c, if_neg c2] using q
def ffr (P : Nat → Bool) : Nat → Nat → Int32
  | 0, _ => -5
  | k + 1, i => if P i = true then nI i else ffr P k (i + 1)
abbrev fwA (A : AS) (a : Nat) (q : Nat) : Bool := bt (A 2 q 0) a
theorem m_first {v : Lf} {K : Nat} (hK : K ≤ 6) {Q : Int32 → Prop} {S : Nat → Int32} {A : AS} (hk : A 0 0 14 = nI K) (h : Ab S A) {a : Nat} (ha : a < 32) : ∀ (k i : Nat), i + k = K → Q (ffr (fwA A a) k i) → pX10_firstWith_L2 (sa v 1 S) (nI a) Q (k + 1) (nI i) := by
  intro k
  induction k with
  | zero =>
    intro i hi q
    exact hdE (h.gv (by decide) hk) (by omega) q
  | succ k ih =>
    intro i hi q
    refine hdG (h.gv (by decide) hk) (by omega) (by omega) (m_set h (by omega) (m_has ha (fun c1 => ⟨fun c => absurd c (by decide), fun _ => ?_⟩) (fun c1 => ⟨fun _ => ?_, fun c => absurd rfl c⟩)))
    · simpa only [ffr, fwA, if_pos c1] using q
    · rw [nI_s]
      refine ih (i + 1) (by omega) ?_
      simpa only [ffr, fwA, if_neg c1] using q
def lo (A : AS) : Int32 := if 0 ≤ (A 0 0 3 - A 0 0 11) - (A 0 0 3 - A 0 0 11) / A 0 0 10 * A 0 0 10 then (A 0 0 3 - A 0 0 11) - (A 0 0 3 - A 0 0 11) / A 0 0 10 * A 0 0 10 else (A 0 0 3 - A 0 0 11) - (A 0 0 3 - A 0 0 11) / A 0 0 10 * A 0 0 10 + A 0 0 10
theorem m_local {v : Lf} {S : Nat → Int32} {A : AS} (h : Ab S A) {Q : Int32 → Prop} (h0 : ¬ A 0 0 10 = 0) (q : Q (lo A)) : pX10_local (sa v 1 S) Q := by
  unfold pX10_local
  rw [h.gw (k := 10) (by decide), h.gw (k := 3) (by decide), h.gw (k := 11) (by decide)]
  refine ⟨h0, fun c => ?_, fun c => ?_⟩
  · rw [lo, if_pos c] at q; exact q
  · rw [lo, if_neg c] at q; exact q
def cond1 (A : AS) (p b : Nat) : Prop := bt (A 2 p 0) b = true ∧ ¬ A 1 b 5 ≤ 0 ∧ A 1 b 6 = 0
theorem nar01 {x : Int32} (h : x = 0 ∨ x = 1) : narrow .boolean (.int x) = .int x := by
  rcases h with rfl | rfl <;> rfl
theorem m_isCalled1 {v : Lf} {N : Nat} (hN : N ≤ 8) {Q : Int32 → Prop} {S : Nat → Int32} {A : AS} (hm : A 0 0 13 = nI N) (h : Ab S A) {p : Nat} (hp : p < 6) : ∀ (k i : Nat) (x : Int32), i + k = N → (x = 0 ∨ x = 1) → ((x = 1 ∨ ∃ b, i ≤ b ∧ b < N ∧ cond1 A p b) → Q 1) → (x = 0 → (¬ ∃ b, i ≤ b ∧ b < N ∧ cond1 A p b) → Q 0) → pX10_isCalled_L43 (sa v 1 S) (nI p) Q (k + 1) x (nI i) := by
  intro k
  induction k with
  | zero =>
    intro i x hi hx q1 q0
    refine hdE (h.gv (by decide) hm) (by omega) ⟨nar01 hx, ?_⟩
    rcases hx with rfl | rfl
    · exact q0 rfl (fun ⟨b, h1, h2, _⟩ => by omega)
    · exact q1 (.inl rfl)
  | succ k ih =>
    intro i x hi hx q1 q0
    have no : ¬ cond1 A p i → pX10_isCalled_J90 (sa v 1 S) (nI p) Q (fun x2 x3 => pX10_isCalled_L43 (sa v 1 S) (nI p) Q (k + 1) x2 x3) (nI i) x := by
      intro c
      unfold pX10_isCalled_J90 pX10_isCalled_J91
      rw [nI_s, show x ||| 0 = x from by rcases hx with rfl | rfl <;> rfl]
      refine ih (i + 1) x (by omega) hx (fun q => q1 (q.imp id (fun ⟨b, h1, h2⟩ => ⟨b, by omega, h2⟩))) (fun e q => q0 e (fun ⟨b, h1, h2, h3⟩ => ?_))
      rcases Nat.eq_or_lt_of_le h1 with e2 | e2
      · exact c (e2 ▸ h3)
      · exact q ⟨b, e2, h2, h3⟩
    refine hdG (h.gv (by decide) hm) (by omega) (by omega) (m_set h hp (m_has (by omega) (fun c1 => ⟨fun c => absurd c (by decide), fun _ => ?_⟩) (fun c1 => ⟨fun _ => no (fun c => c1 c.1), fun c => absurd rfl c⟩)))
    refine m_at h 5 (by omega) (by decide) ⟨fun c2 => no (fun c => c.2.1 c2), fun c2 => m_at h 6 (by omega) (by decide) ⟨fun c3 => no (fun c => c3 c.2.2), fun c3 => ?_⟩⟩
    unfold pX10_isCalled_J91
    rw [nI_s, show x ||| 1 = 1 from by rcases hx with rfl | rfl <;> rfl]
    exact ih (i + 1) 1 (by omega) (.inr rfl) (fun _ => q1 (.inr ⟨i, by omega, by omega, c1, c2, c3⟩)) (fun e => absurd e (by decide))
def calledP (A : AS) (N p : Nat) : Prop := ¬ A 0 0 2 = 0 ∧ ¬ nI p = A 0 0 4 ∧ ((p = 0 ∧ ¬ A 0 0 10 ≤ 0) ∨ ∃ b, 0 ≤ b ∧ b < N ∧ cond1 A p b)
theorem m_isCalled {v : Lf} {N : Nat} (hN : N ≤ 8) {Q : Int32 → Prop} {S : Nat → Int32} {A : AS} (hm : A 0 0 13 = nI N) (h : Ab S A) {p : Nat} (hp : p < 6) (q1 : calledP A N p → Q 1) (q0 : ¬ calledP A N p → Q 0) : pX10_isCalled (sa v 1 S) (nI p) Q := by
  unfold pX10_isCalled
  rw [h.gw (k := 2) (by decide), h.gw (k := 4) (by decide), h.gw (k := 10) (by decide)]
  refine ⟨fun c => q0 (fun r => r.1 c), fun c => ⟨fun c2 => ?_, fun c2 => q0 (fun r => r.2.1 c2)⟩⟩
  have J0 : ¬ (p = 0 ∧ ¬ A 0 0 10 ≤ 0) → pX10_isCalled_J40 (sa v 1 S) (nI p) Q 0 := fun c3 =>
    ⟨N + 1, m_isCalled1 hN hm h hp N 0 0 (by omega) (.inl rfl) (fun r => q1 ⟨c, c2, .inr (r.resolve_left (by decide))⟩) (fun _ r => q0 (fun s => s.2.2.elim c3 r))⟩
  refine ⟨fun c3 => J0 (fun r => c3 (by rw [r.1]; rfl)), fun c3 => ⟨fun c4 => J0 (fun r => r.2 c4), fun c4 => ⟨N + 1, m_isCalled1 hN hm h hp N 0 1 (by omega) (.inr rfl) (fun _ => q1 ⟨c, c2, .inl ⟨nI_inj (by omega) (by omega) c3, c4⟩⟩) (fun e => absurd e (by decide))⟩⟩⟩
def Bits (r : Int32) (P : Nat → Prop) : Prop := ∀ i, i < 32 → (bt r i = true ↔ P i)
theorem Bits.eq {r s : Int32} {P : Nat → Prop} (h : Bits r P) (h2 : Bits s P) : r = s := b_ext (fun i hi => by
  have e := (h i hi).trans (h2 i hi).symm
  cases h1 : bt r i <;> cases h2 : bt s i <;> simp_all)
theorem Bits.put {r : Int32} {P R : Nat → Prop} (h : Bits r P) {i : Nat} (hi : i < 32) (c : ∀ b, b < 32 → (R b ↔ P b ∨ b = i)) : Bits (r ||| ((1 : Int32) <<< (nI i &&& 31))) R := fun b hb => by
  rw [b_or, b_one i hi hb, c b hb, ← h b hb]
  simp
theorem Bits.same {r : Int32} {P R : Nat → Prop} (h : Bits r P) (c : ∀ b, b < 32 → (R b ↔ P b)) : Bits r R := fun b hb => by rw [c b hb]; exact h b hb
theorem Bits.zero : Bits 0 (fun _ => False) := fun i _ => by simp [b_0]
theorem Bits.zero' {P : Nat → Prop} (h : ∀ i, i < 32 → ¬ P i) : Bits 0 P := fun i hi => by simp [b_0, h i hi]
theorem or_0 (x : Int32) : x ||| 0 = x := b_ext (fun i _ => by rw [b_or, b_0]; simp)
theorem m_called {v : Lf} {N K : Nat} (hN : N ≤ 8) (hK : K ≤ 6) {Q : Int32 → Prop} {S : Nat → Int32} {A : AS} (hm : A 0 0 13 = nI N) (hk : A 0 0 14 = nI K) (h : Ab S A) (q : ∀ r, Bits r (fun p => p < K ∧ calledP A N p) → Q r) : ∀ (k i : Nat) (x : Int32), i + k = K → Bits x (fun p => p < i ∧ calledP A N p) → pX10_called_L4 (sa v 1 S) Q (k + 1) x (nI i) := by
  intro k
  induction k with
  | zero =>
    intro i x hi hx
    refine hdE (h.gv (by decide) hk) (by omega) (q x (hx.same (fun b _ => ?_)))
    rw [show i = K by omega]
  | succ k ih =>
    intro i x hi hx
    refine hdG (h.gv (by decide) hk) (by omega) (by omega) (m_isCalled hN hm h (by omega) (fun c1 => ⟨fun c => absurd c (by decide), fun _ => ?_⟩) (fun c1 => ⟨fun _ => ?_, fun c => absurd rfl c⟩))
    · unfold pX10_called_J31
      rw [nI_s]
      refine ih (i + 1) _ (by omega) (hx.put (by omega) (fun b _ => ⟨fun ⟨h1, h2⟩ => ?_, fun e => ?_⟩))
      · rcases Nat.lt_or_ge b i with e | e
        · exact .inl ⟨e, h2⟩
        · exact .inr (by omega)
      · rcases e with e | e
        · exact ⟨by omega, e.2⟩
        · exact ⟨by omega, e ▸ c1⟩
    · unfold pX10_called_J31
      rw [nI_s, or_0]
      refine ih (i + 1) _ (by omega) (hx.same (fun b _ => ⟨fun ⟨h1, h2⟩ => ⟨?_, h2⟩, fun ⟨h1, h2⟩ => ⟨by omega, h2⟩⟩))
      rcases Nat.lt_or_ge b i with e | e
      · exact e
      · exact absurd ((show b = i by omega) ▸ h2) c1

theorem lp_invI {α : Type} {f : Nat → α → α} (P : Nat → α → Prop) (n : Nat) (h : ∀ i x, i < n → P i x → P (i + 1) (f i x)) : ∀ k i x, i + k ≤ n → P i x → P (i + k) (lp f k i x) := by
  intro k
  induction k with
  | zero => exact fun _ _ _ q => q
  | succ k ih =>
    intro i x hi q
    have := ih (i + 1) (f i x) (by omega) (h i x (by omega) q)
    rw [show i + (k + 1) = i + 1 + k by omega]
    exact this
theorem recS_g (a : Nat) (b e : Int32) (A : AS) {g : Nat} (hg : g ≠ 15) : recS a b e A 0 0 g = A 0 0 g := by
  unfold recS recW
  split <;> simp [U_at, shR, hg]
theorem recS_1 (a : Nat) (b e : Int32) (A : AS) : recS a b e A 1 = A 1 := by
  funext x y
  unfold recS recW
  split <;> simp [U_at, shR]
theorem recS_2 (a : Nat) (b e : Int32) (A : AS) : recS a b e A 2 = A 2 := by
  funext x y
  unfold recS recW
  split <;> simp [U_at, shR]
theorem recW_rc {t N : Nat} {A : AS} {m : Nat} (hm : m < 24) (hc : A 0 0 15 = nI m) (h : ∀ i, i < m → (∃ a, a < N ∧ A 3 i 0 = nI a) ∧ qb (A 3 i 1) t ∧ qb (A 3 i 2) t) {i : Nat} (hi : i < N) {b e : Int32} (hb : qb b t) (he : qb e t) : ∃ m, m ≤ 24 ∧ recW i b e A 0 0 15 = nI m ∧ ∀ j, j < m → (∃ a, a < N ∧ recW i b e A 3 j 0 = nI a) ∧ qb (recW i b e A 3 j 1) t ∧ qb (recW i b e A 3 j 2) t := by
  refine ⟨m + 1, by omega, by simp [recW, U_at, hc, nI_s], fun j hj => ?_⟩
  have hcl : (A 0 0 15).toNatClampNeg = m := by rw [hc, nI_clamp (by omega)]
  by_cases c : j = m
  · subst c
    simp [recW, U_at, hcl]
    exact ⟨⟨i, hi, rfl⟩, hb, he⟩
  · have := h j (by omega)
    simp [recW, U_at, hcl, c]
    exact this
theorem recS_rc {t N : Nat} {A : AS} (h : ∃ m, m ≤ 24 ∧ A 0 0 15 = nI m ∧ ∀ i, i < m → (∃ a, a < N ∧ A 3 i 0 = nI a) ∧ qb (A 3 i 1) t ∧ qb (A 3 i 2) t) {i : Nat} (hi : i < N) {b e : Int32} (hb : qb b t) (he : qb e t) : ∃ m, m ≤ 24 ∧ recS i b e A 0 0 15 = nI m ∧ ∀ j, j < m → (∃ a, a < N ∧ recS i b e A 3 j 0 = nI a) ∧ qb (recS i b e A 3 j 1) t ∧ qb (recS i b e A 3 j 2) t := by
  obtain ⟨m, hm, hc, h⟩ := h
  unfold recS
  by_cases c : A 0 0 15 = 24
  · rw [if_pos c]
    have e24 : m = 24 := nI_inj (by omega) (by decide) (hc.symm.trans c)
    refine recW_rc (m := 23) (by decide) (by simp [U_at, c] <;> rfl) (fun j hj => ?_) hi hb he
    have := h (j + 1) (by omega)
    simp [U_at, shR, hj]
    exact this
  · rw [if_neg c]
    have : m < 24 := by
      rcases Nat.lt_or_ge m 24 with l | l
      · exact l
      · exact absurd (hc.trans (by rw [show m = 24 by omega]; rfl)) c
    exact recW_rc this hc h hi hb he
theorem CoI.recd {t N K : Nat} {A : AS} (h : CoI t N K A) {i : Nat} (hi : i < N) {b e : Int32} (hb : qb b t) (he : qb e t) : CoI t N K (recS i b e A) := by
  have g := fun {g : Nat} (hg : g ≠ 15) => recS_g i b e A hg
  have r := recS_rc h.rc hi hb he
  refine ⟨h.hN, h.hK, (g (by decide)).trans h.m, (g (by decide)).trans h.k, (g (by decide)).trans h.sec, ?_, ?_, ?_, ?_, ?_, ?_, r, ?_, ?_⟩
  · rw [g (by decide), g (by decide), recS_1, recS_2]; exact h.st
  · rw [g (by decide), g (by decide), g (by decide), g (by decide), recS_1]; exact h.st0
  · rw [g (by decide)]; exact h.cut
  · rw [g (by decide), recS_2]; exact h.em
  · rw [recS_1]; exact h.sg
  · rw [recS_2]; exact h.ph
  · rw [g (by decide)]; exact h.cy
  · rw [g (by decide)]; exact h.sf
theorem CoI.endG {t N K : Nat} {A : AS} (h : CoI t N K A) (i : Nat) : CoI t N K (U (U A 1 i 6 0) 1 i 8 (A 0 0 3)) := by
  refine h.one i (fun g _ _ _ _ => by simp [U_at]) (fun q => by simp [U_at]) (by funext x y; simp [U_at]) (fun a e => by funext y; simp [U_at, e]) (fun hi s => ?_) (fun _ c => absurd (by simp [U_at]) c)
  refine ⟨by simpa [U_at] using s.kind, by simpa [U_at] using s.queue, .inl (by simp [U_at]), by simpa [U_at] using s.beg, ?_, by simpa [U_at] using s.seen, by simpa [U_at] using s.len, fun j hj => ?_⟩
  · simp [U_at]; exact .inr ⟨t, Nat.le_refl _, h.sec⟩
  · have := s.cells j hj
    simp only [U_at]
    rw [if_neg (by omega), if_neg (by omega)]
    exact this
theorem CoI.ch {t N K : Nat} {A : AS} (h : CoI t N K A) (p : Nat) {i : Nat} (hi : i < N) : CoI t N K (chS p i A) := by
  unfold chS
  split
  · exact h
  · split
    · exact h
    · rename_i c _
      refine (h.endG i).recd hi ?_ ⟨t, Nat.le_refl _, h.sec⟩
      exact ((h.sg i hi).gr.resolve_left c).2
theorem chS_2 (p i : Nat) (A : AS) : chS p i A 2 = A 2 := by
  unfold chS
  split
  · rfl
  · split
    · rfl
    · rw [recS_2]; funext x y; simp [U_at]
theorem chS_g (p i : Nat) (A : AS) {g : Nat} (hg : g ≠ 15) : chS p i A 0 0 g = A 0 0 g := by
  unfold chS
  split
  · rfl
  · split
    · rfl
    · rw [recS_g _ _ _ _ hg]; simp [U_at]
theorem chS_1 (p i : Nat) (A : AS) {a : Nat} (h : a ≠ i) : chS p i A 1 a = A 1 a := by
  unfold chS
  split
  · rfl
  · split
    · rfl
    · rw [recS_1]; funext y; simp [U_at, h]
theorem chS_i (p i : Nat) (A : AS) (h : ¬ chS p i A 1 i 6 = 0) : bt (A 2 p 0) i = true := by
  unfold chS at h
  split at h
  · rename_i c; exact absurd c h
  · split at h
    · assumption
    · rw [recS_1] at h; exact absurd (by simp [U_at]) h
theorem ch_2 (p k i : Nat) (A : AS) : lp (chS p) k i A 2 = A 2 := lp_inv (fun B : AS => B 2 = A 2) (fun i B h => (chS_2 p i B).trans h) k i A rfl
theorem ch_g (p k i : Nat) (A : AS) {g : Nat} (hg : g ≠ 15) : lp (chS p) k i A 0 0 g = A 0 0 g := lp_inv (fun B : AS => B 0 0 g = A 0 0 g) (fun i B h => (chS_g p i B hg).trans h) k i A rfl
theorem CoI.changes {t N K : Nat} {A : AS} (h : CoI t N K A) (hs : A 0 0 2 = 1) {p : Nat} (hp : p < K) : CoI t N K (changesA N p A) := by
  have h1 := lp_invI (f := chS p) (fun _ B => CoI t N K B) N (fun i B hi h => h.ch p hi) N 0 A (by omega) h
  have h2 := lp_invI (f := chS p) (fun i B => B 2 = A 2 ∧ ∀ a, a < i → ¬ B 1 a 6 = 0 → bt (A 2 p 0) a = true) N (fun i B hi ⟨e, h⟩ => ⟨(chS_2 p i B).trans e, fun a ha c => by
    by_cases ea : a = i
    · subst ea; rw [← e]; exact chS_i p a B c
    · rw [chS_1 p i B ea] at c; exact h a (by omega) c⟩) N 0 A (by omega) ⟨rfl, fun a ha => by omega⟩
  have hs1 : lp (chS p) N 0 A 0 0 2 = 1 := (ch_g p N 0 A (by decide)).trans hs
  unfold changesA
  revert h1 h2 hs1
  generalize lp (chS p) N 0 A = B
  intro h1 h2 hs1
  have g : ∀ {g : Nat}, g ≠ 4 → comesOnA p B 0 0 g = B 0 0 g := fun h => by simp [comesOnA, U_at, h]
  have g1 : comesOnA p B 1 = B 1 := by funext x y; simp [comesOnA, U_at]
  have g2 : ∀ q, comesOnA p B 2 q 0 = B 2 q 0 := fun q => by simp [comesOnA, U_at]
  have g3 : comesOnA p B 3 = B 3 := by funext x y; simp [comesOnA, U_at]
  refine ⟨h.hN, h.hK, (g (by decide)).trans h1.m, (g (by decide)).trans h1.k, (g (by decide)).trans h1.sec, .inr ⟨(g (by decide)).trans hs1, p, hp, by simp [comesOnA, U_at], fun a ha c => ?_⟩, fun e => ?_, ?_, ?_, ?_, ?_, ?_, ?_, ?_⟩
  · rw [g2, h2.1]; rw [g1] at c; exact h2.2 a (by omega) c
  · rw [g (by decide), hs1] at e; exact absurd e (by decide)
  · rw [g (by decide)]; exact h1.cut
  · rw [g (by decide)]; simp only [g2]; exact h1.em
  · rw [g1]; exact h1.sg
  · simp only [g2]; exact h1.ph
  · rw [g (by decide), g3]; exact h1.rc
  · rw [g (by decide)]; exact h1.cy
  · rw [g (by decide)]; exact h1.sf
theorem CoI.setCut {t N K : Nat} {A : AS} (h : CoI t N K A) (hs : A 0 0 2 = 1) {x : Int32} (hx : x = -5 ∨ ∃ c, c < K ∧ x = nI c) : CoI t N K (U A 0 0 5 x) := by
  have g : ∀ {g : Nat}, g ≠ 5 → U A 0 0 5 x 0 0 g = A 0 0 g := fun h => by simp [U_at, h]
  have g1 : U A 0 0 5 x 1 = A 1 := by funext x y; simp [U_at]
  have g2 : U A 0 0 5 x 2 = A 2 := by funext x y; simp [U_at]
  have g3 : U A 0 0 5 x 3 = A 3 := by funext x y; simp [U_at]
  refine ⟨h.hN, h.hK, (g (by decide)).trans h.m, (g (by decide)).trans h.k, (g (by decide)).trans h.sec, ?_, fun e => ?_, ?_, ?_, ?_, ?_, ?_, ?_, ?_⟩
  · rw [g (by decide), g (by decide), g1, g2]; exact h.st
  · rw [g (by decide), hs] at e; exact absurd e (by decide)
  · simpa [U_at] using hx
  · rw [g (by decide), g2]; exact h.em
  · rw [g1]; exact h.sg
  · rw [g2]; exact h.ph
  · rw [g (by decide), g3]; exact h.rc
  · rw [g (by decide)]; exact h.cy
  · rw [g (by decide)]; exact h.sf
theorem CoI.ends {t N K : Nat} {A : AS} (ht : t < 2 ^ 30) (h : CoI t N K A) : CoI (t + 1) N K (endsS N A) := by
  have h1 : CoI t N K (lp goS N 0 A) := lp_inv (CoI t N K) (fun i B h => h.go ht i) N 0 A h
  unfold endsS
  have e3 : A 0 0 3 + 1 = nI (t + 1) := by rw [h.sec, nI_s]
  rw [e3]
  revert h1
  generalize lp goS N 0 A = B
  intro h1
  generalize B 0 0 7 + lp (quS B) N 0 0 = z
  have g : ∀ {g : Nat}, g ≠ 7 → g ≠ 3 → U (U B 0 0 7 z) 0 0 3 (nI (t + 1)) 0 0 g = B 0 0 g := fun h1 h2 => by simp [U_at, h1, h2]
  have g1 : U (U B 0 0 7 z) 0 0 3 (nI (t + 1)) 1 = B 1 := by funext x y; simp [U_at]
  have g2 : U (U B 0 0 7 z) 0 0 3 (nI (t + 1)) 2 = B 2 := by funext x y; simp [U_at]
  have g3 : U (U B 0 0 7 z) 0 0 3 (nI (t + 1)) 3 = B 3 := by funext x y; simp [U_at]
  refine ⟨h.hN, h.hK, (g (by decide) (by decide)).trans h1.m, (g (by decide) (by decide)).trans h1.k, by simp [U_at], ?_, ?_, ?_, ?_, ?_, ?_, ?_, ?_, ?_⟩
  · rw [g (by decide) (by decide), g (by decide) (by decide), g1, g2]; exact h1.st
  · rw [g (by decide) (by decide), g (by decide) (by decide), g (by decide) (by decide), g (by decide) (by decide), g1]; exact h1.st0
  · rw [g (by decide) (by decide)]; exact h1.cut
  · rw [g (by decide) (by decide), g2]; exact h1.em
  · rw [g1]; exact fun a ha => (h1.sg a ha).mono (by omega)
  · rw [g2]; exact h1.ph
  · rw [g (by decide) (by decide), g3]
    obtain ⟨m, a, b, c⟩ := h1.rc
    exact ⟨m, a, b, fun i hi => ⟨(c i hi).1, (c i hi).2.1.mono (by omega), (c i hi).2.2.mono (by omega)⟩⟩
  · rw [g (by decide) (by decide)]; exact h1.cy
  · rw [g (by decide) (by decide)]; exact h1.sf
theorem bits_ex (P : Nat → Prop) : ∀ n, n ≤ 32 → ∃ r, Bits r (fun i => i < n ∧ P i) := by
  intro n
  induction n with
  | zero => exact fun _ => ⟨0, Bits.zero' (fun i _ c => by omega)⟩
  | succ n ih =>
    intro hn
    obtain ⟨r, hr⟩ := ih (by omega)
    by_cases c : P n
    · refine ⟨_, hr.put (i := n) (by omega) (fun b _ => ⟨fun ⟨h1, h2⟩ => ?_, fun e => ?_⟩)⟩
      · rcases Nat.lt_or_ge b n with e | e
        · exact .inl ⟨e, h2⟩
        · exact .inr (by omega)
      · rcases e with e | e
        · exact ⟨by omega, e.2⟩
        · exact ⟨by omega, e ▸ c⟩
    · refine ⟨r, hr.same (fun b _ => ⟨fun ⟨h1, h2⟩ => ⟨?_, h2⟩, fun ⟨h1, h2⟩ => ⟨by omega, h2⟩⟩)⟩
      rcases Nat.lt_or_ge b n with e | e
      · exact e
      · exact absurd ((show b = n by omega) ▸ h2) c
noncomputable def csA (N K : Nat) (A : AS) : Int32 := @dite Int32 (∃ r, Bits r (fun p => p < K ∧ calledP A N p)) (Classical.propDecidable _) (fun h => h.choose) (fun _ => 0)
theorem csA_ok (N : Nat) {K : Nat} (hK : K ≤ 6) (A : AS) : Bits (csA N K A) (fun p => p < K ∧ calledP A N p) := by
  have h := bits_ex (calledP A N) K (by omega)
  unfold csA
  rw [dif_pos h]
  exact h.choose_spec
noncomputable def nxA (K y : Nat) (cs : Int32) (A : AS) : Nat := @dite Nat (∃ p, NXT A K y cs p) (Classical.propDecidable _) (fun h => h.choose) (fun _ => 0)
theorem nxA_eq {K y : Nat} (hK : K ≤ 6) {cs : Int32} {A : AS} {p : Nat} (h : NXT A K y cs p) : nxA K y cs A = p := by
  have e : ∃ p, NXT A K y cs p := ⟨p, h⟩
  unfold nxA
  rw [dif_pos e]
  exact e.choose_spec.uniq hK h
theorem NXT.ex {A : AS} {K y : Nat} (hy : y < K) {cs : Int32} (hs : ∃ b, b < K ∧ bt cs b = true) : ∃ p, NXT A K y cs p := by
  by_cases hn : ∃ c, c < K ∧ A 0 0 5 = nI c ∧ bt cs c = true
  · obtain ⟨c, h1, h2, h3⟩ := hn
    exact ⟨c, h1, h3, .inl h2⟩
  · obtain ⟨b, hb, hb2⟩ := hs
    obtain ⟨d, h1, h2⟩ := least (R := fun d => bt cs ((y + 1 + d) % K) = true) (d := b + K - (y + 1)) (by
      show bt cs ((y + 1 + (b + K - (y + 1))) % K) = true
      rw [show y + 1 + (b + K - (y + 1)) = b + K by omega, Nat.add_mod_right, Nat.mod_eq_of_lt hb]
      exact hb2)
    exact ⟨_, Nat.mod_lt _ (by omega), h1, .inr ⟨hn, d, rfl, h2⟩⟩
def curN (A : AS) : Nat := (A 0 0 4).toNatClampNeg
def emN (A : AS) : Nat := (A 0 0 6).toNatClampNeg
noncomputable def chgA (N K : Nat) (A : AS) : AS :=
  if A 0 0 6 < 0 then @ite AS (goC A N (curN A) (¬ csA N K A = 0)) (Classical.propDecidable _) (changesA N (nxA K (curN A) (csA N K A) A) (U A 0 0 5 (-5))) A
  else @ite AS (mayE A N (curN A) (emN A)) (Classical.propDecidable _) (changesA N (ffr (fwA A (emN A)) K 0).toNatClampNeg (cutA A)) A
noncomputable def turnsA (C : Nat → Int32) (N K : Nat) (A : AS) : AS := lp (turnS C N (curN (chgA N K (comingS N A)))) N 0 (chgA N K (comingS N A))
noncomputable def secA (C : Nat → Int32) (N K : Nat) (A : AS) : AS := endsS N (turnsA C N K A)
theorem m5 {n : Nat} (h : n < 2 ^ 31) : ¬ nI n = -5 := fun c => by
  have := congrArg Int32.toInt c
  rw [nI_toInt h] at this
  have e : (-5 : Int32).toInt = -5 := by decide
  omega
theorem em_facts {t N K : Nat} {A : AS} (h : CoI t N K A) (hn : ¬ A 0 0 6 < 0) : ∃ a p, a < N ∧ A 0 0 6 = nI a ∧ emN A = a ∧ ffr (fwA A a) K 0 = nI p ∧ p < K ∧ (ffr (fwA A a) K 0).toNatClampNeg = p := by
  have hN := h.hN
  have hK := h.hK
  rcases h.em with e | ⟨a, ha, e, q, hq, hb⟩
  · rw [e] at hn; exact absurd (by decide) hn
  · obtain ⟨p, h1, _, h2, _⟩ := ffr_some (P := fwA A a) K 0 ⟨q, by omega, by omega, hb⟩
    exact ⟨a, p, ha, e, by rw [emN, e, nI_clamp (by omega)], h1, by omega, by rw [h1, nI_clamp (by omega)]⟩
theorem go_cs {t N K : Nat} {A : AS} (h : CoI t N K A) {y : Nat} (g : goC A N y (¬ csA N K A = 0)) : ∃ b, b < K ∧ bt (csA N K A) b = true := by
  obtain ⟨i, hi, hb⟩ := ne0_bt g.1.1
  exact ⟨i, ((csA_ok N h.hK A i hi).mp hb).1, hb⟩
theorem cur_facts {t N K : Nat} {A : AS} (h : CoI t N K A) (hs : A 0 0 2 = 1) : ∃ y, y < K ∧ A 0 0 4 = nI y ∧ curN A = y := by
  have hK := h.hK
  rcases h.st with e | ⟨_, y, hy, e, _⟩
  · exact absurd (e.symm.trans hs) (by decide)
  · exact ⟨y, hy, e, by rw [curN, e, nI_clamp (by omega)]⟩
theorem CoI.cutE {t N K : Nat} {A : AS} (h : CoI t N K A) (hs : A 0 0 2 = 1) : CoI t N K (cutA A) := by
  unfold cutA
  split
  · exact h
  · obtain ⟨y, hy, e, _⟩ := cur_facts h hs
    exact h.setCut hs (.inr ⟨y, hy, e⟩)
theorem CoI.chg {t N K : Nat} {A : AS} (h : CoI t N K A) (hs : A 0 0 2 = 1) : CoI t N K (chgA N K A) ∧ chgA N K A 0 0 2 = 1 := by
  have s2 : ∀ p B, B 0 0 2 = 1 → changesA N p B 0 0 2 = 1 := fun p B e => by
    have := (ch_g p N 0 B (g := 2) (by decide)).trans e
    simpa [changesA, comesOnA, U_at] using this
  unfold chgA
  split
  · split
    · rename_i g
      obtain ⟨y, hy, e, ec⟩ := cur_facts h hs
      obtain ⟨p, hp⟩ := NXT.ex (A := A) (y := curN A) (by rw [ec]; exact hy) (go_cs h g)
      rw [nxA_eq h.hK hp]
      exact ⟨(h.setCut hs (.inl rfl)).changes (by simp [U_at, hs]) hp.1, s2 _ _ (by simp [U_at, hs])⟩
    · exact ⟨h, hs⟩
  · split
    · rename_i hn _
      obtain ⟨a, p, _, _, e1, e2, hp, e3⟩ := em_facts h hn
      rw [e1, e3]
      have : cutA A 0 0 2 = 1 := by unfold cutA; split <;> simp [U_at, hs]
      exact ⟨(h.cutE hs).changes this hp, s2 _ _ this⟩
    · exact ⟨h, hs⟩
theorem turn_g (C : Nat → Int32) (N y k i : Nat) (A : AS) (g : Nat) : lp (turnS C N y) k i A 0 0 g = A 0 0 g := by
  refine lp_inv (fun B : AS => B 0 0 g = A 0 0 g) (fun i B h => ?_) k i A rfl
  unfold turnS
  split
  · simpa [U_at] using h
  · exact h
theorem seen_g (k i : Nat) (A : AS) (g : Nat) : lp seenS k i A 0 0 g = A 0 0 g := by
  refine lp_inv (fun B : AS => B 0 0 g = A 0 0 g) (fun i B h => ?_) k i A rfl
  unfold seenS
  split
  · exact h
  · simpa [U_at] using h
theorem coming_g {g : Nat} (h0 : g ≠ 0) (h9 : g ≠ 9) (N : Nat) (A : AS) : comingS N A 0 0 g = A 0 0 g := (seen_g N 0 _ g).trans (come_g h0 h9 N 0 A)
theorem CoI.turns {t N K : Nat} {A : AS} (h : CoI t N K A) (hs : A 0 0 2 = 1) (C : Nat → Int32) : CoI t N K (turnsA C N K A) ∧ turnsA C N K A 0 0 2 = 1 := by
  have h1 := h.coming
  have hs1 : comingS N A 0 0 2 = 1 := (coming_g (by decide) (by decide) N A).trans hs
  obtain ⟨h2, hs2⟩ := h1.chg hs1
  unfold turnsA
  revert h2 hs2
  generalize chgA N K (comingS N A) = B
  intro h2 hs2
  obtain ⟨y, hy, e, ec⟩ := cur_facts h2 hs2
  rw [ec]
  refine ⟨(lp_inv (fun D : AS => CoI t N K D ∧ D 0 0 2 = 1 ∧ D 0 0 4 = nI y) (fun i D ⟨q1, q2, q3⟩ => ⟨q1.turn q2 q3 hy i, ?_, ?_⟩) N 0 B ⟨h2, hs2, e⟩).1, (turn_g C N y N 0 B 2).trans hs2⟩
  · exact (turn_g C N y 1 i D 2).trans q2
  · exact (turn_g C N y 1 i D 4).trans q3
theorem CoI.second {t N K : Nat} {A : AS} (ht : t < 2 ^ 30) (h : CoI t N K A) (hs : A 0 0 2 = 1) (C : Nat → Int32) : CoI (t + 1) N K (secA C N K A) ∧ secA C N K A 0 0 2 = 1 := by
  obtain ⟨h1, h2⟩ := h.turns hs C
  refine ⟨h1.ends ht, ?_⟩
  simpa [secA, endsS, U_at, go_gl] using h2
theorem CoI.rOk {t N K : Nat} {A : AS} (h : CoI t N K A) : rOk A := by
  obtain ⟨m, a, b, _⟩ := h.rc
  exact ⟨m, a, b⟩
theorem m_turns {v : Lf} {t N K : Nat} {Q : Lf → Prop} {S : Nat → Int32} {A : AS} (hI : CoI t N K A) (hs : A 0 0 2 = 1) (h : Ab S A) (q : ∀ S', Ab S' (turnsA (v 4) N K A) → Q (sa v 1 S')) : pX10_turns (sa v 1 S) Q := by
  have hN := hI.hN
  have hK := hI.hK
  refine ⟨N + 1, m_coming2 hN N 0 (by omega) hI.m h (fun S1 h1 => ?_)⟩
  have h1 : Ab S1 (comingS N A) := h1
  have i1 := hI.coming
  have hs1 : comingS N A 0 0 2 = 1 := (coming_g (by decide) (by decide) N A).trans hs
  obtain ⟨i2, hs2⟩ := i1.chg hs1
  have fin : ∀ S2, Ab S2 (chgA N K (comingS N A)) → pX10_turns_J25 Q (sa v 1 S2) := by
    intro S2 h2
    obtain ⟨y, hy, e, ec⟩ := cur_facts i2 hs2
    refine ⟨N + 1, m_turning hN (by omega) N 0 (by omega) i2.m e h2 ?_⟩
    rw [← ec]
    exact q
  obtain ⟨y, hy, e, ec⟩ := cur_facts i1 hs1
  unfold turnsA at q
  revert h1 i1 hs1 fin e ec
  generalize comingS N A = B
  intro h1 i1 hs1 fin e ec
  rw [h1.gw (k := 6) (by decide)]
  refine ⟨fun c => ?_, fun c => ?_⟩
  · refine m_byCalls hN hK i1.m i1.k e hy i1.cut i1.rOk h1 (csA_ok N hK B) (fun g p hp S2 h2 => fin S2 ?_) (fun g => fin S1 ?_)
    · have hp : NXT B K (curN B) (csA N K B) p := by rw [ec]; exact hp
      unfold chgA
      rw [if_pos c, if_pos (by rw [ec]; exact g), nxA_eq hK hp]
      exact h2
    · unfold chgA
      rw [if_pos c, if_neg (by rw [ec]; exact g)]
      exact h1
  · obtain ⟨a, p, ha, e0, e1, e2, hp, e3⟩ := em_facts i1 c
    refine m_byEm hN hK i1.m i1.k e hy e0 (by omega) i1.rOk h1 e2 hp (fun g S2 h2 => fin S2 ?_) (fun g => fin S1 ?_)
    · unfold chgA
      rw [if_neg c, if_pos (by rw [ec, e1]; exact g), e1, e3]
      exact h2
    · unfold chgA
      rw [if_neg c, if_neg (by rw [ec, e1]; exact g)]
      exact h1
theorem m_second {v : Lf} {t N K : Nat} {Q : Lf → Prop} {S : Nat → Int32} {A : AS} (hI : CoI t N K A) (hs : A 0 0 2 = 1) (h : Ab S A) (q : ∀ S', Ab S' (secA (v 4) N K A) → Q (sa v 1 S')) : pX10_turns (sa v 1 S) (fun v2 => pX10_ends v2 Q) :=
  m_turns hI hs h (fun S1 h1 => m_ends hI.hN (hI.turns hs (v 4)).1.m h1 q)
theorem m_passes {v : Lf} {N K n : Nat} {Q : Lf → Prop} (hn : n < 2 ^ 30) : ∀ (k i : Nat) {S : Nat → Int32} {A : AS} {t : Nat}, i + k = n → t + k < 2 ^ 30 → CoI t N K A → A 0 0 2 = 1 → Ab S A → (∀ S', Ab S' (lp (fun _ => secA (v 4) N K) k i A) → Q (sa v 1 S')) → pX10_passes_L2 (nI n) Q (k + 1) (sa v 1 S) (nI i) := by
  intro k
  induction k with
  | zero =>
    intro i S A t hi ht hI hs h q
    exact hdE rfl (by omega) (q S h)
  | succ k ih =>
    intro i S A t hi ht hI hs h q
    refine hdG rfl (by omega) (by omega) (m_second hI hs h (fun S1 h1 => ?_))
    rw [nI_s]
    obtain ⟨i1, s1⟩ := hI.second (by omega) hs (v 4)
    exact ih (i + 1) (by omega) (by omega) i1 s1 h1 q

def qb (x : Int32) (n : Nat) : Prop := ∃ q, q ≤ n ∧ x = nI q
def nv (x : Int32) (t : Nat) : Prop := x = -5 ∨ qb x t
abbrev SgI (t : Nat) (f : Nat → Int32) : Prop := (qb (f 0) 3) ∧ (qb (f 5) 99) ∧ (f 6 = 0 ∨ (f 6 = 1 ∧ qb (f 7) t)) ∧ (nv (f 7) t) ∧ (nv (f 8) t) ∧ (nv (f 9) t) ∧ (∃ m, 1 ≤ m ∧ m ≤ 8 ∧ f 11 = nI m) ∧ (∀ i, i < 8 → qb (f (12 + i)) 63)
theorem SgI.kind {t : Nat} {f : Nat → Int32} (h : SgI t f) : qb (f 0) 3 := h.1
theorem SgI.queue {t : Nat} {f : Nat → Int32} (h : SgI t f) : qb (f 5) 99 := h.2.1
theorem SgI.gr {t : Nat} {f : Nat → Int32} (h : SgI t f) : f 6 = 0 ∨ (f 6 = 1 ∧ qb (f 7) t) := h.2.2.1
theorem SgI.beg {t : Nat} {f : Nat → Int32} (h : SgI t f) : nv (f 7) t := h.2.2.2.1
theorem SgI.en {t : Nat} {f : Nat → Int32} (h : SgI t f) : nv (f 8) t := h.2.2.2.2.1
theorem SgI.seen {t : Nat} {f : Nat → Int32} (h : SgI t f) : nv (f 9) t := h.2.2.2.2.2.1
theorem SgI.len {t : Nat} {f : Nat → Int32} (h : SgI t f) : ∃ m, 1 ≤ m ∧ m ≤ 8 ∧ f 11 = nI m := h.2.2.2.2.2.2.1
theorem SgI.cells {t : Nat} {f : Nat → Int32} (h : SgI t f) : ∀ i, i < 8 → qb (f (12 + i)) 63 := h.2.2.2.2.2.2.2
abbrev CoI (t N K : Nat) (A : AS) : Prop := (N ≤ 8) ∧ (K ≤ 6) ∧ (A 0 0 13 = nI N) ∧ (A 0 0 14 = nI K) ∧ (A 0 0 3 = nI t) ∧ (A 0 0 2 = 0 ∨ (A 0 0 2 = 1 ∧ ∃ y, y < K ∧ A 0 0 4 = nI y ∧ ∀ a, a < N → ¬ A 1 a 6 = 0 → bt (A 2 y 0) a = true)) ∧ (A 0 0 2 = 0 → A 0 0 4 = -5 ∧ A 0 0 6 = -5 ∧ A 0 0 5 = -5 ∧ ∀ a, a < N → A 1 a 6 = 0) ∧ (A 0 0 5 = -5 ∨ ∃ c, c < K ∧ A 0 0 5 = nI c) ∧ (A 0 0 6 = -5 ∨ ∃ a, a < N ∧ A 0 0 6 = nI a ∧ ∃ q, q < K ∧ bt (A 2 q 0) a = true) ∧ (∀ a, a < N → SgI t (A 1 a)) ∧ (∀ q, q < K → ∀ i, N ≤ i → i < 32 → bt (A 2 q 0) i = false) ∧ (∃ m, m ≤ 24 ∧ A 0 0 15 = nI m ∧ ∀ i, i < m → (∃ a, a < N ∧ A 3 i 0 = nI a) ∧ qb (A 3 i 1) t ∧ qb (A 3 i 2) t) ∧ (A 0 0 10 = 0 ∨ ∃ c, 20 ≤ c ∧ c ≤ 240 ∧ A 0 0 10 = nI c) ∧ (qb (A 0 0 1) 5)
theorem CoI.hN {t N K : Nat} {A : AS} (h : CoI t N K A) : N ≤ 8 := h.1
theorem CoI.hK {t N K : Nat} {A : AS} (h : CoI t N K A) : K ≤ 6 := h.2.1
theorem CoI.m {t N K : Nat} {A : AS} (h : CoI t N K A) : A 0 0 13 = nI N := h.2.2.1
theorem CoI.k {t N K : Nat} {A : AS} (h : CoI t N K A) : A 0 0 14 = nI K := h.2.2.2.1
theorem CoI.sec {t N K : Nat} {A : AS} (h : CoI t N K A) : A 0 0 3 = nI t := h.2.2.2.2.1
theorem CoI.st {t N K : Nat} {A : AS} (h : CoI t N K A) : A 0 0 2 = 0 ∨ (A 0 0 2 = 1 ∧ ∃ y, y < K ∧ A 0 0 4 = nI y ∧ ∀ a, a < N → ¬ A 1 a 6 = 0 → bt (A 2 y 0) a = true) := h.2.2.2.2.2.1
theorem CoI.st0 {t N K : Nat} {A : AS} (h : CoI t N K A) : A 0 0 2 = 0 → A 0 0 4 = -5 ∧ A 0 0 6 = -5 ∧ A 0 0 5 = -5 ∧ ∀ a, a < N → A 1 a 6 = 0 := h.2.2.2.2.2.2.1
theorem CoI.cut {t N K : Nat} {A : AS} (h : CoI t N K A) : A 0 0 5 = -5 ∨ ∃ c, c < K ∧ A 0 0 5 = nI c := h.2.2.2.2.2.2.2.1
theorem CoI.em {t N K : Nat} {A : AS} (h : CoI t N K A) : A 0 0 6 = -5 ∨ ∃ a, a < N ∧ A 0 0 6 = nI a ∧ ∃ q, q < K ∧ bt (A 2 q 0) a = true := h.2.2.2.2.2.2.2.2.1
theorem CoI.sg {t N K : Nat} {A : AS} (h : CoI t N K A) : ∀ a, a < N → SgI t (A 1 a) := h.2.2.2.2.2.2.2.2.2.1
theorem CoI.ph {t N K : Nat} {A : AS} (h : CoI t N K A) : ∀ q, q < K → ∀ i, N ≤ i → i < 32 → bt (A 2 q 0) i = false := h.2.2.2.2.2.2.2.2.2.2.1
theorem CoI.rc {t N K : Nat} {A : AS} (h : CoI t N K A) : ∃ m, m ≤ 24 ∧ A 0 0 15 = nI m ∧ ∀ i, i < m → (∃ a, a < N ∧ A 3 i 0 = nI a) ∧ qb (A 3 i 1) t ∧ qb (A 3 i 2) t := h.2.2.2.2.2.2.2.2.2.2.2.1
theorem CoI.cy {t N K : Nat} {A : AS} (h : CoI t N K A) : A 0 0 10 = 0 ∨ ∃ c, 20 ≤ c ∧ c ≤ 240 ∧ A 0 0 10 = nI c := h.2.2.2.2.2.2.2.2.2.2.2.2.1
theorem CoI.sf {t N K : Nat} {A : AS} (h : CoI t N K A) : qb (A 0 0 1) 5 := h.2.2.2.2.2.2.2.2.2.2.2.2.2
theorem qb.mono {x : Int32} {n k : Nat} (h : qb x n) (e : n ≤ k) : qb x k := h.imp (fun q ⟨a, b⟩ => ⟨by omega, b⟩)
theorem nv.mono {x : Int32} {n k : Nat} (h : nv x n) (e : n ≤ k) : nv x k := h.imp id (fun h => h.mono e)
theorem SgI.mono {t u : Nat} {f : Nat → Int32} (h : SgI t f) (e : t ≤ u) : SgI u f :=
  ⟨h.kind, h.queue, h.gr.imp id (fun ⟨a, b⟩ => ⟨a, b.mono e⟩), h.beg.mono e, h.en.mono e, h.seen.mono e, h.len, h.cells⟩
theorem CoI.upd {t N K : Nat} {A B : AS} (h : CoI t N K A) (eg : ∀ g, g ≠ 0 → g ≠ 7 → g ≠ 8 → g ≠ 9 → B 0 0 g = A 0 0 g) (e2 : ∀ q, B 2 q 0 = A 2 q 0) (e3 : B 3 = A 3) (hs : ∀ a, a < N → SgI t (B 1 a)) (hg : ∀ a, a < N → ¬ B 1 a 6 = 0 → ¬ A 1 a 6 = 0 ∨ (A 0 0 2 = 1 ∧ ∀ y, y < K → A 0 0 4 = nI y → bt (A 2 y 0) a = true)) : CoI t N K B := by
  have g := fun k a b c d => eg k a b c d
  refine ⟨h.hN, h.hK, ?_, ?_, ?_, ?_, ?_, ?_, ?_, hs, ?_, ?_, ?_, ?_⟩
  · rw [g _ (by decide) (by decide) (by decide) (by decide)]; exact h.m
  · rw [g _ (by decide) (by decide) (by decide) (by decide)]; exact h.k
  · rw [g _ (by decide) (by decide) (by decide) (by decide)]; exact h.sec
  · rw [g _ (by decide) (by decide) (by decide) (by decide), g _ (by decide) (by decide) (by decide) (by decide)]
    refine h.st.imp id (fun ⟨e, y, h1, h3, h4⟩ => ⟨e, y, h1, h3, fun a ha c => ?_⟩)
    rw [e2]
    exact (hg a ha c).elim (h4 a ha) (fun r => r.2 y h1 h3)
  · rw [g _ (by decide) (by decide) (by decide) (by decide), g _ (by decide) (by decide) (by decide) (by decide), g _ (by decide) (by decide) (by decide) (by decide), g _ (by decide) (by decide) (by decide) (by decide)]
    intro e
    obtain ⟨h1, h2, h2b, h3⟩ := h.st0 e
    refine ⟨h1, h2, h2b, fun a ha => ?_⟩
    by_cases c : B 1 a 6 = 0
    · exact c
    · rcases hg a ha c with r | r
      · exact absurd (h3 a ha) r
      · exact absurd (e.symm.trans r.1) (by decide)
  · rw [g _ (by decide) (by decide) (by decide) (by decide)]; exact h.cut
  · rw [g _ (by decide) (by decide) (by decide) (by decide)]; simp only [e2]; exact h.em
  · simp only [e2]; exact h.ph
  · rw [g _ (by decide) (by decide) (by decide) (by decide), e3]; exact h.rc
  · rw [g _ (by decide) (by decide) (by decide) (by decide)]; exact h.cy
  · rw [g _ (by decide) (by decide) (by decide) (by decide)]; exact h.sf
theorem CoI.one {t N K : Nat} {A B : AS} (h : CoI t N K A) (i : Nat) (eg : ∀ g, g ≠ 0 → g ≠ 7 → g ≠ 8 → g ≠ 9 → B 0 0 g = A 0 0 g) (e2 : ∀ q, B 2 q 0 = A 2 q 0) (e3 : B 3 = A 3) (e1 : ∀ a, a ≠ i → B 1 a = A 1 a) (hs : i < N → SgI t (A 1 i) → SgI t (B 1 i)) (hg : i < N → ¬ B 1 i 6 = 0 → ¬ A 1 i 6 = 0 ∨ (A 0 0 2 = 1 ∧ ∀ y, y < K → A 0 0 4 = nI y → bt (A 2 y 0) i = true)) : CoI t N K B := by
  refine h.upd eg e2 e3 (fun a ha => ?_) (fun a ha c => ?_)
  · by_cases c : a = i
    · subst c; exact hs ha (h.sg a ha)
    · rw [e1 a c]; exact h.sg a ha
  · by_cases e : a = i
    · subst e; exact hg ha c
    · rw [e1 a e] at c; exact .inl c
theorem qb_join {x : Int32} (h : qb x 99) : qb (if x + 1 < 99 then x + 1 else 99) 99 := by
  obtain ⟨q, h1, rfl⟩ := h
  rw [nI_s]
  by_cases c : nI (q + 1) < 99
  · rw [if_pos c]; exact ⟨q + 1, by have := (nlt (b := 99) (by omega) (by decide)).mp c; omega, rfl⟩
  · rw [if_neg c]; exact ⟨99, by decide, rfl⟩
theorem comeS_one (i : Nat) (A : AS) : (∀ g, g ≠ 0 → g ≠ 7 → g ≠ 8 → g ≠ 9 → comeS i A 0 0 g = A 0 0 g) ∧ (∀ q, comeS i A 2 q 0 = A 2 q 0) ∧ comeS i A 3 = A 3 ∧ (∀ a, a ≠ i → comeS i A 1 a = A 1 a) ∧ (∀ w, w ≠ 5 → comeS i A 1 i w = A 1 i w) ∧ (comeS i A 1 i 5 = A 1 i 5 ∨ comeS i A 1 i 5 = if A 1 i 5 + 1 < 99 then A 1 i 5 + 1 else 99) := by
  unfold comeS
  split
  · simp
  · split
    · refine ⟨fun g h _ _ _ => by simp [U_at, h], fun q => by simp [U_at], by funext x y; simp [U_at], fun a h => by funext y; simp [U_at], fun w _ => by simp [U_at], .inl (by simp [U_at])⟩
    · refine ⟨fun g h _ _ h9 => by simp [joinA, U_at, h, h9], fun q => by simp [joinA, U_at], by funext x y; simp [joinA, U_at], fun a h => by funext y; simp [joinA, U_at, h], fun w h => by simp [joinA, U_at, h], .inr (by simp [joinA, U_at])⟩
theorem SgI.q {t : Nat} {f g : Nat → Int32} (h : SgI t f) (e : ∀ w, w ≠ 5 → g w = f w) (q : qb (g 5) 99) : SgI t g :=
  ⟨by rw [e 0 (by decide)]; exact h.kind, q, by rw [e 6 (by decide), e 7 (by decide)]; exact h.gr, by rw [e 7 (by decide)]; exact h.beg, by rw [e 8 (by decide)]; exact h.en, by rw [e 9 (by decide)]; exact h.seen, by rw [e 11 (by decide)]; exact h.len, fun i hi => by rw [e _ (by omega)]; exact h.cells i hi⟩
theorem CoI.come {t N K : Nat} {A : AS} (h : CoI t N K A) (i : Nat) : CoI t N K (comeS i A) := by
  obtain ⟨h1, h2, h3, h4, h5, h6⟩ := comeS_one i A
  refine h.one i h1 h2 h3 h4 (fun _ s => s.q h5 ?_) (fun _ c => .inl (by rw [← h5 6 (by decide)]; exact c))
  rcases h6 with e | e
  · rw [e]; exact s.queue
  · rw [e]; exact qb_join s.queue
theorem CoI.seen {t N K : Nat} {A : AS} (h : CoI t N K A) (i : Nat) : CoI t N K (seenS i A) := by
  unfold seenS
  split
  · exact h
  · refine h.one i (fun g _ _ _ _ => by simp [U_at]) (fun q => by simp [U_at]) (by funext x y; simp [U_at]) (fun a c => by funext y; simp [U_at, c]) (fun _ s => ?_) (fun _ c => .inl (by simpa [U_at] using c))
    refine ⟨by simpa [U_at] using s.kind, by simpa [U_at] using s.queue, by simpa [U_at] using s.gr, by simpa [U_at] using s.beg, by simpa [U_at] using s.en, ?_, by simpa [U_at] using s.len, fun i hi => ?_⟩
    · simp [U_at]; exact .inr ⟨t, Nat.le_refl _, h.sec⟩
    · have := s.cells i hi
      simp only [U_at]
      rw [if_neg (by omega)]
      exact this
theorem CoI.coming {t N K : Nat} {A : AS} (h : CoI t N K A) : CoI t N K (comingS N A) :=
  lp_inv (CoI t N K) (fun i _ h => h.seen i) _ _ _ (lp_inv (CoI t N K) (fun i _ h => h.come i) _ _ _ h)
theorem nI_sub {a b : Nat} (h : b ≤ a) : nI a - nI b = nI (a - b) := by
  have e : nI a = nI (a - b) + nI b := by rw [nI_add]; congr 1; omega
  rw [e, Int32.add_sub_cancel]
theorem nI_mod {a b : Nat} (ha : a < 2 ^ 31) (h0 : 0 < b) (hb : b < 2 ^ 31) : nI a - nI a / nI b * nI b = nI (a % b) := by
  rw [pk_div ha h0 hb, pk_mul, nI_sub (Nat.div_mul_le_self a b)]
  congr 1
  have := Nat.div_add_mod a b
  rw [Nat.mul_comm] at this
  omega
theorem go_sub {q : Nat} (hq : q ≤ 99) (n : Int32) (h : ∃ k, k ≤ q ∧ n = nI k) : qb (nI q - n) 99 := by
  obtain ⟨k, hk, rfl⟩ := h
  exact ⟨q - k, by omega, nI_sub hk⟩
theorem mostGo_ok {t N K : Nat} {A : AS} (ht : t < 2 ^ 30) (h : CoI t N K A) {i : Nat} (hi : i < N) (hg : ¬ A 1 i 6 = 0) : ∃ k, k ≤ 99 ∧ mostGo A i = nI k := by
  have s := h.sg i hi
  rcases s.gr with e | ⟨_, b, hb, e⟩
  · exact absurd e hg
  · have hk : A 0 0 3 - A 1 i 7 = nI (t - b) := by rw [h.sec, e, nI_sub hb]
    unfold mostGo
    rw [hk]
    split
    · have : nI (t - b) - nI (t - b) / 2 * 2 = nI ((t - b) % 2) := nI_mod (b := 2) (by omega) (by decide) (by decide)
      rw [this]
      rcases (show (t - b) % 2 = 0 ∨ (t - b) % 2 = 1 by omega) with e | e <;> rw [e]
      · exact ⟨1, by decide, by decide⟩
      · exact ⟨0, by decide, by decide⟩
    · split
      · exact ⟨99, by decide, rfl⟩
      · split
        · split
          · exact ⟨1, by decide, rfl⟩
          · exact ⟨0, by decide, rfl⟩
        · exact ⟨1, by decide, rfl⟩
theorem CoI.go {t N K : Nat} {A : AS} (ht : t < 2 ^ 30) (h : CoI t N K A) (i : Nat) : CoI t N K (goS i A) := by
  unfold goS
  split
  · exact h
  · rename_i c
    refine h.one i (fun g _ _ h8 _ => by simp [go1, U_at, h8]) (fun q => by simp [go1, U_at]) (by funext x y; simp [go1, U_at]) (fun a e => by funext y; simp [go1, U_at, e]) (fun hi s => ?_) (fun _ c => .inl (by simpa [go1, U_at] using c))
    obtain ⟨k, hk, ek⟩ := mostGo_ok ht h hi c
    obtain ⟨q, hq, eq⟩ := s.queue
    have hn : ∃ z, z ≤ q ∧ (if A 1 i 5 < mostGo A i then A 1 i 5 else mostGo A i) = nI z := by
      rw [eq, ek]
      by_cases l : nI q < nI k
      · rw [if_pos l]; exact ⟨q, Nat.le_refl _, rfl⟩
      · rw [if_neg l]; exact ⟨k, by exact Nat.not_lt.mp (fun r => l ((nlt (by omega) (by omega)).mpr r)), rfl⟩
    refine ⟨by simpa [go1, U_at] using s.kind, ?_, by simpa [go1, U_at] using s.gr, by simpa [go1, U_at] using s.beg, by simpa [go1, U_at] using s.en, by simpa [go1, U_at] using s.seen, by simpa [go1, U_at] using s.len, fun j hj => ?_⟩
    · have : qb (A 1 i 5 - (if A 1 i 5 < mostGo A i then A 1 i 5 else mostGo A i)) 99 := by
        generalize (if A 1 i 5 < mostGo A i then A 1 i 5 else mostGo A i) = n at hn
        rw [eq]; exact go_sub hq n hn
      simpa [go1, U_at] using this
    · have := s.cells j hj
      simp only [go1, U_at]
      rw [if_neg (by omega), if_neg (by omega), if_neg (by omega)]
      exact this
theorem CoI.turn {t N K : Nat} {A : AS} (h : CoI t N K A) (hs : A 0 0 2 = 1) {C : Nat → Int32} {y : Nat} (hy : A 0 0 4 = nI y) (hy2 : y < K) (i : Nat) : CoI t N K (turnS C N y i A) := by
  unfold turnS
  split
  · rename_i c
    refine h.one i (fun g _ _ h8 _ => by simp [U_at]) (fun q => by simp [U_at]) (by funext x y; simp [U_at]) (fun a e => by funext y; simp [U_at, e]) (fun hi s => ?_) (fun _ _ => .inr ⟨hs, fun z hz e => ?_⟩)
    · refine ⟨by simpa [U_at] using s.kind, by simpa [U_at] using s.queue, ?_, ?_, by simpa [U_at] using s.en, by simpa [U_at] using s.seen, by simpa [U_at] using s.len, fun j hj => ?_⟩
      · simp [U_at]; exact ⟨t, Nat.le_refl _, h.sec⟩
      · simp [U_at]; exact .inr ⟨t, Nat.le_refl _, h.sec⟩
      · have := s.cells j hj
        simp only [U_at]
        rw [if_neg (by omega), if_neg (by omega), if_neg (by omega)]
        exact this
    · have hK := h.hK
      have : y = z := nI_inj (by omega) (by omega) (hy.symm.trans e)
      exact this ▸ c.1
  · exact h

def lenA (A : AS) (a : Nat) : Nat := (A 1 a 11).toNatClampNeg
def placeA (A : AS) (b : Nat) (c : Int32) : Int32 := ffr (fun i => decide (A 1 b (12 + i) = c)) (lenA A b) 0
def ambA (A : AS) (a : Nat) : Int32 := tbA (A 1 a 0).toNatClampNeg
def pacA (A : AS) (a : Nat) : Int32 := tbP (A 1 a 0).toNatClampNeg
def isA (A : AS) (a b i : Nat) : Int32 := ambA A a + pacA A a * (nI i + 1) - pacA A b * placeA A b (A 1 a (12 + i))
def meaS (A : AS) (a b i : Nat) (x : Int32 × Int32) : Int32 × Int32 := if placeA A b (A 1 a (12 + i)) = -5 then x else if ¬ x.1 = -5 ∧ ¬ x.2 < isA A a b i then x else (A 1 a (12 + i), isA A a b i)
def measA (A : AS) (a b : Nat) : Int32 × Int32 := if a = b then (-5, 0) else lp (meaS A a b) (lenA A a) 0 (-5, 0)
def narA (A : AS) (a b : Nat) : Int32 := (measA A a b).1
def bareA (A : AS) (a b : Nat) : Int32 := if (measA A a b).2 < ambA A a then ambA A a else (measA A a b).2
def clrA (A : AS) (a b : Nat) : Int32 := if narA A a b < 0 then -5 else bareA A a b + A 0 0 1
theorem len_ok {t N K : Nat} {A : AS} (h : CoI t N K A) {a : Nat} (ha : a < N) : 1 ≤ lenA A a ∧ lenA A a ≤ 8 ∧ A 1 a 11 = nI (lenA A a) := by
  obtain ⟨m, h1, h2, e⟩ := (h.sg a ha).len
  have : lenA A a = m := by rw [lenA, e, nI_clamp (by omega)]
  rw [this]
  exact ⟨h1, h2, e⟩
theorem amb_ok {t N K : Nat} {A : AS} (h : CoI t N K A) {a : Nat} (ha : a < N) : ∃ k, 2 ≤ k ∧ k ≤ 4 ∧ ambA A a = nI k := by
  obtain ⟨k, hk, e⟩ := (h.sg a ha).kind
  rw [ambA, e, nI_clamp (by omega)]
  rcases (show k = 0 ∨ k = 1 ∨ k = 2 ∨ k = 3 by omega) with rfl | rfl | rfl | rfl
  · exact ⟨3, by decide, by decide, by decide⟩
  · exact ⟨2, by decide, by decide, by decide⟩
  · exact ⟨4, by decide, by decide, by decide⟩
  · exact ⟨2, by decide, by decide, by decide⟩
theorem pac_ok {t N K : Nat} {A : AS} (h : CoI t N K A) {a : Nat} (ha : a < N) : ∃ k, 1 ≤ k ∧ k ≤ 3 ∧ pacA A a = nI k := by
  obtain ⟨k, hk, e⟩ := (h.sg a ha).kind
  rw [pacA, e, nI_clamp (by omega)]
  rcases (show k = 0 ∨ k = 1 ∨ k = 2 ∨ k = 3 by omega) with rfl | rfl | rfl | rfl
  · exact ⟨1, by decide, by decide, by decide⟩
  · exact ⟨3, by decide, by decide, by decide⟩
  · exact ⟨2, by decide, by decide, by decide⟩
  · exact ⟨1, by decide, by decide, by decide⟩
theorem place_ok {t N K : Nat} {A : AS} (h : CoI t N K A) {b : Nat} (hb : b < N) (c : Int32) : placeA A b c = -5 ∨ ∃ i, i < lenA A b ∧ placeA A b c = nI i ∧ A 1 b (12 + i) = c := by
  by_cases e : ∃ i, 0 ≤ i ∧ i < 0 + lenA A b ∧ (fun i => decide (A 1 b (12 + i) = c)) i = true
  · obtain ⟨p, h1, _, h2, h3⟩ := ffr_some (P := fun i => decide (A 1 b (12 + i) = c)) (lenA A b) 0 e
    exact .inr ⟨p, by omega, h1, by simpa using h3⟩
  · exact .inl (ffr_none (lenA A b) 0 e)
theorem place_none {A : AS} {b : Nat} {c : Int32} (hl : lenA A b ≤ 8) : placeA A b c = -5 ↔ ∀ i, i < lenA A b → ¬ A 1 b (12 + i) = c := by
  constructor
  · intro e i hi q
    obtain ⟨p, h1, _, h2, h3⟩ := ffr_some (P := fun i => decide (A 1 b (12 + i) = c)) (lenA A b) 0 ⟨i, by omega, by omega, by simpa using q⟩
    rw [placeA, h1] at e
    exact m5 (by omega) e
  · intro h
    refine ffr_none (lenA A b) 0 (fun ⟨i, h1, h2, h3⟩ => h i (by omega) (by simpa using h3))
theorem is_ok {t N K : Nat} {A : AS} (h : CoI t N K A) {a b : Nat} (ha : a < N) (hb : b < N) {i : Nat} (hi : i < 8) (hp : ¬ placeA A b (A 1 a (12 + i)) = -5) : ∃ x y, x ≤ 28 ∧ y ≤ 21 ∧ isA A a b i = nI x - nI y := by
  obtain ⟨k, h1, h2, e⟩ := amb_ok h ha
  obtain ⟨p, h3, h4, e2⟩ := pac_ok h ha
  obtain ⟨z, h5, h6, e3⟩ := pac_ok h hb
  obtain ⟨j, h7, e4, _⟩ := (place_ok h hb _).resolve_left hp
  have := (len_ok h hb).2.1
  unfold isA
  rw [e, e2, e3, e4, nI_s, pk_mul, nI_add, pk_mul]
  refine ⟨k + p * (i + 1), z * j, ?_, ?_, rfl⟩
  · have : p * (i + 1) ≤ 3 * 8 := Nat.mul_le_mul h4 (by omega)
    omega
  · have : z * j ≤ 3 * 7 := Nat.mul_le_mul h6 (by omega)
    omega
def MeI (x : Int32 × Int32) : Prop := (x.1 = -5 ∧ x.2 = 0) ∨ (qb x.1 63 ∧ ∃ a b, a ≤ 28 ∧ b ≤ 21 ∧ x.2 = nI a - nI b)
theorem mea_ok {t N K : Nat} {A : AS} (h : CoI t N K A) {a b : Nat} (ha : a < N) (hb : b < N) : MeI (measA A a b) := by
  unfold measA
  split
  · exact .inl ⟨rfl, rfl⟩
  · have hl := (len_ok h ha).2.1
    refine lp_invI (fun _ x => MeI x) (lenA A a) (fun i x hi hx => ?_) (lenA A a) 0 _ (by omega) (.inl ⟨rfl, rfl⟩)
    unfold meaS
    split
    · exact hx
    · rename_i hp
      split
      · exact hx
      · exact .inr ⟨(h.sg a ha).cells i (by omega), is_ok h ha hb (by omega) hp⟩
theorem nar_ok {t N K : Nat} {A : AS} (h : CoI t N K A) {a b : Nat} (ha : a < N) (hb : b < N) : narA A a b = -5 ∨ qb (narA A a b) 63 := (mea_ok h ha hb).imp (fun e => e.1) (fun e => e.1)
theorem nar_neg {t N K : Nat} {A : AS} (h : CoI t N K A) {a b : Nat} (ha : a < N) (hb : b < N) : narA A a b < 0 ↔ narA A a b = -5 := nv_neg (t := 63) (by decide) (nar_ok h ha hb)
theorem bare_ok {t N K : Nat} {A : AS} (h : CoI t N K A) {a b : Nat} (ha : a < N) (hb : b < N) : qb (bareA A a b) 28 := by
  obtain ⟨k, h1, h2, e⟩ := amb_ok h ha
  unfold bareA
  rw [e]
  rcases mea_ok h ha hb with m | ⟨_, x, y, hx, hy, m⟩
  · have l : (0 : Int32) < nI k := (nlt (a := 0) (b := k) (by decide) (by omega)).mpr (by omega)
    rw [m.2, if_pos l]
    exact ⟨k, by omega, rfl⟩
  · rw [m]
    split
    · exact ⟨k, by omega, rfl⟩
    · rename_i c
      have c := i_le.mp (n_le.mp c)
      rw [nI_toInt (by omega), pk_sub_toInt (by omega) (by omega)] at c
      exact ⟨x - y, by omega, nI_sub (by omega)⟩
theorem lp_fix {α : Type} {f : Nat → α → α} (P : α → Prop) (h : ∀ i x, P x → P (f i x)) (k i : Nat) (x : α) (q : P x) : P (lp f k i x) := lp_inv P h k i x q
theorem nar_none {t N K : Nat} {A : AS} (h : CoI t N K A) {a b : Nat} (ha : a < N) (hb : b < N) (hab : a ≠ b) : narA A a b = -5 ↔ ∀ i j, i < lenA A a → j < lenA A b → ¬ A 1 b (12 + j) = A 1 a (12 + i) := by
  have hla := (len_ok h ha).2.1
  have hlb := (len_ok h hb).2.1
  unfold narA measA
  rw [if_neg hab]
  have key : (lp (meaS A a b) (lenA A a) 0 (-5, 0)).1 = -5 ↔ ∀ i, i < 0 + lenA A a → placeA A b (A 1 a (12 + i)) = -5 := by
    refine lp_invI (fun n (x : Int32 × Int32) => x.1 = -5 ↔ ∀ i, i < n → placeA A b (A 1 a (12 + i)) = -5) (lenA A a) (fun i x hi hx => ?_) (lenA A a) 0 _ (by omega) ⟨fun _ i hi => by omega, fun _ => rfl⟩
    have cell : ¬ A 1 a (12 + i) = -5 := by
      obtain ⟨q, hq, e⟩ := (h.sg a ha).cells i (by omega)
      rw [e]; exact m5 (by omega)
    unfold meaS
    by_cases c : placeA A b (A 1 a (12 + i)) = -5
    · rw [if_pos c, hx]
      refine ⟨fun q z hz => ?_, fun q z hz => q z (by omega)⟩
      rcases Nat.lt_or_ge z i with l | l
      · exact q z l
      · exact (show z = i by omega) ▸ c
    · rw [if_neg c]
      have no : ¬ ∀ z, z < i + 1 → placeA A b (A 1 a (12 + z)) = -5 := fun q => c (q i (by omega))
      by_cases c2 : ¬ x.1 = -5 ∧ ¬ x.2 < isA A a b i
      · rw [if_pos c2]; exact ⟨fun e => absurd e c2.1, fun e => absurd e no⟩
      · rw [if_neg c2]; exact ⟨fun e => absurd e cell, fun e => absurd e no⟩
  rw [key]
  constructor
  · intro q i j hi hj
    exact (place_none hlb).mp (q i (by omega)) j hj
  · intro q i hi
    exact (place_none hlb).mpr (fun j hj => q i j (by omega) hj)
theorem nar_sym {t N K : Nat} {A : AS} (h : CoI t N K A) {a b : Nat} (ha : a < N) (hb : b < N) (e : narA A a b = -5) : narA A b a = -5 := by
  by_cases hab : a = b
  · subst hab; exact e
  · exact (nar_none h hb ha (Ne.symm hab)).mpr (fun i j hi hj q => (nar_none h ha hb hab).mp e j i hj hi q.symm)
abbrev TbR (N : Nat) (j : Lf) (A : AS) : Prop := (∀ a b, a < N → b < N → j 5 (a * 8 + b) = narA A a b) ∧ (∀ a b, a < N → b < N → a ≠ b → j 4 (a * 8 + b) = bareA A a b)
theorem TbR.nar {N : Nat} {j : Lf} {A : AS} (h : TbR N j A) : ∀ a b, a < N → b < N → j 5 (a * 8 + b) = narA A a b := h.1
theorem TbR.bare {N : Nat} {j : Lf} {A : AS} (h : TbR N j A) : ∀ a b, a < N → b < N → a ≠ b → j 4 (a * 8 + b) = bareA A a b := h.2
abbrev MtR (N : Nat) (A : AS) (C D : Nat → Int32) : Prop := (∀ a b, a < N → b < N → C (8 * a + b) = clrA A a b) ∧ (∀ a b, a < N → b < N → D (8 * a + b) = narA A a b)
theorem MtR.cl {N : Nat} {A : AS} {C D : Nat → Int32} (h : MtR N A C D) : ∀ a b, a < N → b < N → C (8 * a + b) = clrA A a b := h.1
theorem MtR.na {N : Nat} {A : AS} {C D : Nat → Int32} (h : MtR N A C D) : ∀ a b, a < N → b < N → D (8 * a + b) = narA A a b := h.2
theorem ClR.of {t N K : Nat} {j : Lf} {A : AS} {C D : Nat → Int32} (hI : CoI t N K A) (hj : JR N j A) (ht : TbR N j A) (hm : MtR N A C D) : ClR N j C := by
  refine ⟨fun a b ha hb e => ?_, fun a b ha hb e => ?_, fun a b ha hb e => ?_⟩
  · rw [ht.nar a b ha hb] at e
    rw [hm.cl a b ha hb, clrA, if_pos ((nar_neg hI ha hb).mpr e)]
  · rw [ht.nar a b ha hb] at e
    have hab : a ≠ b := fun q => e (by rw [q, narA, measA, if_pos rfl])
    rw [hm.cl a b ha hb, clrA, if_neg (fun q => e ((nar_neg hI ha hb).mp q)), ht.bare a b ha hb hab, hj.sf]
    obtain ⟨x, hx, ex⟩ := bare_ok hI ha hb
    obtain ⟨y, hy, ey⟩ := hI.sf
    rw [ex, ey, nI_add]
    exact ⟨rfl, nI_pos' (by omega)⟩
  · rw [ht.nar a b ha hb] at e
    rw [ht.nar b a hb ha]
    exact nar_sym hI ha hb e
def KW (N : Nat) (A B : AS) : Prop := ∀ a, a < N → ∀ w, (w = 0 ∨ 11 ≤ w ∧ w < 20) → B 1 a w = A 1 a w
theorem mea_kw {N : Nat} {A B : AS} (h : KW N A B) {a b : Nat} (ha : a < N) (hb : b < N) (hl : lenA A a ≤ 8) (hl2 : lenA A b ≤ 8) : measA B a b = measA A a b := by
  have e1 : lenA B a = lenA A a := by rw [lenA, lenA, h a ha 11 (by omega)]
  have e2 : lenA B b = lenA A b := by rw [lenA, lenA, h b hb 11 (by omega)]
  have e3 : ∀ c, placeA B b c = placeA A b c := fun c => by
    unfold placeA
    rw [e2]
    have : ∀ (k i : Nat), i + k ≤ 8 → ffr (fun i => decide (B 1 b (12 + i) = c)) k i = ffr (fun i => decide (A 1 b (12 + i) = c)) k i := by
      intro k
      induction k with
      | zero => exact fun _ _ => rfl
      | succ k ih =>
        intro i hi
        rw [ffr, ffr, h b hb (12 + i) (by omega), ih (i + 1) (by omega)]
    exact this _ 0 (by omega)
  unfold measA
  split
  · rfl
  · rw [e1]
    refine lp_congr _ _ _ (fun i x _ hi => ?_)
    unfold meaS isA ambA pacA
    rw [e3, h a ha 0 (by omega), h b hb 0 (by omega), h a ha (12 + i) (by omega)]
theorem TbR.fr {t N K : Nat} {j : Lf} {A B : AS} (h : TbR N j A) (hI : CoI t N K A) (e : KW N A B) : TbR N j B := by
  have m := fun {a b} (ha : a < N) (hb : b < N) => mea_kw e ha hb (len_ok hI ha).2.1 (len_ok hI hb).2.1
  refine ⟨fun a b ha hb => ?_, fun a b ha hb hab => ?_⟩
  · rw [narA, m ha hb]; exact h.nar a b ha hb
  · rw [bareA, m ha hb, ambA, e a ha 0 (by omega)]; exact h.bare a b ha hb hab
theorem MtR.fr {t N K : Nat} {A B : AS} {C D : Nat → Int32} (h : MtR N A C D) (hI : CoI t N K A) (e : KW N A B) (e1 : B 0 0 1 = A 0 0 1) : MtR N B C D := by
  have m := fun {a b} (ha : a < N) (hb : b < N) => mea_kw e ha hb (len_ok hI ha).2.1 (len_ok hI hb).2.1
  refine ⟨fun a b ha hb => ?_, fun a b ha hb => ?_⟩
  · rw [clrA, narA, bareA, m ha hb, ambA, e a ha 0 (by omega), e1]; exact h.cl a b ha hb
  · rw [narA, m ha hb]; exact h.na a b ha hb

theorem st_at (v : Lf) (c i : Nat) (x : Int32) (d k : Nat) : st v c i x d k = if d = c ∧ k = i then x else v d k := by
  by_cases h : d = c
  · subst h
    by_cases h2 : k = i
    · subst h2; simp [st, upd]
    · simp [st, upd, h2]
  · simp [st, h]
abbrev CF (c : Lf) (A : AS) : Prop := (c 0 4 = A 0 0 2) ∧ (c 0 5 = A 0 0 3) ∧ (c 0 6 = A 0 0 4) ∧ (c 0 7 = A 0 0 5) ∧ (c 0 8 = A 0 0 6) ∧ (c 0 9 = A 0 0 7) ∧ (c 0 10 = A 0 0 8) ∧ (c 0 11 = A 0 0 9) ∧ (c 0 12 = A 0 0 0) ∧ (c 0 13 = A 0 0 10) ∧ (c 0 14 = A 0 0 11) ∧ (c 0 15 = A 0 0 12)
theorem CF.st {c : Lf} {A : AS} (h : CF c A) : c 0 4 = A 0 0 2 := h.1
theorem CF.sec {c : Lf} {A : AS} (h : CF c A) : c 0 5 = A 0 0 3 := h.2.1
theorem CF.cur {c : Lf} {A : AS} (h : CF c A) : c 0 6 = A 0 0 4 := h.2.2.1
theorem CF.cut {c : Lf} {A : AS} (h : CF c A) : c 0 7 = A 0 0 5 := h.2.2.2.1
theorem CF.em {c : Lf} {A : AS} (h : CF c A) : c 0 8 = A 0 0 6 := h.2.2.2.2.1
theorem CF.wt {c : Lf} {A : AS} (h : CF c A) : c 0 9 = A 0 0 7 := h.2.2.2.2.2.1
theorem CF.sv {c : Lf} {A : AS} (h : CF c A) : c 0 10 = A 0 0 8 := h.2.2.2.2.2.2.1
theorem CF.ls {c : Lf} {A : AS} (h : CF c A) : c 0 11 = A 0 0 9 := h.2.2.2.2.2.2.2.1
theorem CF.sd {c : Lf} {A : AS} (h : CF c A) : c 0 12 = A 0 0 0 := h.2.2.2.2.2.2.2.2.1
theorem CF.cy {c : Lf} {A : AS} (h : CF c A) : c 0 13 = A 0 0 10 := h.2.2.2.2.2.2.2.2.2.1
theorem CF.off {c : Lf} {A : AS} (h : CF c A) : c 0 14 = A 0 0 11 := h.2.2.2.2.2.2.2.2.2.2.1
theorem CF.spl {c : Lf} {A : AS} (h : CF c A) : c 0 15 = A 0 0 12 := h.2.2.2.2.2.2.2.2.2.2.2
abbrev JR (N : Nat) (j : Lf) (A : AS) : Prop := (j 0 0 = nI N) ∧ (j 0 1 = A 0 0 1) ∧ (∀ a, a < N → j 1 a = A 1 a 0) ∧ (∀ a, a < N → j 2 a = A 1 a 11) ∧ (∀ a, a < N → ∀ i, i < 8 → nI i < A 1 a 11 → j 3 (a * 8 + i) = A 1 a (12 + i))
theorem JR.n {N : Nat} {j : Lf} {A : AS} (h : JR N j A) : j 0 0 = nI N := h.1
theorem JR.sf {N : Nat} {j : Lf} {A : AS} (h : JR N j A) : j 0 1 = A 0 0 1 := h.2.1
theorem JR.kind {N : Nat} {j : Lf} {A : AS} (h : JR N j A) : ∀ a, a < N → j 1 a = A 1 a 0 := h.2.2.1
theorem JR.len {N : Nat} {j : Lf} {A : AS} (h : JR N j A) : ∀ a, a < N → j 2 a = A 1 a 11 := h.2.2.2.1
theorem JR.cell {N : Nat} {j : Lf} {A : AS} (h : JR N j A) : ∀ a, a < N → ∀ i, i < 8 → nI i < A 1 a 11 → j 3 (a * 8 + i) = A 1 a (12 + i) := h.2.2.2.2
abbrev SR (N : Nat) (s : Lf) (A : AS) : Prop := (∀ a, a < N → ∀ k, k < 4 → s 1 (a * 4 + k) = A 1 a (1 + k)) ∧ (∀ a, a < N → s 2 a = A 1 a 5) ∧ (∀ a, a < N → A 1 a 6 = if bt (s 0 0) a = true then 1 else 0) ∧ (∀ a, a < N → s 5 a = A 1 a 7) ∧ (∀ a, a < N → s 6 a = A 1 a 8) ∧ (∀ a, a < N → s 3 a = A 1 a 9) ∧ (∀ a, a < N → s 4 a = A 1 a 10) ∧ (∀ a, a < N → s 7 a = A 1 a 20) ∧ (∀ a, N ≤ a → a < 8 → s 2 a = 0) ∧ (∀ a, N ≤ a → a < 32 → bt (s 0 0) a = false)
theorem SR.ru {N : Nat} {s : Lf} {A : AS} (h : SR N s A) : ∀ a, a < N → ∀ k, k < 4 → s 1 (a * 4 + k) = A 1 a (1 + k) := h.1
theorem SR.q {N : Nat} {s : Lf} {A : AS} (h : SR N s A) : ∀ a, a < N → s 2 a = A 1 a 5 := h.2.1
theorem SR.g {N : Nat} {s : Lf} {A : AS} (h : SR N s A) : ∀ a, a < N → A 1 a 6 = if bt (s 0 0) a = true then 1 else 0 := h.2.2.1
theorem SR.be {N : Nat} {s : Lf} {A : AS} (h : SR N s A) : ∀ a, a < N → s 5 a = A 1 a 7 := h.2.2.2.1
theorem SR.en {N : Nat} {s : Lf} {A : AS} (h : SR N s A) : ∀ a, a < N → s 6 a = A 1 a 8 := h.2.2.2.2.1
theorem SR.se {N : Nat} {s : Lf} {A : AS} (h : SR N s A) : ∀ a, a < N → s 3 a = A 1 a 9 := h.2.2.2.2.2.1
theorem SR.go {N : Nat} {s : Lf} {A : AS} (h : SR N s A) : ∀ a, a < N → s 4 a = A 1 a 10 := h.2.2.2.2.2.2.1
theorem SR.ti {N : Nat} {s : Lf} {A : AS} (h : SR N s A) : ∀ a, a < N → s 7 a = A 1 a 20 := h.2.2.2.2.2.2.2.1
theorem SR.q0 {N : Nat} {s : Lf} {A : AS} (h : SR N s A) : ∀ a, N ≤ a → a < 8 → s 2 a = 0 := h.2.2.2.2.2.2.2.2.1
theorem SR.g0 {N : Nat} {s : Lf} {A : AS} (h : SR N s A) : ∀ a, N ≤ a → a < 32 → bt (s 0 0) a = false := h.2.2.2.2.2.2.2.2.2
abbrev PR (K : Nat) (p : Lf) (A : AS) : Prop := (p 0 0 = nI K) ∧ (∀ q, q < K → p 1 q = A 2 q 0) ∧ (∀ q, q < K → p 2 q = A 2 q 1) ∧ (∀ q, q < K → p 3 q = A 2 q 2) ∧ (∀ q, K ≤ q → q < 6 → p 3 q = 0)
theorem PR.n {K : Nat} {p : Lf} {A : AS} (h : PR K p A) : p 0 0 = nI K := h.1
theorem PR.set {K : Nat} {p : Lf} {A : AS} (h : PR K p A) : ∀ q, q < K → p 1 q = A 2 q 0 := h.2.1
theorem PR.force {K : Nat} {p : Lf} {A : AS} (h : PR K p A) : ∀ q, q < K → p 2 q = A 2 q 1 := h.2.2.1
theorem PR.com {K : Nat} {p : Lf} {A : AS} (h : PR K p A) : ∀ q, q < K → p 3 q = A 2 q 2 := h.2.2.2.1
theorem PR.c0 {K : Nat} {p : Lf} {A : AS} (h : PR K p A) : ∀ q, K ≤ q → q < 6 → p 3 q = 0 := h.2.2.2.2
abbrev RR (r : Lf) (A : AS) : Prop := (r 0 0 = A 0 0 15) ∧ (r 0 1 = 24) ∧ (∀ m, m ≤ 24 → A 0 0 15 = nI m → ∀ i, i < m → ∀ k, k < 3 → r 1 (i * 3 + k) = A 3 i k)
theorem RR.n {r : Lf} {A : AS} (h : RR r A) : r 0 0 = A 0 0 15 := h.1
theorem RR.most {r : Lf} {A : AS} (h : RR r A) : r 0 1 = 24 := h.2.1
theorem RR.at' {r : Lf} {A : AS} (h : RR r A) : ∀ m, m ≤ 24 → A 0 0 15 = nI m → ∀ i, i < m → ∀ k, k < 3 → r 1 (i * 3 + k) = A 3 i k := h.2.2
abbrev CoR (N K : Nat) (c j s p r : Lf) (A : AS) : Prop := (CF c A) ∧ (JR N j A) ∧ (SR N s A) ∧ (PR K p A) ∧ (RR r A)
theorem CoR.cf {N K : Nat} {c j s p r : Lf} {A : AS} (h : CoR N K c j s p r A) : CF c A := h.1
theorem CoR.jr {N K : Nat} {c j s p r : Lf} {A : AS} (h : CoR N K c j s p r A) : JR N j A := h.2.1
theorem CoR.sr {N K : Nat} {c j s p r : Lf} {A : AS} (h : CoR N K c j s p r A) : SR N s A := h.2.2.1
theorem CoR.pr {N K : Nat} {c j s p r : Lf} {A : AS} (h : CoR N K c j s p r A) : PR K p A := h.2.2.2.1
theorem CoR.rr {N K : Nat} {c j s p r : Lf} {A : AS} (h : CoR N K c j s p r A) : RR r A := h.2.2.2.2
abbrev ClR (N : Nat) (j : Lf) (C : Nat → Int32) : Prop := (∀ a b, a < N → b < N → j 5 (a * 8 + b) = -5 → C (8 * a + b) = -5) ∧ (∀ a b, a < N → b < N → ¬ j 5 (a * 8 + b) = -5 → C (8 * a + b) = j 4 (a * 8 + b) + j 0 1 ∧ 0 ≤ C (8 * a + b)) ∧ (∀ a b, a < N → b < N → j 5 (a * 8 + b) = -5 → j 5 (b * 8 + a) = -5)
theorem ClR.no {N : Nat} {j : Lf} {C : Nat → Int32} (h : ClR N j C) : ∀ a b, a < N → b < N → j 5 (a * 8 + b) = -5 → C (8 * a + b) = -5 := h.1
theorem ClR.yes {N : Nat} {j : Lf} {C : Nat → Int32} (h : ClR N j C) : ∀ a b, a < N → b < N → ¬ j 5 (a * 8 + b) = -5 → C (8 * a + b) = j 4 (a * 8 + b) + j 0 1 ∧ 0 ≤ C (8 * a + b) := h.2.1
theorem ClR.sym {N : Nat} {j : Lf} {C : Nat → Int32} (h : ClR N j C) : ∀ a b, a < N → b < N → j 5 (a * 8 + b) = -5 → j 5 (b * 8 + a) = -5 := h.2.2
theorem SR.gi {N : Nat} {s : Lf} {A : AS} (h : SR N s A) {a : Nat} (ha : a < N) : bt (s 0 0) a = true ↔ ¬ A 1 a 6 = 0 := by
  rw [h.g a ha]
  by_cases c : bt (s 0 0) a = true
  · simp [c]
  · simp [c]
theorem SR.g1 {N : Nat} {s : Lf} {A : AS} (h : SR N s A) {a : Nat} (ha : a < N) : bt (s 0 0) a = true ↔ A 1 a 6 = 1 := by
  rw [h.g a ha]
  by_cases c : bt (s 0 0) a = true
  · simp [c]
  · simp [c]
theorem c_green {s : Lf} {i : Nat} (hi : i < 32) {Q : Int32 → Prop} (q1 : bt (s 0 0) i = true → Q 1) (q0 : ¬ bt (s 0 0) i = true → Q 0) : pX5_isGreen s (nI i) Q := by
  refine (w_green s hi Q).mpr ?_
  by_cases c : bt (s 0 0) i = true
  · rw [if_pos c]; exact q1 c
  · rw [if_neg c]; exact q0 c
theorem c_isIn {x : Int32} {i : Nat} (hi : i < 32) {Q : Int32 → Prop} (q1 : bt x i = true → Q 1) (q0 : ¬ bt x i = true → Q 0) : pX9_isIn x (nI i) Q := by
  refine (w_bit x hi Q).mpr ?_
  by_cases c : bt x i = true
  · rw [if_pos c]; exact q1 c
  · rw [if_neg c]; exact q0 c
theorem c_inPhase {K y : Nat} (hK : K ≤ 6) {c p : Lf} {A : AS} (hc : CF c A) (hp : PR K p A) (hy : A 0 0 4 = nI y) (hy2 : y < K) {i : Nat} (hi : i < 32) {Q : Int32 → Prop} (q1 : bt (A 2 y 0) i = true → Q 1) (q0 : ¬ bt (A 2 y 0) i = true → Q 0) : pX0_isInPhase c p (nI i) Q := by
  unfold pX0_isInPhase
  rw [hc.cur, hy, nI_clamp (by omega), hp.set y hy2]
  exact ⟨vp_in_nI (by omega) (by decide), c_isIn hi (fun c => ⟨rfl, q1 c⟩) (fun c => ⟨rfl, q0 c⟩)⟩
theorem c_rule {N : Nat} {s : Lf} {A : AS} (hN : N ≤ 8) (h : SR N s A) {a : Nat} (ha : a < N) (k : Nat) (hk : k < 4) {Q : Int32 → Prop} (q : Q (A 1 a (1 + k))) : pX5_rule s (nI a) (@OfNat.ofNat Int32 k _) Q := by
  refine (w_rule s (k := k) (by omega) Q).mpr ?_
  rw [h.ru a ha k hk]
  exact q
theorem c_first {K : Nat} (hK : K ≤ 6) {p : Lf} {A : AS} (h : PR K p A) {a : Nat} (ha : a < 32) {Q : Int32 → Prop} : ∀ (k i : Nat), i + k = K → Q (ffr (fwA A a) k i) → pX2_firstWith_L2 p (nI a) Q (k + 1) (nI i) := by
  intro k
  induction k with
  | zero =>
    intro i hi q
    exact hdE h.n (by omega) q
  | succ k ih =>
    intro i hi q
    refine hdG h.n (by omega) (by omega) ?_
    rw [nI_clamp (by omega), h.set i (by omega)]
    refine ⟨vp_in_nI (by omega) (by decide), c_isIn ha (fun c1 => ⟨fun c => absurd c (by decide), fun _ => ?_⟩) (fun c1 => ⟨fun _ => ?_, fun c => absurd rfl c⟩)⟩
    · simpa only [ffr, fwA, if_pos c1] using q
    · rw [nI_s]
      refine ih (i + 1) (by omega) ?_
      simpa only [ffr, fwA, if_neg c1] using q
theorem neg_bt (x : Int32) : x < 0 ↔ bt x 31 = true := by
  rw [i_lt]
  show x.toBitVec.toInt < 0 ↔ x.toBitVec.getLsbD 31 = true
  have h := BitVec.msb_eq_toInt (x := x.toBitVec)
  rw [BitVec.msb_eq_getLsbD_last] at h
  rw [show x.toBitVec.getLsbD 31 = decide (x.toBitVec.toInt < 0) from h]
  simp
theorem c_fmod {x y : Int32} (hy : 0 < y.toInt) {Q : Int32 → Prop} (q : Q (if 0 ≤ x - x / y * y then x - x / y * y else x - x / y * y + y)) : pJ9_floorMod_7cf53 x y Q := by
  have hy0 : ¬ y = 0 := fun e => by rw [e] at hy; exact absurd hy (by decide)
  have hny : bt y 31 = false := by
    cases e : bt y 31
    · rfl
    · have := i_lt.mp ((neg_bt y).mpr e)
      have e0 : (0 : Int32).toInt = 0 := by decide
      omega
  have r := rem_toInt x y
  have e0 : (0 : Int32).toInt = 0 := by decide
  have sx : 0 ≤ x ^^^ y ↔ 0 ≤ x.toInt := by
    have h1 : (x ^^^ y < 0) ↔ x < 0 := by rw [neg_bt, neg_bt, b_xor, hny]; simp
    have h2 := i_lt (a := x) (b := 0)
    rw [e0] at h2
    have h3 := n_lt (a := 0) (b := x ^^^ y)
    constructor
    · intro h
      rcases Int.lt_or_le x.toInt 0 with l | l
      · exact absurd h (h3.mpr (h1.mpr (h2.mpr l)))
      · exact l
    · intro h
      by_cases c : 0 ≤ x ^^^ y
      · exact c
      · have := h2.mp (h1.mp (h3.mp c)); omega
  unfold pJ9_floorMod_7cf53
  have hs : (0 ≤ x.toInt → 0 ≤ x.toInt.tmod y.toInt) ∧ (x.toInt ≤ 0 → x.toInt.tmod y.toInt ≤ 0) := by
    refine ⟨fun h => Int.tmod_nonneg _ h, fun h => ?_⟩
    have := Int.neg_tmod x.toInt y.toInt
    have := Int.tmod_nonneg y.toInt (show 0 ≤ -x.toInt by omega)
    omega
  have le : (0 ≤ x - x / y * y) ↔ 0 ≤ x.toInt.tmod y.toInt := by rw [i_le, r, e0]
  have eq : (x - x / y * y = 0) ↔ x.toInt.tmod y.toInt = 0 := by rw [← Int32.toInt_inj, r, e0]
  refine ⟨hy0, fun c => ?_, fun c => ⟨fun c2 => ?_, fun c2 => ?_⟩⟩
  · rw [if_pos (le.mpr (hs.1 (sx.mp c)))] at q; exact q
  · rw [if_pos (le.mpr (by rw [eq] at c2; omega))] at q; exact q
  · rw [if_neg (fun c3 => by
      have h1 := le.mp c3
      have h2 := hs.2 (by
        rcases Int.lt_or_le x.toInt 0 with l | l
        · omega
        · exact absurd (sx.mpr l) c)
      exact c2 (eq.mpr (by omega)))] at q
    exact q

def ofA (A : AS) (i : Nat) : Nat := (A 4 i 0).toNatClampNeg
def wiA (A : AS) (i : Nat) : Nat := (A 4 i 1).toNatClampNeg
def trA (A : AS) (i : Nat) : Nat := (A 4 i 2).toNatClampNeg
abbrev RW (A : AS) (R n : Nat) : Prop := (20 ≤ R) ∧ (R ≤ 60) ∧ (n ≤ 5) ∧ (A 0 0 16 = nI R) ∧ (A 0 0 17 = nI n) ∧ (∀ i, i < n → ∀ k, k < 3 → okw R k (A 4 i k))
theorem RW.r1 {A : AS} {R n : Nat} (h : RW A R n) : 20 ≤ R := h.1
theorem RW.r2 {A : AS} {R n : Nat} (h : RW A R n) : R ≤ 60 := h.2.1
theorem RW.n5 {A : AS} {R n : Nat} (h : RW A R n) : n ≤ 5 := h.2.2.1
theorem RW.e16 {A : AS} {R n : Nat} (h : RW A R n) : A 0 0 16 = nI R := h.2.2.2.1
theorem RW.e17 {A : AS} {R n : Nat} (h : RW A R n) : A 0 0 17 = nI n := h.2.2.2.2.1
theorem RW.row {A : AS} {R n : Nat} (h : RW A R n) : ∀ i, i < n → ∀ k, k < 3 → okw R k (A 4 i k) := h.2.2.2.2.2
theorem RW.off {A : AS} {R n : Nat} (h : RW A R n) {i : Nat} (hi : i < n) : A 4 i 0 = nI (ofA A i) ∧ ofA A i < R := by
  have r2 := h.r2
  rcases h.row i hi 0 (by decide) with ⟨_, a, ha, e⟩ | ⟨c, _⟩ | ⟨c, _⟩
  · rw [ofA, e, nI_clamp (by omega)]; exact ⟨rfl, ha⟩
  · exact absurd c (by decide)
  · exact absurd c (by decide)
theorem RW.wid {A : AS} {R n : Nat} (h : RW A R n) {i : Nat} (hi : i < n) : A 4 i 1 = nI (wiA A i) ∧ wiA A i ≤ R := by
  have r2 := h.r2
  rcases h.row i hi 1 (by decide) with ⟨c, _⟩ | ⟨_, a, ha, ha2, e⟩ | ⟨c, _⟩
  · exact absurd c (by decide)
  · rw [wiA, e, nI_clamp (by omega)]; exact ⟨rfl, ha2⟩
  · exact absurd c (by decide)
theorem RW.tra {A : AS} {R n : Nat} (h : RW A R n) {i : Nat} (hi : i < n) : A 4 i 2 = nI (trA A i) ∧ trA A i ≤ 99 := by
  rcases h.row i hi 2 (by decide) with ⟨c, _⟩ | ⟨c, _⟩ | ⟨_, a, ha, e⟩
  · exact absurd c (by decide)
  · exact absurd c (by decide)
  · rw [trA, e, nI_clamp (by omega)]; exact ⟨rfl, ha⟩
def opI (R o l s : Nat) : Prop := ((s : Int) - (o : Int)) % (R : Int) < (l : Int)
def emZ (R : Nat) (x : Int) : Nat := (x % (R : Int)).toNat
theorem em_ok {R : Nat} (hR : 0 < R) (x : Int) : ((emZ R x : Nat) : Int) = x % (R : Int) ∧ emZ R x < R := by
  have h1 := Int.emod_nonneg x (show (R : Int) ≠ 0 by omega)
  have h2 := Int.emod_lt_of_pos x (show (0 : Int) < R by omega)
  unfold emZ
  omega
theorem em_rng {R : Nat} {z : Int} (h1 : -(R : Int) < z) (h2 : z < R) : z % (R : Int) = if 0 ≤ z then z else z + R := by
  by_cases c : 0 ≤ z
  · rw [if_pos c, Int.emod_eq_of_lt c h2]
  · rw [if_neg c, ← Int.add_emod_right z R, Int.emod_eq_of_lt (by omega) (by omega)]
theorem tm_em {R : Nat} (hR : 0 < R) (x : Int) : x % (R : Int) = if 0 ≤ x.tmod R then x.tmod R else x.tmod R + R := by
  have e := Int.tmod_add_mul_tdiv x R
  have h : x % (R : Int) = (x.tmod R) % (R : Int) := by
    have := Int.add_mul_emod_self_left (x.tmod R) R (x.tdiv R)
    rw [e] at this
    exact this
  rw [h]
  exact em_rng (Int.lt_tmod_of_pos x (by omega)) (Int.tmod_lt_of_pos x (by omega))
theorem fm_val {R a b : Nat} (hR : 0 < R) (hR2 : R < 2 ^ 20) (ha : a < 2 ^ 20) (hb : b < 2 ^ 20) : (0 ≤ (nI a - nI b) - (nI a - nI b) / nI R * nI R → (nI a - nI b) - (nI a - nI b) / nI R * nI R = nI (emZ R ((a : Int) - (b : Int)))) ∧ (¬ 0 ≤ (nI a - nI b) - (nI a - nI b) / nI R * nI R → (nI a - nI b) - (nI a - nI b) / nI R * nI R + nI R = nI (emZ R ((a : Int) - (b : Int)))) := by
  have rt := rem_toInt (nI a - nI b) (nI R)
  rw [pk_sub_toInt (by omega) (by omega), nI_toInt (by omega)] at rt
  have te := tm_em hR ((a : Int) - (b : Int))
  obtain ⟨z1, z2⟩ := em_ok hR ((a : Int) - (b : Int))
  have l1 := Int.lt_tmod_of_pos ((a : Int) - (b : Int)) (show (0 : Int) < (R : Int) by omega)
  have e0 : (0 : Int32).toInt = 0 := by decide
  revert rt te l1
  generalize (nI a - nI b) - (nI a - nI b) / nI R * nI R = r
  generalize ((a : Int) - (b : Int)).tmod (R : Int) = tm
  intro rt te l1
  refine ⟨fun c => ?_, fun c => ?_⟩
  · have c := i_le.mp c
    rw [e0, rt] at c
    rw [if_pos c] at te
    apply Int32.toInt_inj.mp
    rw [rt, nI_toInt (by omega)]
    omega
  · have c : ¬ 0 ≤ tm := fun d => c (i_le.mpr (by rw [e0, rt]; exact d))
    rw [if_neg c] at te
    have er : r = nI 0 - nI (-tm).toNat := by
      apply Int32.toInt_inj.mp
      rw [rt, pk_sub_toInt (by decide) (by omega)]
      omega
    have eR : nI R = nI (-tm).toNat + nI (R - (-tm).toNat) := by
      rw [nI_add]; congr 1; omega
    rw [er, eR, ← Int32.add_assoc, Int32.sub_add_cancel, nI_add]
    congr 1
    omega
theorem op_z {R o l s : Nat} (hR : 0 < R) : opI R o l s ↔ emZ R ((s : Int) - (o : Int)) < l := by
  obtain ⟨z1, _⟩ := em_ok hR ((s : Int) - (o : Int))
  unfold opI
  omega
theorem ix306z (p : Nat) : (306 : Int32) + (3 : Int32) * nI p = nI (306 + 3 * p) := by
  show nI 306 + nI 3 * nI p = _
  rw [pk_mul, nI_add]
theorem m_isOpen {v : Lf} {A : AS} {R n : Nat} (h : Ab (v 1) A) (rw' : RW A R n) {k s : Nat} (hk : k < n) (hs : s < 2 ^ 20) {Q : Int32 → Prop} (q : ∀ x, V x (opI R (ofA A k) (wiA A k) s) → Q x) : pX10_isOpen v (nI k) (nI s) Q := by
  have r1 := rw'.r1
  have r2 := rw'.r2
  have n5 := rw'.n5
  obtain ⟨eo, lo⟩ := rw'.off hk
  obtain ⟨ew, lw⟩ := rw'.wid hk
  have e16 : v 1 16 = nI R := (h.gl (k := 16) (by decide)).trans rw'.e16
  have i1 : (306 : Int32) + (3 : Int32) * nI k + 1 = nI (306 + 3 * k + 1) := ix306 k 1
  have v0 : v 1 (306 + 3 * k) = nI (ofA A k) := (h 4 k 0 ⟨by omega, by decide⟩).trans eo
  have v1 : v 1 (306 + 3 * k + 1) = nI (wiA A k) := (h 4 k 1 ⟨by omega, by decide⟩).trans ew
  obtain ⟨f1, f2⟩ := fm_val (R := R) (a := s) (b := ofA A k) (by omega) (by omega) hs (by omega)
  obtain ⟨_, z2⟩ := em_ok (R := R) (by omega) ((s : Int) - (ofA A k : Int))
  have oz := op_z (R := R) (o := ofA A k) (l := wiA A k) (s := s) (by omega)
  have J : pX10_isOpen_J40 v (nI k) (nI s) Q (nI (emZ R ((s : Int) - (ofA A k : Int)))) := by
    unfold pX10_isOpen_J40
    rw [i1, nI_clamp (by omega), v1]
    refine ⟨vp_in_nI (by omega) (by decide), fun c => ?_, fun c => ?_⟩
    · have c := (nle (by omega) (by omega)).mp c
      exact q 0 (V.f (fun y => by have := oz.mp y; omega))
    · have c := nle' (by omega) (by omega) c
      exact q 1 (V.t (oz.mpr c))
  unfold pX10_isOpen
  rw [ix306z, nI_clamp (by omega), v0, e16]
  refine ⟨vp_in_nI (by omega) (by decide), fun e => by have := nI_inj (b := 0) (by omega) (by decide) e; omega, fun c => ?_, fun c => ?_⟩
  · rw [f1 c]; exact J
  · rw [f2 c]; exact J
abbrev WF (w : Lf) (A : AS) (R n : Nat) : Prop := (w 0 0 = nI R) ∧ (w 0 1 = nI n) ∧ (∀ i, i < n → ∀ k, k < 3 → w 1 (i * 3 + k) = A 4 i k)
theorem WF.w0 {w : Lf} {A : AS} {R n : Nat} (h : WF w A R n) : w 0 0 = nI R := h.1
theorem WF.w1 {w : Lf} {A : AS} {R n : Nat} (h : WF w A R n) : w 0 1 = nI n := h.2.1
theorem WF.at' {w : Lf} {A : AS} {R n : Nat} (h : WF w A R n) : ∀ i, i < n → ∀ k, k < 3 → w 1 (i * 3 + k) = A 4 i k := h.2.2
theorem one_l {l : Nat} (hl : l < 64) : ((1 : Int64) <<< ((nI l).toInt64 &&& 63)) - (1 : Int64) = lN (2 ^ l - 1) := by
  have := wb_shl 1 (k := l) hl
  rw [Nat.one_mul] at this
  show (lN 1 <<< ((nI l).toInt64 &&& 63)) - lN 1 = _
  rw [this, lN_sub Nat.one_le_two_pow]
theorem c_wat {w : Lf} {A : AS} {R n : Nat} (h : WF w A R n) (n5 : n ≤ 5) {i : Nat} (hi : i < n) (k : Nat) (hk : k < 3) {Q : Int32 → Prop} (q : Q (A 4 i k)) : pX7_at w (nI i) (@OfNat.ofNat Int32 k _) Q := by
  have e : nI i * (3 : Int32) + (@OfNat.ofNat Int32 k _) = nI (i * 3 + k) := ix3 i k
  unfold pX7_at
  rw [e, nI_clamp (by omega), h.at' i hi k hk]
  exact ⟨vp_in_nI (by omega) (by decide), q⟩
theorem op_bits {R o l g t : Nat} (hR : 0 < R) (hl : l ≤ R) (ht : t < R) : ((emZ R ((o : Int) - (g : Int)) ≤ t ∧ t - emZ R ((o : Int) - (g : Int)) < l) ∨ t + (R - emZ R ((o : Int) - (g : Int))) < l) ↔ opI R o l (t + g) := by
  obtain ⟨z1, z2⟩ := em_ok hR ((o : Int) - (g : Int))
  have e := Int.emod_add_mul_ediv ((o : Int) - (g : Int)) R
  have s : (((t + g : Nat) : Int) - (o : Int)) % (R : Int) = ((t : Int) - (emZ R ((o : Int) - (g : Int)) : Int)) % (R : Int) := by
    have := Int.add_mul_emod_self_left ((t : Int) - (emZ R ((o : Int) - (g : Int)) : Int)) R (-(((o : Int) - (g : Int)) / (R : Int)))
    rw [← this, Int.mul_neg]
    congr 1
    omega
  have r := em_rng (R := R) (z := (t : Int) - (emZ R ((o : Int) - (g : Int)) : Int)) (by omega) (by omega)
  unfold opI
  rw [s, r]
  split <;> omega
theorem c_open {w : Lf} {A : AS} {R n : Nat} (h : WF w A R n) (rw' : RW A R n) {i g : Nat} (hi : i < n) (hg : g < 2 ^ 20) {Q : Int64 → Prop} (q : ∀ x, x < 2 ^ 64 → (∀ t, x.testBit t = true ↔ t < R ∧ opI R (ofA A i) (wiA A i) (t + g)) → Q (lN x)) : pX7_openSeconds w (nI i) (nI g) Q := by
  have r1 := rw'.r1
  have r2 := rw'.r2
  have n5 := rw'.n5
  obtain ⟨eo, lo⟩ := rw'.off hi
  obtain ⟨ew, lw⟩ := rw'.wid hi
  obtain ⟨f1, f2⟩ := fm_val (R := R) (a := ofA A i) (b := g) (by omega) (by omega) (by omega) hg
  obtain ⟨_, z2⟩ := em_ok (R := R) (by omega) ((ofA A i : Int) - (g : Int))
  have ob := fun t (ht : t < R) => op_bits (R := R) (o := ofA A i) (l := wiA A i) (g := g) (t := t) (by omega) lw ht
  have p64 : (2 : Nat) ^ wiA A i ≤ 2 ^ 60 := Nat.pow_le_pow_right (by decide) (by omega)
  have pR : (2 : Nat) ^ R ≤ 2 ^ 60 := Nat.pow_le_pow_right (by decide) (by omega)
  have fin : ∀ f, f < R → (∀ t, t < R → (((f ≤ t ∧ t - f < wiA A i) ∨ t + (R - f) < wiA A i) ↔ opI R (ofA A i) (wiA A i) (t + g))) → Q ((((((1 : Int64) <<< ((nI (wiA A i)).toInt64 &&& 63)) - (1 : Int64)) <<< ((nI f).toInt64 &&& 63)) ||| ((((((1 : Int64) <<< ((nI (wiA A i)).toInt64 &&& 63)) - (1 : Int64))).toUInt64 >>> (((nI R - nI f)).toInt64.toUInt64 &&& Int64.toUInt64 63)).toInt64)) &&& (((1 : Int64) <<< ((nI R).toInt64 &&& 63)) - (1 : Int64))) := by
    intro f hf hb
    rw [one_l (l := wiA A i) (by omega), one_l (l := R) (by omega), nI_sub (by omega), wb_shl _ (by omega), wb_shr (by omega) (by omega), wb_mod ((2 ^ wiA A i - 1) * 2 ^ f)]
    have l1 : (2 ^ wiA A i - 1) * 2 ^ f % 2 ^ 64 < 2 ^ 64 := Nat.mod_lt _ (by decide)
    have l2 : (2 ^ wiA A i - 1) / 2 ^ (R - f) < 2 ^ 64 := Nat.lt_of_le_of_lt (Nat.div_le_self _ _) (by omega)
    rw [wb_or l1 l2, wb_and (Nat.or_lt_two_pow l1 l2) (by omega)]
    refine q _ (Nat.and_lt_two_pow _ (by omega)) (fun t => ?_)
    rw [Nat.testBit_and, Nat.testBit_or, Nat.testBit_mod_two_pow, Nat.testBit_mul_two_pow, Nat.testBit_two_pow_sub_one, Nat.testBit_div_two_pow, Nat.testBit_two_pow_sub_one, Nat.testBit_two_pow_sub_one]
    simp only [Bool.and_eq_true, Bool.or_eq_true, decide_eq_true_eq]
    constructor
    · rintro ⟨a, b⟩
      exact ⟨b, (hb t b).mp (a.imp (fun a => a.2) id)⟩
    · rintro ⟨b, a⟩
      exact ⟨((hb t b).mpr a).imp (fun a => ⟨by omega, a⟩) id, b⟩
  unfold pX7_openSeconds
  rw [h.w0]
  have pos : (0 : Int32) < nI R := (nlt (a := 0) (by decide) (by omega)).mpr (by omega)
  refine ⟨fun _ => c_wat h n5 hi 0 (by decide) ?_, fun c => absurd pos c⟩
  rw [eo]
  refine c_fmod (by rw [nI_toInt (by omega)]; omega) (c_wat h n5 hi 1 (by decide) ?_)
  rw [ew]
  unfold pX7_allSeconds
  rw [h.w0]
  by_cases c : 0 ≤ (nI (ofA A i) - nI g) - (nI (ofA A i) - nI g) / nI R * nI R
  · rw [if_pos c, f1 c]
    exact fin _ z2 ob
  · rw [if_neg c, f2 c]
    exact fin _ z2 ob
noncomputable def gdA (A : AS) (R n : Nat) (nd tv : Nat → Nat) (t : Nat) : Nat := @ite Nat (∀ i, i < n → opI R (ofA A (nd i)) (wiA A (nd i)) (t + sumN tv i)) (Classical.propDecidable _) 1 0
noncomputable def bnA (A : AS) (R n : Nat) (nd tv : Nat → Nat) : Nat := if n = 0 then 0 else sumN (gdA A R n nd tv) R
theorem bits_sum {A : AS} {R n : Nat} {nd tv : Nat → Nat} (r2 : R ≤ 60) {g : Nat} (hb : ∀ t, g.testBit t = true ↔ t < R ∧ ∀ i, i < n → opI R (ofA A (nd i)) (wiA A (nd i)) (t + sumN tv i)) : sumN (tbN g) 64 = sumN (gdA A R n nd tv) R := by
  rw [show 64 = R + (64 - R) by omega, sum_app, sum_0 (f := fun i => tbN g (R + i)) (fun i hi => ?_), Nat.add_zero]
  · refine sum_ext (fun t ht => ?_)
    unfold tbN gdA
    by_cases c : ∀ i, i < n → opI R (ofA A (nd i)) (wiA A (nd i)) (t + sumN tv i)
    · rw [if_pos ((hb t).mpr ⟨ht, c⟩), if_pos c]
    · rw [if_neg (fun y => c ((hb t).mp y).2), if_neg c]
  · unfold tbN
    rw [if_neg (fun y => by have := ((hb _).mp y).1; omega)]
theorem and_bits {A : AS} {R i : Nat} {nd tv : Nat → Nat} {g x : Nat} (hg : ∀ t, g.testBit t = true ↔ t < R ∧ ∀ m, m < i → opI R (ofA A (nd m)) (wiA A (nd m)) (t + sumN tv m)) (hx : ∀ t, x.testBit t = true ↔ t < R ∧ opI R (ofA A (nd i)) (wiA A (nd i)) (t + sumN tv i)) : ∀ t, (g &&& x).testBit t = true ↔ t < R ∧ ∀ m, m < i + 1 → opI R (ofA A (nd m)) (wiA A (nd m)) (t + sumN tv m) := by
  intro t
  rw [Nat.testBit_and, Bool.and_eq_true, hg, hx]
  constructor
  · rintro ⟨⟨a, b⟩, _, c⟩
    refine ⟨a, fun m hm => ?_⟩
    by_cases e : m = i
    · subst e; exact c
    · exact b m (by omega)
  · rintro ⟨a, b⟩
    exact ⟨⟨a, fun m hm => b m (by omega)⟩, a, b i (by omega)⟩
theorem all_bits {R : Nat} (t : Nat) : (2 ^ R - 1).testBit t = true ↔ t < R := by
  rw [Nat.testBit_two_pow_sub_one]
  simp
theorem tr_sum {A : AS} {R n : Nat} (rw' : RW A R n) {tv : Nat → Nat} : ∀ {i : Nat}, (∀ m, m < i → tv m ≤ 99) → sumN tv i ≤ 99 * i := by
  intro i
  induction i with
  | zero => intro _; exact Nat.le_refl _
  | succ i ih =>
    intro h
    have := ih (fun m hm => h m (by omega))
    have := h i (by omega)
    rw [sum_s]
    omega
theorem c_on {w : Lf} {A : AS} {R n : Nat} (h : WF w A R n) (rw' : RW A R n) {Q : Int32 → Prop} (q : Q (nI (bnA A R n (fun i => i) (trA A)))) : pX7_bandOn w Q := by
  have r1 := rw'.r1
  have r2 := rw'.r2
  have n5 := rw'.n5
  have pR : (2 : Nat) ^ R ≤ 2 ^ 60 := Nat.pow_le_pow_right (by decide) (by omega)
  unfold bnA at q
  unfold pX7_bandOn
  rw [h.w1]
  refine ⟨fun c => ?_, fun c => ?_⟩
  · have c : ¬ n = 0 := fun e => c (by rw [e]; rfl)
    rw [if_neg c] at q
    unfold pX7_allSeconds
    rw [h.w0, one_l (by omega)]
    have L : ∀ (k i g : Nat), i + k = n → g < 2 ^ 64 → (∀ t, g.testBit t = true ↔ t < R ∧ ∀ m, m < i → opI R (ofA A m) (wiA A m) (t + sumN (trA A) m)) → pX7_bandOn_L19 w Q (k + 1) (lN g) (nI (sumN (trA A) i)) (nI i) := by
      intro k
      induction k with
      | zero =>
        intro i g hi lg hg
        have e : i = n := by omega
        subst e
        refine hdE h.w1 rfl (c_bits lg ?_)
        rw [bits_sum (nd := fun i => i) r2 hg]
        exact q
      | succ k ih =>
        intro i g hi lg hg
        have sm := tr_sum rw' (tv := trA A) (i := i) (fun m hm => (rw'.tra (by omega)).2)
        refine hdG h.w1 (by omega) (by omega) (c_open h rw' (by omega) (by omega) (fun x lx hx => c_wat h n5 (by omega) 2 (by decide) ?_))
        rw [(rw'.tra (i := i) (by omega)).1, nI_add, nI_s, wb_and lg lx]
        exact ih (i + 1) _ (by omega) (Nat.and_lt_two_pow _ lx) (and_bits (nd := fun i => i) hg hx)
    exact ⟨n + 1, L n 0 (2 ^ R - 1) (by omega) (by omega) (fun t => (all_bits t).trans ⟨fun a => ⟨a, fun m hm => by omega⟩, fun a => a.1⟩)⟩
  · have c : n = 0 := nI_inj (b := 0) (by omega) (by decide) c
    rw [if_pos c] at q
    exact q
def dnI : Nat → Int32
  | 0 => -1
  | k + 1 => nI k
theorem dn_s (k : Nat) : nI k + (-1) = dnI k := by
  cases k with
  | zero => decide
  | succ k => exact nI_dec k
theorem c_back {w : Lf} {A : AS} {R n : Nat} (h : WF w A R n) (rw' : RW A R n) {Q : Int32 → Prop} (q : Q (nI (bnA A R n (fun i => n - 1 - i) (fun i => trA A (n - 2 - i))))) : pX7_bandBack w Q := by
  have r1 := rw'.r1
  have r2 := rw'.r2
  have n5 := rw'.n5
  have pR : (2 : Nat) ^ R ≤ 2 ^ 60 := Nat.pow_le_pow_right (by decide) (by omega)
  unfold bnA at q
  unfold pX7_bandBack
  rw [h.w1]
  refine ⟨fun c => ?_, fun c => ?_⟩
  · have c : ¬ n = 0 := fun e => c (by rw [e]; rfl)
    rw [if_neg c] at q
    unfold pX7_allSeconds
    rw [h.w0, one_l (by omega)]
    have en : nI n - 1 = dnI n := by
      obtain ⟨m, rfl⟩ : ∃ m, n = m + 1 := ⟨n - 1, by omega⟩
      exact nI_pred m
    rw [en]
    have L : ∀ (k i g : Nat), i + k = n → g < 2 ^ 64 → (∀ t, g.testBit t = true ↔ t < R ∧ ∀ m, m < i → opI R (ofA A (n - 1 - m)) (wiA A (n - 1 - m)) (t + sumN (fun i => trA A (n - 2 - i)) m)) → pX7_bandBack_L24 w Q (k + 1) (lN g) (nI (sumN (fun i => trA A (n - 2 - i)) (i - 1))) (dnI k) := by
      intro k
      induction k with
      | zero =>
        intro i g hi lg hg
        have e : i = n := by omega
        refine ⟨fun _ => c_bits lg ?_, fun d => absurd (by decide) d⟩
        rw [bits_sum (nd := fun i => n - 1 - i) (n := n) r2 (fun t => by rw [← e]; exact (hg t).trans (by rw [e]))]
        exact q
      | succ k ih =>
        intro i g hi lg hg
        have ek : n - 1 - i = k := by omega
        have tl : ∀ m, m < n - 1 → trA A (n - 2 - m) ≤ 99 := fun m hm => (rw'.tra (by omega)).2
        have J : pX7_bandBack_J50 w Q (fun x1 x3 x4 => pX7_bandBack_L24 w Q (k + 1) x1 x3 x4) (lN g) (nI (sumN (fun i => trA A (n - 2 - i)) i)) (nI k) := by
          have sm := tr_sum rw' (tv := fun i => trA A (n - 2 - i)) (i := i) (fun m hm => tl m (by omega))
          unfold pX7_bandBack_J50
          refine c_open h rw' (by omega) (by omega) (fun x lx hx => ?_)
          rw [wb_and lg lx, dn_s]
          have := ih (i + 1) _ (by omega) (Nat.and_lt_two_pow g lx) (and_bits (nd := fun i => n - 1 - i) (tv := fun i => trA A (n - 2 - i)) hg (fun t => by rw [ek]; exact hx t))
          rw [Nat.add_sub_cancel] at this
          exact this
        have e1 : nI n - 1 = nI (n - 1) := nI_sub (a := n) (b := 1) (by omega)
        refine ⟨fun d => absurd d (nI_pos (by omega)), fun _ => ?_⟩
        rw [h.w1, e1]
        refine ⟨fun d => ?_, fun d => ?_⟩
        · have d := (nle (by omega) (by omega)).mp d
          have i0 : i = 0 := by omega
          subst i0
          exact J
        · have d := nle' (by omega) (by omega) d
          have i0 : i - 1 + 1 = i := by omega
          refine c_wat h n5 (by omega) 2 (by decide) ?_
          have s : sumN (fun i => trA A (n - 2 - i)) i = sumN (fun i => trA A (n - 2 - i)) (i - 1) + trA A k := by
            have := sum_s (fun i => trA A (n - 2 - i)) (i - 1)
            rw [i0] at this
            rw [this, show n - 2 - (i - 1) = k by omega]
          rw [(rw'.tra (i := k) (by omega)).1, nI_add, ← s]
          exact J
    exact ⟨n + 1, L n 0 (2 ^ R - 1) (by omega) (by omega) (fun t => (all_bits t).trans ⟨fun a => ⟨a, fun m hm => by omega⟩, fun a => a.1⟩)⟩
  · have c : n = 0 := nI_inj (b := 0) (by omega) (by decide) c
    rw [if_pos c] at q
    exact q

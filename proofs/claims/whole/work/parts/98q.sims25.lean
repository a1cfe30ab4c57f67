def glA (A : AS) (i : Nat) : Int32 := A 3 i 2 - A 3 i 1
def gr0 (A : AS) (z : Int32) (i : Nat) (x : Int32) : Int32 := if A 3 i 0 = z then x + 1 else x
def gr1 (A : AS) (z : Int32) (i : Nat) (x : Int32) : Int32 := if A 3 i 0 = z then x + glA A i else x
def gr2 (A : AS) (z : Int32) (i : Nat) (x : Int32) : Int32 := if A 3 i 0 = z then (if x = -5 then glA A i else if x ≤ glA A i then x else glA A i) else x
def gr3 (A : AS) (z : Int32) (i : Nat) (x : Int32) : Int32 := if A 3 i 0 = z then (if x < glA A i then glA A i else x) else x
theorem c_rat {r : Lf} {A : AS} {m : Nat} (hm : m ≤ 24) (rr : ∀ i, i < m → ∀ k, k < 3 → r 1 (i * 3 + k) = A 3 i k) {i : Nat} (hi : i < m) (k : Nat) (hk : k < 3) {Q : Int32 → Prop} (q : Q (A 3 i k)) : pX4_at 72 r (nI i) (@OfNat.ofNat Int32 k _) Q := by
  have e : nI i * (3 : Int32) + (@OfNat.ofNat Int32 k _) = nI (i * 3 + k) := ix3 i k
  unfold pX4_at
  rw [e, nI_clamp (by omega), rr i hi k hk]
  exact ⟨vp_in_nI (by omega) (by decide), q⟩
theorem c_rlen {r : Lf} {A : AS} {m : Nat} (hm : m ≤ 24) (rr : ∀ i, i < m → ∀ k, k < 3 → r 1 (i * 3 + k) = A 3 i k) {i : Nat} (hi : i < m) {Q : Int32 → Prop} (q : Q (glA A i)) : pX0_recordedLength r (nI i) Q :=
  c_rat hm rr hi 2 (by decide) (c_rat hm rr hi 1 (by decide) q)
theorem c_gr0 {r : Lf} {A : AS} {m : Nat} (h0 : r 0 0 = nI m) (hm : m ≤ 24) (rr : ∀ i, i < m → ∀ k, k < 3 → r 1 (i * 3 + k) = A 3 i k) {z : Int32} {Q : Int32 → Prop} : ∀ (k i : Nat) (x : Int32), i + k = m → Q (lp (gr0 A z) k i x) → pX0_recordedGreens_L4 r z Q (k + 1) x (nI i) := by
  intro k
  induction k with
  | zero =>
    intro i x hi q
    exact hdE h0 (by omega) q
  | succ k ih =>
    intro i x hi q
    rw [lp_succ] at q
    unfold gr0 at q
    refine hdG h0 (by omega) (by omega) (c_rat hm rr (by omega) 0 (by decide) ⟨fun c => ?_, fun c => ?_⟩)
    · unfold pX0_recordedGreens_J31
      rw [if_neg c] at q
      rw [nI_s]
      exact ih (i + 1) _ (by omega) q
    · unfold pX0_recordedGreens_J31
      rw [if_pos c] at q
      rw [nI_s]
      exact ih (i + 1) _ (by omega) q
theorem c_gr1 {r : Lf} {A : AS} {m : Nat} (h0 : r 0 0 = nI m) (hm : m ≤ 24) (rr : ∀ i, i < m → ∀ k, k < 3 → r 1 (i * 3 + k) = A 3 i k) {z : Int32} {Q : Int32 → Prop} : ∀ (k i : Nat) (x : Int32), i + k = m → Q (lp (gr1 A z) k i x) → pX0_recordedTime_L4 r z Q (k + 1) x (nI i) := by
  intro k
  induction k with
  | zero =>
    intro i x hi q
    exact hdE h0 (by omega) q
  | succ k ih =>
    intro i x hi q
    rw [lp_succ] at q
    unfold gr1 at q
    refine hdG h0 (by omega) (by omega) (c_rat hm rr (by omega) 0 (by decide) ⟨fun c => ?_, fun c => c_rlen hm rr (by omega) ?_⟩)
    · unfold pX0_recordedTime_J36
      rw [if_neg c] at q
      rw [nI_s]
      exact ih (i + 1) _ (by omega) q
    · unfold pX0_recordedTime_J36
      rw [if_pos c] at q
      rw [nI_s]
      exact ih (i + 1) _ (by omega) q
theorem c_gr2 {r : Lf} {A : AS} {m : Nat} (h0 : r 0 0 = nI m) (hm : m ≤ 24) (rr : ∀ i, i < m → ∀ k, k < 3 → r 1 (i * 3 + k) = A 3 i k) {z : Int32} {Q : Int32 → Prop} : ∀ (k i : Nat) (x : Int32), i + k = m → Q (lp (gr2 A z) k i x) → pX0_shortestGreen_L5 r z Q (k + 1) x (nI i) := by
  intro k
  induction k with
  | zero =>
    intro i x hi q
    exact hdE h0 (by omega) q
  | succ k ih =>
    intro i x hi q
    rw [lp_succ] at q
    unfold gr2 at q
    refine hdG h0 (by omega) (by omega) (c_rat hm rr (by omega) 0 (by decide) ⟨fun c => ?_, fun c => ⟨fun c2 => ?_, fun c2 => c_rlen hm rr (by omega) ⟨fun c3 => ?_, fun c3 => ?_⟩⟩⟩)
    · unfold pX0_shortestGreen_J50
      rw [if_neg c] at q
      rw [nI_s]
      exact ih (i + 1) _ (by omega) q
    · unfold pX0_shortestGreen_J44 pX0_shortestGreen_J50
      rw [if_pos c, if_pos c2] at q
      rw [nI_s]
      exact c_rlen hm rr (by omega) (ih (i + 1) _ (by omega) q)
    · unfold pX0_shortestGreen_J50
      rw [if_pos c, if_neg c2, if_pos c3] at q
      rw [nI_s]
      exact ih (i + 1) _ (by omega) q
    · unfold pX0_shortestGreen_J44 pX0_shortestGreen_J50
      rw [if_pos c, if_neg c2, if_neg c3] at q
      rw [nI_s]
      exact c_rlen hm rr (by omega) (ih (i + 1) _ (by omega) q)
theorem c_gr3 {r : Lf} {A : AS} {m : Nat} (h0 : r 0 0 = nI m) (hm : m ≤ 24) (rr : ∀ i, i < m → ∀ k, k < 3 → r 1 (i * 3 + k) = A 3 i k) {z : Int32} {Q : Int32 → Prop} : ∀ (k i : Nat) (x : Int32), i + k = m → Q (lp (gr3 A z) k i x) → pX0_longestGreen_L5 r z Q (k + 1) x (nI i) := by
  intro k
  induction k with
  | zero =>
    intro i x hi q
    exact hdE h0 (by omega) q
  | succ k ih =>
    intro i x hi q
    rw [lp_succ] at q
    unfold gr3 at q
    refine hdG h0 (by omega) (by omega) (c_rat hm rr (by omega) 0 (by decide) ⟨fun c => ?_, fun c => c_rlen hm rr (by omega) ?_⟩)
    · unfold pX0_longestGreen_J39
      rw [if_neg c] at q
      rw [nI_s]
      exact ih (i + 1) _ (by omega) q
    · unfold pX0_longestGreen_J39
      rw [if_pos c] at q
      rw [nI_s]
      exact ih (i + 1) _ (by omega) q
theorem m_rat {v : Lf} {A : AS} (h : Ab (v 1) A) {i : Nat} (hi : i < 24) (k : Nat) (hk : k < 3) {Q : Int32 → Prop} (q : Q (A 3 i k)) : pX10_recordAt v (nI i) (@OfNat.ofNat Int32 k _) Q := by
  have e : (234 : Int32) + (3 : Int32) * nI i + (@OfNat.ofNat Int32 k _) = nI (234 + 3 * i + k) := ix234 i k
  unfold pX10_recordAt
  rw [e, nI_clamp (by omega), show v 1 (234 + 3 * i + k) = A 3 i k from h 3 i k ⟨hi, hk⟩]
  exact ⟨vp_in_nI (by omega) (by decide), q⟩
theorem m_grL {v : Lf} {A : AS} {m : Nat} (h : Ab (v 1) A) (e15 : A 0 0 15 = nI m) (hm : m ≤ 24) (len : ∀ i, i < m → qb (glA A i) 1000000) {z x2 : Int32} {Q : Int32 → Prop} : ∀ (k i : Nat) (a b c d : Int32), i + k = m → nv c 1000000 → (x2 = 0 → Q (lp (gr0 A z) k i a)) → (x2 = 1 → Q (lp (gr1 A z) k i b)) → (x2 = 2 → Q (lp (gr2 A z) k i c)) → (¬ x2 = 0 → ¬ x2 = 1 → ¬ x2 = 2 → Q (lp (gr3 A z) k i d)) → pX10_greens_L35 v z x2 Q (k + 1) a b c d (nI i) := by
  have h0 : v 1 15 = nI m := (h.gl (k := 15) (by decide)).trans e15
  intro k
  induction k with
  | zero =>
    intro i a b c d hi hc q0 q1 q2 q3
    exact hdE h0 (by omega) ⟨fun c0 => ⟨fun c1 => ⟨fun c2 => q3 c0 c1 c2, fun c2 => q2 c2⟩, fun c1 => q1 c1⟩, fun c0 => q0 c0⟩
  | succ k ih =>
    intro i a b c d hi hc q0 q1 q2 q3
    simp only [lp_succ] at q0 q1 q2 q3
    unfold gr0 at q0
    unfold gr1 at q1
    unfold gr2 at q2
    unfold gr3 at q3
    have hl := len i (by omega)
    refine hdG h0 (by omega) (by omega) (m_rat h (by omega) 0 (by decide) ⟨fun e => m_rat h (by omega) 2 (by decide) (m_rat h (by omega) 1 (by decide) ?_), fun e => ?_⟩)
    · rw [if_pos e] at q0 q1 q2 q3
      have ngc := nv_neg (by decide) hc
      show (0 ≤ c → pX10_greens_J105 v z x2 Q _ (a + 1) (b + glA A i) d (nI i) (glA A i) (if glA A i < c then glA A i else c)) ∧ (¬ 0 ≤ c → pX10_greens_J105 v z x2 Q _ (a + 1) (b + glA A i) d (nI i) (glA A i) (glA A i))
      unfold pX10_greens_J105 pX10_greens_J116
      rw [nI_s]
      refine ⟨fun c2 => ?_, fun c2 => ?_⟩
      · have c3 : ¬ c = -5 := fun y => n_lt.mpr (ngc.mpr y) c2
        rw [if_neg c3] at q2
        have e3 : (if glA A i < c then glA A i else c) = (if c ≤ glA A i then c else glA A i) := by
          by_cases l : c ≤ glA A i
          · rw [if_pos l, if_neg (n_le.mpr l)]
          · rw [if_neg l, if_pos (n_lt.mp l)]
        rw [e3]
        refine ih (i + 1) _ _ _ _ (by omega) ?_ q0 q1 q2 q3
        split
        · exact hc
        · exact .inr hl
      · have c3 : c = -5 := ngc.mp (n_lt.mp c2)
        rw [if_pos c3] at q2
        exact ih (i + 1) _ _ _ _ (by omega) (.inr hl) q0 q1 q2 q3
    · rw [if_neg e] at q0 q1 q2 q3
      unfold pX10_greens_J116
      rw [nI_s]
      exact ih (i + 1) _ _ _ _ (by omega) hc q0 q1 q2 q3

theorem sim_greens : Sim_X9_greens Inv := by
  intro v vNc vNcj vNcs vNcp vNcr vNw vNg vNn vNq vIc vIcj vIcs vIcp vIcr vIw vIg vIn vIq vT vTj vTs vTp vTr vx vt gt vM gM hInv x1 x2
  obtain ⟨B, t, N, K, A, h⟩ := id hInv
  have hw := h.now
  have hN := hw.ci.hN
  have hK := hw.ci.hK
  have hM := hw.n13
  have hP := hw.n14
  unfold pX9_greens
  have tb := hw.tb
  have hB := h.hB
  obtain ⟨m, hm, em, rown⟩ := hw.ci.rc
  obtain ⟨m2, hm2, em2, ro⟩ := hw.bd.ro
  have e12 : m2 = m := nI_inj (by omega) (by omega) (em2.symm.trans em)
  subst e12
  have h0 : vNcr 0 0 = nI m2 := hw.co.rr.n.trans em
  have rr := hw.co.rr.at' m2 hm em
  have len : ∀ i, i < m2 → qb (glA A i) 1000000 := by
    intro i hi
    obtain ⟨_, ⟨b, hb, eb⟩, ⟨e, he, ee⟩⟩ := rown i hi
    have l := ro i hi
    rw [eb, ee] at l
    have l := (nle (by omega) (by omega)).mp l
    unfold glA
    rw [eb, ee, nI_sub l]
    exact ⟨e - b, by omega, rfl⟩
  refine c_sig hN hw.co.jr (fun a ha ea => ?_) (fun e1 => ?_)
  · subst ea
    first | refine ⟨fun c => absurd c (by decide), fun _ => ?_⟩ | refine ⟨fun _ => ?_, fun c => absurd c (by decide)⟩
    have mod : ∀ k, k < 4 → x2 = nI k → ∀ Q : Int32 → Prop, (x2 = 0 → Q (lp (gr0 A (nI a)) m2 0 0)) → (x2 = 1 → Q (lp (gr1 A (nI a)) m2 0 0)) → (x2 = 2 → Q (lp (gr2 A (nI a)) m2 0 (-5))) → (¬ x2 = 0 → ¬ x2 = 1 → ¬ x2 = 2 → Q (lp (gr3 A (nI a)) m2 0 (-5))) → pX10_greens vM (nI a) x2 Q := by
      intro k hk e Q q0 q1 q2 q3
      unfold pX10_greens
      refine m_sigY hN hM ha ?_
      first | refine ⟨fun c => absurd c (by decide), fun _ => ?_⟩ | refine ⟨fun _ => ?_, fun c => absurd c (by decide)⟩
      refine inY ((up_iff (M := 3) (by decide) _).mpr ⟨k, by omega, e⟩) ?_
      first | refine ⟨fun c => absurd c (by decide), fun _ => ?_⟩ | refine ⟨fun _ => ?_, fun c => absurd c (by decide)⟩
      exact ⟨m2 + 1, m_grL hw.ab em hm len m2 0 0 0 (-5) (-5) (by omega) (.inl rfl) q0 q1 q2 q3⟩
    refine ⟨fun c0 => ?_, fun c0 => ⟨fun c1 => ?_, fun c1 => ⟨fun c2 => ?_, fun c2 => ⟨fun c3 => ?_, fun c3 => ?_⟩⟩⟩⟩
    · exact ⟨m2 + 1, c_gr0 h0 hm rr m2 0 0 (by omega) (mod 0 (by decide) c0 _ (fun _ => ⟨rfl, hInv⟩) (fun e => absurd (c0.symm.trans e) (by decide)) (fun e => absurd (c0.symm.trans e) (by decide)) (fun e => absurd c0 e))⟩
    · exact ⟨m2 + 1, c_gr1 h0 hm rr m2 0 0 (by omega) (mod 1 (by decide) c1 _ (fun e => absurd e c0) (fun _ => ⟨rfl, hInv⟩) (fun e => absurd (c1.symm.trans e) (by decide)) (fun _ e => absurd c1 e))⟩
    · exact ⟨m2 + 1, c_gr2 h0 hm rr m2 0 (-5) (by omega) (mod 2 (by decide) c2 _ (fun e => absurd e c0) (fun e => absurd e c1) (fun _ => ⟨rfl, hInv⟩) (fun _ _ e => absurd c2 e))⟩
    · exact ⟨m2 + 1, c_gr3 h0 hm rr m2 0 (-5) (by omega) (mod 3 (by decide) c3 _ (fun e => absurd e c0) (fun e => absurd e c1) (fun e => absurd e c2) (fun _ _ _ => ⟨rfl, hInv⟩))⟩
    · unfold pX10_greens
      refine m_sigY hN hM ha ?_
      first | refine ⟨fun c => absurd c (by decide), fun _ => ?_⟩ | refine ⟨fun _ => ?_, fun c => absurd c (by decide)⟩
      refine inN (fun e => ?_) ?_
      · obtain ⟨k, hk, e⟩ := (up_iff (M := 3) (by decide) _).mp e
        rcases (show k = 0 ∨ k = 1 ∨ k = 2 ∨ k = 3 by omega) with rfl | rfl | rfl | rfl
        · exact c0 e
        · exact c1 e
        · exact c2 e
        · exact c3 e
      · first | refine ⟨fun c => absurd c (by decide), fun _ => ?_⟩ | refine ⟨fun _ => ?_, fun c => absurd c (by decide)⟩
        exact ⟨rfl, hInv⟩
  · first | refine ⟨fun c => absurd c (by decide), fun _ => ?_⟩ | refine ⟨fun _ => ?_, fun c => absurd c (by decide)⟩
    unfold pX10_greens
    refine m_sigN hN hM e1 ?_
    first | refine ⟨fun c => absurd c (by decide), fun _ => ?_⟩ | refine ⟨fun _ => ?_, fun c => absurd c (by decide)⟩
    exact ⟨rfl, hInv⟩
def sumN (f : Nat → Nat) : Nat → Nat
  | 0 => 0
  | n + 1 => sumN f n + f n
theorem sum_s (f : Nat → Nat) (n : Nat) : sumN f (n + 1) = sumN f n + f n := rfl
theorem sum_ext {f g : Nat → Nat} : ∀ {n : Nat}, (∀ i, i < n → f i = g i) → sumN f n = sumN g n := by
  intro n
  induction n with
  | zero => exact fun _ => rfl
  | succ n ih =>
    intro h
    rw [sum_s, sum_s, ih (fun i hi => h i (by omega)), h n (by omega)]
theorem sum_add (f g : Nat → Nat) : ∀ n, sumN (fun i => f i + g i) n = sumN f n + sumN g n := by
  intro n
  induction n with
  | zero => rfl
  | succ n ih => rw [sum_s, sum_s, sum_s, ih]; omega
theorem sum_le {f : Nat → Nat} {b : Nat} (h : ∀ i, f i ≤ b) : ∀ n, sumN f n ≤ b * n := by
  intro n
  induction n with
  | zero => exact Nat.zero_le _
  | succ n ih =>
    have := h n
    rw [sum_s, Nat.mul_succ]
    omega
theorem sum_0 {f : Nat → Nat} : ∀ {n : Nat}, (∀ i, i < n → f i = 0) → sumN f n = 0 := by
  intro n
  induction n with
  | zero => exact fun _ => rfl
  | succ n ih =>
    intro h
    rw [sum_s, ih (fun i hi => h i (by omega)), h n (by omega)]
theorem lp_sum (f : Nat → Nat) : ∀ (k i y : Nat), lp (fun b x => x + f b) k i (y + sumN f i) = y + sumN f (i + k) := by
  intro k
  induction k with
  | zero => intro i y; rfl
  | succ k ih =>
    intro i y
    rw [lp_succ, show y + sumN f i + f i = y + sumN f (i + 1) from by rw [sum_s]; omega, ih, show i + 1 + k = i + (k + 1) by omega]
theorem lp_sum0 (f : Nat → Nat) (k y : Nat) : lp (fun b x => x + f b) k 0 y = y + sumN f k := by
  have := lp_sum f k 0 y
  rw [Nat.zero_add] at this
  exact this
theorem tri2 {N : Nat} {f f2 : Nat → Nat → Nat} (sym : ∀ a b, a < N → b < N → f a b = f b a) (irr : ∀ a, a < N → f a a = 0) (h2 : ∀ a b, f2 a b = if a < b then f a b else 0) : ∀ n, n ≤ N → sumN (fun a => sumN (f a) n) n = 2 * sumN (fun a => sumN (f2 a) n) n := by
  intro n
  induction n with
  | zero => exact fun _ => rfl
  | succ n ih =>
    intro hn
    have ih := ih (by omega)
    have s : ∀ g : Nat → Nat → Nat, sumN (fun a => sumN (g a) (n + 1)) (n + 1) = (sumN (fun a => sumN (g a) n) n + sumN (fun a => g a n) n) + (sumN (g n) n + g n n) := fun g => by
      rw [sum_s]
      congr 1
      rw [← sum_add]
      exact sum_ext (fun i _ => rfl)
    rw [s f, s f2, ih, irr n (by omega)]
    have e1 : sumN (f n) n = sumN (fun a => f a n) n := sum_ext (fun i hi => sym n i (by omega) (by omega))
    have e2 : sumN (fun a => f2 a n) n = sumN (fun a => f a n) n := sum_ext (fun i hi => by rw [h2, if_pos hi])
    have e3 : sumN (f2 n) n = 0 := sum_0 (fun i hi => by rw [h2, if_neg (by omega)])
    have e4 : f2 n n = 0 := by rw [h2, if_neg (by omega)]
    rw [e1, e2, e3, e4]
    omega
def fmA (A : AS) (a b : Nat) : Nat := if narA A a b = -5 then 0 else 1
def f2A (A : AS) (a b : Nat) : Nat := if a < b then fmA A a b else 0
def gC (A : AS) (a b : Nat) (x : Int32) : Int32 := if narA A a b = -5 then x else if x < clrA A a b then clrA A a b else x
def aC (A : AS) (a b : Nat) (x : Int32) : Int32 := if narA A a b = -5 then x else x + clrA A a b
def mC (A : AS) (a : Nat) (x : Int32) : Int32 := if x < A 1 a 2 then A 1 a 2 else x
def bcn (r : Int32) : Nat := sumN (fun i => if bt r i = true then 1 else 0) 8
theorem bcn_ok : ∀ q, q < 256 → bcv (nI q) = nI (bcn (nI q)) := by decide +kernel
theorem bcn_fm {N : Nat} {A : AS} (hN : N ≤ 8) {a : Nat} {r : Int32} (h : Bits r (fun b => b < N ∧ ¬ narA A a b = -5)) : bcn r = sumN (fmA A a) N := by
  have e : ∀ n, n ≤ 8 - N → sumN (fun i => if bt r i = true then 1 else 0) (N + n) = sumN (fmA A a) N := by
    intro n
    induction n with
    | zero =>
      intro _
      refine sum_ext (fun i hi => ?_)
      unfold fmA
      by_cases c : narA A a i = -5
      · rw [if_pos c, if_neg (fun e => ((h i (by omega)).mp e).2 c)]
      · rw [if_neg c, if_pos ((h i (by omega)).mpr ⟨hi, c⟩)]
    | succ n ih =>
      intro hn
      rw [show N + (n + 1) = (N + n) + 1 by omega, sum_s, ih (by omega), if_neg (fun e => by have := ((h (N + n) (by omega)).mp e).1; omega), Nat.add_zero]
  have := e (8 - N) (Nat.le_refl _)
  rw [show N + (8 - N) = 8 by omega] at this
  exact this
theorem clr_pos {t N K : Nat} {A : AS} (hI : CoI t N K A) {a b : Nat} (ha : a < N) (hb : b < N) : 0 ≤ clrA A a b ↔ ¬ narA A a b = -5 := by
  rw [clrA]
  by_cases c : narA A a b < 0
  · rw [if_pos c]
    exact ⟨fun e => absurd e (by decide), fun e => absurd ((nar_neg hI ha hb).mp c) e⟩
  · rw [if_neg c]
    obtain ⟨x, hx, ex⟩ := bare_ok hI ha hb
    obtain ⟨y, hy, ey⟩ := hI.sf
    rw [ex, ey, nI_add]
    exact ⟨fun _ e => c ((nar_neg hI ha hb).mpr e), fun _ => nI_pos' (by omega)⟩
theorem c_mtA {N : Nat} {j : Lf} {A : AS} (hN : N ≤ 8) (tb : TbR N j A) {a b : Nat} (ha : a < N) (hb : b < N) {Q : Int32 → Prop} (q1 : ¬ narA A a b = -5 → Q 1) (q0 : narA A a b = -5 → Q 0) : pX1_meet j (nI a) (nI b) Q :=
  c_meet (by omega) (by omega) (fun c => q1 (fun e => c ((tb.nar a b ha hb).trans e))) (fun c => q0 ((tb.nar a b ha hb).symm.trans c))
theorem c_clA {t N K : Nat} {j : Lf} {A : AS} {C D : Nat → Int32} (hI : CoI t N K A) (hj : JR N j A) (tb : TbR N j A) (tm : MtR N A C D) {a b : Nat} (ha : a < N) (hb : b < N) (c : ¬ narA A a b = -5) {Q : Int32 → Prop} (q : Q (clrA A a b)) : pX1_clearOf j (nI a) (nI b) Q := by
  have hN := hI.hN
  refine (w_clearOf _ (by omega) _).mpr ?_
  have cr := ClR.of hI hj tb tm
  rw [← (cr.yes a b ha hb (fun e => c ((tb.nar a b ha hb).symm.trans e))).1, tm.cl a b ha hb]
  exact q
theorem m_mtA {t N K : Nat} {v : Lf} {A : AS} {D : Nat → Int32} (hI : CoI t N K A) (tm : MtR N A (v 4) D) {a b : Nat} (ha : a < N) (hb : b < N) {Q : Int32 → Prop} (q1 : ¬ narA A a b = -5 → Q 1) (q0 : narA A a b = -5 → Q 0) : pX10_meet v (nI a) (nI b) Q := by
  have hN := hI.hN
  refine (w_meetM v (by omega) Q).mpr ?_
  rw [tm.cl a b ha hb]
  have e := clr_pos hI ha hb
  by_cases c : narA A a b = -5
  · rw [if_neg (fun y => e.mp y c)]; exact q0 c
  · rw [if_pos (e.mpr c)]; exact q1 c
theorem c_mtgs {t N K : Nat} {j : Lf} {A : AS} (hI : CoI t N K A) (hj : JR N j A) (tb : TbR N j A) {Q : Int32 → Prop} : ∀ (k a x : Nat), a + k = N → Q (nI (lp (fun a x => x + sumN (fmA A a) N) k a x) / 2) → pX1_meetings_L4 j Q (k + 1) (nI x) (nI a) := by
  have hN := hI.hN
  intro k
  induction k with
  | zero =>
    intro a x hi q
    exact hdE hj.n (by omega) q
  | succ k ih =>
    intro a x hi q
    rw [lp_succ] at q
    refine hdG hj.n (by omega) (by omega) (c_meeters hN hj tb (by omega) (fun r hr => ?_))
    obtain ⟨z, hz, ez⟩ := bits8 hr (fun z h => Nat.lt_of_lt_of_le h.1 hN)
    have b := bcn_ok z hz
    rw [← ez, bcn_fm hN hr] at b
    unfold pJ6_bitCount_0f7a4
    show pX1_meetings_L4 j Q (k + 1) (nI x + bcv r) (nI a + 1)
    rw [b, nI_add, nI_s]
    exact ih (a + 1) _ (by omega) q
theorem c_gC {t N K : Nat} {j : Lf} {A : AS} {C D : Nat → Int32} (hI : CoI t N K A) (hj : JR N j A) (tb : TbR N j A) (tm : MtR N A C D) {Q : Int32 → Prop} {K4 : Int32 → Int32 → Prop} {a : Nat} (ha : a < N) : ∀ (k b : Nat) (x : Int32), b + k = N → K4 (lp (gC A a) k b x) (nI (a + 1)) → pX1_greatestClear_L14 j Q K4 (k + 1) x (nI a) (nI b) := by
  have hN := hI.hN
  intro k
  induction k with
  | zero =>
    intro b x hi q
    refine hdE hj.n (by omega) ?_
    rw [nI_s]; exact q
  | succ k ih =>
    intro b x hi q
    rw [lp_succ] at q
    unfold gC at q
    refine hdG hj.n (by omega) (by omega) (c_mtA hN tb ha (by omega) (fun c => ?_) (fun c => ?_))
    · first | refine ⟨fun c => absurd c (by decide), fun _ => ?_⟩ | refine ⟨fun _ => ?_, fun c => absurd c (by decide)⟩
      refine c_clA hI hj tb tm ha (by omega) c ?_
      unfold pX1_greatestClear_J42
      rw [if_neg c] at q
      rw [nI_s]
      exact ih (b + 1) _ (by omega) q
    · first | refine ⟨fun c => absurd c (by decide), fun _ => ?_⟩ | refine ⟨fun _ => ?_, fun c => absurd c (by decide)⟩
      unfold pX1_greatestClear_J42
      rw [if_pos c] at q
      rw [nI_s]
      exact ih (b + 1) _ (by omega) q
theorem c_gC2 {t N K : Nat} {j : Lf} {A : AS} {C D : Nat → Int32} (hI : CoI t N K A) (hj : JR N j A) (tb : TbR N j A) (tm : MtR N A C D) {Q : Int32 → Prop} : ∀ (k a : Nat) (x : Int32), a + k = N → Q (lp (fun a x => lp (gC A a) N 0 x) k a x) → pX1_greatestClear_L4 j Q (k + 1) x (nI a) := by
  have hN := hI.hN
  intro k
  induction k with
  | zero =>
    intro a x hi q
    exact hdE hj.n (by omega) q
  | succ k ih =>
    intro a x hi q
    rw [lp_succ] at q
    exact hdG hj.n (by omega) (by omega) ⟨N + 1, c_gC hI hj tb tm (by omega) N 0 x (by omega) (ih (a + 1) _ (by omega) q)⟩
theorem c_aC {t N K : Nat} {j : Lf} {A : AS} {C D : Nat → Int32} (hI : CoI t N K A) (hj : JR N j A) (tb : TbR N j A) (tm : MtR N A C D) {Q : Int32 → Prop} {K4 : Int32 → Int32 → Prop} {a : Nat} (ha : a < N) : ∀ (k b : Nat) (x : Int32), b + k = N → K4 (lp (aC A a) k b x) (nI (a + 1)) → pX1_allClears_L14 j Q K4 (k + 1) x (nI a) (nI b) := by
  have hN := hI.hN
  intro k
  induction k with
  | zero =>
    intro b x hi q
    refine hdE hj.n (by omega) ?_
    rw [nI_s]; exact q
  | succ k ih =>
    intro b x hi q
    rw [lp_succ] at q
    unfold aC at q
    refine hdG hj.n (by omega) (by omega) (c_mtA hN tb ha (by omega) (fun c => ?_) (fun c => ?_))
    · first | refine ⟨fun c => absurd c (by decide), fun _ => ?_⟩ | refine ⟨fun _ => ?_, fun c => absurd c (by decide)⟩
      refine c_clA hI hj tb tm ha (by omega) c ?_
      unfold pX1_allClears_J40
      rw [if_neg c] at q
      rw [nI_s]
      exact ih (b + 1) _ (by omega) q
    · first | refine ⟨fun c => absurd c (by decide), fun _ => ?_⟩ | refine ⟨fun _ => ?_, fun c => absurd c (by decide)⟩
      unfold pX1_allClears_J40
      rw [if_pos c] at q
      rw [nI_s]
      exact ih (b + 1) _ (by omega) q
theorem c_aC2 {t N K : Nat} {j : Lf} {A : AS} {C D : Nat → Int32} (hI : CoI t N K A) (hj : JR N j A) (tb : TbR N j A) (tm : MtR N A C D) {Q : Int32 → Prop} : ∀ (k a : Nat) (x : Int32), a + k = N → Q (lp (fun a x => lp (aC A a) N 0 x) k a x) → pX1_allClears_L4 j Q (k + 1) x (nI a) := by
  have hN := hI.hN
  intro k
  induction k with
  | zero =>
    intro a x hi q
    exact hdE hj.n (by omega) q
  | succ k ih =>
    intro a x hi q
    rw [lp_succ] at q
    exact hdG hj.n (by omega) (by omega) ⟨N + 1, c_aC hI hj tb tm (by omega) N 0 x (by omega) (ih (a + 1) _ (by omega) q)⟩
theorem c_mC {N : Nat} {j s : Lf} {A : AS} (hN : N ≤ 8) (hj : JR N j A) (hs : SR N s A) {Q : Int32 → Prop} : ∀ (k a : Nat) (x : Int32), a + k = N → Q (lp (mC A) k a x) → pX9_greatestMost_L4 j s Q (k + 1) x (nI a) := by
  intro k
  induction k with
  | zero =>
    intro a x hi q
    exact hdE hj.n (by omega) q
  | succ k ih =>
    intro a x hi q
    rw [lp_succ] at q
    unfold mC at q
    refine hdG hj.n (by omega) (by omega) (c_rule hN hs (by omega) 1 (by decide) ?_)
    rw [nI_s]
    exact ih (a + 1) _ (by omega) q
theorem m_tabI {t N K : Nat} {v : Lf} {A : AS} {D : Nat → Int32} (hI : CoI t N K A) (h : Ab (v 1) A) (tm : MtR N A (v 4) D) {x1 : Int32} {Q : Int32 → Prop} {K24 : Int32 → Int32 → Int32 → Int32 → Int32 → Prop} {a : Nat} (ha : a < N) {x5 : Int32} : ∀ (k b x2 : Nat) (x3 x4 : Int32), b + k = N → K24 (nI (lp (fun b x => x + f2A A a b) k b x2)) (lp (gC A a) k b x3) (lp (aC A a) k b x4) x5 (nI (a + 1)) → pX10_table_L53 v x1 Q K24 (k + 1) (nI x2) x3 x4 x5 (nI a) (nI b) := by
  have hN := hI.hN
  have hm : v 1 13 = nI N := (h.gl (k := 13) (by decide)).trans hI.m
  intro k
  induction k with
  | zero =>
    intro b x2 x3 x4 hi q
    refine hdE hm (by omega) ?_
    rw [nI_s]; exact q
  | succ k ih =>
    intro b x2 x3 x4 hi q
    simp only [lp_succ] at q
    unfold f2A fmA at q
    rw [gC, aC] at q
    refine hdG hm (by omega) (by omega) (m_mtA hI tm ha (by omega) (fun c => ?_) (fun c => ?_))
    · first | refine ⟨fun c => absurd c (by decide), fun _ => ?_⟩ | refine ⟨fun _ => ?_, fun c => absurd c (by decide)⟩
      rw [if_neg c, if_neg c, if_neg c] at q
      have vp : vp_in (nI (8 * a + b)) 64 := vp_in_nI (by omega) (by decide)
      unfold pX10_table_J92 pX10_table_J130
      rw [ix8, nI_clamp (by omega), tm.cl a b ha (by omega), nI_s, nI_s, Int32.add_zero]
      refine ⟨fun l => ⟨vp, vp, ?_⟩, fun l => ⟨vp, vp, ?_⟩⟩
      · have l := (nle (by omega) (by omega)).mp l
        rw [if_neg (by omega)] at q
        exact ih (b + 1) x2 _ _ (by omega) q
      · have l := nle' (by omega) (by omega) l
        rw [if_pos (by omega)] at q
        exact ih (b + 1) (x2 + 1) _ _ (by omega) q
    · first | refine ⟨fun c => absurd c (by decide), fun _ => ?_⟩ | refine ⟨fun _ => ?_, fun c => absurd c (by decide)⟩
      unfold pX10_table_J130
      rw [if_pos c, if_pos c, if_pos c, ite_self] at q
      rw [nI_s]
      exact ih (b + 1) x2 _ _ (by omega) q
theorem m_tabO {t N K : Nat} {v : Lf} {A : AS} {D : Nat → Int32} (hI : CoI t N K A) (h : Ab (v 1) A) (tm : MtR N A (v 4) D) {x1 : Int32} {Q : Int32 → Prop} : ∀ (k a x2 : Nat) (x3 x4 x5 : Int32), a + k = N → (x1 = 0 → Q (nI (lp (fun a x => x + sumN (f2A A a) N) k a x2))) → (x1 = 1 → Q (lp (fun a x => lp (gC A a) N 0 x) k a x3)) → (x1 = 2 → Q (lp (fun a x => lp (aC A a) N 0 x) k a x4)) → (¬ x1 = 0 → ¬ x1 = 1 → ¬ x1 = 2 → Q ((nI K + 1) * ((lp (fun a x => lp (gC A a) N 0 x) k a x3 + lp (mC A) k a x5) + 1))) → pX10_table_L24 v x1 Q (k + 1) (nI x2) x3 x4 x5 (nI a) := by
  have hN := hI.hN
  have hm : v 1 13 = nI N := (h.gl (k := 13) (by decide)).trans hI.m
  have hk : v 1 14 = nI K := (h.gl (k := 14) (by decide)).trans hI.k
  intro k
  induction k with
  | zero =>
    intro a x2 x3 x4 x5 hi q0 q1 q2 q3
    refine hdE hm (by omega) ⟨fun c0 => ⟨fun c1 => ⟨fun c2 => ?_, fun c2 => q2 c2⟩, fun c1 => q1 c1⟩, fun c0 => q0 c0⟩
    rw [hk]
    exact q3 c0 c1 c2
  | succ k ih =>
    intro a x2 x3 x4 x5 hi q0 q1 q2 q3
    simp only [lp_succ] at q0 q1 q2 q3
    refine hdG hm (by omega) (by omega) (rd_at h 2 (by omega) (by decide) ⟨N + 1, m_tabI hI h tm (by omega) N 0 x2 x3 x4 (by omega) ?_⟩)
    rw [lp_sum0]
    exact ih (a + 1) _ _ _ _ (by omega) q0 q1 q2 q3

theorem sim_table : Sim_X9_table Inv := by
  intro v vNc vNcj vNcs vNcp vNcr vNw vNg vNn vNq vIc vIcj vIcs vIcp vIcr vIw vIg vIn vIq vT vTj vTs vTp vTr vx vt gt vM gM hInv x1
  obtain ⟨B, t, N, K, A, h⟩ := id hInv
  have hw := h.now
  have hN := hw.ci.hN
  have hK := hw.ci.hK
  have hM := hw.n13
  have hP := hw.n14
  unfold pX9_table
  have ci := hw.ci
  have jr := hw.co.jr
  have tb := hw.tb'
  have tm := h.tab
  have mod : ∀ k, k < 4 → x1 = nI k → ∀ Q : Int32 → Prop, (x1 = 0 → Q (nI (lp (fun a x => x + sumN (f2A A a) N) N 0 0))) → (x1 = 1 → Q (lp (fun a x => lp (gC A a) N 0 x) N 0 0)) → (x1 = 2 → Q (lp (fun a x => lp (aC A a) N 0 x) N 0 0)) → (¬ x1 = 0 → ¬ x1 = 1 → ¬ x1 = 2 → Q ((nI K + 1) * ((lp (fun a x => lp (gC A a) N 0 x) N 0 0 + lp (mC A) N 0 0) + 1))) → pX10_table vM x1 Q := by
    intro k hk e Q q0 q1 q2 q3
    unfold pX10_table
    refine inY ((up_iff (M := 3) (by decide) _).mpr ⟨k, by omega, e⟩) ?_
    first | refine ⟨fun c => absurd c (by decide), fun _ => ?_⟩ | refine ⟨fun _ => ?_, fun c => absurd c (by decide)⟩
    exact ⟨N + 1, m_tabO ci hw.ab tm N 0 0 0 0 0 (by omega) q0 q1 q2 q3⟩
  refine ⟨fun c0 => ?_, fun c0 => ⟨fun c1 => ?_, fun c1 => ⟨fun c2 => ?_, fun c2 => ⟨fun c3 => ?_, fun c3 => ?_⟩⟩⟩⟩
  · refine ⟨N + 1, c_mtgs ci jr tb N 0 0 (by omega) (mod 0 (by decide) c0 _ (fun _ => ⟨?_, hInv⟩) (fun e => absurd (c0.symm.trans e) (by decide)) (fun e => absurd (c0.symm.trans e) (by decide)) (fun e => absurd c0 e))⟩
    rw [lp_sum0, lp_sum0, Nat.zero_add, Nat.zero_add, tri2 (f2 := f2A A) (N := N) (fun a b ha hb => ?_) (fun a ha => ?_) (fun a b => rfl) N (Nat.le_refl _)]
    · have l1 : sumN (fun a => sumN (f2A A a) N) N ≤ 8 * N := sum_le (fun a => by
        have l2 : sumN (f2A A a) N ≤ 1 * N := sum_le (fun b => by
          unfold f2A fmA
          split
          · split <;> omega
          · omega) N
        omega) N
      have e := pk_div (a := 2 * sumN (fun a => sumN (f2A A a) N) N) (d := 2) (by omega) (by decide) (by decide)
      rw [Nat.mul_div_cancel_left _ (by decide)] at e
      exact e
    · unfold fmA
      by_cases c : narA A a b = -5
      · rw [if_pos c, if_pos (nar_sym ci ha hb c)]
      · rw [if_neg c, if_neg (fun e => c (nar_sym ci hb ha e))]
    · unfold fmA
      rw [if_pos (by rw [narA, measA, if_pos rfl])]
  · exact ⟨N + 1, c_gC2 ci jr tb tm N 0 0 (by omega) (mod 1 (by decide) c1 _ (fun e => absurd e c0) (fun _ => ⟨rfl, hInv⟩) (fun e => absurd (c1.symm.trans e) (by decide)) (fun _ e => absurd c1 e))⟩
  · exact ⟨N + 1, c_aC2 ci jr tb tm N 0 0 (by omega) (mod 2 (by decide) c2 _ (fun e => absurd e c0) (fun e => absurd e c1) (fun _ => ⟨rfl, hInv⟩) (fun _ _ e => absurd c2 e))⟩
  · refine ⟨N + 1, c_gC2 ci jr tb tm N 0 0 (by omega) ⟨N + 1, c_mC hN jr hw.co.sr N 0 0 (by omega) (mod 3 (by decide) c3 _ (fun e => absurd e c0) (fun e => absurd e c1) (fun e => absurd e c2) (fun _ _ _ => ⟨?_, hInv⟩))⟩⟩
    rw [hw.co.pr.n]
  · unfold pX10_table
    refine inN (fun e => ?_) ?_
    · obtain ⟨k, hk, e⟩ := (up_iff (M := 3) (by decide) _).mp e
      rcases (show k = 0 ∨ k = 1 ∨ k = 2 ∨ k = 3 by omega) with rfl | rfl | rfl | rfl
      · exact c0 e
      · exact c1 e
      · exact c2 e
      · exact c3 e
    · first | refine ⟨fun c => absurd c (by decide), fun _ => ?_⟩ | refine ⟨fun _ => ?_, fun c => absurd c (by decide)⟩
      exact ⟨rfl, hInv⟩

theorem mod_half {a b k : Nat} (hb : b < 2 ^ (k + 1)) (h : ¬ a % b = 0) (h0 : ¬ b = 0) : b % (a % b) < 2 ^ k := by
  have h1 : a % b < b := Nat.mod_lt _ (by omega)
  have h2 : b % (a % b) < a % b := Nat.mod_lt _ (by omega)
  have h3 := Nat.div_add_mod b (a % b)
  have h4 : 1 ≤ b / (a % b) := (Nat.le_div_iff_mul_le (by omega)).mpr (by omega)
  have h5 : a % b * 1 ≤ a % b * (b / (a % b)) := Nat.mul_le_mul_left _ h4
  have h6 : 2 ^ (k + 1) = 2 * 2 ^ k := by rw [Nat.pow_succ, Nat.mul_comm]
  omega
theorem gcd_s (a b : Nat) : Nat.gcd a b = Nat.gcd b (a % b) := by
  rw [Nat.gcd_comm a b, Nat.gcd_rec b a, Nat.gcd_comm]
theorem c_gcd {x0 x1 : Int32} {Q : Int32 → Prop} : ∀ (k a b i : Nat), a < 2 ^ 31 → b < 2 ^ 31 → b < 2 ^ k → i + 2 * k + 1 ≤ 64 → Q (nI (Nat.gcd a b)) → pX9_greatestDivisor_L7 x0 x1 Q (2 * k + 1) (nI a) (nI b) (nI i) := by
  intro k
  have z : ∀ n a i, i < 64 → Q (nI (Nat.gcd a 0)) → pX9_greatestDivisor_L7 x0 x1 Q (n + 1) (nI a) (nI 0) (nI i) := by
    intro n a i hi q
    rw [Nat.gcd_zero_right] at q
    refine hdG (N := 64) rfl hi (by omega) ⟨fun _ => q, fun c => absurd rfl c⟩
  induction k with
  | zero =>
    intro a b i ha hb hk hi q
    have e : b = 0 := by omega
    subst e
    exact z 0 a i (by omega) q
  | succ k ih =>
    intro a b i ha hb hk hi q
    by_cases c : b = 0
    · subst c
      exact z _ a i (by omega) q
    · have nb : ¬ nI b = 0 := fun e => c (nI_inj (b := 0) hb (by decide) e)
      refine hdG (N := 64) rfl (by omega) (by omega) ⟨fun e => absurd e nb, fun _ => ⟨nb, ?_⟩⟩
      rw [nI_mod ha (by omega) hb, nI_s]
      rw [gcd_s] at q
      have l1 : a % b < b := Nat.mod_lt _ (by omega)
      by_cases c2 : a % b = 0
      · rw [c2] at q ⊢
        exact z _ b (i + 1) (by omega) q
      · have nb2 : ¬ nI (a % b) = 0 := fun e => c2 (nI_inj (b := 0) (by omega) (by decide) e)
        refine hdG (N := 64) rfl (by omega) (by omega) ⟨fun e => absurd e nb2, fun _ => ⟨nb2, ?_⟩⟩
        rw [nI_mod hb (by omega) (by omega), nI_s]
        rw [gcd_s] at q
        have l2 : b % (a % b) < a % b := Nat.mod_lt _ (by omega)
        exact ih (a % b) (b % (a % b)) (i + 1 + 1) (by omega) (by omega) (mod_half hk c2 c) (by omega) q
theorem m_gcd {Q : Int32 → Prop} : ∀ (k a b f : Nat), a < 2 ^ 31 → b < 2 ^ 31 → b < 2 ^ k → Q (nI (Nat.gcd a b)) → qX10_common Q (2 * k + 1 + f) (nI a) (nI b) := by
  intro k
  have z : ∀ n a, Q (nI (Nat.gcd a 0)) → qX10_common Q (n + 1) (nI a) (nI 0) := by
    intro n a q
    rw [Nat.gcd_zero_right] at q
    exact ⟨fun c => absurd rfl c, fun _ => q⟩
  induction k with
  | zero =>
    intro a b f ha hb hk q
    have e : b = 0 := by omega
    subst e
    rw [show 2 * 0 + 1 + f = f + 1 by omega]
    exact z f a q
  | succ k ih =>
    intro a b f ha hb hk q
    rw [show 2 * (k + 1) + 1 + f = (2 * k + 1 + f) + 1 + 1 by omega]
    by_cases c : b = 0
    · subst c
      exact z _ a q
    · have nb : ¬ nI b = 0 := fun e => c (nI_inj (b := 0) hb (by decide) e)
      refine ⟨fun _ => ⟨nb, ?_⟩, fun e => absurd e nb⟩
      rw [nI_mod ha (by omega) hb]
      rw [gcd_s] at q
      have l1 : a % b < b := Nat.mod_lt _ (by omega)
      by_cases c2 : a % b = 0
      · rw [c2] at q ⊢
        exact z _ b q
      · have nb2 : ¬ nI (a % b) = 0 := fun e => c2 (nI_inj (b := 0) (by omega) (by decide) e)
        refine ⟨fun _ => ⟨nb2, ?_⟩, fun e => absurd e nb2⟩
        rw [nI_mod hb (by omega) (by omega)]
        rw [gcd_s] at q
        have l2 : b % (a % b) < a % b := Nat.mod_lt _ (by omega)
        exact ih (a % b) (b % (a % b)) f (by omega) (by omega) (mod_half hk c2 c) q
def prtA (a b : Nat) (x : Int32) : Int64 := if x = 0 then (nI a / nI (Nat.gcd a b)).toInt64 else (nI b / nI (Nat.gcd a b)).toInt64
theorem gcd_ok {a b : Nat} (hb : 0 < b) (hb2 : b < 2 ^ 24) : ¬ nI (Nat.gcd a b) = 0 := fun e => by
  have h1 : Nat.gcd a b ≤ b := Nat.gcd_le_right a hb
  have h2 : 0 < Nat.gcd a b := Nat.gcd_pos_of_pos_right a hb
  have := nI_inj (b := 0) (by omega) (by decide) e
  omega
theorem c_part {a b : Nat} (ha : a < 2 ^ 24) (hb : 0 < b) (hb2 : b < 2 ^ 24) {x : Int32} {Q : Int64 → Prop} (q : Q (prtA a b x)) : pX9_partOfFraction (nI a) (nI b) x Q := by
  have g := gcd_ok (a := a) hb hb2
  unfold prtA at q
  refine ⟨2 * 24 + 1, c_gcd 24 a b 0 (by omega) (by omega) hb2 (by omega) ⟨fun _ => ⟨fun c => ⟨g, ?_⟩, fun c => ⟨g, ?_⟩⟩, fun c => absurd c g⟩⟩
  · rw [if_neg c] at q; exact q
  · rw [if_pos c] at q; exact q
theorem m_part {a b : Nat} (ha : a < 2 ^ 24) (hb : 0 < b) (hb2 : b < 2 ^ 24) {x : Int32} {Q : Int64 → Prop} (q : Q (prtA a b x)) : pX10_part (nI a) (nI b) x Q := by
  have g := gcd_ok (a := a) hb hb2
  unfold prtA at q
  have J : ∀ t0, Q ((t0 / nI (Nat.gcd a b)).toInt64) → pX10_part_J9 (nI a) (nI b) x Q t0 := by
    intro t0 q
    exact m_gcd (Q := fun r2 => (¬ r2 = 0 ∧ (Q (((t0 / r2)).toInt64)))) 24 a b 11 (by omega) (by omega) hb2 ⟨g, q⟩
  refine ⟨fun c => J _ ?_, fun c => J _ ?_⟩
  · rw [if_neg c] at q; exact q
  · rw [if_pos c] at q; exact q
noncomputable def chS' (C : Nat → Int32) (N K : Nat) (sd : Int32) (n : Nat) (k : Int32) (A : AS) (j : Nat) (g : Nat) : Nat := if k < dayA C N K (sd + nI j) n A then g else g + 1
theorem ch_le (C : Nat → Int32) (N K : Nat) (sd : Int32) (n : Nat) (kk : Int32) (A : AS) : ∀ (k i g : Nat), lp (chS' C N K sd n kk A) k i g ≤ g + k := by
  intro k
  induction k with
  | zero => intro i g; exact Nat.le_refl _
  | succ k ih =>
    intro i g
    rw [lp_succ]
    have := ih (i + 1) (chS' C N K sd n kk A i g)
    have h2 : chS' C N K sd n kk A i g ≤ g + 1 := by
      unfold chS'
      split <;> omega
    omega
theorem c_chL {t N K n m : Nat} {c j s p r v : Lf} {A : AS} {C D : Nat → Int32} (ht : t + n < 2 ^ 30) (co : CoR N K c j s p r A) (hI : CoI t N K A) (tb : TbR N j A) (tm : MtR N A C D) (hs : A 0 0 2 = 1) (hm : 1 ≤ m) (hm4 : m ≤ 4) {x1 x4 x5 : Int32} {Q : Int64 → Lf → Lf → Lf → Lf → Lf → Lf → Prop} : ∀ (k i g : Nat) (v1 v2 v3 v4 v5 : Lf), i + k = m → g ≤ i → v5 0 1 = 24 → (∀ c' j' s' p' r', r' 0 1 = 24 → Q (prtA (lp (chS' C N K x1 n x4 A) k i g) m x5) v c' j' s' p' r') → pX9_chance_L56 c j s p r x1 (nI n) (nI m) x4 x5 Q (k + 1) v v1 v2 v3 v4 v5 (nI g) (nI i) := by
  intro k
  induction k with
  | zero =>
    intro i g v1 v2 v3 v4 v5 hi hg hr q
    refine hdE rfl (by omega) (c_part (by omega) (by omega) (by omega) (q _ _ _ _ _ hr))
  | succ k ih =>
    intro i g v1 v2 v3 v4 v5 hi hg hr q
    rw [lp_succ] at q
    unfold chS' at q
    refine hdG rfl (by omega) (by omega) (c_day ht co hI tb tm hs hr (fun c' j' s' p' r' hr' => ⟨fun c2 => ?_, fun c2 => ?_⟩))
    · unfold pX9_chance_J79
      rw [if_pos c2] at q
      rw [nI_s]
      exact ih (i + 1) g _ _ _ _ _ (by omega) (by omega) hr' q
    · unfold pX9_chance_J79
      rw [if_neg c2] at q
      rw [nI_s, nI_s]
      exact ih (i + 1) (g + 1) _ _ _ _ _ (by omega) (by omega) hr' q
theorem Bk.refl (v : Lf) : Bk v v := ⟨fun _ _ _ => rfl, fun _ _ => rfl⟩
theorem Bk.trans {v M M2 : Lf} (h : Bk v M) (h2 : Bk M M2) : Bk v M2 := ⟨fun c a b => (h2.o c a b).trans (h.o c a b), fun x hx => (h2.e x hx).trans (h.e x hx)⟩
theorem m_chL {v : Lf} {t N K n m : Nat} {A : AS} (ht : t + n < 2 ^ 30) (hI : CoI t N K A) (hs : A 0 0 2 = 1) (h : Ab (v 1) A) (hm : 1 ≤ m) (hm4 : m ≤ 4) {x1 x4 x5 : Int32} {Q : Int64 → Lf → Prop} : ∀ (k i g : Nat) (M : Lf), i + k = m → g ≤ i → Bk v M → (∀ M', Bk v M' → Q (prtA (lp (chS' (v 4) N K x1 n x4 A) k i g) m x5) M') → pX10_chance_L70 x1 (nI n) (nI m) x4 x5 Q (k + 1) M (nI g) (nI i) := by
  intro k
  induction k with
  | zero =>
    intro i g M hi hg bk q
    refine hdE rfl (by omega) (m_part (by omega) (by omega) (by omega) (q _ bk))
  | succ k ih =>
    intro i g M hi hg bk q
    rw [lp_succ] at q
    unfold chS' at q
    refine hdG rfl (by omega) (by omega) (m_day ht hI hs (h.agree bk.e) (fun M2 bk2 => ?_))
    rw [bk.o 4 (by decide) (by decide)]
    refine ⟨fun c2 => ?_, fun c2 => ?_⟩
    · unfold pX10_chance_J97
      rw [if_pos c2] at q
      rw [nI_s, Int32.add_zero]
      exact ih (i + 1) g _ (by omega) (by omega) (bk.trans bk2) q
    · unfold pX10_chance_J97
      rw [if_neg c2] at q
      rw [nI_s, nI_s]
      exact ih (i + 1) (g + 1) _ (by omega) (by omega) (bk.trans bk2) q

theorem sim_chance : Sim_X9_chance Inv := by
  intro v vNc vNcj vNcs vNcp vNcr vNw vNg vNn vNq vIc vIcj vIcs vIcp vIcr vIw vIg vIn vIq vT vTj vTs vTp vTr vx vt gt vM gM hInv x1 x2 x3 x4 x5
  obtain ⟨B, t, N, K, A, h⟩ := id hInv
  have hw := h.now
  have hN := hw.ci.hN
  have hK := hw.ci.hK
  have hM := hw.n13
  have hP := hw.n14
  unfold pX9_chance
  have m0 : vM 1 2 = A 0 0 2 := hw.ab.gl (k := 2) (by decide)
  have ii := bd_iff (l := 1) (h := 4) (by decide) (by decide) x3
  have nn := up_iff (M := 99) (by decide) x2
  have no : ∀ Q : Int64 → Lf → Prop, (¬ (0 ≤ x2 ∧ x2 ≤ 99) ∨ ¬ ((1 : Int32) ≤ x3 ∧ x3 ≤ 4) ∨ ¬ (0 ≤ x4 ∧ x4 ≤ 99999) ∨ ¬ (0 ≤ x5 ∧ x5 ≤ 1) ∨ A 0 0 2 = 0) → Q (-9223372036854775808 : Int64) vM → pX10_chance vM x1 x2 x3 x4 x5 Q := by
    intro Q c q
    unfold pX10_chance
    rw [m0]
    by_cases a1 : 0 ≤ x2 ∧ x2 ≤ 99
    · refine inY a1 ?_
      first | refine ⟨fun c => absurd c (by decide), fun _ => ?_⟩ | refine ⟨fun _ => ?_, fun c => absurd c (by decide)⟩
      by_cases a2 : (1 : Int32) ≤ x3 ∧ x3 ≤ 4
      · refine inY a2 ?_
        first | refine ⟨fun c => absurd c (by decide), fun _ => ?_⟩ | refine ⟨fun _ => ?_, fun c => absurd c (by decide)⟩
        by_cases a3 : 0 ≤ x4 ∧ x4 ≤ 99999
        · refine inY a3 ?_
          first | refine ⟨fun c => absurd c (by decide), fun _ => ?_⟩ | refine ⟨fun _ => ?_, fun c => absurd c (by decide)⟩
          by_cases a4 : 0 ≤ x5 ∧ x5 ≤ 1
          · refine inY a4 ?_
            first | refine ⟨fun c => absurd c (by decide), fun _ => ?_⟩ | refine ⟨fun _ => ?_, fun c => absurd c (by decide)⟩
            have e : A 0 0 2 = 0 := c.elim (fun y => absurd a1 y) (fun c => c.elim (fun y => absurd a2 y) (fun c => c.elim (fun y => absurd a3 y) (fun c => c.elim (fun y => absurd a4 y) id)))
            exact ⟨fun _ => q, fun d => absurd e d⟩
          · refine inN a4 ?_
            first | refine ⟨fun c => absurd c (by decide), fun _ => ?_⟩ | refine ⟨fun _ => ?_, fun c => absurd c (by decide)⟩
            exact q
        · refine inN a3 ?_
          first | refine ⟨fun c => absurd c (by decide), fun _ => ?_⟩ | refine ⟨fun _ => ?_, fun c => absurd c (by decide)⟩
          exact q
      · refine inN a2 ?_
        first | refine ⟨fun c => absurd c (by decide), fun _ => ?_⟩ | refine ⟨fun _ => ?_, fun c => absurd c (by decide)⟩
        exact q
    · refine inN a1 ?_
      first | refine ⟨fun c => absurd c (by decide), fun _ => ?_⟩ | refine ⟨fun _ => ?_, fun c => absurd c (by decide)⟩
      exact q
  refine w_in (fun c1 c2 => ?_) (fun c => ?_)
  · first | refine ⟨fun c => absurd c (by decide), fun _ => ?_⟩ | refine ⟨fun _ => ?_, fun c => absurd c (by decide)⟩
    obtain ⟨m, hm1, hm4, em⟩ := ii.mp ⟨c1, c2⟩
    refine w_in (fun d1 d2 => ?_) (fun d => ?_)
    · first | refine ⟨fun c => absurd c (by decide), fun _ => ?_⟩ | refine ⟨fun _ => ?_, fun c => absurd c (by decide)⟩
      refine w_in (fun f1 f2 => ?_) (fun f => ?_)
      · first | refine ⟨fun c => absurd c (by decide), fun _ => ?_⟩ | refine ⟨fun _ => ?_, fun c => absurd c (by decide)⟩
        rw [em]
        refine c_refusal (M := 99) (T := m) h.cnt h.hB (by decide) (by omega) hw.co.cf (fun e => ?_) (fun n hn e s => ?_) (fun n hn e s l => ?_) (fun n hn e s l => ?_)
        · first | refine ⟨fun c => absurd c (by decide), fun _ => ?_⟩ | refine ⟨fun _ => ?_, fun c => absurd c (by decide)⟩
          rw [← em]
          exact no _ (.inl (fun y => e (nn.mp y))) ⟨rfl, hInv⟩
        · first | refine ⟨fun c => absurd c (by decide), fun _ => ?_⟩ | refine ⟨fun _ => ?_, fun c => absurd c (by decide)⟩
          rw [← em]
          exact no _ (.inr (.inr (.inr (.inr s)))) ⟨rfl, hInv⟩
        · first | refine ⟨fun c => absurd c (by decide), fun _ => ?_⟩ | refine ⟨fun _ => ?_, fun c => absurd c (by decide)⟩
          unfold pX10_chance
          refine inY (nn.mpr ⟨n, hn, e⟩) ?_
          first | refine ⟨fun c => absurd c (by decide), fun _ => ?_⟩ | refine ⟨fun _ => ?_, fun c => absurd c (by decide)⟩
          refine inY (by rw [← em]; exact ⟨c1, c2⟩) ?_
          first | refine ⟨fun c => absurd c (by decide), fun _ => ?_⟩ | refine ⟨fun _ => ?_, fun c => absurd c (by decide)⟩
          refine inY ⟨d1, d2⟩ ?_
          first | refine ⟨fun c => absurd c (by decide), fun _ => ?_⟩ | refine ⟨fun _ => ?_, fun c => absurd c (by decide)⟩
          refine inY ⟨f1, f2⟩ ?_
          first | refine ⟨fun c => absurd c (by decide), fun _ => ?_⟩ | refine ⟨fun _ => ?_, fun c => absurd c (by decide)⟩
          rw [m0]
          refine ⟨fun c => absurd c s, fun _ => ?_⟩
          subst e
          rw [show nI m * nI n = nI (n * m) from by rw [pk_mul, Nat.mul_comm]]
          have hl : n * m ≤ 99 * 4 := Nat.mul_le_mul hn hm4
          refine m_counts h.cntM h.hB (by omega) (fun l2 => absurd l2 l) (fun _ => ?_)
          first | refine ⟨fun c => absurd c (by decide), fun _ => ?_⟩ | refine ⟨fun _ => ?_, fun c => absurd c (by decide)⟩
          exact ⟨rfl, hInv⟩
        · first | refine ⟨fun c => absurd c (by decide), fun _ => ?_⟩ | refine ⟨fun _ => ?_, fun c => absurd c (by decide)⟩
          subst e
          have hs : A 0 0 2 = 1 := hw.ci.st.elim (fun q => absurd q s) (fun q => q.1)
          have hl : n * m ≤ 99 * 4 := Nat.mul_le_mul hn hm4
          have h2 := h.count (B2 := B + n * m) (by omega) l
          have w2 := h2.now
          have tb := hw.tb
          have ht : t + n < 2 ^ 30 := by omega
          refine ⟨m + 1, c_chL ht hw.co hw.ci hw.tb' h.tab hs hm1 hm4 m 0 0 _ _ _ _ _ (by omega) (by omega) h.most.1 (fun c' j' s' p' r' hr' => ?_)⟩
          unfold pX10_chance
          refine inY (nn.mpr ⟨n, hn, rfl⟩) ?_
          first | refine ⟨fun c => absurd c (by decide), fun _ => ?_⟩ | refine ⟨fun _ => ?_, fun c => absurd c (by decide)⟩
          refine inY (by rw [← em]; exact ⟨c1, c2⟩) ?_
          first | refine ⟨fun c => absurd c (by decide), fun _ => ?_⟩ | refine ⟨fun _ => ?_, fun c => absurd c (by decide)⟩
          refine inY ⟨d1, d2⟩ ?_
          first | refine ⟨fun c => absurd c (by decide), fun _ => ?_⟩ | refine ⟨fun _ => ?_, fun c => absurd c (by decide)⟩
          refine inY ⟨f1, f2⟩ ?_
          first | refine ⟨fun c => absurd c (by decide), fun _ => ?_⟩ | refine ⟨fun _ => ?_, fun c => absurd c (by decide)⟩
          rw [m0]
          refine ⟨fun c => absurd c s, fun _ => ?_⟩
          rw [show nI m * nI n = nI (n * m) from by rw [pk_mul, Nat.mul_comm]]
          refine m_counts h.cntM h.hB (by omega) (fun l2 => ?_) (fun c => absurd l c)
          first | refine ⟨fun c => absurd c (by decide), fun _ => ?_⟩ | refine ⟨fun _ => ?_, fun c => absurd c (by decide)⟩
          have e4 : st vM 0 4 (nI (B + n * m)) 4 = vM 4 := st_oth vM 4 _ (by decide)
          refine ⟨m + 1, m_chL ht hw.ci hs w2.ab hm1 hm4 m 0 0 _ (by omega) (by omega) (Bk.refl _) (fun M' bk' => ?_)⟩
          rw [e4]
          exact ⟨rfl, h2.back bk'.o bk'.e hr'⟩
      · first | refine ⟨fun c => absurd c (by decide), fun _ => ?_⟩ | refine ⟨fun _ => ?_, fun c => absurd c (by decide)⟩
        exact no _ (.inr (.inr (.inr (.inl f)))) ⟨rfl, hInv⟩
    · first | refine ⟨fun c => absurd c (by decide), fun _ => ?_⟩ | refine ⟨fun _ => ?_, fun c => absurd c (by decide)⟩
      exact no _ (.inr (.inr (.inl d))) ⟨rfl, hInv⟩
  · first | refine ⟨fun c => absurd c (by decide), fun _ => ?_⟩ | refine ⟨fun _ => ?_, fun c => absurd c (by decide)⟩
    exact no _ (.inr (.inl c)) ⟨rfl, hInv⟩
theorem sim_mean : Sim_X9_mean Inv := by
  intro v vNc vNcj vNcs vNcp vNcr vNw vNg vNn vNq vIc vIcj vIcs vIcp vIcr vIw vIg vIn vIq vT vTj vTs vTp vTr vx vt gt vM gM hInv x1
  obtain ⟨B, t, N, K, A, h⟩ := id hInv
  have hw := h.now
  have hN := hw.ci.hN
  have hK := hw.ci.hK
  have hM := hw.n13
  have hP := hw.n14
  unfold pX9_mean
  have tb := hw.tb
  have hB := h.hB
  obtain ⟨a, ha, ea⟩ := hw.bd.wt
  obtain ⟨b, hb, eb⟩ := hw.bd.sv
  have m7 : vM 1 7 = nI a := (hw.ab.gl (k := 7) (by decide)).trans ea
  have m8 : vM 1 8 = nI b := (hw.ab.gl (k := 8) (by decide)).trans eb
  rw [hw.co.cf.wt, hw.co.cf.sv, ea, eb]
  refine w_in (fun c1 c2 => ?_) (fun c => ?_)
  · first | refine ⟨fun c => absurd c (by decide), fun _ => ?_⟩ | refine ⟨fun _ => ?_, fun c => absurd c (by decide)⟩
    have z : nI b = 0 ↔ b = 0 := nI_eq (b := 0) (by omega) (by decide)
    refine ⟨fun s => c_part (by omega) (Nat.pos_of_ne_zero (fun e => s (z.mpr e))) (by omega) ?_, fun s => ?_⟩
    · have pos : 0 < b := Nat.pos_of_ne_zero (fun e => s (z.mpr e))
      unfold pX10_mean
      refine inY ⟨c1, c2⟩ ?_
      first | refine ⟨fun c => absurd c (by decide), fun _ => ?_⟩ | refine ⟨fun _ => ?_, fun c => absurd c (by decide)⟩
      rw [m7, m8]
      refine ⟨fun e => absurd ((nle (b := 0) (by omega) (by decide)).mp e) (by omega), fun _ => m_part (by omega) pos (by omega) ⟨rfl, hInv⟩⟩
    · have e0 : b = 0 := z.mp s
      unfold pX10_mean
      refine inY ⟨c1, c2⟩ ?_
      first | refine ⟨fun c => absurd c (by decide), fun _ => ?_⟩ | refine ⟨fun _ => ?_, fun c => absurd c (by decide)⟩
      rw [m8, e0]
      exact ⟨fun _ => ⟨rfl, hInv⟩, fun e => absurd ((nle (a := 0) (b := 0) (by decide) (by decide)).mpr (Nat.le_refl 0)) e⟩
  · first | refine ⟨fun c => absurd c (by decide), fun _ => ?_⟩ | refine ⟨fun _ => ?_, fun c => absurd c (by decide)⟩
    unfold pX10_mean
    refine inN c ?_
    first | refine ⟨fun c => absurd c (by decide), fun _ => ?_⟩ | refine ⟨fun _ => ?_, fun c => absurd c (by decide)⟩
    exact ⟨rfl, hInv⟩

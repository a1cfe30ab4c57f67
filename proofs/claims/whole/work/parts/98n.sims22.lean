def gapA (N : Nat) (g : Int32) (A : AS) : AS := fun x i k => if x = 1 ∧ i < N ∧ k = 3 then g else A x i k
theorem gapA_at (N : Nat) (g : Int32) (A : AS) (x i k : Nat) : gapA N g A x i k = if x = 1 ∧ i < N ∧ k = 3 then g else A x i k := rfl
theorem gapA_s (i : Nat) (g : Int32) (A : AS) : U (gapA i g A) 1 i 3 g = gapA (i + 1) g A := by
  funext x j k
  simp only [U_at, gapA_at]
  by_cases c : x = 1 ∧ j = i ∧ k = 3
  · rw [if_pos c, if_pos (by omega)]
  · rw [if_neg c]
    by_cases c2 : x = 1 ∧ j < i ∧ k = 3
    · rw [if_pos c2, if_pos (by omega)]
    · rw [if_neg c2, if_neg (by omega)]
theorem gapA_0 (g : Int32) (A : AS) : gapA 0 g A = A := by
  funext x j k
  rw [gapA_at, if_neg (by omega)]
theorem gapA_o {x : Nat} (h : x ≠ 1) (N : Nat) (g : Int32) (A : AS) : gapA N g A x = A x := by
  funext i k
  rw [gapA_at, if_neg (by omega)]
theorem gapA_w {w : Nat} (h : w ≠ 3) (N : Nat) (g : Int32) (A : AS) (a : Nat) : gapA N g A 1 a w = A 1 a w := by
  rw [gapA_at, if_neg (by omega)]
theorem m_gaps {v : Lf} {N : Nat} (hN : N ≤ 8) {g : Int32} {A : AS} (hm : A 0 0 13 = nI N) {S : Nat → Int32} (h : Ab S A) {Q : Lf → Prop} (q : ∀ S', Ab S' (gapA N g A) → Q (sa v 1 S')) : pX10_gaps (sa v 1 S) g Q := by
  have hm' : ∀ i, gapA i g A 0 0 13 = nI N := fun i => by rw [gapA_o (by decide)]; exact hm
  have L : ∀ (k i : Nat) (S : Nat → Int32), i + k = N → Ab S (gapA i g A) → pX10_gaps_L2 g Q (k + 1) (sa v 1 S) (nI i) := by
    intro k
    induction k with
    | zero =>
      intro i S hi h
      have e : i = N := by omega
      subst e
      exact hdE (h.gv (by decide) (hm' i)) rfl (q S h)
    | succ k ih =>
      intro i S hi h
      refine hdG (h.gv (by decide) (hm' i)) (by omega) (by omega) (m_puts h 3 (by omega) (by decide) (fun S' h' => ?_))
      rw [nI_s]
      rw [gapA_s] at h'
      exact ih (i + 1) S' (by omega) h'
  exact ⟨N + 1, L N 0 S (by omega) (by rw [gapA_0]; exact h)⟩
theorem c_setGaps {N : Nat} {s : Lf} {A : AS} (hN : N ≤ 8) (h : SR N s A) (g : Int32) {Q : Lf → Prop} (q : ∀ s', SR N s' (gapA N g A) → Q s') : pX5_setGaps s g Q := by
  have L : ∀ (k i : Nat) (s' : Lf), i + k = 8 → (∀ c x, ¬ (c = 1 ∧ x % 4 = 2) → s' c x = s c x) → (∀ a, a < i → s' 1 (a * 4 + 2) = g) → pX5_setGaps_L2 g Q (k + 1) s' (nI i) := by
    intro k
    induction k with
    | zero =>
      intro i s' hi f1 f2
      refine hdE (N := 8) rfl (by omega) (q s' ?_)
      have o : ∀ c x, c ≠ 1 → s' c x = s c x := fun c x hc => f1 c x (fun e => hc e.1)
      refine ⟨fun a ha kk hk => ?_, fun a ha => ?_, fun a ha => ?_, fun a ha => ?_, fun a ha => ?_, fun a ha => ?_, fun a ha => ?_, fun a ha => ?_, fun a ha ha2 => ?_, fun a ha ha2 => ?_⟩
      · by_cases c : kk = 2
        · subst c
          rw [f2 a (by omega), gapA_at, if_pos (by omega)]
        · rw [f1 1 _ (by omega), gapA_w (by omega)]
          exact h.ru a ha kk hk
      · rw [o _ _ (by decide), gapA_w (by decide)]; exact h.q a ha
      · rw [o _ _ (by decide), gapA_w (by decide)]; exact h.g a ha
      · rw [o _ _ (by decide), gapA_w (by decide)]; exact h.be a ha
      · rw [o _ _ (by decide), gapA_w (by decide)]; exact h.en a ha
      · rw [o _ _ (by decide), gapA_w (by decide)]; exact h.se a ha
      · rw [o _ _ (by decide), gapA_w (by decide)]; exact h.go a ha
      · rw [o _ _ (by decide), gapA_w (by decide)]; exact h.ti a ha
      · rw [o _ _ (by decide)]; exact h.q0 a ha ha2
      · rw [o _ _ (by decide)]; exact h.g0 a ha ha2
    | succ k ih =>
      intro i s' hi f1 f2
      have e : nI i * (4 : Int32) + (2 : Int32) = nI (i * 4 + 2) := by
        show nI i * nI 4 + nI 2 = _
        rw [pk_mul, nI_add]
      refine hdG (N := 8) rfl (by omega) (by omega) ?_
      rw [e, nI_clamp (by omega), nI_s]
      refine ⟨vp_in_nI (by omega) (by decide), ih (i + 1) _ (by omega) (fun c x hx => ?_) (fun a ha => ?_)⟩
      · rw [st_at, if_neg (by omega)]; exact f1 c x hx
      · by_cases c : a = i
        · rw [st_at, if_pos (by omega)]
        · rw [st_at, if_neg (by omega)]; exact f2 a (by omega)
  exact ⟨9, L 8 0 s (by omega) (fun _ _ _ => rfl) (fun a ha => by omega)⟩
theorem SgI.gp {t : Nat} {f g : Nat → Int32} (h : SgI t f) (e : ∀ w, w ≠ 3 → g w = f w) : SgI t g :=
  ⟨by rw [e 0 (by decide)]; exact h.kind, by rw [e 5 (by decide)]; exact h.queue, by rw [e 6 (by decide), e 7 (by decide)]; exact h.gr, by rw [e 7 (by decide)]; exact h.beg, by rw [e 8 (by decide)]; exact h.en, by rw [e 9 (by decide)]; exact h.seen, by rw [e 11 (by decide)]; exact h.len, fun i hi => by rw [e _ (by omega)]; exact h.cells i hi⟩
theorem CoI.gap {t N K : Nat} {A : AS} (h : CoI t N K A) (M : Nat) (g : Int32) : CoI t N K (gapA M g A) := by
  refine h.upd (fun x _ _ _ _ => by rw [gapA_o (by decide)]) (fun q => by rw [gapA_o (by decide)]) (gapA_o (by decide) M g A) (fun a ha => (h.sg a ha).gp (fun w hw => gapA_w hw M g A a)) (fun a ha c => .inl ?_)
  rw [gapA_w (by decide)] at c
  exact c
theorem CoR.gap {N K : Nat} {c j s p r s' : Lf} {A : AS} {g : Int32} (h : CoR N K c j s p r A) (sr : SR N s' (gapA N g A)) : CoR N K c j s' p r (gapA N g A) :=
  h.step (h.cf.fr (fun x => by rw [gapA_o (by decide)])) sr (by rw [gapA_o (by decide)]) (by rw [gapA_o (by decide)]) (fun a w hw => gapA_w (by omega) N g A a) (gapA_o (by decide) N g A) (gapA_o (by decide) N g A)
noncomputable def gapW (C : Nat → Int32) (N K n : Nat) (A : AS) (g : Nat) : Int32 := lp (fun _ => secA C N K) n 0 (gapA N (nI g) A) 0 0 7
theorem c_gapW {t N K n g : Nat} {c j s p r v1 v2 v3 v4 v5 : Lf} {A : AS} {C D : Nat → Int32} (ht : t + n < 2 ^ 30) (co : CoR N K c j s p r A) (hI : CoI t N K A) (tb : TbR N j A) (tm : MtR N A C D) (hs : A 0 0 2 = 1) (hr : v5 0 1 = 24) {Q : Int32 → Lf → Lf → Lf → Lf → Lf → Prop} (q : ∀ c' j' s' p' r', r' 0 1 = 24 → Q (gapW C N K n A g) c' j' s' p' r') : pX9_waitedWithGap c j s p r v1 v2 v3 v4 v5 (nI g) (nI n) Q := by
  unfold pX9_waitedWithGap
  refine c_copyC co hI tb hr (fun c' j' s' p' r' co' tb' _ => c_setGaps hI.hN co'.sr (nI g) (fun s2 h2 => ?_))
  have cr := ClR.of hI co'.jr tb' tm
  refine c_passes (C := C) cr ht (co'.gap h2) (hI.gap N (nI g)) (by rw [gapA_o (by decide)]; exact hs) (fun c3 s3 p3 r3 h3 => ?_)
  rw [h3.cf.wt]
  exact q _ _ _ _ _ h3.rr.most
abbrev Bk3 (v M : Lf) : Prop := (∀ c, c ≠ 1 → c ≠ 3 → M c = v c) ∧ (∀ x, x < 372 → M 1 x = v 1 x) ∧ (∀ x, x < 372 → M 3 x = v 1 x)
theorem Bk3.o {v M : Lf} (h : Bk3 v M) : ∀ c, c ≠ 1 → c ≠ 3 → M c = v c := h.1
theorem Bk3.e {v M : Lf} (h : Bk3 v M) : ∀ x, x < 372 → M 1 x = v 1 x := h.2.1
theorem Bk3.m {v M : Lf} (h : Bk3 v M) : ∀ x, x < 372 → M 3 x = v 1 x := h.2.2
theorem m_think3 {v : Lf} {Q : Lf → Prop} (q : ∀ M, Bk3 v M → Q M) : pX10_thinks v Q :=
  m_thinks (fun g hg => q _ ⟨fun c h1 h3 => sa_ne _ _ h3, fun x hx => by rw [sa_ne _ _ (by decide)], fun x hx => by rw [sa_self]; exact hg x hx⟩)
theorem m_forget3 {v M M2 : Lf} {Q : Lf → Prop} (bk : Bk3 v M) (o : ∀ c, c ≠ 1 → M2 c = M c) (q : ∀ M', Bk3 v M' → Q M') : pX10_forgets M2 Q :=
  m_forgets (fun g2 hg2 => q _ ⟨fun c h1 h3 => by rw [sa_ne _ _ h1, o c h1]; exact bk.o c h1 h3, fun x hx => by rw [sa_self, hg2 x hx, o 3 (by decide)]; exact bk.m x hx, fun x hx => by rw [sa_ne _ _ (by decide), o 3 (by decide)]; exact bk.m x hx⟩)
theorem Bk3.ab {v M : Lf} {A : AS} (bk : Bk3 v M) (h : Ab (v 1) A) : Ab (M 1) A := h.agree bk.e
theorem m_gapW {v M : Lf} {t N K n g : Nat} {A : AS} (ht : t + n < 2 ^ 30) (hI : CoI t N K A) (hs : A 0 0 2 = 1) (h : Ab (M 1) A) (e4 : M 4 = v 4) {Q : Lf → Prop} (q : ∀ M2, M2 1 7 = gapW (v 4) N K n A g → (∀ c, c ≠ 1 → M2 c = M c) → Q M2) : pX10_gaps M (nI g) (fun v12 => pX10_passes v12 (nI n) Q) := by
  refine un (P := fun z => pX10_gaps z (nI g) (fun v12 => pX10_passes v12 (nI n) Q)) (m_gaps hI.hN hI.m h (fun S1 h1 => m_passes' ht (hI.gap N (nI g)) (by rw [gapA_o (by decide)]; exact hs) h1 (fun S2 h2 => q _ ?_ (fun c hc => sa_ne _ _ hc))))
  rw [sa_self, h2.gl (k := 7) (by decide), e4]
  rfl
def bS (W : Nat → Int32) (g : Nat) (x : Int32 × Int32) : Int32 × Int32 := if x.2 ≤ W g then x else (nI g, W g)
theorem c_bestL {t N K n : Nat} {c j s p r v : Lf} {A : AS} {C D : Nat → Int32} (ht : t + n < 2 ^ 30) (co : CoR N K c j s p r A) (hI : CoI t N K A) (tb : TbR N j A) (tm : MtR N A C D) (hs : A 0 0 2 = 1) {x2 : Int32} {Q : Int32 → Lf → Lf → Lf → Lf → Lf → Lf → Prop} : ∀ (k i : Nat) (x : Int32 × Int32) (v1 v2 v3 v4 v5 : Lf), i + k = 10 → v5 0 1 = 24 → (∀ c' j' s' p' r', r' 0 1 = 24 → Q (if x2 = 0 then (lp (bS (gapW C N K n A)) k i x).1 else (lp (bS (gapW C N K n A)) k i x).2) v c' j' s' p' r') → pX9_best_L41 c j s p r (nI n) x2 Q (k + 1) v v1 v2 v3 v4 v5 x.1 x.2 (nI i) := by
  intro k
  induction k with
  | zero =>
    intro i x v1 v2 v3 v4 v5 hi hr q
    have q := q v1 v2 v3 v4 v5 hr
    refine ⟨fun _ => ⟨fun c2 => ?_, fun c2 => ?_⟩, fun c2 => absurd ((nlt (a := 9) (b := i) (by decide) (by omega)).mpr (by omega)) c2⟩
    · rw [if_neg c2] at q; exact q
    · rw [if_pos c2] at q; exact q
  | succ k ih =>
    intro i x v1 v2 v3 v4 v5 hi hr q
    refine ⟨fun c2 => absurd ((nlt (a := 9) (b := i) (by decide) (by omega)).mp c2) (by omega), fun _ => ?_⟩
    refine c_gapW ht co hI tb tm hs hr (fun c' j' s' p' r' hr' => ⟨fun c2 => ?_, fun c2 => ?_⟩)
    · unfold pX9_best_J72
      rw [nI_s]
      rw [lp_succ, bS, if_pos c2] at q
      exact ih (i + 1) x _ _ _ _ _ (by omega) hr' q
    · unfold pX9_best_J72
      rw [nI_s]
      rw [lp_succ, bS, if_neg c2] at q
      exact ih (i + 1) (nI i, gapW C N K n A i) _ _ _ _ _ (by omega) hr' q
theorem m_bestL {v : Lf} {t N K n : Nat} {A : AS} (ht : t + n < 2 ^ 30) (hI : CoI t N K A) (hs : A 0 0 2 = 1) (h : Ab (v 1) A) {x2 : Int32} {Q : Int32 → Lf → Prop} : ∀ (k i : Nat) (x : Int32 × Int32) (M : Lf), i + k = 10 → 1 ≤ i → (1 < i → ¬ x.1 = 0) → (i = 1 → x.1 = 0) → Bk3 v M → (∀ M', Bk3 v M' → Q (if x2 = 0 then (if i = 1 then lp (bS (gapW (v 4) N K n A)) (k - 1) (i + 1) (nI i, gapW (v 4) N K n A i) else lp (bS (gapW (v 4) N K n A)) k i x).1 else (if i = 1 then lp (bS (gapW (v 4) N K n A)) (k - 1) (i + 1) (nI i, gapW (v 4) N K n A i) else lp (bS (gapW (v 4) N K n A)) k i x).2) M') → pX10_best_L62 (nI n) x2 Q (k + 1) M x.1 x.2 (nI i) := by
  intro k
  induction k with
  | zero =>
    intro i x M hi h1 hx hx1 bk q
    have q := q _ bk
    rw [if_neg (show ¬ i = 1 by omega)] at q
    refine ⟨fun _ => ⟨fun c2 => ?_, fun c2 => ?_⟩, fun c2 => absurd ((nlt (a := 9) (b := i) (by decide) (by omega)).mpr (by omega)) c2⟩
    · rw [if_neg c2] at q; exact q
    · rw [if_pos c2] at q; exact q
  | succ k ih =>
    intro i x M hi h1 hx hx1 bk q
    have nz : ¬ nI i = 0 := fun e => by have := nI_inj (b := 0) (by omega) (by decide) e; omega
    refine ⟨fun c2 => absurd ((nlt (a := 9) (b := i) (by decide) (by omega)).mp c2) (by omega), fun _ => ?_⟩
    refine m_gapW ht hI hs (bk.ab h) (bk.o 4 (by decide) (by decide)) (fun M2 e7 o => ?_)
    have J96 : (∀ M', Bk3 v M' → Q (if x2 = 0 then (lp (bS (gapW (v 4) N K n A)) k (i + 1) (nI i, gapW (v 4) N K n A i)).1 else (lp (bS (gapW (v 4) N K n A)) k (i + 1) (nI i, gapW (v 4) N K n A i)).2) M') → pX10_best_J96 (nI n) x2 Q (fun v x3 x4 x5 => pX10_best_L62 (nI n) x2 Q (k + 1) v x3 x4 x5) M2 (nI i) := by
      intro q
      unfold pX10_best_J96 pX10_best_J108
      rw [e7, nI_s]
      refine m_forget3 bk o (fun M' bk' => ih (i + 1) (nI i, gapW (v 4) N K n A i) M' (by omega) (by omega) (fun _ => nz) (fun e => absurd e (by omega)) bk' (fun M3 bk3 => ?_))
      rw [if_neg (show ¬ i + 1 = 1 by omega)]
      exact q M3 bk3
    by_cases ci : i = 1
    · refine ⟨fun _ => J96 (fun M' bk' => ?_), fun c2 => absurd (hx1 ci) c2⟩
      have q := q M' bk'
      rw [if_pos ci, Nat.add_sub_cancel] at q
      exact q
    · refine ⟨fun c2 => absurd c2 (hx (by omega)), fun _ => ⟨fun c2 => ?_, fun c2 => J96 (fun M' bk' => ?_)⟩⟩
      · unfold pX10_best_J108
        rw [nI_s]
        rw [e7] at c2
        refine m_forget3 bk o (fun M' bk' => ih (i + 1) x M' (by omega) (by omega) (fun _ => hx (by omega)) (fun e => absurd e (by omega)) bk' (fun M3 bk3 => ?_))
        have q := q M3 bk3
        rw [if_neg ci, lp_succ, bS, if_pos c2] at q
        rw [if_neg (show ¬ i + 1 = 1 by omega)]
        exact q
      · rw [e7] at c2
        have q := q M' bk'
        rw [if_neg ci, lp_succ, bS, if_neg c2] at q
        exact q

theorem sim_best : Sim_X9_best Inv := by
  intro v vNc vNcj vNcs vNcp vNcr vNw vNg vNn vNq vIc vIcj vIcs vIcp vIcr vIw vIg vIn vIq vT vTj vTs vTp vTr vx vt gt vM gM hInv x1 x2
  obtain ⟨B, t, N, K, A, h⟩ := id hInv
  have hw := h.now
  have hN := hw.ci.hN
  have hK := hw.ci.hK
  have hM := hw.n13
  have hP := hw.n14
  unfold pX9_best
  have m0 : vM 1 2 = A 0 0 2 := hw.ab.gl (k := 2) (by decide)
  refine w_in (fun c1 c2 => ?_) (fun c => ?_)
  · first | refine ⟨fun c => absurd c (by decide), fun _ => ?_⟩ | refine ⟨fun _ => ?_, fun c => absurd c (by decide)⟩
    refine c_refusal (M := 60) (T := 9) h.cnt h.hB (by decide) (by decide) hw.co.cf (fun e => ?_) (fun n hn e s => ?_) (fun n hn e s l => ?_) (fun n hn e s l => ?_)
    · first | refine ⟨fun c => absurd c (by decide), fun _ => ?_⟩ | refine ⟨fun _ => ?_, fun c => absurd c (by decide)⟩
      unfold pX10_best
      refine inY ⟨c1, c2⟩ ?_
      first | refine ⟨fun c => absurd c (by decide), fun _ => ?_⟩ | refine ⟨fun _ => ?_, fun c => absurd c (by decide)⟩
      refine inN (fun c => e ((up_iff (M := 60) (by decide) x1).mp c)) ?_
      first | refine ⟨fun c => absurd c (by decide), fun _ => ?_⟩ | refine ⟨fun _ => ?_, fun c => absurd c (by decide)⟩
      exact ⟨rfl, hInv⟩
    · first | refine ⟨fun c => absurd c (by decide), fun _ => ?_⟩ | refine ⟨fun _ => ?_, fun c => absurd c (by decide)⟩
      unfold pX10_best
      refine inY ⟨c1, c2⟩ ?_
      first | refine ⟨fun c => absurd c (by decide), fun _ => ?_⟩ | refine ⟨fun _ => ?_, fun c => absurd c (by decide)⟩
      refine inY ((up_iff (M := 60) (by decide) x1).mpr ⟨n, hn, e⟩) ?_
      first | refine ⟨fun c => absurd c (by decide), fun _ => ?_⟩ | refine ⟨fun _ => ?_, fun c => absurd c (by decide)⟩
      rw [m0]
      exact ⟨fun c => absurd s c, fun _ => ⟨rfl, hInv⟩⟩
    · first | refine ⟨fun c => absurd c (by decide), fun _ => ?_⟩ | refine ⟨fun _ => ?_, fun c => absurd c (by decide)⟩
      unfold pX10_best
      refine inY ⟨c1, c2⟩ ?_
      first | refine ⟨fun c => absurd c (by decide), fun _ => ?_⟩ | refine ⟨fun _ => ?_, fun c => absurd c (by decide)⟩
      refine inY ((up_iff (M := 60) (by decide) x1).mpr ⟨n, hn, e⟩) ?_
      first | refine ⟨fun c => absurd c (by decide), fun _ => ?_⟩ | refine ⟨fun _ => ?_, fun c => absurd c (by decide)⟩
      rw [m0]
      refine ⟨fun _ => ?_, fun c => absurd c s⟩
      subst e
      rw [show (9 : Int32) * nI n = nI (9 * n) from pk_mul 9 n]
      refine m_counts h.cntM h.hB (by omega) (fun l2 => absurd (by omega) l) (fun _ => ?_)
      first | refine ⟨fun c => absurd c (by decide), fun _ => ?_⟩ | refine ⟨fun _ => ?_, fun c => absurd c (by decide)⟩
      exact ⟨rfl, hInv⟩
    · first | refine ⟨fun c => absurd c (by decide), fun _ => ?_⟩ | refine ⟨fun _ => ?_, fun c => absurd c (by decide)⟩
      subst e
      rw [show n * 9 = 9 * n from Nat.mul_comm n 9] at l ⊢
      have hs : A 0 0 2 = 1 := hw.ci.st.elim (fun q => absurd q s) (fun q => q.1)
      have h2 := h.count (B2 := B + 9 * n) (by omega) l
      have w2 := h2.now
      have tb := hw.tb
      have ht : t + n < 2 ^ 30 := by omega
      refine c_gapW (g := 1) ht hw.co hw.ci hw.tb' h.tab hs h.most.1 (fun c' j' s' p' r' hr' => ?_)
      refine ⟨9, c_bestL ht hw.co hw.ci hw.tb' h.tab hs 8 2 (1, gapW (vM 4) N K n A 1) _ _ _ _ _ (by omega) hr' (fun c3 j3 s3 p3 r3 hr3 => ?_)⟩
      unfold pX10_best
      refine inY ⟨c1, c2⟩ ?_
      first | refine ⟨fun c => absurd c (by decide), fun _ => ?_⟩ | refine ⟨fun _ => ?_, fun c => absurd c (by decide)⟩
      refine inY ((up_iff (M := 60) (by decide) _).mpr ⟨n, hn, rfl⟩) ?_
      first | refine ⟨fun c => absurd c (by decide), fun _ => ?_⟩ | refine ⟨fun _ => ?_, fun c => absurd c (by decide)⟩
      rw [m0]
      refine ⟨fun _ => ?_, fun c => absurd c s⟩
      rw [show (9 : Int32) * nI n = nI (9 * n) from pk_mul 9 n]
      refine m_counts h.cntM h.hB (by omega) (fun l2 => ?_) (fun c => absurd l c)
      first | refine ⟨fun c => absurd c (by decide), fun _ => ?_⟩ | refine ⟨fun _ => ?_, fun c => absurd c (by decide)⟩
      have e4 : st vM 0 4 (nI (B + 9 * n)) 4 = vM 4 := st_oth vM 4 _ (by decide)
      refine m_think3 (fun M bk => ⟨10, m_bestL ht hw.ci hs w2.ab 9 1 (0, 0) M (by omega) (by omega) (fun e => absurd e (by omega)) (fun _ => rfl) bk (fun M' bk' => ?_)⟩)
      rw [e4, if_pos rfl]
      exact ⟨rfl, h2.back bk'.o bk'.e hr3⟩
  · first | refine ⟨fun c => absurd c (by decide), fun _ => ?_⟩ | refine ⟨fun _ => ?_, fun c => absurd c (by decide)⟩
    unfold pX10_best
    refine inN c ?_
    first | refine ⟨fun c => absurd c (by decide), fun _ => ?_⟩ | refine ⟨fun _ => ?_, fun c => absurd c (by decide)⟩
    exact ⟨rfl, hInv⟩

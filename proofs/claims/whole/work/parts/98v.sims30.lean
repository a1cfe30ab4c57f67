noncomputable def grA (N : Nat) (A : AS) : Int32 := Classical.epsilon (fun r => Bits r (fun a => a < N ∧ lightA A a = 2))
theorem grA_eq {N : Nat} {A : AS} {r : Int32} (h : Bits r (fun a => a < N ∧ lightA A a = 2)) : r = grA N A :=
  h.eq (Classical.epsilon_spec (p := fun r => Bits r (fun a => a < N ∧ lightA A a = 2)) ⟨r, h⟩)
def ntS (R : AS) (sc gr : Int32) (i : Nat) (x : Int32) : Int32 := if R 6 i 0 = sc then (if R 6 i 1 = gr then x + 1 else x) else x
theorem nt_add (R : AS) (sc gr : Int32) : ∀ (k i : Nat) (y x : Int32), lp (ntS R sc gr) k i (y + x) = y + lp (ntS R sc gr) k i x := by
  intro k
  induction k with
  | zero => intro i y x; rfl
  | succ k ih =>
    intro i y x
    rw [lp_succ, lp_succ]
    have e : ntS R sc gr i (y + x) = y + ntS R sc gr i x := by
      unfold ntS
      split
      · split
        · rw [Int32.add_assoc]
        · rfl
      · rfl
    rw [e, ih]
theorem c_hold {z : Lf} {R : AS} {m : Nat} (h0 : z 0 0 = nI m) (hm : m ≤ 5) (row : ∀ i, i < m → ∀ k, k < 2 → z 1 (i * 3 + k) = R 6 i k) {sc gr : Int32} {Q : Int32 → Prop} : ∀ (k i : Nat) (x : Int32), i + k = m → Q (lp (ntS R sc gr) k i x) → pX8_notesThatHold_L5 z sc gr Q (k + 1) x (nI i) := by
  intro k
  induction k with
  | zero =>
    intro i x hi q
    exact hdE h0 (by omega) q
  | succ k ih =>
    intro i x hi q
    rw [lp_succ] at q
    unfold ntS at q
    have i0 : nI i * (3 : Int32) + 0 = nI (i * 3 + 0) := ix3 i 0
    have i1 : nI i * (3 : Int32) + 1 = nI (i * 3 + 1) := ix3 i 1
    refine hdG h0 (by omega) (by omega) ?_
    unfold pX4_at
    rw [i0, i1, nI_clamp (by omega), nI_clamp (by omega), row i (by omega) 0 (by decide), row i (by omega) 1 (by decide)]
    refine ⟨vp_in_nI (by omega) (by decide), fun c => ?_, fun c => ⟨vp_in_nI (by omega) (by decide), fun c2 => ?_, fun c2 => ?_⟩⟩
    · unfold pX8_notesThatHold_J48
      rw [if_neg c] at q
      rw [nI_s]
      exact ih (i + 1) _ (by omega) q
    · unfold pX8_notesThatHold_J48
      rw [if_pos c, if_neg c2] at q
      rw [nI_s]
      exact ih (i + 1) _ (by omega) q
    · unfold pX8_notesThatHold_J48
      rw [if_pos c, if_pos c2] at q
      rw [nI_s]
      exact ih (i + 1) _ (by omega) q
theorem ix345 (i : Nat) : (345 : Int32) + (2 : Int32) * nI i = nI (345 + 2 * i) := by
  show nI 345 + nI 2 * nI i = _
  rw [pk_mul, nI_add]
theorem ix345s (i : Nat) : (345 : Int32) + (2 : Int32) * nI i + 1 = nI (345 + 2 * i + 1) := by rw [ix345]; exact nI_add _ 1
theorem m_hold {t N K m : Nat} {v : Lf} {A : AS} (hI : CoI t N K A) (h : Ab (v 1) A) (e19 : A 0 0 19 = nI m) (hm : m ≤ 5) {x2 sc : Int32} {Q : Int32 → Lf → Prop} {K4 : Lf → Int32 → Int32 → Prop} : ∀ (k i : Nat) (x : Int32), i + k = m → K4 v (lp (ntS A sc (grA N A)) k i x) (x2 + 1) → pX10_notesSo_L25 Q K4 (k + 1) v x x2 sc (nI i) := by
  have h0 : v 1 19 = nI m := (h.gl (k := 19) (by decide)).trans e19
  intro k
  induction k with
  | zero =>
    intro i x hi q
    exact hdE h0 (by omega) q
  | succ k ih =>
    intro i x hi q
    rw [lp_succ] at q
    unfold ntS at q
    refine hdG h0 (by omega) (by omega) ?_
    rw [ix345s, ix345, nI_clamp (by omega), nI_clamp (by omega), show v 1 (345 + 2 * i) = A 6 i 0 from h 6 i 0 ⟨by omega, by decide⟩, show v 1 (345 + 2 * i + 1) = A 6 i 1 from h 6 i 1 ⟨by omega, by decide⟩]
    refine ⟨vp_in_nI (by omega) (by decide), fun c => ?_, fun c => ⟨vp_in_nI (by omega) (by decide), m_lights hI h (fun r hr => ?_)⟩⟩
    · unfold pX10_notesSo_J82 pX10_notesSo_J83
      rw [if_neg c] at q
      rw [nI_s, Int32.add_zero]
      exact ih (i + 1) _ (by omega) q
    · rw [grA_eq hr]
      refine ⟨fun c2 => ?_, fun c2 => ?_⟩
      · unfold pX10_notesSo_J82 pX10_notesSo_J83
        rw [if_pos c, if_neg c2] at q
        rw [nI_s, Int32.add_zero]
        exact ih (i + 1) _ (by omega) q
      · unfold pX10_notesSo_J83
        rw [if_pos c, if_pos c2] at q
        rw [nI_s]
        exact ih (i + 1) _ (by omega) q
noncomputable def fhA (C : Nat → Int32) (N K m : Nat) : Nat → AS → Int32 → Int32
  | 0, _, x => x
  | k + 1, A, x => fhA C N K m k (secA C N K A) (lp (ntS (secA C N K A) (A 0 0 3) (grA N (secA C N K A))) m 0 x)
theorem c_fhL {N K m : Nat} {a1 a2 a3 a4 a5 j z : Lf} {C : Nat → Int32} {R : AS} {g : Int32} (hC : ClR N j C) (h0 : z 0 0 = nI m) (hm : m ≤ 5) (row : ∀ i, i < m → ∀ k, k < 2 → z 1 (i * 3 + k) = R 6 i k) {Q : Int32 → Lf → Lf → Lf → Lf → Lf → Prop} : ∀ (k i t : Nat) (x : Int32) (c s p r : Lf) (A : AS), i + k = 60 → t + k < 2 ^ 30 → A 6 = R 6 → CoR N K c j s p r A → CoI t N K A → A 0 0 2 = 1 → (∀ c' s' p' r', r' 0 1 = 24 → (¬ fhA C N K m k A x = nI m → Q 0 c' j s' p' r') ∧ (fhA C N K m k A x = nI m → Q 1 c' j s' p' r')) → pX9_notesHoldWithGap_L26 a1 a2 a3 a4 a5 z g Q (k + 1) c j s p r x (nI i) := by
  intro k
  induction k with
  | zero =>
    intro i t x c s p r A hi ht e6 h hI hs q
    have q := q c s p r h.rr.most
    refine hdE (N := 60) rfl (by omega) ?_
    rw [h0]
    exact q
  | succ k ih =>
    intro i t x c s p r A hi ht e6 h hI hs q
    have fr := Fr.sec C N K A
    refine hdG (N := 60) rfl (by omega) (by omega) (c_passes (n := 1) (C := C) hC (by omega) h hI hs (fun c1 s1 p1 r1 h1 => ?_))
    have h1 : CoR N K c1 j s1 p1 r1 (secA C N K A) := h1
    obtain ⟨i9, s9⟩ := hI.second (by omega) hs C
    have e6' : secA C N K A 6 = R 6 := (fr.f4 6 (by decide)).trans e6
    rw [h.cf.sec, grA_eq (green_bits hI.hN h1)]
    refine ⟨m + 1, c_hold (R := secA C N K A) h0 hm (fun i hi k hk => by rw [e6']; exact row i hi k hk) m 0 0 (by omega) ?_⟩
    rw [← nt_add, Int32.add_zero, nI_s]
    exact ih (i + 1) (t + 1) _ c1 s1 p1 r1 _ (by omega) (by omega) e6' h1 i9 s9 q
theorem m_fhL {M : Lf} {N K m : Nat} {C : Nat → Int32} (e4 : M 4 = C) (hm : m ≤ 5) {Q : Int32 → Lf → Prop} : ∀ (k i t : Nat) (x : Int32) (S : Nat → Int32) (A : AS), i + k = 60 → t + k < 2 ^ 30 → A 0 0 19 = nI m → Ab S A → CoI t N K A → A 0 0 2 = 1 → (∀ M', (∀ c, c ≠ 1 → M' c = M c) → M' 1 19 = nI m → Q (fhA C N K m k A x) M') → pX10_notesSo_L4 Q (k + 1) (sa M 1 S) x (nI i) := by
  intro k
  induction k with
  | zero =>
    intro i t x S A hi ht e19 h hI hs q
    exact hdE (N := 60) rfl (by omega) (q _ (fun c hc => sa_ne _ _ hc) (h.gv (k := 19) (by decide) e19))
  | succ k ih =>
    intro i t x S A hi ht e19 h hI hs q
    have fr := Fr.sec C N K A
    refine hdG (N := 60) rfl (by omega) (by omega) (m_passes' (n := 1) (by omega) hI hs h (fun S1 h1 => ?_))
    rw [e4] at h1
    have h1 : Ab S1 (secA C N K A) := h1
    obtain ⟨i9, s9⟩ := hI.second (by omega) hs C
    have e19' : secA C N K A 0 0 19 = nI m := (fr.gl 19 (by decide) (by decide)).trans e19
    rw [h.gw (k := 3) (by decide)]
    refine ⟨m + 1, m_hold i9 (by rw [sa_self]; exact h1) e19' hm m 0 x (by omega) ?_⟩
    rw [nI_s]
    exact ih (i + 1) (t + 1) _ S1 _ (by omega) (by omega) e19' h1 i9 s9 q
noncomputable def ftS (C : Nat → Int32) (N K m : Nat) (A : AS) : Nat → Int32 × Int32 → Int32 × Int32
  | 0, x => x
  | i + 1, x => ftS C N K m A i (@ite (Int32 × Int32) (fhA C N K m 60 (gapA N (nI (i + 1)) A) 0 = nI m) (Classical.propDecidable _) (x.1 + 1, nI (i + 1)) x)
theorem nI_dec (i : Nat) : nI (i + 1) + (-1) = nI i := by
  rw [← nI_s, Int32.add_assoc, show (1 : Int32) + (-1) = 0 from by decide, Int32.add_zero]
theorem c_ftL {t N K m : Nat} {c j s p r z v : Lf} {A : AS} {C D : Nat → Int32} (ht : t + 60 < 2 ^ 30) (co : CoR N K c j s p r A) (hI : CoI t N K A) (tb : TbR N j A) (tm : MtR N A C D) (hs : A 0 0 2 = 1) (h0 : z 0 0 = nI m) (hm : m ≤ 5) (row : ∀ i, i < m → ∀ k, k < 2 → z 1 (i * 3 + k) = A 6 i k) {x1 : Int32} {Q : Int32 → Lf → Lf → Lf → Lf → Lf → Lf → Prop} : ∀ (i : Nat) (x : Int32 × Int32) (v1 v2 v3 v4 v5 : Lf), i ≤ 9 → v5 0 1 = 24 → (∀ c' j' s' p' r', r' 0 1 = 24 → Q (if x1 = 0 then (ftS C N K m A i x).1 else (ftS C N K m A i x).2) v c' j' s' p' r') → pX9_fits_L38 c j s p r z x1 Q (i + 1) v v1 v2 v3 v4 v5 x.1 x.2 (nI i) := by
  intro i
  induction i with
  | zero =>
    intro x v1 v2 v3 v4 v5 hi hr q
    have q := q v1 v2 v3 v4 v5 hr
    refine ⟨fun _ => ⟨fun c2 => ?_, fun c2 => ?_⟩, fun c2 => absurd ((nlt (a := 0) (b := 1) (by decide) (by decide)).mpr (by decide)) c2⟩
    · rw [if_neg c2] at q; exact q
    · rw [if_pos c2] at q; exact q
  | succ i ih =>
    intro x v1 v2 v3 v4 v5 hi hr q
    refine ⟨fun c2 => absurd ((nlt (a := i + 1) (b := 1) (by omega) (by decide)).mp c2) (by omega), fun _ => ?_⟩
    unfold pX9_notesHoldWithGap
    refine c_copyC co hI tb hr (fun c' j' s' p' r' co' tb' _ => c_setGaps hI.hN co'.sr (nI (i + 1)) (fun s2 h2 => ?_))
    have cr := ClR.of hI co'.jr tb' tm
    unfold ftS at q
    refine ⟨61, c_fhL (R := A) (C := C) cr h0 hm row 60 0 t 0 _ _ _ _ (gapA N (nI (i + 1)) A) (by omega) ht (gapA_o (by decide) _ _ _) (co'.gap h2) (hI.gap N _) (by rw [gapA_o (by decide)]; exact hs) (fun c3 s3 p3 r3 hr3 => ⟨fun d => ?_, fun d => ?_⟩)⟩
    · rw [if_neg d] at q
      first | refine ⟨fun c => absurd c (by decide), fun _ => ?_⟩ | refine ⟨fun _ => ?_, fun c => absurd c (by decide)⟩
      unfold pX9_fits_J60
      rw [nI_dec]
      exact ih x _ _ _ _ _ (by omega) hr3 q
    · rw [if_pos d] at q
      first | refine ⟨fun c => absurd c (by decide), fun _ => ?_⟩ | refine ⟨fun _ => ?_, fun c => absurd c (by decide)⟩
      unfold pX9_fits_J60
      rw [nI_dec]
      exact ih (x.1 + 1, nI (i + 1)) _ _ _ _ _ (by omega) hr3 q
theorem m_ftL {v : Lf} {t N K m : Nat} {A : AS} (ht : t + 60 < 2 ^ 30) (hI : CoI t N K A) (hs : A 0 0 2 = 1) (h : Ab (v 1) A) (e19 : A 0 0 19 = nI m) (hm : m ≤ 5) {x1 : Int32} {Q : Int32 → Lf → Prop} : ∀ (i : Nat) (x : Int32 × Int32) (M : Lf), i ≤ 9 → Bk3 v M → (∀ M', Bk3 v M' → Q (if x1 = 0 then (ftS (v 4) N K m A i x).1 else (ftS (v 4) N K m A i x).2) M') → pX10_fits_L49 x1 Q (i + 1) M x.1 x.2 (nI i) := by
  intro i
  induction i with
  | zero =>
    intro x M hi bk q
    have q := q M bk
    refine ⟨fun _ => ⟨fun c2 => ?_, fun c2 => ?_⟩, fun c2 => absurd ((nlt (a := 0) (b := 1) (by decide) (by decide)).mpr (by decide)) c2⟩
    · rw [if_neg c2] at q; exact q
    · rw [if_pos c2] at q; exact q
  | succ i ih =>
    intro x M hi bk q
    refine ⟨fun c2 => absurd ((nlt (a := i + 1) (b := 1) (by omega) (by decide)).mp c2) (by omega), fun _ => ?_⟩
    refine un (P := fun z => pX10_gaps z (nI (i + 1)) _) (m_gaps hI.hN hI.m (bk.ab h) (fun S1 h1 => ?_))
    unfold ftS at q
    refine ⟨61, m_fhL (C := v 4) (bk.o 4 (by decide) (by decide)) hm 60 0 t 0 S1 (gapA N (nI (i + 1)) A) (by omega) ht (by rw [gapA_o (by decide)]; exact e19) h1 (hI.gap N _) (by rw [gapA_o (by decide)]; exact hs) (fun M2 o e => ?_)⟩
    rw [e]
    refine ⟨fun d => ?_, fun d => ?_⟩
    · rw [if_neg d] at q
      unfold pX10_fits_J81
      rw [nI_dec]
      exact m_forget3 bk o (fun M' bk' => ih x M' (by omega) bk' q)
    · rw [if_pos d] at q
      unfold pX10_fits_J81
      rw [nI_dec]
      exact m_forget3 bk o (fun M' bk' => ih (x.1 + 1, nI (i + 1)) M' (by omega) bk' q)

theorem sim_fits : Sim_X9_fits Inv := by
  intro v vNc vNcj vNcs vNcp vNcr vNw vNg vNn vNq vIc vIcj vIcs vIcp vIcr vIw vIg vIn vIq vT vTj vTs vTp vTr vx vt gt vM gM hInv x1
  obtain ⟨B, t, N, K, A, h⟩ := id hInv
  have hw := h.now
  have hN := hw.ci.hN
  have hK := hw.ci.hK
  have hM := hw.n13
  have hP := hw.n14
  unfold pX9_fits
  have m0 : vM 1 2 = A 0 0 2 := hw.ab.gl (k := 2) (by decide)
  obtain ⟨m, hm, em, row⟩ := hw.nt.row
  have n0' : vNn 0 0 = nI m := hw.nt.n.trans em
  refine w_in (fun c1 c2 => ?_) (fun c => ?_)
  · first | refine ⟨fun c => absurd c (by decide), fun _ => ?_⟩ | refine ⟨fun _ => ?_, fun c => absurd c (by decide)⟩
    refine c_refusal (M := 60) (T := 9) h.cnt h.hB (by decide) (by decide) hw.co.cf (fun e => absurd ⟨60, by decide, rfl⟩ e) (fun n hn e s => ?_) (fun n hn e s l => ?_) (fun n hn e s l => ?_)
    · first | refine ⟨fun c => absurd c (by decide), fun _ => ?_⟩ | refine ⟨fun _ => ?_, fun c => absurd c (by decide)⟩
      unfold pX10_fits
      refine inY ⟨c1, c2⟩ ?_
      first | refine ⟨fun c => absurd c (by decide), fun _ => ?_⟩ | refine ⟨fun _ => ?_, fun c => absurd c (by decide)⟩
      rw [m0]
      exact ⟨fun c => absurd s c, fun _ => ⟨rfl, hInv⟩⟩
    · first | refine ⟨fun c => absurd c (by decide), fun _ => ?_⟩ | refine ⟨fun _ => ?_, fun c => absurd c (by decide)⟩
      have e2 : n = 60 := (nI_inj (a := 60) (by decide) (by omega) e).symm
      subst e2
      unfold pX10_fits
      refine inY ⟨c1, c2⟩ ?_
      first | refine ⟨fun c => absurd c (by decide), fun _ => ?_⟩ | refine ⟨fun _ => ?_, fun c => absurd c (by decide)⟩
      rw [m0]
      refine ⟨fun _ => ?_, fun c => absurd c s⟩
      refine m_counts (n := 540) h.cntM h.hB (by decide) (fun l2 => absurd l2 l) (fun _ => ?_)
      first | refine ⟨fun c => absurd c (by decide), fun _ => ?_⟩ | refine ⟨fun _ => ?_, fun c => absurd c (by decide)⟩
      exact ⟨rfl, hInv⟩
    · first | refine ⟨fun c => absurd c (by decide), fun _ => ?_⟩ | refine ⟨fun _ => ?_, fun c => absurd c (by decide)⟩
      have e2 : n = 60 := (nI_inj (a := 60) (by decide) (by omega) e).symm
      subst e2
      have hs : A 0 0 2 = 1 := hw.ci.st.elim (fun q => absurd q s) (fun q => q.1)
      have h2 := h.count (B2 := B + 540) (by omega) l
      have w2 := h2.now
      have tb := hw.tb
      have ht : t + 60 < 2 ^ 30 := by omega
      refine ⟨10, c_ftL ht hw.co hw.ci hw.tb' h.tab hs n0' hm row 9 (0, -5) _ _ _ _ _ (by omega) h.most.1 (fun c3 j3 s3 p3 r3 hr3 => ?_)⟩
      unfold pX10_fits
      refine inY ⟨c1, c2⟩ ?_
      first | refine ⟨fun c => absurd c (by decide), fun _ => ?_⟩ | refine ⟨fun _ => ?_, fun c => absurd c (by decide)⟩
      rw [m0]
      refine ⟨fun _ => ?_, fun c => absurd c s⟩
      refine m_counts (n := 540) h.cntM h.hB (by decide) (fun l2 => ?_) (fun c => absurd l c)
      first | refine ⟨fun c => absurd c (by decide), fun _ => ?_⟩ | refine ⟨fun _ => ?_, fun c => absurd c (by decide)⟩
      have e4 : st vM 0 4 (nI (B + 540)) 4 = vM 4 := st_oth vM 4 _ (by decide)
      refine m_think3 (fun M bk => ⟨10, m_ftL ht hw.ci hs w2.ab em hm 9 (0, -5) M (by omega) bk (fun M' bk' => ?_)⟩)
      rw [e4]
      exact ⟨rfl, h2.back bk'.o bk'.e hr3⟩
  · first | refine ⟨fun c => absurd c (by decide), fun _ => ?_⟩ | refine ⟨fun _ => ?_, fun c => absurd c (by decide)⟩
    unfold pX10_fits
    refine inN c ?_
    first | refine ⟨fun c => absurd c (by decide), fun _ => ?_⟩ | refine ⟨fun _ => ?_, fun c => absurd c (by decide)⟩
    exact ⟨rfl, hInv⟩

theorem len_z {A : AS} {a : Nat} (e : A 1 a 11 = 0) : lenA A a = 0 := by
  rw [lenA, e]; rfl
theorem len_all {t N K : Nat} {A : AS} (hI : CoI t N K A) (z : ∀ a, N ≤ a → a < 8 → A 1 a 11 = 0) {a : Nat} (ha : a < 8) : lenA A a ≤ 8 ∧ A 1 a 11 = nI (lenA A a) ∧ (0 < lenA A a → a < N) := by
  rcases Nat.lt_or_ge a N with l | l
  · obtain ⟨_, h1, h2⟩ := len_ok hI l
    exact ⟨h1, h2, fun _ => l⟩
  · have e := z a l ha
    have e2 := len_z e
    rw [e2]
    exact ⟨by decide, e.trans rfl, fun h => absurd h (by decide)⟩
theorem m_placeG {v : Lf} {A : AS} (h : Ab (v 1) A) {a : Nat} (ha : a < 8) (hl : lenA A a ≤ 8) (e : A 1 a 11 = nI (lenA A a)) {c : Int32} {Q : Int32 → Prop} (q : Q (placeA A a c)) : pX10_placeIn v (nI a) c Q := by
  have L : ∀ (k i : Nat), i + k = lenA A a → Q (ffr (fun i => decide (A 1 a (12 + i) = c)) k i) → pX10_placeIn_L2 v (nI a) c Q (k + 1) (nI i) := by
    intro k
    induction k with
    | zero =>
      intro i hi q
      exact rd_at h 11 (by omega) (by decide) (hdE e (by omega) q)
    | succ k ih =>
      intro i hi q
      refine rd_at h 11 (by omega) (by decide) (hdG e (by omega) (by omega) ?_)
      rw [show (12 : Int32) + nI i = nI (12 + i) from nI_add 12 i]
      refine rd_atn h (by omega) (by omega) ⟨fun d => ?_, fun d => ?_⟩
      · rw [nI_s]
        rw [ffr, if_neg (by simpa using d)] at q
        exact ih (i + 1) (by omega) q
      · rw [ffr, if_pos (by simpa using d)] at q
        exact q
  exact ⟨lenA A a + 1, L _ 0 (by omega) q⟩
theorem mx_eq (x y : Int32) : (if x < y then y else x) = (if y < x then x else y) := by
  have e1 := i_lt (a := x) (b := y)
  have e2 := i_lt (a := y) (b := x)
  by_cases c : x < y
  · rw [if_pos c, if_neg (fun d => by have h1 := e1.mp c; have h2 := e2.mp d; omega)]
  · rw [if_neg c]
    by_cases c2 : y < x
    · rw [if_pos c2]
    · rw [if_neg c2]
      refine Int32.toInt_inj.mp ?_
      have h1 : ¬ x.toInt < y.toInt := fun d => c (e1.mpr d)
      have h2 : ¬ y.toInt < x.toInt := fun d => c2 (e2.mpr d)
      omega
theorem pl_neg {A : AS} {b : Nat} {c : Int32} (hl : lenA A b ≤ 8) : (0 ≤ placeA A b c ↔ ¬ placeA A b c = -5) ∧ (¬ placeA A b c = -5 → 0 < lenA A b) := by
  by_cases e : ∃ i, 0 ≤ i ∧ i < 0 + lenA A b ∧ (fun i => decide (A 1 b (12 + i) = c)) i = true
  · obtain ⟨p, h1, _, h2, _⟩ := ffr_some (P := fun i => decide (A 1 b (12 + i) = c)) (lenA A b) 0 e
    have e1 : placeA A b c = nI p := h1
    rw [e1]
    exact ⟨⟨fun _ => m5 (by omega), fun _ => nI_pos' (by omega)⟩, fun _ => by omega⟩
  · have e1 : placeA A b c = -5 := ffr_none (P := fun i => decide (A 1 b (12 + i) = c)) (lenA A b) 0 e
    rw [e1]
    exact ⟨⟨fun q => absurd q (by decide), fun q => absurd rfl q⟩, fun q => absurd rfl q⟩
theorem m_clr1 {t N K : Nat} {v : Lf} {A : AS} (hI : CoI t N K A) (z : ∀ a, N ≤ a → a < 8 → A 1 a 11 = 0) (h : Ab (v 1) A) {a b : Nat} (ha : a < 8) (hb : b < 8) {Q : Lf → Prop} (q : ∀ x y, (a < N → b < N → x = narA A a b ∧ y = clrA A a b) → Q (st (st v 5 (8 * a + b) x) 4 (8 * a + b) y)) : pX10_clears v (nI a) (nI b) Q := by
  obtain ⟨la, ea, na⟩ := len_all hI z ha
  obtain ⟨lb, eb, nb⟩ := len_all hI z hb
  have vp : vp_in (nI (8 * a + b)) 64 := vp_in_nI (by omega) (by decide)
  have J : ∀ (w g : Int32), (a < N → b < N → w = narA A a b ∧ g = (measA A a b).2) → (0 ≤ w → a < N) → pX10_clears_J113 (nI a) (nI b) Q v g w := by
    intro w g hw hp
    unfold pX10_clears_J113
    rw [ix8, nI_clamp (by omega)]
    refine ⟨vp, fun c => ?_, fun c => ?_⟩
    · have aN := hp c
      have hab' : Ab ((st v 5 (8 * a + b) w) 1) A := by rw [st_oth _ _ _ (by decide)]; exact h
      refine m_amber hI hab' aN ?_
      unfold pX10_clears_J162
      rw [nI_clamp (by omega)]
      refine ⟨vp, q w _ (fun aN bN => ⟨(hw aN bN).1, ?_⟩)⟩
      obtain ⟨w1, w2⟩ := hw aN bN
      have e1 : st v 5 (8 * a + b) w 1 1 = A 0 0 1 := by rw [st_oth _ _ _ (by decide)]; exact h.gl (k := 1) (by decide)
      have ng : ¬ narA A a b < 0 := by
        rw [← w1]
        exact n_le.mpr c
      rw [clrA, if_neg ng, bareA, e1, w2, mx_eq]
    · unfold pX10_clears_J162
      rw [nI_clamp (by omega)]
      refine ⟨vp, q w _ (fun aN bN => ⟨(hw aN bN).1, ?_⟩)⟩
      rw [clrA, ← (hw aN bN).1, if_pos (n_lt.mp c)]
  have L : ∀ (k i : Nat) (x : Int32 × Int32), i + k = lenA A a → ¬ a = b → nv x.1 63 → (0 ≤ x.1 → a < N) → (a < N → b < N → lp (meaS A a b) k i x = measA A a b) → pX10_clears_L9 (nI a) (nI b) Q (k + 1) v x.2 x.1 (nI i) := by
    intro k
    induction k with
    | zero =>
      intro i x hi hab hx hp hf
      refine rd_at h 11 ha (by decide) (hdE ea (by omega) (J x.1 x.2 (fun aN bN => ?_) hp))
      have := hf aN bN
      rw [lp_zero] at this
      rw [narA, ← this]
      exact ⟨rfl, rfl⟩
    | succ k ih =>
      intro i x hi hab hx hp hf
      have aN : a < N := na (by omega)
      have ngx := nv_neg (by decide) hx
      simp only [lp_succ] at hf
      refine rd_at h 11 ha (by decide) (hdG ea (by omega) (by omega) ⟨fun e => absurd (nI_inj (by omega) (by omega) e) hab, fun _ => ?_⟩)
      rw [show (12 : Int32) + nI i = nI (12 + i) from nI_add 12 i]
      obtain ⟨p1, p2⟩ := pl_neg (c := A 1 a (12 + i)) lb
      have skip : (a < N → b < N → meaS A a b i x = x) → pX10_clears_J107 (nI a) (nI b) Q (fun v x3 x4 x5 => pX10_clears_L9 (nI a) (nI b) Q (k + 1) v x3 x4 x5) v x.2 x.1 (nI i) := by
        intro e
        unfold pX10_clears_J107
        rw [nI_s]
        exact ih (i + 1) x (by omega) hab hx hp (fun aN bN => by have := hf aN bN; rw [e aN bN] at this; exact this)
      refine rd_atn h ha (by omega) (m_placeG h hb lb eb ⟨fun c => ?_, fun c => ?_⟩)
      · have np := p1.mp c
        have bN : b < N := nb (p2 np)
        have up : meaS A a b i x = (A 1 a (12 + i), isA A a b i) → pX10_clears_J92 (nI a) (nI b) Q (fun v x3 x4 x5 => pX10_clears_L9 (nI a) (nI b) Q (k + 1) v x3 x4 x5) v (nI i) (isA A a b i) := by
          intro e
          unfold pX10_clears_J92
          rw [show (12 : Int32) + nI i = nI (12 + i) from nI_add 12 i]
          refine rd_atn h ha (by omega) ?_
          unfold pX10_clears_J107
          rw [nI_s]
          exact ih (i + 1) (A 1 a (12 + i), isA A a b i) (by omega) hab (.inr ((hI.sg a aN).cells i (by omega))) (fun _ => aN) (fun aN bN => by have := hf aN bN; rw [e] at this; exact this)
        refine m_amber hI h aN (m_pace hI h aN (m_pace hI h bN ?_))
        show (x.1 < 0 → pX10_clears_J92 (nI a) (nI b) Q _ v (nI i) (isA A a b i)) ∧ (¬ x.1 < 0 → (x.2 < isA A a b i → pX10_clears_J92 (nI a) (nI b) Q _ v (nI i) (isA A a b i)) ∧ (¬ x.2 < isA A a b i → _))
        refine ⟨fun c2 => up ?_, fun c2 => ⟨fun c3 => up ?_, fun c3 => skip (fun _ _ => ?_)⟩⟩
        · rw [meaS, if_neg np, if_neg (fun y => y.1 (ngx.mp c2))]
        · rw [meaS, if_neg np, if_neg (fun y => y.2 c3)]
        · rw [meaS, if_neg np, if_pos ⟨fun y => c2 (ngx.mpr y), c3⟩]
      · have ep : placeA A b (A 1 a (12 + i)) = -5 := by
          by_cases e : placeA A b (A 1 a (12 + i)) = -5
          · exact e
          · exact absurd (p1.mpr e) c
        exact skip (fun _ _ => by rw [meaS, if_pos ep])
  by_cases hab : a = b
  · have j0 := J (-5) 0 (fun _ _ => by rw [narA, measA, if_pos hab]; exact ⟨rfl, rfl⟩) (fun c => absurd c (by decide))
    exact ⟨1, rd_at h 11 ha (by decide) ⟨fun _ => j0, fun _ => ⟨fun _ => j0, fun c => absurd (by rw [hab]) c⟩⟩⟩
  · exact ⟨lenA A a + 1, L (lenA A a) 0 (-5, 0) (by omega) hab (.inl rfl) (fun c => absurd c (by decide)) (fun _ _ => by rw [measA, if_neg hab])⟩
theorem m_clears {t N K : Nat} {v : Lf} {A : AS} (hI : CoI t N K A) (z : ∀ a, N ≤ a → a < 8 → A 1 a 11 = 0) (h : Ab (v 1) A) {Q : Lf → Prop} (q : ∀ M : Lf, (∀ c, c ≠ 4 → c ≠ 5 → M c = v c) → MtR N A (M 4) (M 5) → Q M) : pX10_clears_ v Q := by
  have hN := hI.hN
  have I : ∀ (K2 : Lf → Int32 → Prop) (a : Nat), a < 8 → ∀ (k b : Nat) (M : Lf), b + k = 8 → (∀ c, c ≠ 4 → c ≠ 5 → M c = v c) → (∀ x y, x < N → y < N → 8 * x + y < 8 * a + b → M 4 (8 * x + y) = clrA A x y ∧ M 5 (8 * x + y) = narA A x y) → (∀ M' : Lf, (∀ c, c ≠ 4 → c ≠ 5 → M' c = v c) → (∀ x y, x < N → y < N → 8 * x + y < 8 * (a + 1) → M' 4 (8 * x + y) = clrA A x y ∧ M' 5 (8 * x + y) = narA A x y) → K2 M' (nI (a + 1))) → pX10_clears__L10 Q K2 (k + 1) M (nI a) (nI b) := by
    intro K2 a ha k
    induction k with
    | zero =>
      intro b M hb o d kk
      refine hdE (N := 8) rfl (by omega) ?_
      rw [nI_s]
      exact kk M o (fun x y hx hy hl => d x y hx hy (by omega))
    | succ k ih =>
      intro b M hb o d kk
      refine hdG (N := 8) rfl (by omega) (by omega) (m_clr1 hI z (by rw [o 1 (by decide) (by decide)]; exact h) ha (by omega) (fun x y hxy => ?_))
      rw [nI_s]
      refine ih (b + 1) _ (by omega) (fun c h4 h5 => by rw [st_oth _ _ _ h4, st_oth _ _ _ h5]; exact o c h4 h5) (fun x2 y2 hx hy hl => ?_) kk
      by_cases e : 8 * x2 + y2 = 8 * a + b
      · have e1 : x2 = a := by omega
        have e2 : y2 = b := by omega
        subst e1 e2
        obtain ⟨p1, p2⟩ := hxy hx hy
        rw [st_at, if_pos ⟨rfl, rfl⟩, st_at, if_neg (by omega), st_at, if_pos ⟨rfl, rfl⟩]
        exact ⟨p2, p1⟩
      · rw [st_at, if_neg (by omega), st_at, if_neg (by omega), st_at, if_neg (by omega), st_at, if_neg (by omega)]
        exact d x2 y2 hx hy (by omega)
  have O : ∀ (k a : Nat) (M : Lf), a + k = 8 → (∀ c, c ≠ 4 → c ≠ 5 → M c = v c) → (∀ x y, x < N → y < N → 8 * x + y < 8 * a → M 4 (8 * x + y) = clrA A x y ∧ M 5 (8 * x + y) = narA A x y) → pX10_clears__L2 Q (k + 1) M (nI a) := by
    intro k
    induction k with
    | zero =>
      intro a M ha o d
      exact hdE (N := 8) rfl (by omega) (q M o ⟨fun x y hx hy => (d x y hx hy (by omega)).1, fun x y hx hy => (d x y hx hy (by omega)).2⟩)
    | succ k ih =>
      intro a M ha o d
      exact hdG (N := 8) rfl (by omega) (by omega) ⟨9, I _ a (by omega) 8 0 M (by omega) o (fun x y hx hy hl => d x y hx hy (by omega)) (fun M' o' d' => ih (a + 1) M' (by omega) o' d')⟩
  exact ⟨9, O 8 0 v (by omega) (fun _ _ _ => rfl) (fun x y _ _ hl => by omega)⟩
theorem St.nowT {B t N K t' N' K' : Nat} {A A' : AS} {v vNc vNcj vNcs vNcp vNcr vNw vNg vNn vNq vIc vIcj vIcs vIcp vIcr vIw vIg vIn vIq vT vTj vTs vTp vTr vx : Lf} {vt : Nat → Lf} {gt : Nat → Lg} {vM : Lf} {gM : Lg} {vNc' vNcj' vNcs' vNcp' vNcr' vNw' vNg' vNn' vNq' M' : Lf} (h : St B t N K A v vNc vNcj vNcs vNcp vNcr vNw vNg vNn vNq vIc vIcj vIcs vIcp vIcr vIw vIg vIn vIq vT vTj vTs vTp vTr vx vt gt vM gM) (o : ∀ c, c ≠ 1 → c ≠ 4 → c ≠ 5 → M' c = vM c) (w : Wo B t' N' K' A' vNc' vNcj' vNcs' vNcp' vNcr' vNw' vNg' vNn' vNq' (M' 1)) (m : MtR N' A' (M' 4) (M' 5)) : Inv v vNc' vNcj' vNcs' vNcp' vNcr' vNw' vNg' vNn' vNq' vIc vIcj vIcs vIcp vIcr vIw vIg vIn vIq vT vTj vTs vTp vTr vx vt gt M' gM := by
  have o0 : M' 0 = vM 0 := o 0 (by decide) (by decide) (by decide)
  have o2 : M' 2 = vM 2 := o 2 (by decide) (by decide) (by decide)
  have o6 : M' 6 = vM 6 := o 6 (by decide) (by decide) (by decide)
  have o8 : M' 8 = vM 8 := o 8 (by decide) (by decide) (by decide)
  have o9 : M' 9 = vM 9 := o 9 (by decide) (by decide) (by decide)
  refine ⟨B, t', N', K', A', w, m, h.hB, h.cnt, ?_, ?_, ?_, h.most, ⟨?_, ?_⟩, ⟨?_, ?_, ?_⟩⟩
  · rw [o0]; exact h.cntM
  · rw [o0]; exact h.kept
  · rw [o0, o2]; exact h.img
  · rw [o0]; exact h.txt.n
  · rw [o0, o6]; exact h.txt.ok
  · rw [o8, o9]; exact h.tp.so
  · rw [o9]; exact h.tp.le
  · rw [o9]; exact h.tp.at'
theorem CoI.sfC {t N K : Nat} {A : AS} (h : CoI t N K A) {x : Int32} (hx : qb x 5) : CoI t N K (U A 0 0 1 x) := by
  have g : ∀ k, k ≠ 1 → U A 0 0 1 x 0 0 k = A 0 0 k := fun k hk => by simp [U_at, hk]
  have e1 : U A 0 0 1 x 1 = A 1 := by simp [U_ne]
  have e2 : U A 0 0 1 x 2 = A 2 := by simp [U_ne]
  have e3 : U A 0 0 1 x 3 = A 3 := by simp [U_ne]
  refine ⟨h.hN, h.hK, ?_, ?_, ?_, ?_, ?_, ?_, ?_, ?_, ?_, ?_, ?_, ?_⟩
  · rw [g _ (by decide)]; exact h.m
  · rw [g _ (by decide)]; exact h.k
  · rw [g _ (by decide)]; exact h.sec
  · rw [g _ (by decide), g _ (by decide), e1, e2]; exact h.st
  · rw [g _ (by decide), g _ (by decide), g _ (by decide), g _ (by decide), e1]; exact h.st0
  · rw [g _ (by decide)]; exact h.cut
  · rw [g _ (by decide), e2]; exact h.em
  · rw [e1]; exact h.sg
  · rw [e2]; exact h.ph
  · rw [g _ (by decide), e3]; exact h.rc
  · rw [g _ (by decide)]; exact h.cy
  · rw [U_at, if_pos ⟨rfl, rfl, rfl⟩]; exact hx

theorem sim_safety : Sim_X9_safety Inv := by
  intro v vNc vNcj vNcs vNcp vNcr vNw vNg vNn vNq vIc vIcj vIcs vIcp vIcr vIw vIg vIn vIq vT vTj vTs vTp vTr vx vt gt vM gM hInv x1
  obtain ⟨B, t, N, K, A, h⟩ := id hInv
  have hw := h.now
  have hN := hw.ci.hN
  have hK := hw.ci.hK
  have hM := hw.n13
  have hP := hw.n14
  have m2 : vM 1 2 = A 0 0 2 := hw.ab.gl (k := 2) (by decide)
  unfold pX9_safety
  rw [hw.co.cf.st, hw.co.jr.sf]
  refine w_in (fun c1 c2 => ?_) (fun c => ?_)
  · first | refine ⟨fun c => absurd c (by decide), fun _ => ?_⟩ | refine ⟨fun _ => ?_, fun c => absurd c (by decide)⟩
    refine ⟨fun c => ?_, fun c => ?_⟩
    · have n1 : ¬ vM 1 2 = 1 := fun e => absurd ((c.symm.trans m2.symm).trans e) (by decide)
      unfold pX10_safety
      refine inY ⟨c1, c2⟩ ?_
      first | refine ⟨fun c => absurd c (by decide), fun _ => ?_⟩ | refine ⟨fun _ => ?_, fun c => absurd c (by decide)⟩
      refine ⟨fun _ => ?_, fun e => absurd e n1⟩
      have hab : Ab (st vM 1 1 x1 1) (U A 0 0 1 x1) := by rw [st_sa, sa_self]; exact hw.ab.ug (k := 1) (by decide) x1
      have e1 : U A 0 0 1 x1 1 = A 1 := by simp [U_ne]
      have z' : ∀ a, N ≤ a → a < 8 → U A 0 0 1 x1 1 a 11 = 0 := fun a h1 h2 => by rw [e1]; exact hw.z a h1 h2
      have ci' := hw.ci.sfC ((up_iff (M := 5) (by decide) x1).mp ⟨c1, c2⟩)
      refine m_clears ci' z' hab (fun M o tm => ⟨hw.ab.gl (k := 1) (by decide) |>.symm, ?_⟩)
      have w : Wo B t N K (U A 0 0 1 x1) vNc (st vNcj 0 1 x1) vNcs vNcp vNcr vNw vNg vNn vNq (M 1) := by
        have tb' := hw.tb'.fr hw.ci (B := U A 0 0 1 x1) (fun a _ w _ => by rw [e1])
        have g : ∀ k, k ≠ 1 → U A 0 0 1 x1 0 0 k = A 0 0 k := fun k hk => by simp [U_at, hk]
        have sp' : U A 0 0 1 x1 0 0 2 = 0 → SpR N (st vNcj 0 1 x1) vNcs := fun e => by
          have sp := hw.sp ((g 2 (by decide)).symm.trans e)
          exact ⟨fun a h1 h2 => by rw [st_at, if_neg (by omega)]; exact sp.len a h1 h2, fun a h1 => by rw [st_at, if_neg (by omega)]; exact sp.dg a h1, sp.ru, sp.nv⟩
        refine ⟨by rw [o 1 (by decide) (by decide)]; exact hab, hw.tb, ⟨?_, ⟨?_, ?_, ?_, ?_, ?_⟩, hw.co.sr.fr e1, ⟨hw.co.pr.n, ?_, ?_, ?_, hw.co.pr.c0⟩, hw.co.rr.fr (g _ (by decide)) (by simp [U_ne])⟩, ci', ⟨fun a b ha hb => ?_, fun a b ha hb hab => ?_⟩, sp', hw.wv.fr (g _ (by decide)) (g _ (by decide)) (by simp [U_ne]), hw.gt.fr (g _ (by decide)) (by simp [U_ne]), hw.nt.fr (g _ (by decide)) (by simp [U_ne]), hw.pl.fr (g _ (by decide)) (by simp [U_ne]), z', hw.bd.same (g _ (by decide)) (g _ (by decide)) (g _ (by decide)) (by simp [U_ne])⟩
        · have h := hw.co
          refine ⟨?_, ?_, ?_, ?_, ?_, ?_, ?_, ?_, ?_, ?_, ?_, ?_⟩ <;> simp [U_at, h.cf.st, h.cf.sec, h.cf.cur, h.cf.cut, h.cf.em, h.cf.wt, h.cf.sv, h.cf.ls, h.cf.sd, h.cf.cy, h.cf.off, h.cf.spl]
        · rw [st_at, if_neg (by omega)]; exact hw.co.jr.n
        · rw [st_at, if_pos ⟨rfl, rfl⟩, U_at, if_pos ⟨rfl, rfl, rfl⟩]
        · intro a ha; rw [st_at, if_neg (by omega), e1]; exact hw.co.jr.kind a ha
        · intro a ha; rw [st_at, if_neg (by omega), e1]; exact hw.co.jr.len a ha
        · intro a ha i hi l; rw [st_at, if_neg (by omega), e1]; rw [e1] at l; exact hw.co.jr.cell a ha i hi l
        · intro q hq; rw [show U A 0 0 1 x1 2 = A 2 by simp [U_ne]]; exact hw.co.pr.set q hq
        · intro q hq; rw [show U A 0 0 1 x1 2 = A 2 by simp [U_ne]]; exact hw.co.pr.force q hq
        · intro q hq; rw [show U A 0 0 1 x1 2 = A 2 by simp [U_ne]]; exact hw.co.pr.com q hq
        · rw [st_at, if_neg (by omega)]; exact tb'.nar a b ha hb
        · rw [st_at, if_neg (by omega)]; exact tb'.bare a b ha hb hab
      exact h.nowT (fun c h1 h4 h5 => (o c h4 h5).trans (st_oth vM 1 _ h1)) w tm
    · have hs : A 0 0 2 = 1 := hw.ci.st.elim (fun q => absurd q c) (fun q => q.1)
      unfold pX10_safety
      refine inY ⟨c1, c2⟩ ?_
      first | refine ⟨fun c => absurd c (by decide), fun _ => ?_⟩ | refine ⟨fun _ => ?_, fun c => absurd c (by decide)⟩
      exact ⟨fun e => absurd (m2.trans hs) e, fun _ => ⟨rfl, hInv⟩⟩
  · first | refine ⟨fun c => absurd c (by decide), fun _ => ?_⟩ | refine ⟨fun _ => ?_, fun c => absurd c (by decide)⟩
    unfold pX10_safety
    refine inN c ?_
    first | refine ⟨fun c => absurd c (by decide), fun _ => ?_⟩ | refine ⟨fun _ => ?_, fun c => absurd c (by decide)⟩
    exact ⟨rfl, hInv⟩
theorem sim_undo : Sim_X9_undo Inv := by
  intro v vNc vNcj vNcs vNcp vNcr vNw vNg vNn vNq vIc vIcj vIcs vIcp vIcr vIw vIg vIn vIq vT vTj vTs vTp vTr vx vt gt vM gM hInv _
  obtain ⟨B, t, N, K, A, h⟩ := id hInv
  have hw := h.now
  have hN := hw.ci.hN
  have hK := hw.ci.hK
  have hM := hw.n13
  have hP := hw.n14
  unfold pX9_undo
  rw [h.kept]
  refine ⟨fun c => ?_, fun c => ?_⟩
  · obtain ⟨_, t2, N2, K2, A2, w2⟩ := h.img.resolve_left c
    refine c_copyWo w2 hw.co.rr.most hw.gt.most hw.nt.most hw.pl.most (fun c' j' s' p' r' w' g' n' q' k => ?_)
    unfold pX10_undo
    refine ⟨fun _ => m_copy (fun f hf => ?_), fun e => absurd e c⟩
    have ab : Ab f A2 := w2.ab.agree hf
    refine m_clears w2.ci w2.z (by rw [sa_self]; exact ab) (fun M o tm => ?_)
    have e1 : M 1 = f := by rw [o 1 (by decide) (by decide), sa_self]
    have kw := k f ab
    refine ⟨?_, h.nowT (fun c h1 h4 h5 => (o c h4 h5).trans (sa_ne _ _ h1)) (by rw [e1]; exact kw) tm⟩
    rw [e1, kw.co.cf.sec, ab.gl (k := 3) (by decide)]
  · unfold pX10_undo
    exact ⟨fun e => absurd c e, fun _ => ⟨rfl, hInv⟩⟩

theorem St.back {B t N K : Nat} {A : AS} {v vNc vNcj vNcs vNcp vNcr vNw vNg vNn vNq vIc vIcj vIcs vIcp vIcr vIw vIg vIn vIq vT vTj vTs vTp vTr vx : Lf} {vt : Nat → Lf} {gt : Nat → Lg} {vM : Lf} {gM : Lg} {vT' vTj' vTs' vTp' vTr' M' : Lf} (h : St B t N K A v vNc vNcj vNcs vNcp vNcr vNw vNg vNn vNq vIc vIcj vIcs vIcp vIcr vIw vIg vIn vIq vT vTj vTs vTp vTr vx vt gt vM gM) (o : ∀ c, c ≠ 1 → c ≠ 3 → M' c = vM c) (e : ∀ x, x < 372 → M' 1 x = vM 1 x) (hr : vTr' 0 1 = 24) : Inv v vNc vNcj vNcs vNcp vNcr vNw vNg vNn vNq vIc vIcj vIcs vIcp vIcr vIw vIg vIn vIq vT' vTj' vTs' vTp' vTr' vx vt gt M' gM := by
  have w := h.now
  refine ⟨B, t, N, K, A, ⟨w.ab.agree e, w.tb, w.co, w.ci, w.tb', w.sp, w.wv, w.gt, w.nt, w.pl, w.z, w.bd⟩, ?_, h.hB, h.cnt, ?_, ?_, ?_, ⟨hr, h.most.2⟩, ?_, ?_⟩
  · rw [o 4 (by decide) (by decide), o 5 (by decide) (by decide)]; exact h.tab
  · rw [o 0 (by decide) (by decide)]; exact h.cntM
  · rw [o 0 (by decide) (by decide)]; exact h.kept
  · rw [o 0 (by decide) (by decide), o 2 (by decide) (by decide)]; exact h.img
  · exact ⟨by rw [o 0 (by decide) (by decide)]; exact h.txt.n, by rw [o 0 (by decide) (by decide), o 6 (by decide) (by decide)]; exact h.txt.ok⟩
  · exact ⟨by rw [o 8 (by decide) (by decide), o 9 (by decide) (by decide)]; exact h.tp.so, by rw [o 9 (by decide) (by decide)]; exact h.tp.le, by rw [o 9 (by decide) (by decide)]; exact h.tp.at'⟩
abbrev Bk (v M : Lf) : Prop := (∀ c, c ≠ 1 → c ≠ 3 → M c = v c) ∧ (∀ x, x < 372 → M 1 x = v 1 x)
theorem Bk.o {v M : Lf} (h : Bk v M) : ∀ c, c ≠ 1 → c ≠ 3 → M c = v c := h.1
theorem Bk.e {v M : Lf} (h : Bk v M) : ∀ x, x < 372 → M 1 x = v 1 x := h.2
theorem Bk.mk' {v : Lf} {g S g2 : Nat → Int32} (hg : ∀ x, x < 372 → g x = v 1 x) (h2 : ∀ x, x < 372 → g2 x = sa (sa v 3 g) 1 S 3 x) : Bk v (sa (sa (sa v 3 g) 1 S) 1 g2) := by
  refine ⟨fun c h1 h3 => ?_, fun x hx => ?_⟩
  · rw [sa_ne _ _ h1, sa_ne _ _ h1, sa_ne _ _ h3]
  · rw [sa_self, h2 x hx, sa_ne _ _ (by decide), sa_self, hg x hx]
theorem m_run {v : Lf} {t N K n : Nat} {A : AS} (ht : t + n < 2 ^ 30) (hI : CoI t N K A) (hs : A 0 0 2 = 1) (h : Ab (v 1) A) {Q : Lf → Prop} (q : ∀ S', Ab S' (lp (fun _ => secA (v 4) N K) n 0 A) → Q (sa v 1 S')) : pX10_passes v (nI n) Q :=
  un (P := fun z => pX10_passes z (nI n) Q) (m_passes' ht hI hs h q)
theorem sim_would : Sim_X9_would Inv := by
  intro v vNc vNcj vNcs vNcp vNcr vNw vNg vNn vNq vIc vIcj vIcs vIcp vIcr vIw vIg vIn vIq vT vTj vTs vTp vTr vx vt gt vM gM hInv x1 x2
  obtain ⟨B, t, N, K, A, h⟩ := id hInv
  have hw := h.now
  have hN := hw.ci.hN
  have hK := hw.ci.hK
  have hM := hw.n13
  have hP := hw.n14
  unfold pX9_would
  have m0 : vM 1 2 = A 0 0 2 := hw.ab.gl (k := 2) (by decide)
  refine w_in (fun c1 c2 => ?_) (fun c => ?_)
  · first | refine ⟨fun c => absurd c (by decide), fun _ => ?_⟩ | refine ⟨fun _ => ?_, fun c => absurd c (by decide)⟩
    refine c_refusal (M := 99) (T := 1) h.cnt h.hB (by decide) (by decide) hw.co.cf (fun e => ?_) (fun n hn e s => ?_) (fun n hn e s l => ?_) (fun n hn e s l => ?_)
    · first | refine ⟨fun c => absurd c (by decide), fun _ => ?_⟩ | refine ⟨fun _ => ?_, fun c => absurd c (by decide)⟩
      unfold pX10_would
      refine inY ⟨c1, c2⟩ ?_
      first | refine ⟨fun c => absurd c (by decide), fun _ => ?_⟩ | refine ⟨fun _ => ?_, fun c => absurd c (by decide)⟩
      refine inN (fun c => e ((up_iff (M := 99) (by decide) x1).mp c)) ?_
      first | refine ⟨fun c => absurd c (by decide), fun _ => ?_⟩ | refine ⟨fun _ => ?_, fun c => absurd c (by decide)⟩
      exact ⟨rfl, hInv⟩
    · first | refine ⟨fun c => absurd c (by decide), fun _ => ?_⟩ | refine ⟨fun _ => ?_, fun c => absurd c (by decide)⟩
      unfold pX10_would
      refine inY ⟨c1, c2⟩ ?_
      first | refine ⟨fun c => absurd c (by decide), fun _ => ?_⟩ | refine ⟨fun _ => ?_, fun c => absurd c (by decide)⟩
      refine inY ((up_iff (M := 99) (by decide) x1).mpr ⟨n, hn, e⟩) ?_
      first | refine ⟨fun c => absurd c (by decide), fun _ => ?_⟩ | refine ⟨fun _ => ?_, fun c => absurd c (by decide)⟩
      rw [m0]
      exact ⟨fun c => absurd s c, fun _ => ⟨rfl, hInv⟩⟩
    · first | refine ⟨fun c => absurd c (by decide), fun _ => ?_⟩ | refine ⟨fun _ => ?_, fun c => absurd c (by decide)⟩
      unfold pX10_would
      refine inY ⟨c1, c2⟩ ?_
      first | refine ⟨fun c => absurd c (by decide), fun _ => ?_⟩ | refine ⟨fun _ => ?_, fun c => absurd c (by decide)⟩
      refine inY ((up_iff (M := 99) (by decide) x1).mpr ⟨n, hn, e⟩) ?_
      first | refine ⟨fun c => absurd c (by decide), fun _ => ?_⟩ | refine ⟨fun _ => ?_, fun c => absurd c (by decide)⟩
      rw [m0]
      refine ⟨fun _ => ?_, fun c => absurd c s⟩
      subst e
      refine m_counts h.cntM h.hB (by omega) (fun l2 => absurd (by omega) l) (fun _ => ?_)
      first | refine ⟨fun c => absurd c (by decide), fun _ => ?_⟩ | refine ⟨fun _ => ?_, fun c => absurd c (by decide)⟩
      exact ⟨rfl, hInv⟩
    · first | refine ⟨fun c => absurd c (by decide), fun _ => ?_⟩ | refine ⟨fun _ => ?_, fun c => absurd c (by decide)⟩
      subst e
      rw [Nat.mul_one] at l ⊢
      have hs : A 0 0 2 = 1 := hw.ci.st.elim (fun q => absurd q s) (fun q => q.1)
      have h2 := h.count (B2 := B + n) (by omega) l
      have w2 := h2.now
      have tb := hw.tb
      obtain ⟨k, hk, rfl⟩ := (up_iff (M := 18) (by decide) x2).mp ⟨c1, c2⟩
      refine c_copyC hw.co hw.ci hw.tb' h.most.1 (fun c' j' s' p' r' co tb' _ => ?_)
      have cr := ClR.of hw.ci co.jr tb' h.tab
      refine c_passes (C := vM 4) cr (by omega) co hw.ci hs (fun c3 s3 p3 r3 h3 => ?_)
      obtain ⟨i3, _⟩ := CoI.passes (K := K) (vM 4) n 0 (by omega) hw.ci hs
      obtain ⟨x, f1, f2⟩ := fact_both (by omega) i3 k hk
      refine f1 _ _ _ _ _ h3 _ ?_
      unfold pX10_would
      refine inY ⟨c1, c2⟩ ?_
      first | refine ⟨fun c => absurd c (by decide), fun _ => ?_⟩ | refine ⟨fun _ => ?_, fun c => absurd c (by decide)⟩
      refine inY ((up_iff (M := 99) (by decide) _).mpr ⟨n, hn, rfl⟩) ?_
      first | refine ⟨fun c => absurd c (by decide), fun _ => ?_⟩ | refine ⟨fun _ => ?_, fun c => absurd c (by decide)⟩
      rw [m0]
      refine ⟨fun _ => ?_, fun c => absurd c s⟩
      refine m_counts h.cntM h.hB (by omega) (fun l2 => ?_) (fun c => absurd l c)
      first | refine ⟨fun c => absurd c (by decide), fun _ => ?_⟩ | refine ⟨fun _ => ?_, fun c => absurd c (by decide)⟩
      refine m_thinks (fun g hg => m_run (by omega) hw.ci hs (by rw [sa_ne _ _ (by decide)]; exact w2.ab) (fun S' hS => ?_))
      have e4 : sa (st vM 0 4 (nI (B + n))) 3 g 4 = vM 4 := (sa_ne _ _ (by decide)).trans (st_oth vM 4 _ (by decide))
      rw [e4] at hS
      refine f2 _ (by rw [sa_self]; exact hS) _ (m_forgets (fun g2 hg2 => ?_))
      have bk := Bk.mk' hg hg2
      exact ⟨rfl, h2.back bk.o bk.e h3.rr.most⟩
  · first | refine ⟨fun c => absurd c (by decide), fun _ => ?_⟩ | refine ⟨fun _ => ?_, fun c => absurd c (by decide)⟩
    unfold pX10_would
    refine inN c ?_
    first | refine ⟨fun c => absurd c (by decide), fun _ => ?_⟩ | refine ⟨fun _ => ?_, fun c => absurd c (by decide)⟩
    exact ⟨rfl, hInv⟩
noncomputable def dayA (C : Nat → Int32) (N K : Nat) (sd : Int32) (n : Nat) (A : AS) : Int32 := lp (fun _ => secA C N K) n 0 (U A 0 0 0 sd) 0 0 7 - A 0 0 7
theorem CoI.seed {t N K : Nat} {A : AS} (h : CoI t N K A) (x : Int32) : CoI t N K (U A 0 0 0 x) := by
  refine h.upd (fun g h0 _ _ _ => by simp [U_at, h0]) (fun q => by simp [U_at]) (by simp [U_ne]) (fun a ha => ?_) (fun a ha c => .inl (by simpa [U_at] using c))
  rw [U_ne _ _ _ _ (by decide)]; exact h.sg a ha
theorem CoR.seed {N K : Nat} {c j s p r : Lf} {A : AS} (h : CoR N K c j s p r A) (x : Int32) : CoR N K (st c 0 12 x) j s p r (U A 0 0 0 x) := by
  refine h.step ?_ (h.sr.fr (by simp [U_ne])) (by simp [U_at]) (by simp [U_at]) (fun a w hw => by simp [U_at]) (by simp [U_ne]) (by simp [U_ne])
  refine ⟨?_, ?_, ?_, ?_, ?_, ?_, ?_, ?_, ?_, ?_, ?_, ?_⟩ <;> simp [st_at, U_at, h.cf.st, h.cf.sec, h.cf.cur, h.cf.cut, h.cf.em, h.cf.wt, h.cf.sv, h.cf.ls, h.cf.sd, h.cf.cy, h.cf.off, h.cf.spl]
theorem c_day {t N K n : Nat} {c j s p r v1 v2 v3 v4 v5 : Lf} {A : AS} {C D : Nat → Int32} (ht : t + n < 2 ^ 30) (co : CoR N K c j s p r A) (hI : CoI t N K A) (tb : TbR N j A) (tm : MtR N A C D) (hs : A 0 0 2 = 1) (hr : v5 0 1 = 24) {sd : Int32} {Q : Int32 → Lf → Lf → Lf → Lf → Lf → Prop} (q : ∀ c' j' s' p' r', r' 0 1 = 24 → Q (dayA C N K sd n A) c' j' s' p' r') : pX9_waitedOnDay c j s p r v1 v2 v3 v4 v5 sd (nI n) Q := by
  unfold pX9_waitedOnDay
  refine c_copyC co hI tb hr (fun c' j' s' p' r' co' tb' _ => ?_)
  have cr := ClR.of hI co'.jr tb' tm
  refine c_passes (C := C) cr ht (co'.seed sd) (hI.seed sd) (by simp [U_at, hs]) (fun c3 s3 p3 r3 h3 => ?_)
  rw [h3.cf.wt, co.cf.wt]
  exact q _ _ _ _ _ h3.rr.most
theorem m_day {v : Lf} {t N K n : Nat} {A : AS} (ht : t + n < 2 ^ 30) (hI : CoI t N K A) (hs : A 0 0 2 = 1) (h : Ab (v 1) A) {sd : Int32} {Q : Int32 → Lf → Prop} (q : ∀ M, Bk v M → Q (dayA (v 4) N K sd n A) M) : pX10_dayOf v sd (nI n) Q := by
  unfold pX10_dayOf
  refine m_thinks (fun g hg => ?_)
  have h1 : Ab (sa v 3 g 1) A := by rw [sa_ne _ _ (by decide)]; exact h
  rw [st_sa]
  refine m_passes' ht (hI.seed sd) (by simp [U_at, hs]) (h1.ug (k := 0) (by decide) sd) (fun S' hS => m_forgets (fun g2 hg2 => ?_))
  rw [sa_ne _ _ (by decide : (4 : Nat) ≠ 3)] at hS
  rw [sa_self, hS.gl (k := 7) (by decide), h1.gl (k := 7) (by decide)]
  exact q _ (Bk.mk' hg hg2)
theorem sim_day : Sim_X9_day Inv := by
  intro v vNc vNcj vNcs vNcp vNcr vNw vNg vNn vNq vIc vIcj vIcs vIcp vIcr vIw vIg vIn vIq vT vTj vTs vTp vTr vx vt gt vM gM hInv x1 x2
  obtain ⟨B, t, N, K, A, h⟩ := id hInv
  have hw := h.now
  have hN := hw.ci.hN
  have hK := hw.ci.hK
  have hM := hw.n13
  have hP := hw.n14
  unfold pX9_day
  have m0 : vM 1 2 = A 0 0 2 := hw.ab.gl (k := 2) (by decide)
  refine c_refusal (M := 99) (T := 1) h.cnt h.hB (by decide) (by decide) hw.co.cf (fun e => ?_) (fun n hn e s => ?_) (fun n hn e s l => ?_) (fun n hn e s l => ?_)
  · first | refine ⟨fun c => absurd c (by decide), fun _ => ?_⟩ | refine ⟨fun _ => ?_, fun c => absurd c (by decide)⟩
    unfold pX10_day
    refine inN (fun c => e ((up_iff (M := 99) (by decide) x2).mp c)) ?_
    first | refine ⟨fun c => absurd c (by decide), fun _ => ?_⟩ | refine ⟨fun _ => ?_, fun c => absurd c (by decide)⟩
    exact ⟨rfl, hInv⟩
  · first | refine ⟨fun c => absurd c (by decide), fun _ => ?_⟩ | refine ⟨fun _ => ?_, fun c => absurd c (by decide)⟩
    unfold pX10_day
    refine inY ((up_iff (M := 99) (by decide) x2).mpr ⟨n, hn, e⟩) ?_
    first | refine ⟨fun c => absurd c (by decide), fun _ => ?_⟩ | refine ⟨fun _ => ?_, fun c => absurd c (by decide)⟩
    rw [m0]
    exact ⟨fun c => absurd s c, fun _ => ⟨rfl, hInv⟩⟩
  · first | refine ⟨fun c => absurd c (by decide), fun _ => ?_⟩ | refine ⟨fun _ => ?_, fun c => absurd c (by decide)⟩
    unfold pX10_day
    refine inY ((up_iff (M := 99) (by decide) x2).mpr ⟨n, hn, e⟩) ?_
    first | refine ⟨fun c => absurd c (by decide), fun _ => ?_⟩ | refine ⟨fun _ => ?_, fun c => absurd c (by decide)⟩
    rw [m0]
    refine ⟨fun _ => ?_, fun c => absurd c s⟩
    subst e
    refine m_counts h.cntM h.hB (by omega) (fun l2 => absurd (by omega) l) (fun _ => ?_)
    first | refine ⟨fun c => absurd c (by decide), fun _ => ?_⟩ | refine ⟨fun _ => ?_, fun c => absurd c (by decide)⟩
    exact ⟨rfl, hInv⟩
  · first | refine ⟨fun c => absurd c (by decide), fun _ => ?_⟩ | refine ⟨fun _ => ?_, fun c => absurd c (by decide)⟩
    subst e
    rw [Nat.mul_one] at l ⊢
    have hs : A 0 0 2 = 1 := hw.ci.st.elim (fun q => absurd q s) (fun q => q.1)
    have h2 := h.count (B2 := B + n) (by omega) l
    have w2 := h2.now
    have tb := hw.tb
    refine c_day (by omega) hw.co hw.ci hw.tb' h.tab hs h.most.1 (fun c' j' s' p' r' hr' => ?_)
    unfold pX10_day
    refine inY ((up_iff (M := 99) (by decide) _).mpr ⟨n, hn, rfl⟩) ?_
    first | refine ⟨fun c => absurd c (by decide), fun _ => ?_⟩ | refine ⟨fun _ => ?_, fun c => absurd c (by decide)⟩
    rw [m0]
    refine ⟨fun _ => ?_, fun c => absurd c s⟩
    refine m_counts h.cntM h.hB (by omega) (fun l2 => ?_) (fun c => absurd l c)
    first | refine ⟨fun c => absurd c (by decide), fun _ => ?_⟩ | refine ⟨fun _ => ?_, fun c => absurd c (by decide)⟩
    refine m_day (by omega) hw.ci hs w2.ab (fun M' bk => ?_)
    rw [st_oth vM 4 _ (by decide : (4 : Nat) ≠ 0)]
    exact ⟨rfl, h2.back bk.o bk.e hr'⟩

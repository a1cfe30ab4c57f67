theorem Wo.mono {B B' t N K : Nat} {A : AS} {c j s p r w g n q : Lf} {S : Nat → Int32} (h : Wo B t N K A c j s p r w g n q S) (e : B ≤ B') : Wo B' t N K A c j s p r w g n q S :=
  ⟨h.ab, Nat.le_trans h.tb e, h.co, h.ci, h.tb', h.sp, h.wv, h.gt, h.nt, h.pl, h.z, h.bd⟩
theorem St.count {B B2 t N K : Nat} {A : AS} {v vNc vNcj vNcs vNcp vNcr vNw vNg vNn vNq vIc vIcj vIcs vIcp vIcr vIw vIg vIn vIq vT vTj vTs vTp vTr vx : Lf} {vt : Nat → Lf} {gt : Nat → Lg} {vM : Lf} {gM : Lg} (h : St B t N K A v vNc vNcj vNcs vNcp vNcr vNw vNg vNn vNq vIc vIcj vIcs vIcp vIcr vIw vIg vIn vIq vT vTj vTs vTp vTr vx vt gt vM gM) (e : B ≤ B2) (e2 : B2 ≤ 12000) : St B2 t N K A (st v 0 11 (nI B2)) vNc vNcj vNcs vNcp vNcr vNw vNg vNn vNq vIc vIcj vIcs vIcp vIcr vIw vIg vIn vIq vT vTj vTs vTp vTr vx vt gt (st vM 0 4 (nI B2)) gM := by
  have o : ∀ c, c ≠ 0 → st vM 0 4 (nI B2) c = vM c := fun c hc => st_oth vM 4 _ hc
  refine ⟨?_, ?_, e2, ?_, ?_, ?_, ?_, h.most, ?_, ?_⟩
  · rw [o 1 (by decide)]; exact h.now.mono e
  · rw [o 4 (by decide), o 5 (by decide)]; exact h.tab
  · rw [st_at, if_pos ⟨rfl, rfl⟩]
  · rw [st_at, if_pos ⟨rfl, rfl⟩]
  · rw [st_at, if_neg (by decide), st_at, if_neg (by decide)]; exact h.kept
  · rw [st_at, if_neg (by decide), o 2 (by decide)]
    exact h.img.imp id (fun ⟨a, t2, N2, K2, A2, b⟩ => ⟨a, t2, N2, K2, A2, b.mono e⟩)
  · refine ⟨?_, ?_⟩
    · rw [st_at, if_neg (by decide)]; exact h.txt.n
    · rw [st_at, if_neg (by decide), o 6 (by decide)]; exact h.txt.ok
  · exact ⟨by rw [o 8 (by decide), o 9 (by decide)]; exact h.tp.so, by rw [o 9 (by decide)]; exact h.tp.le, by rw [o 9 (by decide)]; exact h.tp.at'⟩
theorem c_take {v : Lf} {B n : Nat} (cnt : v 0 11 = nI B) (hB : B ≤ 12000) (hn : n < 2 ^ 30) {Q : Int32 → Lf → Prop} (q1 : B + n ≤ 12000 → Q 1 (st v 0 11 (nI (B + n)))) (q0 : ¬ B + n ≤ 12000 → Q 0 v) : pX9_takeSeconds v (nI n) Q := by
  unfold pX9_takeSeconds
  rw [cnt, nI_add]
  have e := nle (a := B + n) (b := 12000) (by omega) (by decide)
  exact ⟨fun c => q1 (e.mp c), fun c => q0 (fun l => c (e.mpr l))⟩
theorem m_counts {v : Lf} {B n : Nat} (cnt : v 0 4 = nI B) (hB : B ≤ 12000) (hn : n < 2 ^ 30) {Q : Int32 → Lf → Prop} (q1 : B + n ≤ 12000 → Q 1 (st v 0 4 (nI (B + n)))) (q0 : ¬ B + n ≤ 12000 → Q 0 v) : pX10_counts v (nI n) Q := by
  unfold pX10_counts
  rw [cnt, nI_add]
  have e := nle (a := B + n) (b := 12000) (by omega) (by decide)
  exact ⟨fun c => q1 (e.mp c), fun c => q0 (fun l => c (e.mpr l))⟩
theorem up_iff {M : Nat} (hM : M < 2 ^ 31) (x : Int32) : (0 ≤ x ∧ x ≤ nI M) ↔ ∃ n, n ≤ M ∧ x = nI n := by
  have := bd_iff (l := 0) (h := M) (by decide) hM x
  exact this.trans ⟨fun ⟨a, _, b, c⟩ => ⟨a, b, c⟩, fun ⟨a, b, c⟩ => ⟨a, by omega, b, c⟩⟩
theorem c_refusal {v c : Lf} {A : AS} {B M T : Nat} (cnt : v 0 11 = nI B) (hB : B ≤ 12000) (hM : M < 2 ^ 10) (hT : T < 2 ^ 10) (cf : CF c A) {x : Int32} {Q : Int32 → Lf → Prop} (q2 : (¬ ∃ n, n ≤ M ∧ x = nI n) → Q (-2) v) (q3 : ∀ n, n ≤ M → x = nI n → A 0 0 2 = 0 → Q (-3) v) (q4 : ∀ n, n ≤ M → x = nI n → ¬ A 0 0 2 = 0 → ¬ B + n * T ≤ 12000 → Q (-4) v) (q0 : ∀ n, n ≤ M → x = nI n → ¬ A 0 0 2 = 0 → B + n * T ≤ 12000 → Q 0 (st v 0 11 (nI (B + n * T)))) : pX9_refusalOf v c x (nI M) (nI T) Q := by
  unfold pX9_refusalOf
  rw [cf.st]
  refine w_in (fun c1 c2 => ?_) (fun c1 => ?_)
  · first | refine ⟨fun c => absurd c (by decide), fun _ => ?_⟩ | refine ⟨fun _ => ?_, fun c => absurd c (by decide)⟩
    obtain ⟨n, hn, e⟩ := (up_iff (by omega) x).mp ⟨c1, c2⟩
    refine ⟨fun s => ?_, fun s => q3 n hn e s⟩
    subst e
    rw [pk_mul]
    have : n * T ≤ 1024 * 1024 := Nat.mul_le_mul (by omega) (by omega)
    exact c_take cnt hB (by omega) (fun l => by (first | refine ⟨fun c => absurd c (by decide), fun _ => ?_⟩ | refine ⟨fun _ => ?_, fun c => absurd c (by decide)⟩); exact q0 n hn rfl s l) (fun l => by (first | refine ⟨fun c => absurd c (by decide), fun _ => ?_⟩ | refine ⟨fun _ => ?_, fun c => absurd c (by decide)⟩); exact q4 n hn rfl s l)
  · first | refine ⟨fun c => absurd c (by decide), fun _ => ?_⟩ | refine ⟨fun _ => ?_, fun c => absurd c (by decide)⟩
    exact q2 (fun e => c1 ((up_iff (by omega) x).mpr e))
theorem sim_seed : Sim_X9_seed Inv := by
  intro v vNc vNcj vNcs vNcp vNcr vNw vNg vNn vNq vIc vIcj vIcs vIcp vIcr vIw vIg vIn vIq vT vTj vTs vTp vTr vx vt gt vM gM hInv x1
  obtain ⟨B, t, N, K, A, h⟩ := id hInv
  have hw := h.now
  have hN := hw.ci.hN
  have hK := hw.ci.hK
  have hM := hw.n13
  have hP := hw.n14
  unfold pX9_seed pX10_seed
  rw [hw.co.cf.sd, hw.ab.gl (k := 0) (by decide), st_sa]
  refine ⟨rfl, h.nowC (t' := t) (N' := N) (K' := K) (A' := U A 0 0 0 x1) (hw.eng (hw.ab.ug (by decide) x1) hw.tb ?_ ?_ (fun a _ w _ => by simp [U_at]) (fun g h1 _ => ?_) (fun x hx => by rw [U_ne _ _ _ _ (by omega)]) (fun q => hw.sp (by simpa [U_at] using q)) (hw.bd.same (by simp [U_at]) (by simp [U_at]) (by simp [U_at]) (by simp [U_ne]))) (h.tab.fr hw.ci (fun a _ w _ => by simp [U_at]) (by simp [U_at]))⟩
  · refine hw.co.step ?_ (hw.co.sr.fr (by simp [U_ne])) (by simp [U_at]) (by simp [U_at]) (fun a w hw => by simp [U_at]) (by simp [U_ne]) (by simp [U_ne])
    have h := hw.co
    refine ⟨?_, ?_, ?_, ?_, ?_, ?_, ?_, ?_, ?_, ?_, ?_, ?_⟩ <;> simp [st_at, U_at, h.cf.st, h.cf.sec, h.cf.cur, h.cf.cut, h.cf.em, h.cf.wt, h.cf.sv, h.cf.ls, h.cf.sd, h.cf.cy, h.cf.off, h.cf.spl]
  · refine hw.ci.upd (fun g h0 _ _ _ => by simp [U_at, h0]) (fun q => by simp [U_at]) (by simp [U_ne]) (fun a ha => ?_) (fun a ha c => .inl (by simpa [U_at] using c))
    rw [U_ne _ _ _ _ (by decide)]; exact hw.ci.sg a ha
  · simp only [U_at]; rw [if_neg (by omega)]
theorem sim_pass : Sim_X9_pass Inv := by
  intro v vNc vNcj vNcs vNcp vNcr vNw vNg vNn vNq vIc vIcj vIcs vIcp vIcr vIw vIg vIn vIq vT vTj vTs vTp vTr vx vt gt vM gM hInv x1
  obtain ⟨B, t, N, K, A, h⟩ := id hInv
  have hw := h.now
  have hN := hw.ci.hN
  have hK := hw.ci.hK
  have hM := hw.n13
  have hP := hw.n14
  unfold pX9_pass
  have hMw := hw.ab
  have m0 : vM 1 2 = A 0 0 2 := hw.ab.gl (k := 2) (by decide)
  refine c_refusal (M := 99) (T := 1) h.cnt h.hB (by decide) (by decide) hw.co.cf (fun e => ?_) (fun n hn e s => ?_) (fun n hn e s l => ?_) (fun n hn e s l => ?_)
  · first | refine ⟨fun c => absurd c (by decide), fun _ => ?_⟩ | refine ⟨fun _ => ?_, fun c => absurd c (by decide)⟩
    unfold pX10_pass
    refine inN (fun c => e ((up_iff (M := 99) (by decide) x1).mp c)) ?_
    first | refine ⟨fun c => absurd c (by decide), fun _ => ?_⟩ | refine ⟨fun _ => ?_, fun c => absurd c (by decide)⟩
    exact ⟨rfl, hInv⟩
  · first | refine ⟨fun c => absurd c (by decide), fun _ => ?_⟩ | refine ⟨fun _ => ?_, fun c => absurd c (by decide)⟩
    unfold pX10_pass
    refine inY ((up_iff (M := 99) (by decide) x1).mpr ⟨n, hn, e⟩) ?_
    first | refine ⟨fun c => absurd c (by decide), fun _ => ?_⟩ | refine ⟨fun _ => ?_, fun c => absurd c (by decide)⟩
    rw [m0]
    exact ⟨fun c => absurd s c, fun _ => ⟨rfl, hInv⟩⟩
  · first | refine ⟨fun c => absurd c (by decide), fun _ => ?_⟩ | refine ⟨fun _ => ?_, fun c => absurd c (by decide)⟩
    unfold pX10_pass
    refine inY ((up_iff (M := 99) (by decide) x1).mpr ⟨n, hn, e⟩) ?_
    first | refine ⟨fun c => absurd c (by decide), fun _ => ?_⟩ | refine ⟨fun _ => ?_, fun c => absurd c (by decide)⟩
    rw [m0]
    refine ⟨fun _ => ?_, fun c => absurd c s⟩
    subst e
    refine m_counts h.cntM h.hB (by omega) (fun l2 => absurd (by omega) l) (fun _ => ?_)
    first | refine ⟨fun c => absurd c (by decide), fun _ => ?_⟩ | refine ⟨fun _ => ?_, fun c => absurd c (by decide)⟩
    exact ⟨rfl, hInv⟩
  · first | refine ⟨fun c => absurd c (by decide), fun _ => ?_⟩ | refine ⟨fun _ => ?_, fun c => absurd c (by decide)⟩
    subst e
    rw [Nat.mul_one] at l ⊢
    have hs : A 0 0 2 = 1 := hw.ci.st.elim (fun q => absurd q s) (fun q => q.1)
    have cr := ClR.of hw.ci hw.co.jr hw.tb' h.tab
    have tb := hw.tb
    refine c_passes (C := vM 4) cr (by omega) hw.co hw.ci hs (fun c' s' p' r' h' => ?_)
    unfold pX10_pass
    refine inY ((up_iff (M := 99) (by decide) _).mpr ⟨n, hn, rfl⟩) ?_
    first | refine ⟨fun c => absurd c (by decide), fun _ => ?_⟩ | refine ⟨fun _ => ?_, fun c => absurd c (by decide)⟩
    rw [m0]
    refine ⟨fun _ => ?_, fun c => absurd c s⟩
    refine m_counts h.cntM h.hB (by omega) (fun l2 => ?_) (fun c => absurd l c)
    first | refine ⟨fun c => absurd c (by decide), fun _ => ?_⟩ | refine ⟨fun _ => ?_, fun c => absurd c (by decide)⟩
    have h2 := h.count (B2 := B + n) (by omega) l
    have w2 := h2.now
    refine un (P := fun z => pX10_passes z (nI n) _) (m_passes' (by omega) hw.ci hs w2.ab (fun S' hS => ?_))
    have e4 : st vM 0 4 (nI (B + n)) 4 = vM 4 := st_oth vM 4 _ (by decide)
    rw [e4] at hS
    obtain ⟨i', i2⟩ := CoI.passes (K := K) (vM 4) n 0 (by omega) hw.ci hs
    have fr := Fr.passes (vM 4) N K n A
    refine ⟨?_, ?_⟩
    · rw [sa_self, hS.gl (k := 8) (by decide), h'.cf.sv, hw.co.cf.sv, w2.ab.gl (k := 8) (by decide)]
    · exact h2.nowC (w2.eng hS (by omega) h' i' fr.kw fr.gl fr.f4 (fun q => absurd (i2.symm.trans q) (by decide)) (w2.bd.passes (vM 4) n 0 (by omega) hw.ci hs)) (h2.tab.fr hw.ci fr.kw (fr.one))

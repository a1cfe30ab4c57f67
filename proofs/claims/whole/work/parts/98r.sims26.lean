theorem top_ok : ∀ N, N < 9 → ((1 : Int32) <<< (nI N &&& 31)) - (1 : Int32) = nI (2 ^ N - 1) := by decide +kernel
theorem bt_high {z N i : Nat} (hz : z < 2 ^ N) (hi : N ≤ i) : bt (nI z) i = false := by
  unfold bt
  show (BitVec.ofNat 32 z).getLsbD i = false
  rw [BitVec.getLsbD_ofNat, Nat.testBit_lt_two_pow (Nat.lt_of_lt_of_le hz (Nat.pow_le_pow_right (by decide) hi))]
  simp
theorem and_0 {r x : Int32} {P : Nat → Prop} (h : Bits r P) : r &&& x = 0 ↔ ¬ ∃ i, i < 32 ∧ P i ∧ bt x i = true := by
  constructor
  · intro e ⟨i, hi, hp, hx⟩
    have : bt (r &&& x) i = true := by rw [b_and, (h i hi).mpr hp, hx]; rfl
    exact bt_ne0 this e
  · intro e
    by_cases c : r &&& x = 0
    · exact c
    · obtain ⟨i, hi, hb⟩ := ne0_bt c
      rw [b_and, Bool.and_eq_true] at hb
      exact absurd ⟨i, hi, (h i hi).mp hb.1, hb.2⟩ e
def twA (A : AS) (N : Nat) (x : Int32) (s : Nat) : Prop := bt x s = true ∧ ∃ i, i < N ∧ ¬ narA A s i = -5 ∧ bt x i = true
theorem tw_and {A : AS} {N : Nat} (hN : N ≤ 8) {x r : Int32} {s : Nat} (hs : bt x s = true) (hr : Bits r (fun b => b < N ∧ ¬ narA A s b = -5)) : ¬ r &&& x = 0 ↔ twA A N x s := by
  have e := and_0 (x := x) hr
  constructor
  · intro c
    have : ∃ i, i < 32 ∧ (i < N ∧ ¬ narA A s i = -5) ∧ bt x i = true := Classical.byContradiction (fun z => c (e.mpr z))
    obtain ⟨i, _, h2, h3⟩ := this
    exact ⟨hs, i, h2.1, h2.2, h3⟩
  · rintro ⟨_, i, h1, h2, h3⟩ c
    exact e.mp c ⟨i, by omega, ⟨h1, h2⟩, h3⟩
theorem tw_s {A : AS} {N : Nat} {x : Int32} {i : Nat} (f : ∀ s, s < i → ¬ twA A N x s) (n : ¬ twA A N x i) : ∀ s, s < i + 1 → ¬ twA A N x s := by
  intro s hs
  by_cases c : s = i
  · exact c ▸ n
  · exact f s (by omega)
theorem c_two {N : Nat} {j : Lf} {A : AS} (hN : N ≤ 8) (hj : JR N j A) (tb : TbR N j A) {x : Int32} {Q : Int32 → Prop} (q1 : (∃ s, s < N ∧ twA A N x s) → Q 1) (q0 : (¬ ∃ s, s < N ∧ twA A N x s) → Q 0) : pX1_twoMeetIn j x Q := by
  have L : ∀ (k i : Nat), i + k = N → (∀ s, s < i → ¬ twA A N x s) → pX1_twoMeetIn_L2 j x Q (k + 1) (nI i) := by
    intro k
    induction k with
    | zero =>
      intro i hi f
      exact hdE hj.n (by omega) (q0 (fun ⟨s, h1, h2⟩ => f s (by omega) h2))
    | succ k ih =>
      intro i hi f
      have nx : ¬ twA A N x i → pX1_twoMeetIn_J30 j x Q (fun x2 => pX1_twoMeetIn_L2 j x Q (k + 1) x2) (nI i) := by
        intro n
        unfold pX1_twoMeetIn_J30
        rw [nI_s]
        exact ih (i + 1) (by omega) (tw_s f n)
      refine hdG hj.n (by omega) (by omega) (c_isIn (by omega) (fun c1 => ?_) (fun c1 => ?_))
      · first | refine ⟨fun c => absurd c (by decide), fun _ => ?_⟩ | refine ⟨fun _ => ?_, fun c => absurd c (by decide)⟩
        refine c_meeters hN hj tb (by omega) (fun r hr => ?_)
        have e := tw_and hN c1 hr
        exact ⟨fun c2 => nx (fun y => e.mpr y c2), fun c2 => q1 ⟨i, by omega, e.mp c2⟩⟩
      · first | refine ⟨fun c => absurd c (by decide), fun _ => ?_⟩ | refine ⟨fun _ => ?_, fun c => absurd c (by decide)⟩
        exact nx (fun y => c1 y.1)
  exact ⟨N + 1, L N 0 (by omega) (fun s hs => by omega)⟩
theorem m_any {t N K : Nat} {v : Lf} {A : AS} {D : Nat → Int32} (hI : CoI t N K A) (h : Ab (v 1) A) (tm : MtR N A (v 4) D) {x : Int32} {Q : Int32 → Prop} (q1 : (∃ s, s < N ∧ twA A N x s) → Q 1) (q0 : (¬ ∃ s, s < N ∧ twA A N x s) → Q 0) : pX10_anyMeet v x Q := by
  have hN := hI.hN
  have hm : v 1 13 = nI N := (h.gl (k := 13) (by decide)).trans hI.m
  have L : ∀ (k i : Nat), i + k = N → (∀ s, s < i → ¬ twA A N x s) → pX10_anyMeet_L2 v x Q (k + 1) (nI i) := by
    intro k
    induction k with
    | zero =>
      intro i hi f
      exact hdE hm (by omega) (q0 (fun ⟨s, h1, h2⟩ => f s (by omega) h2))
    | succ k ih =>
      intro i hi f
      have nx : ¬ twA A N x i → pX10_anyMeet_J33 v x Q (fun x2 => pX10_anyMeet_L2 v x Q (k + 1) x2) (nI i) := by
        intro n
        unfold pX10_anyMeet_J33
        rw [nI_s]
        exact ih (i + 1) (by omega) (tw_s f n)
      refine hdG hm (by omega) (by omega) (m_has (by omega) (fun c1 => ?_) (fun c1 => ?_))
      · first | refine ⟨fun c => absurd c (by decide), fun _ => ?_⟩ | refine ⟨fun _ => ?_, fun c => absurd c (by decide)⟩
        refine m_meets hI h tm (by omega) (fun r hr => ?_)
        have e := tw_and hN c1 hr
        exact ⟨fun c2 => nx (fun y => e.mpr y c2), fun c2 => q1 ⟨i, by omega, e.mp c2⟩⟩
      · first | refine ⟨fun c => absurd c (by decide), fun _ => ?_⟩ | refine ⟨fun _ => ?_, fun c => absurd c (by decide)⟩
        exact nx (fun y => c1 y.1)
  exact ⟨N + 1, L N 0 (by omega) (fun s hs => by omega)⟩
def phA (A : AS) (K : Nat) (x y : Int32) : AS := U (U (U (U A 2 K 0 x) 2 K 1 y) 2 K 2 0) 0 0 14 (nI K + 1)
theorem CoI.phs {t N K : Nat} {A : AS} (h : CoI t N K A) (hK : K < 6) (h0 : A 0 0 2 = 0) {x y : Int32} (hx : ∀ i, N ≤ i → i < 32 → bt x i = false) : CoI t N (K + 1) (phA A K x y) := by
  have g : ∀ k, k ≠ 14 → phA A K x y 0 0 k = A 0 0 k := fun k hk => by simp [phA, U_at, hk]
  have e1 : phA A K x y 1 = A 1 := by simp [phA, U_ne]
  have e3 : phA A K x y 3 = A 3 := by simp [phA, U_ne]
  obtain ⟨s1, s2, s3, s4⟩ := h.st0 h0
  refine ⟨h.hN, by omega, ?_, ?_, ?_, .inl ?_, fun _ => ⟨?_, ?_, ?_, ?_⟩, .inl ?_, .inl ?_, ?_, fun q hq i h1 h2 => ?_, ?_, ?_, ?_⟩
  · rw [g _ (by decide)]; exact h.m
  · simp [phA, U_at, nI_s]
  · rw [g _ (by decide)]; exact h.sec
  · rw [g _ (by decide)]; exact h0
  · rw [g _ (by decide)]; exact s1
  · rw [g _ (by decide)]; exact s2
  · rw [g _ (by decide)]; exact s3
  · rw [e1]; exact s4
  · rw [g _ (by decide)]; exact s3
  · rw [g _ (by decide)]; exact s2
  · rw [e1]; exact h.sg
  · by_cases c : q = K
    · subst c
      have e : phA A q x y 2 q 0 = x := by simp [phA, U_at]
      rw [e]; exact hx i h1 h2
    · have e : phA A K x y 2 q 0 = A 2 q 0 := by simp [phA, U_at, c]
      rw [e]; exact h.ph q (by omega) i h1 h2
  · rw [g _ (by decide), e3]; exact h.rc
  · rw [g _ (by decide)]; exact h.cy
  · rw [g _ (by decide)]; exact h.sf
theorem CoR.phs {N K : Nat} {c j s p r : Lf} {A : AS} (h : CoR N K c j s p r A) (hK : K < 6) (x y : Int32) : CoR N (K + 1) c j s (st (st (st p 0 0 (nI K + 1)) 1 K x) 2 K y) r (phA A K x y) := by
  have g : ∀ k, k ≠ 14 → phA A K x y 0 0 k = A 0 0 k := fun k hk => by simp [phA, U_at, hk]
  have e1 : phA A K x y 1 = A 1 := by simp [phA, U_ne]
  have e3 : phA A K x y 3 = A 3 := by simp [phA, U_ne]
  refine ⟨?_, ⟨h.jr.n, ?_, ?_, ?_, ?_⟩, h.sr.fr e1, ⟨?_, fun q hq => ?_, fun q hq => ?_, fun q hq => ?_, fun q hq hq2 => ?_⟩, h.rr.fr (g _ (by decide)) e3⟩
  · exact ⟨by rw [g _ (by decide)]; exact h.cf.st, by rw [g _ (by decide)]; exact h.cf.sec, by rw [g _ (by decide)]; exact h.cf.cur, by rw [g _ (by decide)]; exact h.cf.cut, by rw [g _ (by decide)]; exact h.cf.em, by rw [g _ (by decide)]; exact h.cf.wt, by rw [g _ (by decide)]; exact h.cf.sv, by rw [g _ (by decide)]; exact h.cf.ls, by rw [g _ (by decide)]; exact h.cf.sd, by rw [g _ (by decide)]; exact h.cf.cy, by rw [g _ (by decide)]; exact h.cf.off, by rw [g _ (by decide)]; exact h.cf.spl⟩
  · rw [g _ (by decide)]; exact h.jr.sf
  · rw [e1]; exact h.jr.kind
  · rw [e1]; exact h.jr.len
  · rw [e1]; exact h.jr.cell
  · rw [st_at, if_neg (by omega), st_at, if_neg (by omega), st_at, if_pos ⟨rfl, rfl⟩, nI_s]
  · by_cases c : q = K
    · subst c; simp [st_at, phA, U_at]
    · have := h.pr.set q (by omega)
      simp [st_at, phA, U_at, c, this]
  · by_cases c : q = K
    · subst c; simp [st_at, phA, U_at]
    · have := h.pr.force q (by omega)
      simp [st_at, phA, U_at, c, this]
  · by_cases c : q = K
    · subst c
      have := h.pr.c0 q (by omega) hK
      simp [st_at, phA, U_at, this]
    · have := h.pr.com q (by omega)
      simp [st_at, phA, U_at, c, this]
  · have := h.pr.c0 q (by omega) hq2
    simp [st_at, this]
theorem ix216z (p : Nat) : (216 : Int32) + (3 : Int32) * nI p = nI (216 + 3 * p) := by
  show nI 216 + nI 3 * nI p = _
  rw [pk_mul, nI_add]

theorem sim_phase : Sim_X9_phase Inv := by
  intro v vNc vNcj vNcs vNcp vNcr vNw vNg vNn vNq vIc vIcj vIcs vIcp vIcr vIw vIg vIn vIq vT vTj vTs vTp vTr vx vt gt vM gM hInv x1 x2
  obtain ⟨B, t, N, K, A, h⟩ := id hInv
  have hw := h.now
  have hN := hw.ci.hN
  have hK := hw.ci.hK
  have hM := hw.n13
  have hP := hw.n14
  have m2 : vM 1 2 = A 0 0 2 := hw.ab.gl (k := 2) (by decide)
  have l8 : 2 ^ N ≤ 2 ^ 8 := Nat.pow_le_pow_right (by decide) hN
  have tp := top_ok N (by omega)
  have ii := bd_iff (l := 1) (h := 2 ^ N - 1) (by decide) (by omega) x1
  unfold pX9_phase
  rw [hw.co.jr.n, hw.co.cf.st, hw.co.pr.n, tp]
  refine w_in (fun c1 c2 => ?_) (fun c => ?_)
  · first | refine ⟨fun c => absurd c (by decide), fun _ => ?_⟩ | refine ⟨fun _ => ?_, fun c => absurd c (by decide)⟩
    obtain ⟨z, hz1, hz2, ez⟩ := ii.mp ⟨c1, c2⟩
    refine w_in (fun d1 d2 => ?_) (fun d => ?_)
    · first | refine ⟨fun c => absurd c (by decide), fun _ => ?_⟩ | refine ⟨fun _ => ?_, fun c => absurd c (by decide)⟩
      have pre : ∀ Q : Int32 → Lf → Prop, (((vM 1 2) = (1 : Int32) → (Q (-3 : Int32) vM)) ∧ (¬ (vM 1 2) = (1 : Int32) → (pX10_anyMeet vM x1 (fun r8 => ((r8 = 0 → ((¬ (vM 1 14) = (6 : Int32) → (vp_in ((216 : Int32) + ((3 : Int32) * (vM 1 14))) 372 ∧ (vp_in (((216 : Int32) + ((3 : Int32) * (vM 1 14))) + (1 : Int32)) 372 ∧ (vp_in (((216 : Int32) + ((3 : Int32) * (vM 1 14))) + (2 : Int32)) 372 ∧ (Q (((st (st (st (st vM 1 (((216 : Int32) + ((3 : Int32) * (vM 1 14))).toNatClampNeg) x1) 1 ((((216 : Int32) + ((3 : Int32) * (vM 1 14))) + (1 : Int32)).toNatClampNeg) x2) 1 ((((216 : Int32) + ((3 : Int32) * (vM 1 14))) + (2 : Int32)).toNatClampNeg) (0 : Int32)) 1 14 (((st (st (st vM 1 (((216 : Int32) + ((3 : Int32) * (vM 1 14))).toNatClampNeg) x1) 1 ((((216 : Int32) + ((3 : Int32) * (vM 1 14))) + (1 : Int32)).toNatClampNeg) x2) 1 ((((216 : Int32) + ((3 : Int32) * (vM 1 14))) + (2 : Int32)).toNatClampNeg) (0 : Int32)) 1 14) + (1 : Int32))) 1 14) - (1 : Int32)) (st (st (st (st vM 1 (((216 : Int32) + ((3 : Int32) * (vM 1 14))).toNatClampNeg) x1) 1 ((((216 : Int32) + ((3 : Int32) * (vM 1 14))) + (1 : Int32)).toNatClampNeg) x2) 1 ((((216 : Int32) + ((3 : Int32) * (vM 1 14))) + (2 : Int32)).toNatClampNeg) (0 : Int32)) 1 14 (((st (st (st vM 1 (((216 : Int32) + ((3 : Int32) * (vM 1 14))).toNatClampNeg) x1) 1 ((((216 : Int32) + ((3 : Int32) * (vM 1 14))) + (1 : Int32)).toNatClampNeg) x2) 1 ((((216 : Int32) + ((3 : Int32) * (vM 1 14))) + (2 : Int32)).toNatClampNeg) (0 : Int32)) 1 14) + (1 : Int32)))))))) ∧ ((vM 1 14) = (6 : Int32) → (Q (-4 : Int32) vM)))) ∧ (¬ r8 = 0 → (Q (-3 : Int32) vM))))))) → pX10_phase vM x1 x2 Q := by
        intro Q hq
        unfold pX10_phase
        refine inY (by rw [hM, tp]; exact ⟨c1, c2⟩) ?_
        first | refine ⟨fun c => absurd c (by decide), fun _ => ?_⟩ | refine ⟨fun _ => ?_, fun c => absurd c (by decide)⟩
        refine inY ⟨d1, d2⟩ ?_
        first | refine ⟨fun c => absurd c (by decide), fun _ => ?_⟩ | refine ⟨fun _ => ?_, fun c => absurd c (by decide)⟩
        exact hq
      refine ⟨fun c => ?_, fun c => ?_⟩
      · have hs : A 0 0 2 = 1 := hw.ci.st.elim (fun q => absurd q c) (fun q => q.1)
        refine pre _ ⟨fun _ => ⟨rfl, hInv⟩, fun c3 => absurd (m2.trans hs) c3⟩
      · have n1 : ¬ vM 1 2 = 1 := fun e => absurd ((c.symm.trans m2.symm).trans e) (by decide)
        refine c_two hN hw.co.jr hw.tb' (fun tw => ?_) (fun tw => ?_)
        · first | refine ⟨fun c => absurd c (by decide), fun _ => ?_⟩ | refine ⟨fun _ => ?_, fun c => absurd c (by decide)⟩
          refine pre _ ⟨fun e => absurd e n1, fun _ => m_any hw.ci hw.ab h.tab (fun _ => ?_) (fun e => absurd tw e)⟩
          first | refine ⟨fun c => absurd c (by decide), fun _ => ?_⟩ | refine ⟨fun _ => ?_, fun c => absurd c (by decide)⟩
          exact ⟨rfl, hInv⟩
        · first | refine ⟨fun c => absurd c (by decide), fun _ => ?_⟩ | refine ⟨fun _ => ?_, fun c => absurd c (by decide)⟩
          refine ⟨fun l => ?_, fun l => ?_⟩
          · have l := (nlt (b := 6) (by omega) (by decide)).mp l
            unfold pX2_add
            rw [hw.co.pr.n, nI_clamp (by omega)]
            refine ⟨vp_in_nI l (by decide), vp_in_nI l (by decide), pre _ ⟨fun e => absurd e n1, fun _ => m_any hw.ci hw.ab h.tab (fun e => absurd e tw) (fun _ => ?_)⟩⟩
            first | refine ⟨fun c => absurd c (by decide), fun _ => ?_⟩ | refine ⟨fun _ => ?_, fun c => absurd c (by decide)⟩
            have z1 : (216 : Int32) + (3 : Int32) * nI K + 1 = nI (216 + 3 * K + 1) := ix216 K 1
            have z2 : (216 : Int32) + (3 : Int32) * nI K + 2 = nI (216 + 3 * K + 2) := ix216 K 2
            rw [hP, z1, z2, ix216z, nI_clamp (by omega), nI_clamp (by omega), nI_clamp (by omega)]
            have q2 : st (st (st vM 1 (216 + 3 * K) x1) 1 (216 + 3 * K + 1) x2) 1 (216 + 3 * K + 2) 0 1 14 = nI K := by
              rw [st_at, if_neg (by omega), st_at, if_neg (by omega), st_at, if_neg (by omega), hP]
            rw [q2]
            refine ⟨fun _ => ⟨vp_in_nI (by omega) (by decide), vp_in_nI (by omega) (by decide), vp_in_nI (by omega) (by decide), ?_, ?_⟩, fun e => absurd (nI_inj (b := 6) (by omega) (by decide) e) (by omega)⟩
            · rw [st_at, if_pos ⟨rfl, rfl⟩, nI_s]
              exact (nI_pred K).symm
            · have hab1 := hw.ab.up (x := 2) (i := K) (k := 0) ⟨by omega, by decide⟩ x1
              have hab2 := hab1.up (x := 2) (i := K) (k := 1) ⟨by omega, by decide⟩ x2
              have hab3 := hab2.up (x := 2) (i := K) (k := 2) ⟨by omega, by decide⟩ 0
              have hab4 := hab3.ug (k := 14) (by decide) (nI K + 1)
              rw [st_sa vM, st_sa1, st_sa1, st_sa1]
              have e1 : phA A K x1 x2 1 = A 1 := by simp [phA, U_ne]
              have ci' := hw.ci.phs l c (x := x1) (y := x2) (fun i h1 h2 => by rw [ez]; exact bt_high (z := z) (N := N) (by omega) h1)
              refine h.nowC (t' := t) (N' := N) (K' := K + 1) (A' := phA A K x1 x2) ⟨hab4, hw.tb, hw.co.phs l x1 x2, ci', hw.tb'.fr hw.ci (fun a _ w _ => by rw [e1]), fun _ => hw.sp c, hw.wv.fr (by simp [phA, U_at]) (by simp [phA, U_at]) (by simp [phA, U_ne]), hw.gt.fr (by simp [phA, U_at]) (by simp [phA, U_ne]), hw.nt.fr (by simp [phA, U_at]) (by simp [phA, U_ne]), hw.pl.fr (by simp [phA, U_at]) (by simp [phA, U_ne]), fun a h1 h2 => by rw [e1]; exact hw.z a h1 h2, hw.bd.same (by simp [phA, U_at]) (by simp [phA, U_at]) (by simp [phA, U_at]) (by simp [phA, U_ne])⟩ (h.tab.fr hw.ci (fun a _ w _ => by rw [e1]) (by simp [phA, U_at]))
          · have e6 : K = 6 := by
              have := nlt' (b := 6) (by omega) (by decide) l
              omega
            refine pre _ ⟨fun e => absurd e n1, fun _ => m_any hw.ci hw.ab h.tab (fun e => absurd e tw) (fun _ => ?_)⟩
            first | refine ⟨fun c => absurd c (by decide), fun _ => ?_⟩ | refine ⟨fun _ => ?_, fun c => absurd c (by decide)⟩
            refine ⟨fun e => absurd (hP.trans (by rw [e6]; rfl)) e, fun _ => ⟨rfl, hInv⟩⟩
    · first | refine ⟨fun c => absurd c (by decide), fun _ => ?_⟩ | refine ⟨fun _ => ?_, fun c => absurd c (by decide)⟩
      unfold pX10_phase
      refine inY (by rw [hM, tp]; exact ⟨c1, c2⟩) ?_
      first | refine ⟨fun c => absurd c (by decide), fun _ => ?_⟩ | refine ⟨fun _ => ?_, fun c => absurd c (by decide)⟩
      refine inN d ?_
      first | refine ⟨fun c => absurd c (by decide), fun _ => ?_⟩ | refine ⟨fun _ => ?_, fun c => absurd c (by decide)⟩
      exact ⟨rfl, hInv⟩
  · first | refine ⟨fun c => absurd c (by decide), fun _ => ?_⟩ | refine ⟨fun _ => ?_, fun c => absurd c (by decide)⟩
    unfold pX10_phase
    refine inN (by rw [hM, tp]; exact c) ?_
    first | refine ⟨fun c => absurd c (by decide), fun _ => ?_⟩ | refine ⟨fun _ => ?_, fun c => absurd c (by decide)⟩
    exact ⟨rfl, hInv⟩

def sgW (kd l m g r : Int32) (k : Nat) : Int32 := if k = 0 then kd else if k = 1 then l else if k = 2 then m else if k = 3 then g else if k = 4 then r else if k = 7 ∨ k = 8 ∨ k = 9 then -5 else 0
def sigA (A : AS) (N : Nat) (kd l m g r : Int32) : AS := fun x i k => if x = 1 ∧ i = N then sgW kd l m g r k else if x = 0 ∧ i = 0 ∧ k = 13 then nI (N + 1) else A x i k
theorem sigA_at (A : AS) (N : Nat) (kd l m g r : Int32) (x i k : Nat) : sigA A N kd l m g r x i k = if x = 1 ∧ i = N then sgW kd l m g r k else if x = 0 ∧ i = 0 ∧ k = 13 then nI (N + 1) else A x i k := rfl
def zrA (N z : Nat) (A : AS) : AS := fun x i k => if x = 1 ∧ i = N ∧ k < z then 0 else A x i k
theorem zrA_at (N z : Nat) (A : AS) (x i k : Nat) : zrA N z A x i k = if x = 1 ∧ i = N ∧ k < z then 0 else A x i k := rfl
theorem zrA_s (N z : Nat) (A : AS) : U (zrA N z A) 1 N z 0 = zrA N (z + 1) A := by
  funext x i k
  simp only [U_at, zrA_at]
  by_cases c : x = 1 ∧ i = N ∧ k = z
  · rw [if_pos c, if_pos (by omega)]
  · rw [if_neg c]
    by_cases c2 : x = 1 ∧ i = N ∧ k < z
    · rw [if_pos c2, if_pos (by omega)]
    · rw [if_neg c2, if_neg (by omega)]
theorem Ab.congr {S : Nat → Int32} {A B : AS} (h : Ab S A) (e : ∀ x i k, okA x i k → A x i k = B x i k) : Ab S B := fun x i k o => (h x i k o).trans (e x i k o)
theorem m_comes {v : Lf} {S : Nat → Int32} {A : AS} (h : Ab S A) {N : Nat} (hN : N < 8) (hm : A 0 0 13 = nI N) {kd l m g r : Int32} {Q : Lf → Prop} (q : ∀ S', Ab S' (sigA A N kd l m g r) → Q (sa v 1 S')) : pX10_comes (sa v 1 S) kd l m g r Q := by
  unfold pX10_comes
  rw [h.gv (v := v) (k := 13) (by decide) hm]
  have L : ∀ (k i : Nat) (S : Nat → Int32), i + k = 24 → Ab S (zrA N i A) → pX10_comes_L12 kd l m g r Q (k + 1) (sa v 1 S) (nI N) (nI i) := by
    intro k
    induction k with
    | zero =>
      intro i S hi h
      have e : i = 24 := by omega
      subst e
      refine hdE (N := 24) rfl rfl (m_puts h 0 hN (by decide) (fun S1 h1 => m_puts h1 1 hN (by decide) (fun S2 h2 => m_puts h2 2 hN (by decide) (fun S3 h3 => m_puts h3 3 hN (by decide) (fun S4 h4 => m_puts h4 4 hN (by decide) (fun S5 h5 => m_puts h5 7 hN (by decide) (fun S6 h6 => m_puts h6 8 hN (by decide) (fun S7 h7 => m_puts h7 9 hN (by decide) (fun S8 h8 => ?_)))))))))
      rw [st_sa1, h8.gw (v := v) (k := 13) (by decide)]
      refine q _ ((h8.ug (k := 13) (by decide) _).congr (fun x i k o => ?_))
      by_cases c : x = 1 ∧ i = N
      · obtain ⟨rfl, rfl⟩ := c
        have hk : k < 24 := o.2
        rcases (show k = 0 ∨ k = 1 ∨ k = 2 ∨ k = 3 ∨ k = 4 ∨ k = 7 ∨ k = 8 ∨ k = 9 ∨ (k = 5 ∨ k = 6 ∨ 10 ≤ k) by omega) with e | e | e | e | e | e | e | e | e
        · subst e; simp [U_at, sigA_at, sgW]
        · subst e; simp [U_at, sigA_at, sgW]
        · subst e; simp [U_at, sigA_at, sgW]
        · subst e; simp [U_at, sigA_at, sgW]
        · subst e; simp [U_at, sigA_at, sgW]
        · subst e; simp [U_at, sigA_at, sgW]
        · subst e; simp [U_at, sigA_at, sgW]
        · subst e; simp [U_at, sigA_at, sgW]
        · rw [sigA_at, if_pos ⟨rfl, rfl⟩, sgW, if_neg (by omega), if_neg (by omega), if_neg (by omega), if_neg (by omega), if_neg (by omega), if_neg (by omega)]
          rw [U_at, if_neg (by omega), U_at, if_neg (by omega), U_at, if_neg (by omega), U_at, if_neg (by omega), U_at, if_neg (by omega), U_at, if_neg (by omega), U_at, if_neg (by omega), U_at, if_neg (by omega), U_at, if_neg (by omega), zrA_at, if_pos ⟨rfl, rfl, hk⟩]
      · rw [sigA_at, if_neg c]
        by_cases c2 : x = 0 ∧ i = 0 ∧ k = 13
        · obtain ⟨rfl, rfl, rfl⟩ := c2
          simp [U_at, zrA_at, hm, nI_s]
        · rw [if_neg c2, U_at, if_neg c2]
          rw [U_at, if_neg (by omega), U_at, if_neg (by omega), U_at, if_neg (by omega), U_at, if_neg (by omega), U_at, if_neg (by omega), U_at, if_neg (by omega), U_at, if_neg (by omega), U_at, if_neg (by omega), zrA_at, if_neg (by omega)]
    | succ k ih =>
      intro i S hi h
      refine hdG (N := 24) rfl (by omega) (by omega) ?_
      refine m_puts h i hN (by omega) (fun S' h' => ?_)
      rw [nI_s]
      rw [zrA_s] at h'
      exact ih (i + 1) S' (by omega) h'
  refine ⟨25, L 24 0 S (by omega) (h.congr (fun x i k _ => ?_))⟩
  rw [zrA_at, if_neg (by omega)]
def sg1 (A : AS) (N : Nat) (kd l m g r c : Int32) : AS := gonA (sigA A N kd l m g r) N c
theorem sg_len (A : AS) (N : Nat) (kd l m g r : Int32) : lenA (sigA A N kd l m g r) N = 0 := by
  rw [lenA, sigA_at, if_pos ⟨rfl, rfl⟩]
  rfl
theorem sg1_N (A : AS) (N : Nat) (kd l m g r c : Int32) {w : Nat} (h : w ≠ 11) (h2 : w ≠ 12) : sg1 A N kd l m g r c 1 N w = sgW kd l m g r w := by
  unfold sg1
  rw [gon_w _ _ _ (by rw [sg_len]; omega), sigA_at, if_pos ⟨rfl, rfl⟩]
theorem sg1_11 (A : AS) (N : Nat) (kd l m g r c : Int32) : sg1 A N kd l m g r c 1 N 11 = nI 1 := by
  unfold sg1
  rw [gon_11, sg_len]
theorem sg1_12 (A : AS) (N : Nat) (kd l m g r c : Int32) : sg1 A N kd l m g r c 1 N 12 = c := by
  unfold sg1
  have := gon_c (sigA A N kd l m g r) N c
  rw [sg_len] at this
  exact this
theorem sg1_b (A : AS) (N : Nat) (kd l m g r c : Int32) {b : Nat} (h : b ≠ N) (w : Nat) : sg1 A N kd l m g r c 1 b w = A 1 b w := by
  unfold sg1
  rw [gon_w _ _ _ (fun e => h e.1), sigA_at, if_neg (by omega), if_neg (by omega)]
theorem sg1_g (A : AS) (N : Nat) (kd l m g r c : Int32) {k : Nat} (h : k ≠ 13) : sg1 A N kd l m g r c 0 0 k = A 0 0 k := by
  unfold sg1
  rw [gon_o _ _ _ (by decide), sigA_at, if_neg (by omega), if_neg (by omega)]
theorem sg1_13 (A : AS) (N : Nat) (kd l m g r c : Int32) : sg1 A N kd l m g r c 0 0 13 = nI (N + 1) := by
  unfold sg1
  rw [gon_o _ _ _ (by decide), sigA_at, if_neg (by omega), if_pos ⟨rfl, rfl, rfl⟩]
theorem sg1_o (A : AS) (N : Nat) (kd l m g r c : Int32) {x : Nat} (h : 2 ≤ x) : sg1 A N kd l m g r c x = A x := by
  unfold sg1
  rw [gon_o _ _ _ (by omega)]
  funext i k
  rw [sigA_at, if_neg (by omega), if_neg (by omega)]
theorem CoI.sig {t N K : Nat} {A : AS} (h : CoI t N K A) (hN : N < 8) (h0 : A 0 0 2 = 0) {kd c : Int32} (hk : qb kd 3) (hc : qb c 63) (l m g r : Int32) : CoI t (N + 1) K (sg1 A N kd l m g r c) := by
  obtain ⟨s1, s2, s3, s4⟩ := h.st0 h0
  have G := fun {k : Nat} (hk : k ≠ 13) => sg1_g A N kd l m g r c hk
  have NN := fun {w : Nat} (h : w ≠ 11) (h2 : w ≠ 12) => sg1_N A N kd l m g r c h h2
  have e2 : sg1 A N kd l m g r c 2 = A 2 := sg1_o A N kd l m g r c (by decide)
  have e3 : sg1 A N kd l m g r c 3 = A 3 := sg1_o A N kd l m g r c (by decide)
  have gb := fun {b : Nat} (h : b ≠ N) => (by funext w; exact sg1_b A N kd l m g r c h w : sg1 A N kd l m g r c 1 b = A 1 b)
  refine ⟨by omega, h.hK, sg1_13 A N kd l m g r c, ?_, ?_, .inl ?_, fun _ => ⟨?_, ?_, ?_, fun a ha => ?_⟩, .inl ?_, .inl ?_, fun a ha => ?_, fun q hq i h1 h2 => ?_, ?_, ?_, ?_⟩
  · rw [G (by decide)]; exact h.k
  · rw [G (by decide)]; exact h.sec
  · rw [G (by decide)]; exact h0
  · rw [G (by decide)]; exact s1
  · rw [G (by decide)]; exact s2
  · rw [G (by decide)]; exact s3
  · by_cases e : a = N
    · subst e; rw [NN (by decide) (by decide)]; rfl
    · rw [gb e]; exact s4 a (by omega)
  · rw [G (by decide)]; exact s3
  · rw [G (by decide)]; exact s2
  · by_cases e : a = N
    · subst e
      refine ⟨?_, ⟨0, by decide, ?_⟩, .inl ?_, .inl ?_, .inl ?_, .inl ?_, ⟨1, by decide, by decide, sg1_11 A a kd l m g r c⟩, fun i hi => ?_⟩
      · rw [NN (by decide) (by decide)]; exact hk
      · rw [NN (by decide) (by decide)]; rfl
      · rw [NN (by decide) (by decide)]; rfl
      · rw [NN (by decide) (by decide)]; rfl
      · rw [NN (by decide) (by decide)]; rfl
      · rw [NN (by decide) (by decide)]; rfl
      · by_cases ei : i = 0
        · subst ei; rw [Nat.add_zero, sg1_12]; exact hc
        · rw [NN (by omega) (by omega), sgW, if_neg (by omega), if_neg (by omega), if_neg (by omega), if_neg (by omega), if_neg (by omega), if_neg (by omega)]
          exact ⟨0, by decide, rfl⟩
    · rw [gb e]; exact h.sg a (by omega)
  · rw [e2]; exact h.ph q hq i (by omega) h2
  · rw [G (by decide), e3]
    obtain ⟨n, a1, a2, a3⟩ := h.rc
    exact ⟨n, a1, a2, fun i hi => ⟨(a3 i hi).1.imp (fun a ⟨b1, b2⟩ => ⟨by omega, b2⟩), (a3 i hi).2⟩⟩
  · rw [G (by decide)]; exact h.cy
  · rw [G (by decide)]; exact h.sf
theorem c_addSignal {t N K : Nat} {j : Lf} {A : AS} (hI : CoI t N K A) (h0 : A 0 0 2 = 0) (hN : N < 8) (hj : JR N j A) (tb : TbR N j A) (len0 : ∀ a, N ≤ a → a < 8 → j 2 a = 0) (dg : ∀ x, x < 8 → j 5 (x * 8 + x) = -5) {kd c : Int32} (hk : qb kd 3) (hc : qb c 63) (l m g r : Int32) {Q : Int32 → Lf → Prop} (q : ∀ j', (∀ a, N + 1 ≤ a → a < 8 → j' 2 a = 0) → JR (N + 1) j' (sg1 A N kd l m g r c) → TbR (N + 1) j' (sg1 A N kd l m g r c) → (∀ x, x < 8 → j' 5 (x * 8 + x) = -5) → Q (nI N) j') : pX1_addSignal j kd c Q := by
  have ci' := hI.sig hN h0 hk hc l m g r
  have vp : vp_in (nI N) 8 := vp_in_nI (by omega) (by decide)
  unfold pX1_addSignal
  rw [hj.n, nI_clamp (by omega), nI_s]
  refine ⟨vp, ?_⟩
  unfold pX1_addCell
  have e2 : st (st j 0 0 (nI (N + 1))) 1 N kd 2 N = 0 := by
    rw [st_at, if_neg (by omega), st_at, if_neg (by omega)]; exact len0 N (Nat.le_refl _) hN
  have e8 : nI N * (8 : Int32) + 0 = nI (N * 8) := by
    show nI N * nI 8 + nI 0 = _
    rw [pk_mul, nI_add, Nat.add_zero]
  rw [nI_clamp (by omega), e2, e8, nI_clamp (by omega)]
  have e3 : st (st (st j 0 0 (nI (N + 1))) 1 N kd) 3 (N * 8) c 2 N = 0 := by rw [st_at, if_neg (by omega)]; exact e2
  rw [e3, show (0 : Int32) + 1 = nI 1 from by decide]
  have hj1 : JR (N + 1) (st (st (st (st j 0 0 (nI (N + 1))) 1 N kd) 3 (N * 8) c) 2 N (nI 1)) (sg1 A N kd l m g r c) := by
    refine ⟨?_, ?_, fun b hb => ?_, fun b hb => ?_, fun b hb i hi ll => ?_⟩
    · simp [st_at]
    · have := hj.sf
      simp [st_at, this, sg1_g]
    · by_cases e : b = N
      · subst e
        rw [sg1_N A b kd l m g r c (by decide) (by decide)]
        simp [st_at, sgW]
      · rw [sg1_b A N kd l m g r c e]
        have := hj.kind b (by omega)
        simp [st_at, e, this]
    · by_cases e : b = N
      · subst e
        rw [sg1_11]
        simp [st_at]
      · rw [sg1_b A N kd l m g r c e]
        have := hj.len b (by omega)
        simp [st_at, e, this]
    · by_cases e : b = N
      · subst e
        rw [sg1_11] at ll
        have ll := (nlt (by omega) (by decide)).mp ll
        have e0 : i = 0 := by omega
        subst e0
        rw [Nat.add_zero, Nat.add_zero, sg1_12, st_at, if_neg (by omega), st_at, if_pos ⟨rfl, rfl⟩]
      · rw [sg1_b A N kd l m g r c e] at ll
        rw [sg1_b A N kd l m g r c e, st_at, if_neg (by omega), st_at, if_neg (by omega), st_at, if_neg (by omega), st_at, if_neg (by omega)]
        exact hj.cell b (by omega) i hi ll
  refine ⟨vp, vp_in_nI (by omega) (by decide), vp, vp, N + 1 + 1, c_measAll ci' (by omega) hj1 (fun x y hx hy hxy hxa hya => ?_) (fun x hx => ?_) (fun j' o tb' dg' => ?_)⟩
  · rw [st_at, if_neg (by omega), st_at, if_neg (by omega), st_at, if_neg (by omega), st_at, if_neg (by omega), st_at, if_neg (by omega), st_at, if_neg (by omega), st_at, if_neg (by omega), st_at, if_neg (by omega)]
    have lx := (len_ok hI (a := x) (by omega)).2.1
    have ly := (len_ok hI (a := y) (by omega)).2.1
    obtain ⟨t1, t2⟩ := mea_two (N := N) (A := A) (B := sg1 A N kd l m g r c) (x := x) (y := y) (fun w _ => sg1_b A N kd l m g r c hxa w) (fun w _ => sg1_b A N kd l m g r c hya w) lx ly
    rw [narA, bareA, t1, t2]
    exact ⟨tb.nar x y (by omega) (by omega), tb.bare x y (by omega) (by omega) hxy⟩
  · rw [st_at, if_neg (by omega), st_at, if_neg (by omega), st_at, if_neg (by omega), st_at, if_neg (by omega)]; exact dg x hx
  · refine q j' (fun b hb hb2 => ?_) (hj1.oth o) tb' dg'
    rw [o 2 (by decide) (by decide), st_at, if_neg (by omega), st_at, if_neg (by omega), st_at, if_neg (by omega), st_at, if_neg (by omega)]
    exact len0 b (by omega) hb2
theorem Wo.sig {B t N K : Nat} {A A' : AS} {c j s p r w g n q j' s' : Lf} {S S' : Nat → Int32} {kd l m gp ra : Int32} (h : Wo B t N K A c j s p r w g n q S) (h0 : A 0 0 2 = 0) (hN : N < 8) (ab : Ab S' A') (o1 : ∀ b, b ≠ N → A' 1 b = A 1 b) (oN : ∀ w, (w ≤ 10 ∨ w = 20) → A' 1 N w = sgW kd l m gp ra w) (og : ∀ k, k ≠ 13 → A' 0 0 k = A 0 0 k) (ox : ∀ x, 2 ≤ x → A' x = A x) (ci : CoI t (N + 1) K A') (jr : JR (N + 1) j' A') (tb : TbR (N + 1) j' A') (len0 : ∀ a, N + 1 ≤ a → a < 8 → j' 2 a = 0) (dg : ∀ x, x < 8 → j' 5 (x * 8 + x) = -5) (os : ∀ c x, ¬ (c = 1 ∧ x / 4 = N) → s' c x = s c x) (r0 : s' 1 (N * 4) = l) (r1 : s' 1 (N * 4 + 1) = m) (r2 : s' 1 (N * 4 + 2) = gp) (r3 : s' 1 (N * 4 + 3) = ra) : Wo B t (N + 1) K A' c j' s' p r w g n q S' := by
  have sp := h.sp h0
  have sr := h.co.sr
  have oo : ∀ c x, c ≠ 1 → s' c x = s c x := fun c x hc => os c x (fun e => hc e.1)
  refine ⟨ab, h.tb, ⟨?_, jr, ⟨fun a ha k hk => ?_, fun a ha => ?_, fun a ha => ?_, fun a ha => ?_, fun a ha => ?_, fun a ha => ?_, fun a ha => ?_, fun a ha => ?_, fun a ha ha2 => ?_, fun a ha ha2 => ?_⟩, ⟨h.co.pr.n, ?_, ?_, ?_, h.co.pr.c0⟩, h.co.rr.fr (og _ (by decide)) (ox 3 (by decide))⟩, ci, tb, fun _ => ⟨len0, dg, fun a h1 h2 => ?_, fun a h1 h2 => ?_⟩, h.wv.fr (og _ (by decide)) (og _ (by decide)) (ox 4 (by decide)), ⟨?_, h.gt.most, ?_⟩, h.nt.fr (og _ (by decide)) (ox 6 (by decide)), h.pl.fr (og _ (by decide)) (ox 7 (by decide)), fun a h1 h2 => ?_, h.bd.same (og _ (by decide)) (og _ (by decide)) (og _ (by decide)) (ox 3 (by decide))⟩
  · have cf := h.co.cf
    exact ⟨by rw [og _ (by decide)]; exact cf.st, by rw [og _ (by decide)]; exact cf.sec, by rw [og _ (by decide)]; exact cf.cur, by rw [og _ (by decide)]; exact cf.cut, by rw [og _ (by decide)]; exact cf.em, by rw [og _ (by decide)]; exact cf.wt, by rw [og _ (by decide)]; exact cf.sv, by rw [og _ (by decide)]; exact cf.ls, by rw [og _ (by decide)]; exact cf.sd, by rw [og _ (by decide)]; exact cf.cy, by rw [og _ (by decide)]; exact cf.off, by rw [og _ (by decide)]; exact cf.spl⟩
  · by_cases e : a = N
    · subst e
      rw [oN _ (by omega)]
      rcases (show k = 0 ∨ k = 1 ∨ k = 2 ∨ k = 3 by omega) with rfl | rfl | rfl | rfl
      · exact r0
      · exact r1
      · exact r2
      · exact r3
    · rw [o1 a e, os 1 _ (by omega)]; exact sr.ru a (by omega) k hk
  · by_cases e : a = N
    · subst e; rw [oN _ (by omega), oo _ _ (by decide)]; exact sr.q0 a (Nat.le_refl _) hN
    · rw [o1 a e, oo _ _ (by decide)]; exact sr.q a (by omega)
  · by_cases e : a = N
    · subst e
      rw [oN _ (by omega), oo _ _ (by decide), sr.g0 a (Nat.le_refl _) (by omega)]
      rfl
    · rw [o1 a e, oo _ _ (by decide)]; exact sr.g a (by omega)
  · by_cases e : a = N
    · subst e; rw [oN _ (by omega), oo _ _ (by decide)]; exact (sp.nv a (Nat.le_refl _) hN).2.2.1
    · rw [o1 a e, oo _ _ (by decide)]; exact sr.be a (by omega)
  · by_cases e : a = N
    · subst e; rw [oN _ (by omega), oo _ _ (by decide)]; exact (sp.nv a (Nat.le_refl _) hN).2.2.2.1
    · rw [o1 a e, oo _ _ (by decide)]; exact sr.en a (by omega)
  · by_cases e : a = N
    · subst e; rw [oN _ (by omega), oo _ _ (by decide)]; exact (sp.nv a (Nat.le_refl _) hN).1
    · rw [o1 a e, oo _ _ (by decide)]; exact sr.se a (by omega)
  · by_cases e : a = N
    · subst e; rw [oN _ (by omega), oo _ _ (by decide)]; exact (sp.nv a (Nat.le_refl _) hN).2.1
    · rw [o1 a e, oo _ _ (by decide)]; exact sr.go a (by omega)
  · by_cases e : a = N
    · subst e; rw [oN _ (by omega), oo _ _ (by decide)]; exact (sp.nv a (Nat.le_refl _) hN).2.2.2.2
    · rw [o1 a e, oo _ _ (by decide)]; exact sr.ti a (by omega)
  · rw [oo _ _ (by decide)]; exact sr.q0 a (by omega) ha2
  · rw [oo _ _ (by decide)]; exact sr.g0 a (by omega) ha2
  · rw [ox 2 (by decide)]; exact h.co.pr.set
  · rw [ox 2 (by decide)]; exact h.co.pr.force
  · rw [ox 2 (by decide)]; exact h.co.pr.com
  · rw [os 1 _ (by omega), os 1 _ (by omega), os 1 _ (by omega), os 1 _ (by omega)]; exact sp.ru a (by omega) h2
  · rw [oo _ _ (by decide), oo _ _ (by decide), oo _ _ (by decide), oo _ _ (by decide), oo _ _ (by decide)]; exact sp.nv a (by omega) h2
  · rw [og _ (by decide)]; exact h.gt.n
  · rw [og _ (by decide), ox 5 (by decide)]
    obtain ⟨m', a1, a2, a3⟩ := h.gt.row
    exact ⟨m', a1, a2, fun i hi => ⟨(a3 i hi).1, (a3 i hi).2.1.imp (fun a ⟨b1, b2⟩ => ⟨by omega, b2⟩), (a3 i hi).2.2⟩⟩
  · rw [o1 a (by omega)]; exact h.z a (by omega) h2

theorem sim_signal : Sim_X9_signal Inv := by
  intro v vNc vNcj vNcs vNcp vNcr vNw vNg vNn vNq vIc vIcj vIcs vIcp vIcr vIw vIg vIn vIq vT vTj vTs vTp vTr vx vt gt vM gM hInv x1 x2
  obtain ⟨B, t, N, K, A, h⟩ := id hInv
  have hw := h.now
  have hN := hw.ci.hN
  have hK := hw.ci.hK
  have hM := hw.n13
  have hP := hw.n14
  have m2 : vM 1 2 = A 0 0 2 := hw.ab.gl (k := 2) (by decide)
  unfold pX9_signal
  rw [hw.co.cf.st, hw.co.jr.n]
  refine w_in (fun c1 c2 => ?_) (fun c => ?_)
  · first | refine ⟨fun c => absurd c (by decide), fun _ => ?_⟩ | refine ⟨fun _ => ?_, fun c => absurd c (by decide)⟩
    have hk := (up_iff (M := 3) (by decide) x1).mp ⟨c1, c2⟩
    refine w_in (fun d1 d2 => ?_) (fun d => ?_)
    · first | refine ⟨fun c => absurd c (by decide), fun _ => ?_⟩ | refine ⟨fun _ => ?_, fun c => absurd c (by decide)⟩
      have hc := (up_iff (M := 63) (by decide) x2).mp ⟨d1, d2⟩
      refine ⟨fun c => ?_, fun c => ?_⟩
      · have n1 : ¬ vM 1 2 = 1 := fun e => absurd ((c.symm.trans m2.symm).trans e) (by decide)
        refine ⟨fun l => ?_, fun l => ?_⟩
        · have l := (nlt (b := 8) (by omega) (by decide)).mp l
          have sp := hw.sp c
          refine c_addSignal hw.ci c l hw.co.jr hw.tb' sp.len sp.dg hk hc 5 40 3 0 (fun j' len0 jr' tb'' dg' => ?_)
          unfold pX10_signal
          refine inY ⟨c1, c2⟩ ?_
          first | refine ⟨fun c => absurd c (by decide), fun _ => ?_⟩ | refine ⟨fun _ => ?_, fun c => absurd c (by decide)⟩
          refine inY ⟨d1, d2⟩ ?_
          first | refine ⟨fun c => absurd c (by decide), fun _ => ?_⟩ | refine ⟨fun _ => ?_, fun c => absurd c (by decide)⟩
          refine ⟨fun _ => ⟨fun _ => ?_, fun e => absurd (nI_inj (b := 8) (by omega) (by decide) (hM.symm.trans e)) (by omega)⟩, fun e => absurd e n1⟩
          refine un (P := fun z => pX10_comes z x1 5 40 3 0 _) (m_comes hw.ab l hw.ci.m (fun S1 h1 => ?_))
          have e13 : sa vM 1 S1 1 13 - 1 = nI N := by
            rw [h1.gw (k := 13) (by decide), sigA_at, if_neg (by omega), if_pos ⟨rfl, rfl, rfl⟩]
            exact nI_pred N
          rw [e13]
          have sl := sg_len A N x1 5 40 3 0
          refine m_goesOn h1 l (by rw [sl]; decide) (by rw [sl, sigA_at, if_pos ⟨rfl, rfl⟩]; rfl) (fun S2 h2 => ?_)
          have h2 : Ab S2 (sg1 A N x1 5 40 3 0 x2) := h2
          have ci' := hw.ci.sig l c hk hc 5 40 3 0
          have z' : ∀ a, N + 1 ≤ a → a < 8 → sg1 A N x1 5 40 3 0 x2 1 a 11 = 0 := fun a a1 a2 => by rw [sg1_b _ _ _ _ _ _ _ _ (by omega)]; exact hw.z a (by omega) a2
          refine m_clears ci' z' (by rw [sa_self]; exact h2) (fun M o tm => ?_)
          have hM1 : Ab (M 1) (sg1 A N x1 5 40 3 0 x2) := by rw [o 1 (by decide) (by decide), sa_self]; exact h2
          refine ⟨?_, h.nowT (fun c h1 h4 h5 => (o c h4 h5).trans (sa_ne _ _ h1)) (hw.sig c l hM1 (kd := x1) (l := 5) (m := 40) (gp := 3) (ra := 0) (fun b hb => ?_) (fun w hw2 => ?_) (fun k hk2 => sg1_g _ _ _ _ _ _ _ _ hk2) (fun x hx => sg1_o _ _ _ _ _ _ _ _ hx) ci' jr' tb'' len0 dg' (fun _ _ _ => rfl) (sp.ru N (Nat.le_refl _) l).1 (sp.ru N (Nat.le_refl _) l).2.1 (sp.ru N (Nat.le_refl _) l).2.2.1 (sp.ru N (Nat.le_refl _) l).2.2.2) tm⟩
          · rw [hM1.gl (k := 13) (by decide), sg1_13]
            exact (nI_pred N).symm
          · funext w; exact sg1_b _ _ _ _ _ _ _ _ hb w
          · exact sg1_N _ _ _ _ _ _ _ _ (by omega) (by omega)
        · have e8 : N = 8 := by
            have := nlt' (b := 8) (by omega) (by decide) l
            omega
          unfold pX10_signal
          refine inY ⟨c1, c2⟩ ?_
          first | refine ⟨fun c => absurd c (by decide), fun _ => ?_⟩ | refine ⟨fun _ => ?_, fun c => absurd c (by decide)⟩
          refine inY ⟨d1, d2⟩ ?_
          first | refine ⟨fun c => absurd c (by decide), fun _ => ?_⟩ | refine ⟨fun _ => ?_, fun c => absurd c (by decide)⟩
          exact ⟨fun _ => ⟨fun e => absurd (hM.trans (by rw [e8]; rfl)) e, fun _ => ⟨rfl, hInv⟩⟩, fun e => absurd e n1⟩
      · have hs : A 0 0 2 = 1 := hw.ci.st.elim (fun q => absurd q c) (fun q => q.1)
        unfold pX10_signal
        refine inY ⟨c1, c2⟩ ?_
        first | refine ⟨fun c => absurd c (by decide), fun _ => ?_⟩ | refine ⟨fun _ => ?_, fun c => absurd c (by decide)⟩
        refine inY ⟨d1, d2⟩ ?_
        first | refine ⟨fun c => absurd c (by decide), fun _ => ?_⟩ | refine ⟨fun _ => ?_, fun c => absurd c (by decide)⟩
        exact ⟨fun e => absurd (m2.trans hs) e, fun _ => ⟨rfl, hInv⟩⟩
    · first | refine ⟨fun c => absurd c (by decide), fun _ => ?_⟩ | refine ⟨fun _ => ?_, fun c => absurd c (by decide)⟩
      unfold pX10_signal
      refine inY ⟨c1, c2⟩ ?_
      first | refine ⟨fun c => absurd c (by decide), fun _ => ?_⟩ | refine ⟨fun _ => ?_, fun c => absurd c (by decide)⟩
      refine inN d ?_
      first | refine ⟨fun c => absurd c (by decide), fun _ => ?_⟩ | refine ⟨fun _ => ?_, fun c => absurd c (by decide)⟩
      exact ⟨rfl, hInv⟩
  · first | refine ⟨fun c => absurd c (by decide), fun _ => ?_⟩ | refine ⟨fun _ => ?_, fun c => absurd c (by decide)⟩
    unfold pX10_signal
    refine inN c ?_
    first | refine ⟨fun c => absurd c (by decide), fun _ => ?_⟩ | refine ⟨fun _ => ?_, fun c => absurd c (by decide)⟩
    exact ⟨rfl, hInv⟩

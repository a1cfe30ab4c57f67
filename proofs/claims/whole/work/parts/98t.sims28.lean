theorem JR.oth {N : Nat} {j jj : Lf} {A : AS} (h : JR N j A) (o : ∀ k, k ≠ 4 → k ≠ 5 → jj k = j k) : JR N jj A :=
  ⟨by rw [o 0 (by decide) (by decide)]; exact h.n, by rw [o 0 (by decide) (by decide)]; exact h.sf, by rw [o 1 (by decide) (by decide)]; exact h.kind, by rw [o 2 (by decide) (by decide)]; exact h.len, by rw [o 3 (by decide) (by decide)]; exact h.cell⟩
theorem ix8r (a b : Nat) : nI a * (8 : Int32) + nI b = nI (a * 8 + b) := by
  show nI a * nI 8 + nI b = _
  rw [pk_mul, nI_add]
theorem c_measure {t N K : Nat} {j : Lf} {A : AS} (hI : CoI t N K A) (hj : JR N j A) {a b : Nat} (ha : a < N) (hb : b < N) (hab : a ≠ b) {Q : Lf → Prop} (q : Q (st (st j 5 (a * 8 + b) (narA A a b)) 4 (a * 8 + b) (bareA A a b))) : pX1_measure j (nI a) (nI b) Q := by
  have hN := hI.hN
  obtain ⟨l1, l2, l3⟩ := len_ok hI ha
  have e2 : j 2 a = nI (lenA A a) := (hj.len a ha).trans l3
  have vp : vp_in (nI (a * 8 + b)) 64 := vp_in_nI (by omega) (by decide)
  have L : ∀ (k i : Nat) (x : Int32 × Int32), i + k = lenA A a → lp (meaS A a b) k i x = measA A a b → pX1_measure_L9 (nI a) (nI b) Q (k + 1) j x.1 x.2 (nI i) := by
    intro k
    induction k with
    | zero =>
      intro i x hi hf
      rw [lp_zero] at hf
      unfold pX1_measure_L9
      rw [ix8r, nI_clamp (n := a) (by omega), nI_clamp (by omega)]
      refine ⟨vp_in_nI (by omega) (by decide), hdE e2 (by omega) ⟨vp, c_amber hI (hj.oth (jj := st j 5 (a * 8 + b) x.1) (fun k _ h5 => st_oth j _ _ h5)) ha ⟨vp, ?_⟩⟩⟩
      rw [hf]
      exact q
    | succ k ih =>
      intro i x hi hf
      rw [lp_succ] at hf
      have skip : meaS A a b i x = x → pX1_measure_J87 (nI a) (nI b) Q (fun v x3 x4 x5 => pX1_measure_L9 (nI a) (nI b) Q (k + 1) v x3 x4 x5) j x.1 x.2 (nI i) := by
        intro e
        unfold pX1_measure_J87
        rw [nI_s]
        exact ih (i + 1) x (by omega) (by rw [e] at hf; exact hf)
      have up : meaS A a b i x = (A 1 a (12 + i), isA A a b i) → pX1_measure_J80 (nI a) (nI b) Q (fun v x3 x4 x5 => pX1_measure_L9 (nI a) (nI b) Q (k + 1) v x3 x4 x5) j (nI i) (A 1 a (12 + i)) (isA A a b i) := by
        intro e
        unfold pX1_measure_J80 pX1_measure_J87
        rw [nI_s]
        exact ih (i + 1) (A 1 a (12 + i), isA A a b i) (by omega) (by rw [e] at hf; exact hf)
      refine ⟨vp_in_nI (by omega) (by decide), ?_⟩
      rw [nI_clamp (n := a) (by omega)]
      refine hdG e2 (by omega) (by omega) ((w_cellAt j (by omega) _).mpr ?_)
      rw [hj.cell a ha i (by omega) (by rw [l3]; exact (nlt (by omega) (by omega)).mpr (by omega))]
      refine c_placeOf hI hj hb ⟨fun c => ?_, fun c => skip (by rw [meaS, if_pos c])⟩
      unfold pX1_leaves pX1_reaches
      refine c_amber hI hj ha (c_pace hI hj ha (c_pace hI hj hb ?_))
      rw [Int32.zero_add, Int32.zero_add]
      show (x.1 = -5 → pX1_measure_J80 (nI a) (nI b) Q _ j (nI i) (A 1 a (12 + i)) (isA A a b i)) ∧ (¬ x.1 = -5 → (isA A a b i ≤ x.2 → _) ∧ (¬ isA A a b i ≤ x.2 → pX1_measure_J80 (nI a) (nI b) Q _ j (nI i) (A 1 a (12 + i)) (isA A a b i)))
      refine ⟨fun c2 => up ?_, fun c2 => ⟨fun c3 => skip ?_, fun c3 => up ?_⟩⟩
      · rw [meaS, if_neg c, if_neg (fun y => y.1 c2)]
      · rw [meaS, if_neg c, if_pos ⟨c2, n_le.mpr c3⟩]
      · rw [meaS, if_neg c, if_neg (fun y => c3 (n_le.mp y.2))]
  exact ⟨lenA A a + 1, L (lenA A a) 0 (-5, 0) (by omega) (by rw [measA, if_neg hab])⟩
theorem c_measAll {t N K : Nat} {A : AS} (hI : CoI t N K A) {a : Nat} (ha : a < N) {j : Lf} (hj : JR N j A) (old : ∀ x y, x < N → y < N → x ≠ y → x ≠ a → y ≠ a → j 5 (x * 8 + y) = narA A x y ∧ j 4 (x * 8 + y) = bareA A x y) (dg : ∀ x, x < 8 → j 5 (x * 8 + x) = -5) {c0 : Int32} {Q : Int32 → Lf → Prop} (q : ∀ j' : Lf, (∀ k, k ≠ 4 → k ≠ 5 → j' k = j k) → TbR N j' A → (∀ x, x < 8 → j' 5 (x * 8 + x) = -5) → Q (A 1 a 11) j') : pX1_addCell_L29 (nI a) c0 Q (N + 1) j (nI 0) := by
  have hN := hI.hN
  have L : ∀ (k i : Nat) (jj : Lf), i + k = N → (∀ c, c ≠ 4 → c ≠ 5 → jj c = j c) → (∀ x y, x < N → y < N → x ≠ y → ((x ≠ a ∧ y ≠ a) ∨ (x = a ∧ y < i) ∨ (y = a ∧ x < i)) → jj 5 (x * 8 + y) = narA A x y ∧ jj 4 (x * 8 + y) = bareA A x y) → (∀ x, x < 8 → jj 5 (x * 8 + x) = -5) → pX1_addCell_L29 (nI a) c0 Q (k + 1) jj (nI i) := by
    intro k
    induction k with
    | zero =>
      intro i jj hi o d dg
      have hjj := hj.oth o
      refine hdE hjj.n (by omega) ⟨vp_in_nI (by omega) (by decide), ?_⟩
      rw [nI_clamp (by omega), hjj.len a ha]
      refine q jj o ⟨fun x y hx hy => ?_, fun x y hx hy hxy => (d x y hx hy hxy (by omega)).2⟩ dg
      by_cases e : x = y
      · subst e
        rw [dg x (by omega), narA, measA, if_pos rfl]
      · exact (d x y hx hy e (by omega)).1
    | succ k ih =>
      intro i jj hi o d dg
      have hjj := hj.oth o
      refine hdG hjj.n (by omega) (by omega) ⟨fun e => ?_, fun e => ?_⟩
      · have e : i = a := nI_inj (by omega) (by omega) e
        unfold pX1_addCell_J54
        rw [nI_s]
        exact ih (i + 1) jj (by omega) o (fun x y hx hy hxy h => d x y hx hy hxy (by omega)) dg
      · have ne : i ≠ a := fun y => e (by rw [y])
        refine c_measure hI hjj ha (by omega) (Ne.symm ne) ?_
        have o1 : ∀ c, c ≠ 4 → c ≠ 5 → st (st jj 5 (a * 8 + i) (narA A a i)) 4 (a * 8 + i) (bareA A a i) c = j c := fun c h4 h5 => by rw [st_oth _ _ _ h4, st_oth _ _ _ h5]; exact o c h4 h5
        refine c_measure hI (hj.oth o1) (by omega) ha ne ?_
        unfold pX1_addCell_J54
        rw [nI_s]
        refine ih (i + 1) _ (by omega) (fun c h4 h5 => by rw [st_oth _ _ _ h4, st_oth _ _ _ h5]; exact o1 c h4 h5) (fun x y hx hy hxy h => ?_) (fun x hx => ?_)
        · simp only [st_at]
          by_cases c1 : x * 8 + y = i * 8 + a
          · have ex : x = i := by omega
            have ey : y = a := by omega
            subst ex ey
            simp
          · by_cases c2 : x * 8 + y = a * 8 + i
            · have ex : x = a := by omega
              have ey : y = i := by omega
              subst ex ey
              simp [c1]
            · simp [c1, c2]
              exact d x y hx hy hxy (by omega)
        · simp only [st_at]
          rw [if_neg (by omega), if_neg (by omega), if_neg (by omega), if_neg (by omega)]
          exact dg x hx
  exact L N 0 j (by omega) (fun _ _ _ => rfl) (fun x y hx hy hxy h => old x y hx hy hxy (by omega) (by omega)) dg
def gonA (A : AS) (a : Nat) (c : Int32) : AS := U (U A 1 a (12 + lenA A a) c) 1 a 11 (nI (lenA A a + 1))
theorem gon_w (A : AS) (a : Nat) (c : Int32) {b w : Nat} (h : ¬ (b = a ∧ (w = 11 ∨ w = 12 + lenA A a))) : gonA A a c 1 b w = A 1 b w := by
  unfold gonA
  rw [U_at, if_neg (by omega), U_at, if_neg (by omega)]
theorem gon_o (A : AS) (a : Nat) (c : Int32) {x : Nat} (h : x ≠ 1) : gonA A a c x = A x := by
  unfold gonA
  rw [U_ne _ _ _ _ h, U_ne _ _ _ _ h]
theorem gon_11 (A : AS) (a : Nat) (c : Int32) : gonA A a c 1 a 11 = nI (lenA A a + 1) := by
  unfold gonA
  rw [U_at, if_pos ⟨rfl, rfl, rfl⟩]
theorem gon_len {A : AS} {a : Nat} (c : Int32) (hl : lenA A a < 8) : lenA (gonA A a c) a = lenA A a + 1 := by
  rw [lenA, gon_11, nI_clamp (by omega)]
theorem gon_c (A : AS) (a : Nat) (c : Int32) : gonA A a c 1 a (12 + lenA A a) = c := by
  unfold gonA
  rw [U_at, if_neg (by omega), U_at, if_pos ⟨rfl, rfl, rfl⟩]
theorem m_goesOn {v : Lf} {S : Nat → Int32} {A : AS} (h : Ab S A) {a : Nat} (ha : a < 8) (hl : lenA A a < 8) (e : A 1 a 11 = nI (lenA A a)) {c : Int32} {Q : Lf → Prop} (q : ∀ S', Ab S' (gonA A a c) → Q (sa v 1 S')) : pX10_goesOn (sa v 1 S) (nI a) c Q := by
  unfold pX10_goesOn
  refine m_at h 11 ha (by decide) ?_
  rw [e, show (12 : Int32) + nI (lenA A a) = nI (12 + lenA A a) from nI_add 12 _]
  refine m_puts h (12 + lenA A a) ha (by omega) (fun S1 h1 => m_at h1 11 ha (by decide) ?_)
  rw [U_at, if_neg (by omega), e, nI_s]
  exact m_puts h1 11 ha (by decide) q
theorem CoI.gon {t N K : Nat} {A : AS} (h : CoI t N K A) {a : Nat} (ha : a < N) (hl : lenA A a < 8) {c : Int32} (hc : qb c 63) : CoI t N K (gonA A a c) := by
  refine h.one a (fun g _ _ _ _ => by rw [gon_o A a c (by decide)]) (fun q => by rw [gon_o A a c (by decide)]) (gon_o A a c (by decide)) (fun b hb => by funext w; exact gon_w A a c (fun e => hb e.1)) (fun _ s => ?_) (fun _ d => .inl (by rw [gon_w A a c (by omega)] at d; exact d))
  have g := fun {w : Nat} (hw : ¬ (w = 11 ∨ w = 12 + lenA A a)) => gon_w A a c (b := a) (w := w) (fun e => hw e.2)
  refine ⟨by rw [g (by omega)]; exact s.kind, by rw [g (by omega)]; exact s.queue, by rw [g (by omega), g (by omega)]; exact s.gr, by rw [g (by omega)]; exact s.beg, by rw [g (by omega)]; exact s.en, by rw [g (by omega)]; exact s.seen, ⟨lenA A a + 1, by omega, by omega, gon_11 A a c⟩, fun i hi => ?_⟩
  by_cases e : i = lenA A a
  · rw [e, gon_c]; exact hc
  · rw [g (by omega)]; exact s.cells i hi
theorem JR.gon {N : Nat} {j : Lf} {A : AS} (hN : N ≤ 8) (h : JR N j A) {a : Nat} (ha : a < N) (hl : lenA A a < 8) (e : A 1 a 11 = nI (lenA A a)) {c : Int32} : JR N (st (st j 3 (a * 8 + lenA A a) c) 2 a (nI (lenA A a + 1))) (gonA A a c) := by
  refine ⟨?_, ?_, fun b hb => ?_, fun b hb => ?_, fun b hb i hi l => ?_⟩
  · rw [st_at, if_neg (by omega), st_at, if_neg (by omega)]; exact h.n
  · rw [st_at, if_neg (by omega), st_at, if_neg (by omega), gon_o A a c (by decide)]; exact h.sf
  · rw [st_at, if_neg (by omega), st_at, if_neg (by omega), gon_w A a c (by omega)]; exact h.kind b hb
  · by_cases eb : b = a
    · subst eb; rw [gon_11, st_at, if_pos ⟨rfl, rfl⟩]
    · rw [gon_w A a c (fun y => eb y.1), st_at, if_neg (fun y => eb y.2), st_at, if_neg (by omega)]; exact h.len b hb
  · by_cases eb : b = a
    · subst eb
      by_cases ei : i = lenA A b
      · subst ei
        rw [gon_c, st_at, if_neg (by omega), st_at, if_pos ⟨rfl, rfl⟩]
      · rw [gon_11] at l
        have l := (nlt (by omega) (by omega)).mp l
        rw [gon_w A b c (by omega), st_at, if_neg (by omega), st_at, if_neg (by omega)]
        exact h.cell b hb i hi (by rw [e]; exact (nlt (by omega) (by omega)).mpr (by omega))
    · rw [gon_w A a c (fun y => eb y.1)] at l
      rw [gon_w A a c (fun y => eb y.1), st_at, if_neg (by omega), st_at, if_neg (by omega)]
      exact h.cell b hb i hi l
theorem mea_two {N : Nat} {A B : AS} {x y : Nat} (hx : ∀ w, (w = 0 ∨ 11 ≤ w ∧ w < 20) → B 1 x w = A 1 x w) (hy : ∀ w, (w = 0 ∨ 11 ≤ w ∧ w < 20) → B 1 y w = A 1 y w) (hl : lenA A x ≤ 8) (hl2 : lenA A y ≤ 8) : measA B x y = measA A x y ∧ ambA B x = ambA A x := by
  have e1 : lenA B x = lenA A x := by rw [lenA, lenA, hx 11 (by omega)]
  have e2 : lenA B y = lenA A y := by rw [lenA, lenA, hy 11 (by omega)]
  have e3 : ∀ c, placeA B y c = placeA A y c := fun c => by
    unfold placeA
    rw [e2]
    have : ∀ (k i : Nat), i + k ≤ 8 → ffr (fun i => decide (B 1 y (12 + i) = c)) k i = ffr (fun i => decide (A 1 y (12 + i) = c)) k i := by
      intro k
      induction k with
      | zero => exact fun _ _ => rfl
      | succ k ih =>
        intro i hi
        rw [ffr, ffr, hy (12 + i) (by omega), ih (i + 1) (by omega)]
    exact this _ 0 (by omega)
  refine ⟨?_, by rw [ambA, ambA, hx 0 (by omega)]⟩
  unfold measA
  split
  · rfl
  · rw [e1]
    refine lp_congr _ _ _ (fun i x _ hi => ?_)
    unfold meaS isA ambA pacA
    rw [e3, hx 0 (by omega), hy 0 (by omega), hx (12 + i) (by omega)]
theorem c_addCell {t N K : Nat} {j : Lf} {A : AS} (hI : CoI t N K A) (hj : JR N j A) (tb : TbR N j A) (dg : ∀ x, x < 8 → j 5 (x * 8 + x) = -5) {a : Nat} (ha : a < N) (hl : lenA A a < 8) {c : Int32} (hc : qb c 63) {Q : Int32 → Lf → Prop} (q : ∀ j', (∀ b, N ≤ b → b < 8 → j' 2 b = j 2 b) → JR N j' (gonA A a c) → TbR N j' (gonA A a c) → (∀ x, x < 8 → j' 5 (x * 8 + x) = -5) → Q (nI (lenA A a + 1)) j') : pX1_addCell j (nI a) c Q := by
  have hN := hI.hN
  obtain ⟨l1, l2, l3⟩ := len_ok hI ha
  have e2 : j 2 a = nI (lenA A a) := (hj.len a ha).trans l3
  unfold pX1_addCell
  have vp : vp_in (nI a) 8 := vp_in_nI (by omega) (by decide)
  rw [nI_clamp (by omega), e2, ix8r, nI_clamp (by omega)]
  have e3 : st j 3 (a * 8 + lenA A a) c 2 a = nI (lenA A a) := by rw [st_at, if_neg (by omega)]; exact e2
  rw [e3, nI_s]
  have hj1 := hj.gon hN ha hl l3 (c := c)
  have two := fun x y (hx : x < N) (hy : y < N) (hxa : x ≠ a) (hya : y ≠ a) => mea_two (N := N) (A := A) (B := gonA A a c) (x := x) (y := y) (fun w _ => gon_w A a c (fun e => hxa e.1)) (fun w _ => gon_w A a c (fun e => hya e.1)) (len_ok hI hx).2.1 (len_ok hI hy).2.1
  refine ⟨vp, vp_in_nI (by omega) (by decide), vp, vp, N + 1, c_measAll (hI.gon ha hl hc) ha hj1 (fun x y hx hy hxy hxa hya => ?_) (fun x hx => ?_) (fun j' o tb' dg' => ?_)⟩
  · rw [st_at, if_neg (by omega), st_at, if_neg (by omega), st_at, if_neg (by omega), st_at, if_neg (by omega)]
    obtain ⟨t1, t2⟩ := two x y hx hy hxa hya
    rw [narA, bareA, t1, t2]
    exact ⟨tb.nar x y hx hy, tb.bare x y hx hy hxy⟩
  · rw [st_at, if_neg (by omega), st_at, if_neg (by omega)]; exact dg x hx
  · rw [gon_11]
    refine q j' (fun b hb hb2 => ?_) (hj1.oth o) tb' dg'
    rw [o 2 (by decide) (by decide), st_at, if_neg (by omega), st_at, if_neg (by omega)]
theorem Wo.way {B t N K : Nat} {A A' : AS} {c j s p r w g n q j' : Lf} {S S' : Nat → Int32} (h : Wo B t N K A c j s p r w g n q S) (ab : Ab S' A') (o : ∀ x, x ≠ 1 → A' x = A x) (o1 : ∀ a w, w ≤ 10 ∨ w = 20 → A' 1 a w = A 1 a w) (ci : CoI t N K A') (jr : JR N j' A') (tb : TbR N j' A') (sp : A' 0 0 2 = 0 → SpR N j' s) (z : ∀ a, N ≤ a → a < 8 → A' 1 a 11 = 0) : Wo B t N K A' c j' s p r w g n q S' := by
  have e0 := o 0 (by decide)
  refine ⟨ab, h.tb, ⟨h.co.cf.fr (fun k => by rw [e0]), jr, ⟨fun a ha k hk => ?_, fun a ha => ?_, fun a ha => ?_, fun a ha => ?_, fun a ha => ?_, fun a ha => ?_, fun a ha => ?_, fun a ha => ?_, h.co.sr.q0, h.co.sr.g0⟩, ⟨h.co.pr.n, ?_, ?_, ?_, h.co.pr.c0⟩, h.co.rr.fr (by rw [e0]) (o 3 (by decide))⟩, ci, tb, sp, h.wv.fr (by rw [e0]) (by rw [e0]) (o 4 (by decide)), h.gt.fr (by rw [e0]) (o 5 (by decide)), h.nt.fr (by rw [e0]) (o 6 (by decide)), h.pl.fr (by rw [e0]) (o 7 (by decide)), z, h.bd.same (by rw [e0]) (by rw [e0]) (by rw [e0]) (o 3 (by decide))⟩
  · rw [o1 a _ (by omega)]; exact h.co.sr.ru a ha k hk
  · rw [o1 a _ (by omega)]; exact h.co.sr.q a ha
  · rw [o1 a _ (by omega)]; exact h.co.sr.g a ha
  · rw [o1 a _ (by omega)]; exact h.co.sr.be a ha
  · rw [o1 a _ (by omega)]; exact h.co.sr.en a ha
  · rw [o1 a _ (by omega)]; exact h.co.sr.se a ha
  · rw [o1 a _ (by omega)]; exact h.co.sr.go a ha
  · rw [o1 a _ (by omega)]; exact h.co.sr.ti a ha
  · rw [o 2 (by decide)]; exact h.co.pr.set
  · rw [o 2 (by decide)]; exact h.co.pr.force
  · rw [o 2 (by decide)]; exact h.co.pr.com

theorem sim_goes : Sim_X9_goes Inv := by
  intro v vNc vNcj vNcs vNcp vNcr vNw vNg vNn vNq vIc vIcj vIcs vIcp vIcr vIw vIg vIn vIq vT vTj vTs vTp vTr vx vt gt vM gM hInv x1 x2
  obtain ⟨B, t, N, K, A, h⟩ := id hInv
  have hw := h.now
  have hN := hw.ci.hN
  have hK := hw.ci.hK
  have hM := hw.n13
  have hP := hw.n14
  have m14 : vM 1 14 = nI K := hP
  unfold pX9_goes
  refine c_sig hN hw.co.jr (fun a ha ea => ?_) (fun e1 => ?_)
  · subst ea
    first | refine ⟨fun c => absurd c (by decide), fun _ => ?_⟩ | refine ⟨fun _ => ?_, fun c => absurd c (by decide)⟩
    obtain ⟨l1, l2, l3⟩ := len_ok hw.ci ha
    refine w_in (fun c1 c2 => ?_) (fun c => ?_)
    · first | refine ⟨fun c => absurd c (by decide), fun _ => ?_⟩ | refine ⟨fun _ => ?_, fun c => absurd c (by decide)⟩
      have hc := (up_iff (M := 63) (by decide) x2).mp ⟨c1, c2⟩
      obtain ⟨p1, p2⟩ := pl_neg (A := A) (b := a) (c := x2) l2
      have pre : ∀ Q : Int32 → Lf → Prop, ((placeA A a x2 < 0 → (((vM 1 14) ≤ 0 → (pX10_at vM (nI a) (11 : Int32) (fun r9 => ((¬ r9 = (8 : Int32) → (pX10_goesOn vM (nI a) x2 (fun v_11 => (pX10_clears_ v_11 (fun v_12 => (pX10_at v_12 (nI a) (11 : Int32) (fun r13 => (Q r13 v_12)))))))) ∧ (r9 = (8 : Int32) → (Q (-4 : Int32) vM)))))) ∧ (¬ (vM 1 14) ≤ 0 → (Q (-3 : Int32) vM)))) ∧ (¬ placeA A a x2 < 0 → (Q (-2 : Int32) vM))) → pX10_goes vM (nI a) x2 Q := by
        intro Q hq
        unfold pX10_goes
        refine m_sigY hN hM ha ?_
        first | refine ⟨fun c => absurd c (by decide), fun _ => ?_⟩ | refine ⟨fun _ => ?_, fun c => absurd c (by decide)⟩
        refine inY ⟨c1, c2⟩ ?_
        first | refine ⟨fun c => absurd c (by decide), fun _ => ?_⟩ | refine ⟨fun _ => ?_, fun c => absurd c (by decide)⟩
        exact m_placeIn hw.ci hw.ab ha hq
      refine c_placeOf hw.ci hw.co.jr ha ⟨fun c => ?_, fun c => ?_⟩
      · have ng : placeA A a x2 < 0 := by rw [c]; decide
        rw [hw.co.pr.n]
        refine ⟨fun k0 => ⟨vp_in_nI (by omega) (by decide), ?_⟩, fun k0 => ?_⟩
        · have k0' : K = 0 := by have := (nle (b := 0) (by omega) (by decide)).mp k0; omega
          rw [nI_clamp (by omega), hw.co.jr.len a ha, l3]
          have s0 : A 0 0 2 = 0 := hw.ci.st.elim id (fun ⟨_, y, hy, _⟩ => absurd hy (by omega))
          refine ⟨fun l => ?_, fun l => ?_⟩
          · have l := (nlt (b := 8) (by omega) (by decide)).mp l
            refine c_addCell hw.ci hw.co.jr hw.tb' (hw.sp s0).dg ha l hc (fun j' o2 jr' tb'' dg' => pre _ ⟨fun _ => ⟨fun _ => rd_at hw.ab 11 (by omega) (by decide) ?_, fun e => absurd (by rw [m14]; exact k0) e⟩, fun e => absurd ng e⟩)
            rw [l3]
            refine ⟨fun _ => ?_, fun e => absurd (nI_inj (b := 8) (by omega) (by decide) e) (by omega)⟩
            refine un (P := fun z => pX10_goesOn z (nI a) x2 _) (m_goesOn hw.ab (by omega) l l3 (fun S' hS => ?_))
            have ci' := hw.ci.gon ha l hc
            have z' : ∀ b, N ≤ b → b < 8 → gonA A a x2 1 b 11 = 0 := fun b h1 h2 => by rw [gon_w A a x2 (by omega)]; exact hw.z b h1 h2
            refine m_clears ci' z' (by rw [sa_self]; exact hS) (fun M o tm => ?_)
            have hM1 : Ab (M 1) (gonA A a x2) := by rw [o 1 (by decide) (by decide), sa_self]; exact hS
            refine rd_at hM1 11 (by omega) (by decide) ⟨(gon_11 A a x2).symm, ?_⟩
            refine h.nowT (fun c h1 h4 h5 => (o c h4 h5).trans (sa_ne _ _ h1)) (hw.way hM1 (fun x hx => gon_o A a x2 hx) (fun b w hw2 => gon_w A a x2 (by omega)) ci' jr' tb'' (fun e => ?_) z') tm
            have sp := hw.sp s0
            exact ⟨fun b h1 h2 => (o2 b h1 h2).trans (sp.len b h1 h2), dg', sp.ru, sp.nv⟩
          · have e8 : lenA A a = 8 := by
              have := nlt' (b := 8) (by omega) (by decide) l
              omega
            refine pre _ ⟨fun _ => ⟨fun _ => rd_at hw.ab 11 (by omega) (by decide) ?_, fun e => absurd (by rw [m14]; exact k0) e⟩, fun e => absurd ng e⟩
            rw [l3, e8]
            exact ⟨fun e => absurd rfl e, fun _ => ⟨rfl, hInv⟩⟩
        · exact pre _ ⟨fun _ => ⟨fun e => absurd (by rw [m14] at e; exact e) k0, fun _ => ⟨rfl, hInv⟩⟩, fun e => absurd ng e⟩
      · exact pre _ ⟨fun e => absurd e (n_le.mpr (p1.mpr c)), fun _ => ⟨rfl, hInv⟩⟩
    · first | refine ⟨fun c => absurd c (by decide), fun _ => ?_⟩ | refine ⟨fun _ => ?_, fun c => absurd c (by decide)⟩
      unfold pX10_goes
      refine m_sigY hN hM ha ?_
      first | refine ⟨fun c => absurd c (by decide), fun _ => ?_⟩ | refine ⟨fun _ => ?_, fun c => absurd c (by decide)⟩
      refine inN c ?_
      first | refine ⟨fun c => absurd c (by decide), fun _ => ?_⟩ | refine ⟨fun _ => ?_, fun c => absurd c (by decide)⟩
      exact ⟨rfl, hInv⟩
  · first | refine ⟨fun c => absurd c (by decide), fun _ => ?_⟩ | refine ⟨fun _ => ?_, fun c => absurd c (by decide)⟩
    unfold pX10_goes
    refine m_sigN hN hM e1 ?_
    first | refine ⟨fun c => absurd c (by decide), fun _ => ?_⟩ | refine ⟨fun _ => ?_, fun c => absurd c (by decide)⟩
    exact ⟨rfl, hInv⟩

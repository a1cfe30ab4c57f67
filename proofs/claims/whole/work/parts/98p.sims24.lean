noncomputable def obA (C : Nat → Int32) (N K : Nat) (w x : Int32) (A : AS) : AS :=
  if w = 0 then lp (fun _ => secA C N K) x.toNatClampNeg 0 A
  else if w = 1 then (if A 0 0 6 = -5 ∧ ¬ ffr (fwA A x.toNatClampNeg) K 0 = -5 then U A 0 0 6 x else A)
  else if w = 2 then U A 0 0 6 (-5)
  else if x.toNatClampNeg < N then U A 1 x.toNatClampNeg 5 0 else A
def plO (w x : Int32) : Prop := (w = 0 ∧ qb x 99) ∨ (w = 1 ∧ qb x 7) ∨ w = 2 ∨ (w = 3 ∧ qb x 7)
theorem fw_some {t N K : Nat} {A : AS} (hI : CoI t N K A) {a : Nat} (ha : a < 32) (e : ¬ ffr (fwA A a) K 0 = -5) : a < N ∧ ∃ p, ffr (fwA A a) K 0 = nI p ∧ p < K ∧ bt (A 2 p 0) a = true := by
  by_cases ex : ∃ b, 0 ≤ b ∧ b < 0 + K ∧ fwA A a b = true
  · obtain ⟨p, ep, _, hp, hb⟩ := ffr_some (P := fwA A a) K 0 ex
    refine ⟨?_, p, ep, by omega, hb⟩
    rcases Nat.lt_or_ge a N with l | l
    · exact l
    · have hb : bt (A 2 p 0) a = true := hb
      rw [hI.ph p (by omega) a l ha] at hb
      exact absurd hb (by decide)
  · exact absurd (ffr_none (P := fwA A a) K 0 ex) e
theorem CoI.emI {t N K : Nat} {A : AS} (h : CoI t N K A) (hs : A 0 0 2 = 1) {x : Int32} (e : x = -5 ∨ ∃ a, a < N ∧ x = nI a ∧ ∃ q, q < K ∧ bt (A 2 q 0) a = true) : CoI t N K (U A 0 0 6 x) := by
  refine h.glob (by simp [U_ne]) (by simp [U_ne]) (by simp [U_ne]) (fun g hg => ?_) (by simpa [U_at] using e) (fun q => absurd (q.symm.trans hs) (by decide)) (by simpa [U_at] using h.cy)
  rw [U_at, if_neg (by omega)]
theorem CoR.emR {N K : Nat} {c j s p r : Lf} {A : AS} (h : CoR N K c j s p r A) (x : Int32) : CoR N K (st c 0 8 x) j s p r (U A 0 0 6 x) := by
  refine h.glob ?_ (by simp [U_ne]) (by simp [U_ne]) (by simp [U_ne]) (by simp [U_at]) (by simp [U_at])
  refine ⟨?_, ?_, ?_, ?_, ?_, ?_, ?_, ?_, ?_, ?_, ?_, ?_⟩ <;> simp [st_at, U_at, h.cf.st, h.cf.sec, h.cf.cur, h.cf.cut, h.cf.em, h.cf.wt, h.cf.sv, h.cf.ls, h.cf.sd, h.cf.cy, h.cf.off, h.cf.spl]
theorem CoI.que {t N K : Nat} {A : AS} (h : CoI t N K A) (a : Nat) : CoI t N K (U A 1 a 5 0) :=
  h.one a (fun g _ _ _ _ => by simp [U_at]) (fun q => by simp [U_at]) (by simp [U_ne]) (fun b hb => by funext y; simp [U_at, hb]) (fun _ s => s.q (fun w h5 => by simp [U_at, h5]) ⟨0, by decide, by rw [U_at, if_pos ⟨rfl, rfl, rfl⟩]; rfl⟩) (fun _ c => .inl (by simpa [U_at] using c))
theorem CoR.que {N K : Nat} {c j s p r : Lf} {A : AS} (h : CoR N K c j s p r A) {a : Nat} (ha : a < N) : CoR N K c j (st s 2 a 0) p r (U A 1 a 5 0) :=
  h.step (h.cf.fr (fun g => by simp [U_at])) (h.sr.upQ ha (by simp [U_at]) (fun b w hw => by rw [U_at, if_neg (by omega)])) (by simp [U_at]) (by simp [U_at]) (fun b w hw => by rw [U_at, if_neg (by omega)]) (by simp [U_ne]) (by simp [U_ne])
theorem SR.que0 {N : Nat} {s : Lf} {A : AS} (h : SR N s A) {a : Nat} (ha : N ≤ a) : SR N (st s 2 a 0) A := by
  have o : ∀ c x, ¬ (c = 2 ∧ x = a) → st s 2 a 0 c x = s c x := fun c x hx => by rw [st_at, if_neg hx]
  refine ⟨fun b hb k hk => ?_, fun b hb => ?_, fun b hb => ?_, fun b hb => ?_, fun b hb => ?_, fun b hb => ?_, fun b hb => ?_, fun b hb => ?_, fun b hb hb2 => ?_, fun b hb hb2 => ?_⟩
  · rw [o _ _ (by omega)]; exact h.ru b hb k hk
  · rw [o _ _ (by omega)]; exact h.q b hb
  · rw [o _ _ (by omega)]; exact h.g b hb
  · rw [o _ _ (by omega)]; exact h.be b hb
  · rw [o _ _ (by omega)]; exact h.en b hb
  · rw [o _ _ (by omega)]; exact h.se b hb
  · rw [o _ _ (by omega)]; exact h.go b hb
  · rw [o _ _ (by omega)]; exact h.ti b hb
  · rw [st_at]
    split
    · rfl
    · exact h.q0 b hb hb2
  · rw [o _ _ (by omega)]; exact h.g0 b hb hb2
theorem ob_ok {t N K : Nat} {A : AS} (C : Nat → Int32) {w x : Int32} (ht : t + 99 < 2 ^ 30) (hI : CoI t N K A) (hs : A 0 0 2 = 1) (o : plO w x) : (∃ t', t' ≤ t + 99 ∧ CoI t' N K (obA C N K w x A)) ∧ obA C N K w x A 0 0 2 = 1 ∧ Fr A (obA C N K w x A) := by
  have d1 : ¬ (1 : Int32) = 0 := by decide
  have d2 : ¬ (2 : Int32) = 0 := by decide
  have d3 : ¬ (2 : Int32) = 1 := by decide
  have d4 : ¬ (3 : Int32) = 0 := by decide
  have d5 : ¬ (3 : Int32) = 1 := by decide
  have d6 : ¬ (3 : Int32) = 2 := by decide
  rcases o with ⟨rfl, n, hn, rfl⟩ | ⟨rfl, n, hn, rfl⟩ | rfl | ⟨rfl, n, hn, rfl⟩
  · unfold obA
    rw [if_pos rfl, nI_clamp (by omega)]
    obtain ⟨i1, s1⟩ := CoI.passes (K := K) C n 0 (by omega) hI hs
    exact ⟨⟨t + n, by omega, i1⟩, s1, Fr.passes C N K n A⟩
  · unfold obA
    rw [if_neg d1, if_pos rfl, nI_clamp (by omega)]
    split
    · rename_i c
      obtain ⟨a1, p, a2, a3, a4⟩ := fw_some hI (by omega) c.2
      exact ⟨⟨t, by omega, hI.emI hs (.inr ⟨n, a1, rfl, p, a3, a4⟩)⟩, by simp [U_at, hs], Fr.U0 A 6 _ (by decide) (by decide)⟩
    · exact ⟨⟨t, by omega, hI⟩, hs, Fr.refl A⟩
  · unfold obA
    rw [if_neg d2, if_neg d3, if_pos rfl]
    exact ⟨⟨t, by omega, hI.emI hs (.inl rfl)⟩, by simp [U_at, hs], Fr.U0 A 6 _ (by decide) (by decide)⟩
  · unfold obA
    rw [if_neg d4, if_neg d5, if_neg d6, nI_clamp (by omega)]
    split
    · exact ⟨⟨t, by omega, hI.que n⟩, by simp [U_at, hs], Fr.U1 A n 5 _ (by omega)⟩
    · exact ⟨⟨t, by omega, hI⟩, hs, Fr.refl A⟩
theorem c_obey {t N K : Nat} {c j s p r : Lf} {A : AS} {C : Nat → Int32} {w x : Int32} (hC : ClR N j C) (ht : t + 99 < 2 ^ 30) (h : CoR N K c j s p r A) (hI : CoI t N K A) (hs : A 0 0 2 = 1) (o : plO w x) {Q : Lf → Lf → Lf → Lf → Prop} (q : ∀ c' s' p' r', CoR N K c' j s' p' r' (obA C N K w x A) → Q c' s' p' r') : pX0_obey c j s p r w x Q := by
  have hK := hI.hK
  have d1 : ¬ (1 : Int32) = 0 := by decide
  have d2 : ¬ (2 : Int32) = 0 := by decide
  have d3 : ¬ (2 : Int32) = 1 := by decide
  have d4 : ¬ (3 : Int32) = 0 := by decide
  have d5 : ¬ (3 : Int32) = 1 := by decide
  have d6 : ¬ (3 : Int32) = 2 := by decide
  unfold pX0_obey
  unfold obA at q
  rcases o with ⟨rfl, n, hn, rfl⟩ | ⟨rfl, n, hn, rfl⟩ | rfl | ⟨rfl, n, hn, rfl⟩
  · rw [if_pos rfl, nI_clamp (by omega)] at q
    exact ⟨fun _ => c_passes hC (by omega) h hI hs q, fun c => absurd rfl c⟩
  · rw [if_neg d1, if_pos rfl, nI_clamp (by omega)] at q
    refine ⟨fun c => absurd c d1, fun _ => ⟨fun _ => ?_, fun c => absurd rfl c⟩⟩
    unfold pX0_declare
    rw [h.cf.st, hs, h.cf.em]
    refine ⟨fun c => absurd c d1, fun _ => ⟨fun c2 => ?_, fun c2 => ⟨K + 1, c_first hK h.pr (by omega) K 0 (by omega) ⟨fun c3 => ?_, fun c3 => ?_⟩⟩⟩⟩
    · rw [if_neg (fun e => c2 e.1)] at q
      exact q _ _ _ _ h
    · rw [if_pos ⟨c2, c3⟩] at q
      exact q _ _ _ _ (h.emR _)
    · rw [if_neg (fun e => e.2 c3)] at q
      exact q _ _ _ _ h
  · rw [if_neg d2, if_neg d3, if_pos rfl] at q
    exact ⟨fun c => absurd c d2, fun _ => ⟨fun c => absurd c d3, fun _ => ⟨fun _ => q _ _ _ _ (h.emR _), fun c => absurd rfl c⟩⟩⟩
  · rw [if_neg d4, if_neg d5, if_neg d6, nI_clamp (by omega)] at q
    rw [nI_clamp (by omega)]
    refine ⟨fun c => absurd c d4, fun _ => ⟨fun c => absurd c d5, fun _ => ⟨fun c => absurd c d6, fun _ => ⟨vp_in_nI (by omega) (by decide), q _ _ _ _ ?_⟩⟩⟩⟩
    split
    · rename_i l
      exact h.que l
    · rename_i l
      exact ⟨h.cf, h.jr, h.sr.que0 (by omega), h.pr, h.rr⟩
theorem m_does {v : Lf} {t N K : Nat} {S : Nat → Int32} {A : AS} {w x : Int32} (ht : t + 99 < 2 ^ 30) (hI : CoI t N K A) (hs : A 0 0 2 = 1) (h : Ab S A) (o : plO w x) {Q : Lf → Prop} (q : ∀ S', Ab S' (obA (v 4) N K w x A) → Q (sa v 1 S')) : pX10_does (sa v 1 S) w x Q := by
  have hN := hI.hN
  have hK := hI.hK
  have d1 : ¬ (1 : Int32) = 0 := by decide
  have d2 : ¬ (2 : Int32) = 0 := by decide
  have d3 : ¬ (2 : Int32) = 1 := by decide
  have d4 : ¬ (3 : Int32) = 0 := by decide
  have d5 : ¬ (3 : Int32) = 1 := by decide
  have d6 : ¬ (3 : Int32) = 2 := by decide
  have d7 : ¬ (0 : Int32) = 1 := by decide
  have d8 : ¬ (0 : Int32) = 2 := by decide
  have d9 : ¬ (0 : Int32) = 3 := by decide
  have d10 : ¬ (1 : Int32) = 2 := by decide
  have d11 : ¬ (1 : Int32) = 3 := by decide
  have d12 : ¬ (2 : Int32) = 3 := by decide
  have hm : sa v 1 S 1 13 = nI N := h.gv (by decide) hI.m
  unfold pX10_does
  unfold obA at q
  rcases o with ⟨rfl, n, hn, rfl⟩ | ⟨rfl, n, hn, rfl⟩ | rfl | ⟨rfl, n, hn, rfl⟩
  · rw [if_pos rfl, nI_clamp (by omega)] at q
    refine ⟨fun c => absurd rfl c, fun _ => m_passes' (by omega) hI hs h (fun S' hS => ?_)⟩
    exact ⟨fun _ => ⟨fun _ => ⟨fun _ => q S' hS, fun c => absurd c d9⟩, fun c => absurd c d8⟩, fun c => absurd c d7⟩
  · rw [if_neg d1, if_pos rfl, nI_clamp (by omega)] at q
    have fin : ∀ M, Q M → pX10_does_J20 1 (nI n) Q M := fun M qq => ⟨fun _ => ⟨fun _ => qq, fun c => absurd c d11⟩, fun c => absurd c d10⟩
    refine ⟨fun _ => ⟨fun c => absurd rfl c, fun _ => ?_⟩, fun c => absurd c d1⟩
    unfold pX10_emergency
    have e6 := em_neg hI
    rw [h.gw (k := 2) (by decide), h.gw (k := 6) (by decide), hs]
    refine m_sig hN hm (fun a ha ea => ?_) (fun e => ?_)
    · first | refine ⟨fun c => absurd c (by decide), fun _ => ?_⟩ | refine ⟨fun _ => ?_, fun c => absurd c (by decide)⟩
      have ea2 : n = a := nI_inj (by omega) (by omega) ea
      subst ea2
      refine ⟨fun c => absurd c d1, fun _ => ⟨fun c => fin _ ?_, fun c => ⟨K + 1, m_first hK hI.k h (by omega) K 0 (by omega) ?_⟩⟩⟩
      · rw [if_neg (fun e => e6.mp c e.1)] at q
        exact q S h
      · have c6 : A 0 0 6 = -5 := by
          by_cases z : A 0 0 6 = -5
          · exact z
          · exact absurd (e6.mpr z) c
        by_cases f : ffr (fwA A n) K 0 = -5
        · rw [if_neg (fun e => e.2 f)] at q
          rw [f]
          exact ⟨fun c => absurd c (by decide), fun _ => fin _ (q S h)⟩
        · rw [if_pos ⟨c6, f⟩] at q
          obtain ⟨_, p, a2, a3, a4⟩ := fw_some hI (by omega) f
          rw [a2]
          refine ⟨fun _ => ?_, fun c => absurd (nI_pos' (by omega)) c⟩
          rw [st_sa1]
          have hab := h.ug (k := 6) (by decide) (nI n)
          have hk2 : U A 0 0 6 (nI n) 0 0 14 = nI K := by simp [U_at, hI.k]
          exact ⟨K + 1, m_first hK hk2 hab (by omega) K 0 (by omega) (fin _ (q _ hab))⟩
    · first | refine ⟨fun c => absurd c (by decide), fun _ => ?_⟩ | refine ⟨fun _ => ?_, fun c => absurd c (by decide)⟩
      have f : ffr (fwA A n) K 0 = -5 := by
        by_cases f : ffr (fwA A n) K 0 = -5
        · exact f
        · exact absurd ⟨n, (fw_some hI (by omega) f).1, rfl⟩ e
      rw [if_neg (fun e => e.2 f)] at q
      exact fin _ (q S h)
  · rw [if_neg d2, if_neg d3, if_pos rfl] at q
    refine ⟨fun _ => ⟨fun _ => ⟨fun c => absurd rfl c, fun _ => ?_⟩, fun c => absurd c d3⟩, fun c => absurd c d2⟩
    unfold pX10_over
    have e6 := em_neg hI
    rw [h.gw (k := 6) (by decide), st_sa1]
    refine ⟨fun c => ⟨fun _ => q _ (h.ug (k := 6) (by decide) (-5)), fun c => absurd c d12⟩, fun c => ⟨fun _ => ?_, fun c => absurd c d12⟩⟩
    have c6 : A 0 0 6 = -5 := by
      by_cases z : A 0 0 6 = -5
      · exact z
      · exact absurd (e6.mpr z) c
    refine q S ?_
    rw [← c6, U_same]
    exact h
  · rw [if_neg d4, if_neg d5, if_neg d6, nI_clamp (by omega)] at q
    refine ⟨fun _ => ⟨fun _ => ⟨fun _ => ⟨fun c => absurd rfl c, fun _ => ?_⟩, fun c => absurd c d6⟩, fun c => absurd c d5⟩, fun c => absurd c d4⟩
    refine m_sig hN hm (fun a ha ea => ?_) (fun e => ?_)
    · first | refine ⟨fun c => absurd c (by decide), fun _ => ?_⟩ | refine ⟨fun _ => ?_, fun c => absurd c (by decide)⟩
      have ea2 : n = a := nI_inj (by omega) (by omega) ea
      subst ea2
      rw [if_pos ha] at q
      exact m_puts h 5 (by omega) (by decide) q
    · first | refine ⟨fun c => absurd c (by decide), fun _ => ?_⟩ | refine ⟨fun _ => ?_, fun c => absurd c (by decide)⟩
      rw [if_neg (fun l => e ⟨n, l, rfl⟩)] at q
      exact q S h
def plS (A : AS) (i : Nat) (x : Nat) : Nat := if A 7 i 0 = 0 then x + (A 7 i 1).toNatClampNeg else x
theorem pl_le {A : AS} {m : Nat} (row : ∀ i, i < m → plO (A 7 i 0) (A 7 i 1)) : ∀ (k i x : Nat), i + k ≤ m → lp (plS A) k i x ≤ x + 99 * k := by
  intro k
  induction k with
  | zero => intro i x _; exact Nat.le_refl _
  | succ k ih =>
    intro i x hi
    rw [lp_succ]
    have := ih (i + 1) (plS A i x) (by omega)
    have h2 : plS A i x ≤ x + 99 := by
      unfold plS
      split
      · rename_i c
        rcases row i (by omega) with ⟨_, z, hz, e⟩ | ⟨e, _⟩ | e | ⟨e, _⟩
        · rw [e, nI_clamp (by omega)]; omega
        · exact absurd (c.symm.trans e) (by decide)
        · exact absurd (c.symm.trans e) (by decide)
        · exact absurd (c.symm.trans e) (by decide)
      · omega
    omega
theorem pl_0 {A : AS} {m i : Nat} (row : ∀ i, i < m → plO (A 7 i 0) (A 7 i 1)) (hi : i < m) (c : A 7 i 0 = 0) : A 7 i 1 = nI (A 7 i 1).toNatClampNeg := by
  rcases row i hi with ⟨_, z, hz, e⟩ | ⟨e, _⟩ | e | ⟨e, _⟩
  · rw [e, nI_clamp (by omega)]
  · exact absurd (c.symm.trans e) (by decide)
  · exact absurd (c.symm.trans e) (by decide)
  · exact absurd (c.symm.trans e) (by decide)
theorem c_planned {A : AS} {q : Lf} {m : Nat} (h0 : q 0 0 = nI m) (hm : m ≤ 8) (rq : ∀ i, i < m → ∀ k, k < 2 → q 1 (i * 3 + k) = A 7 i k) (row : ∀ i, i < m → plO (A 7 i 0) (A 7 i 1)) {Q : Int32 → Prop} : ∀ (k i x : Nat), i + k = m → Q (nI (lp (plS A) k i x)) → pX8_plannedSeconds_L4 q Q (k + 1) (nI x) (nI i) := by
  intro k
  induction k with
  | zero =>
    intro i x hi qq
    exact hdE h0 (by omega) qq
  | succ k ih =>
    intro i x hi qq
    rw [lp_succ] at qq
    unfold plS at qq
    have i0 : nI i * (3 : Int32) + 0 = nI (i * 3 + 0) := ix3 i 0
    have i1 : nI i * (3 : Int32) + 1 = nI (i * 3 + 1) := ix3 i 1
    refine hdG h0 (by omega) (by omega) ?_
    unfold pX4_at
    rw [i0, i1, nI_clamp (by omega), nI_clamp (by omega), rq i (by omega) 0 (by decide), rq i (by omega) 1 (by decide)]
    refine ⟨vp_in_nI (by omega) (by decide), fun c => ?_, fun c => ⟨vp_in_nI (by omega) (by decide), ?_⟩⟩
    · unfold pX8_plannedSeconds_J39
      rw [if_neg c] at qq
      rw [nI_s]
      exact ih (i + 1) x (by omega) qq
    · unfold pX8_plannedSeconds_J39
      rw [if_pos c] at qq
      rw [nI_s, pl_0 row (by omega) c, nI_add]
      exact ih (i + 1) _ (by omega) qq
theorem ix355 (i : Nat) : (355 : Int32) + (2 : Int32) * nI i = nI (355 + 2 * i) := by
  show nI 355 + nI 2 * nI i = _
  rw [pk_mul, nI_add]
theorem ix355s (i : Nat) : (355 : Int32) + (2 : Int32) * nI i + 1 = nI (355 + 2 * i + 1) := by rw [ix355]; exact nI_add _ 1
theorem m_planned {v : Lf} {A : AS} {m : Nat} (h : Ab (v 1) A) (e20 : A 0 0 20 = nI m) (hm : m ≤ 8) (row : ∀ i, i < m → plO (A 7 i 0) (A 7 i 1)) {x1 : Int32} {Q : Int32 → Lf → Prop} : ∀ (k i x : Nat), i + k = m → pX10_counts v (nI (lp (plS A) k i x)) (fun r7 v_7 => ((¬ r7 = 0 → (pX10_thinks v_7 (fun v_9 => (∃ n97, pX10_ends__L97 x1 Q n97 v_9 (0 : Int32))))) ∧ (r7 = 0 → (Q (-4 : Int32) v_7)))) → pX10_ends__L27 x1 Q (k + 1) v (nI x) (nI i) := by
  have h0 : v 1 20 = nI m := (h.gl (k := 20) (by decide)).trans e20
  intro k
  induction k with
  | zero =>
    intro i x hi qq
    exact hdE h0 (by omega) qq
  | succ k ih =>
    intro i x hi qq
    rw [lp_succ] at qq
    unfold plS at qq
    refine hdG h0 (by omega) (by omega) ?_
    rw [ix355s, ix355, nI_clamp (by omega), nI_clamp (by omega), show v 1 (355 + 2 * i) = A 7 i 0 from h 7 i 0 ⟨rfl, by omega, by decide⟩, show v 1 (355 + 2 * i + 1) = A 7 i 1 from h 7 i 1 ⟨rfl, by omega, by decide⟩]
    refine ⟨vp_in_nI (by omega) (by decide), fun c => ?_, fun c => ⟨vp_in_nI (by omega) (by decide), ?_⟩⟩
    · unfold pX10_ends__J72
      rw [if_neg c] at qq
      rw [nI_s, Int32.add_zero]
      exact ih (i + 1) x (by omega) qq
    · unfold pX10_ends__J72
      rw [if_pos c] at qq
      rw [nI_s, pl_0 row (by omega) c, nI_add]
      exact ih (i + 1) _ (by omega) qq
noncomputable def edS (C : Nat → Int32) (N K : Nat) (R : AS) (i : Nat) (A : AS) : AS := obA C N K (R 7 i 0) (R 7 i 1) A
theorem c_endsL {t N K m : Nat} {vNc vNcj vNcs vNcp vNcr j q v : Lf} {R : AS} {C : Nat → Int32} (ht : t < 2 ^ 20) (hC : ClR N j C) (h0 : q 0 0 = nI m) (hm : m ≤ 8) (rq : ∀ i, i < m → ∀ k, k < 2 → q 1 (i * 3 + k) = R 7 i k) (row : ∀ i, i < m → plO (R 7 i 0) (R 7 i 1)) {x1 : Int32} {Q : Int32 → Lf → Lf → Lf → Lf → Lf → Lf → Prop} : ∀ (k i t' : Nat) (c s p r : Lf) (A : AS), i + k = m → t' ≤ t + 99 * i → CoR N K c j s p r A → CoI t' N K A → A 0 0 2 = 1 → (∀ c' s' p' r', r' 0 1 = 24 → Q (if x1 = 0 then lp (edS C N K R) k i A 0 0 7 else lp (edS C N K R) k i A 0 0 8) v c' j s' p' r') → pX9_ends_L46 vNc vNcj vNcs vNcp vNcr q x1 Q (k + 1) v c j s p r (nI i) := by
  intro k
  induction k with
  | zero =>
    intro i t' c s p r A hi ht' h hI hs qq
    have qq := qq c s p r h.rr.most
    refine hdE h0 (by omega) ⟨fun c2 => ?_, fun c2 => ?_⟩
    · rw [if_neg c2, lp_zero] at qq
      rw [h.cf.sv]; exact qq
    · rw [if_pos c2, lp_zero] at qq
      rw [h.cf.wt]; exact qq
  | succ k ih =>
    intro i t' c s p r A hi ht' h hI hs qq
    have i0 : nI i * (3 : Int32) + 0 = nI (i * 3 + 0) := ix3 i 0
    have i1 : nI i * (3 : Int32) + 1 = nI (i * 3 + 1) := ix3 i 1
    refine hdG h0 (by omega) (by omega) ?_
    unfold pX4_at
    rw [i0, i1, nI_clamp (by omega), nI_clamp (by omega), rq i (by omega) 0 (by decide), rq i (by omega) 1 (by decide)]
    refine ⟨vp_in_nI (by omega) (by decide), vp_in_nI (by omega) (by decide), c_obey hC (by omega) h hI hs (row i (by omega)) (fun c2 s2 p2 r2 h2 => ?_)⟩
    rw [nI_s]
    obtain ⟨⟨t2, l2, i2⟩, s3, _⟩ := ob_ok C (by omega) hI hs (row i (by omega))
    exact ih (i + 1) t2 c2 s2 p2 r2 _ (by omega) (by omega) h2 i2 s3 qq
theorem m_endsL {v M : Lf} {t N K m : Nat} {R : AS} (bk : Bk3 v M) (ht : t < 2 ^ 20) (hm : m ≤ 8) (e20 : R 0 0 20 = nI m) (row : ∀ i, i < m → plO (R 7 i 0) (R 7 i 1)) {x1 : Int32} {Q : Int32 → Lf → Prop} : ∀ (k i t' : Nat) (S : Nat → Int32) (A : AS), i + k = m → t' ≤ t + 99 * i → A 7 = R 7 → A 0 0 20 = nI m → Ab S A → CoI t' N K A → A 0 0 2 = 1 → (∀ M', Bk3 v M' → Q (if x1 = 0 then lp (edS (v 4) N K R) k i A 0 0 7 else lp (edS (v 4) N K R) k i A 0 0 8) M') → pX10_ends__L97 x1 Q (k + 1) (sa M 1 S) (nI i) := by
  have e4 : M 4 = v 4 := bk.o 4 (by decide) (by decide)
  have z8 : (8 : Int32).toNatClampNeg = 8 := by decide
  have z7 : (7 : Int32).toNatClampNeg = 7 := by decide
  intro k
  induction k with
  | zero =>
    intro i t' S A hi ht' e7 e20' h hI hs qq
    refine hdE (h.gv (by decide) e20') (by omega) ⟨fun c2 => ?_, fun c2 => ?_⟩
    · unfold pX10_ends__J159
      rw [z8, h.gw (by decide)]
      refine ⟨vp_in_nI (n := 8) (by decide) (by decide), m_forget3 bk (fun c hc => sa_ne _ _ hc) (fun M' bk' => ?_)⟩
      have qq := qq M' bk'
      rw [if_neg c2, lp_zero] at qq
      exact qq
    · unfold pX10_ends__J159
      rw [z7, h.gw (by decide)]
      refine ⟨vp_in_nI (n := 7) (by decide) (by decide), m_forget3 bk (fun c hc => sa_ne _ _ hc) (fun M' bk' => ?_)⟩
      have qq := qq M' bk'
      rw [if_pos c2, lp_zero] at qq
      exact qq
  | succ k ih =>
    intro i t' S A hi ht' e7 e20' h hI hs qq
    refine hdG (h.gv (by decide) e20') (by omega) (by omega) ?_
    rw [ix355s, ix355, nI_clamp (by omega), nI_clamp (by omega), sa_self, show S (355 + 2 * i) = R 7 i 0 from (h 7 i 0 ⟨rfl, by omega, by decide⟩).trans (by rw [e7]), show S (355 + 2 * i + 1) = R 7 i 1 from (h 7 i 1 ⟨rfl, by omega, by decide⟩).trans (by rw [e7])]
    refine ⟨vp_in_nI (by omega) (by decide), vp_in_nI (by omega) (by decide), m_does (by omega) hI hs h (row i (by omega)) (fun S2 h2 => ?_)⟩
    rw [e4] at h2
    rw [nI_s]
    obtain ⟨⟨t2, l2, i2⟩, s3, fr⟩ := ob_ok (v 4) (by omega) hI hs (row i (by omega))
    exact ih (i + 1) t2 S2 _ (by omega) (by omega) ((fr.f4 7 (by decide)).trans e7) ((fr.gl 20 (by decide) (by decide)).trans e20') h2 i2 s3 qq

theorem sim_ends : Sim_X9_ends Inv := by
  intro v vNc vNcj vNcs vNcp vNcr vNw vNg vNn vNq vIc vIcj vIcs vIcp vIcr vIw vIg vIn vIq vT vTj vTs vTp vTr vx vt gt vM gM hInv x1
  obtain ⟨B, t, N, K, A, h⟩ := id hInv
  have hw := h.now
  have hN := hw.ci.hN
  have hK := hw.ci.hK
  have hM := hw.n13
  have hP := hw.n14
  unfold pX9_ends
  have m0 : vM 1 2 = A 0 0 2 := hw.ab.gl (k := 2) (by decide)
  obtain ⟨m, hm, em, hrow⟩ := hw.pl.row
  have rq : ∀ i, i < m → ∀ k, k < 2 → vNq 1 (i * 3 + k) = A 7 i k := fun i hi => (hrow i hi).1
  have row : ∀ i, i < m → plO (A 7 i 0) (A 7 i 1) := fun i hi => (hrow i hi).2
  have n0' : vNq 0 0 = nI m := hw.pl.n.trans em
  have le := pl_le row m 0 0 (by omega)
  refine w_in (fun c1 c2 => ?_) (fun c => ?_)
  · first | refine ⟨fun c => absurd c (by decide), fun _ => ?_⟩ | refine ⟨fun _ => ?_, fun c => absurd c (by decide)⟩
    refine ⟨m + 1, c_planned n0' hm rq row m 0 0 (by omega) ?_⟩
    have mp := fun (v : Lf) (h : Ab (v 1) A) (Q : Int32 → Lf → Prop) => m_planned (v := v) h em hm row (x1 := x1) (Q := Q) m 0 0 (by omega)
    revert le mp
    generalize lp (plS A) m 0 0 = z
    intro le mp
    refine c_refusal (M := 792) (T := 1) h.cnt h.hB (by decide) (by decide) hw.co.cf (fun e => absurd ⟨z, by omega, rfl⟩ e) (fun n hn e s => ?_) (fun n hn e s l => ?_) (fun n hn e s l => ?_)
    · first | refine ⟨fun c => absurd c (by decide), fun _ => ?_⟩ | refine ⟨fun _ => ?_, fun c => absurd c (by decide)⟩
      unfold pX10_ends_
      refine inY ⟨c1, c2⟩ ?_
      first | refine ⟨fun c => absurd c (by decide), fun _ => ?_⟩ | refine ⟨fun _ => ?_, fun c => absurd c (by decide)⟩
      rw [m0]
      exact ⟨fun c => absurd s c, fun _ => ⟨rfl, hInv⟩⟩
    · first | refine ⟨fun c => absurd c (by decide), fun _ => ?_⟩ | refine ⟨fun _ => ?_, fun c => absurd c (by decide)⟩
      have e2 : z = n := nI_inj (by omega) (by omega) e
      subst e2
      unfold pX10_ends_
      refine inY ⟨c1, c2⟩ ?_
      first | refine ⟨fun c => absurd c (by decide), fun _ => ?_⟩ | refine ⟨fun _ => ?_, fun c => absurd c (by decide)⟩
      rw [m0]
      refine ⟨fun _ => ⟨m + 1, mp vM hw.ab _ ?_⟩, fun c => absurd c s⟩
      refine m_counts h.cntM h.hB (by omega) (fun l2 => absurd (by omega) l) (fun _ => ?_)
      first | refine ⟨fun c => absurd c (by decide), fun _ => ?_⟩ | refine ⟨fun _ => ?_, fun c => absurd c (by decide)⟩
      exact ⟨rfl, hInv⟩
    · first | refine ⟨fun c => absurd c (by decide), fun _ => ?_⟩ | refine ⟨fun _ => ?_, fun c => absurd c (by decide)⟩
      have e2 : z = n := nI_inj (by omega) (by omega) e
      subst e2
      rw [Nat.mul_one] at l ⊢
      have hs : A 0 0 2 = 1 := hw.ci.st.elim (fun q => absurd q s) (fun q => q.1)
      have h2 := h.count (B2 := B + z) (by omega) l
      have w2 := h2.now
      have tb := hw.tb
      have hB := h.hB
      refine c_copyC hw.co hw.ci hw.tb' h.most.1 (fun c' j' s' p' r' co tb' _ => ?_)
      have cr := ClR.of hw.ci co.jr tb' h.tab
      refine ⟨m + 1, c_endsL (t := t) (C := vM 4) (R := A) (by omega) cr n0' hm rq row m 0 t c' s' p' r' A (by omega) (by omega) co hw.ci hs (fun c3 s3 p3 r3 hr3 => ?_)⟩
      unfold pX10_ends_
      refine inY ⟨c1, c2⟩ ?_
      first | refine ⟨fun c => absurd c (by decide), fun _ => ?_⟩ | refine ⟨fun _ => ?_, fun c => absurd c (by decide)⟩
      rw [m0]
      refine ⟨fun _ => ⟨m + 1, mp vM hw.ab _ ?_⟩, fun c => absurd c s⟩
      refine m_counts h.cntM h.hB (by omega) (fun l2 => ?_) (fun c => absurd l c)
      first | refine ⟨fun c => absurd c (by decide), fun _ => ?_⟩ | refine ⟨fun _ => ?_, fun c => absurd c (by decide)⟩
      have e4 : st vM 0 4 (nI (B + z)) 4 = vM 4 := st_oth vM 4 _ (by decide)
      refine m_think3 (fun M bk => ⟨m + 1, ?_⟩)
      have ml := m_endsL (K := K) (N := N) bk (t := t) (by omega) hm em row (x1 := x1) (Q := fun r' vM' => (if x1 = 0 then lp (edS (vM 4) N K A) m 0 A 0 0 7 else lp (edS (vM 4) N K A) m 0 A 0 0 8) = r' ∧ Inv (st v 0 11 (nI (B + z))) vNc vNcj vNcs vNcp vNcr vNw vNg vNn vNq vIc vIcj vIcs vIcp vIcr vIw vIg vIn vIq c3 j' s3 p3 r3 vx vt gt vM' gM) m 0 t (M 1) A (by omega) (by omega) rfl em (bk.ab w2.ab) hw.ci hs (fun M' bk' => by
        rw [e4]
        exact ⟨rfl, h2.back bk'.o bk'.e hr3⟩)
      rw [sa_id] at ml
      exact ml
  · first | refine ⟨fun c => absurd c (by decide), fun _ => ?_⟩ | refine ⟨fun _ => ?_, fun c => absurd c (by decide)⟩
    unfold pX10_ends_
    refine inN c ?_
    first | refine ⟨fun c => absurd c (by decide), fun _ => ?_⟩ | refine ⟨fun _ => ?_, fun c => absurd c (by decide)⟩
    exact ⟨rfl, hInv⟩

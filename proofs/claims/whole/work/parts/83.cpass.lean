theorem RR.fr {r : Lf} {A B : AS} (h : RR r A) (e15 : B 0 0 15 = A 0 0 15) (e3 : B 3 = A 3) : RR r B :=
  ⟨by rw [e15]; exact h.n, h.most, by rw [e15, e3]; exact h.at'⟩
theorem ix3 (m k : Nat) : nI m * (3 : Int32) + nI k = nI (m * 3 + k) := by
  show nI m * nI 3 + nI k = _
  rw [pk_mul, nI_add]
theorem c_add {r : Lf} {B : AS} (h : RR r B) {m a : Nat} (hm : B 0 0 15 = nI m) (hm2 : m < 24) {b e : Int32} {Q : Lf → Prop} (q : ∀ r', RR r' (recW a b e B) → Q r') : pX4_add 72 r (nI a) b e (fun _ v => Q v) := by
  unfold pX4_add
  have hn : r 0 0 = nI m := h.n.trans hm
  have e0 : nI m * (3 : Int32) = nI (m * 3) := pk_mul m 3
  have e1 : nI m * (3 : Int32) + 1 = nI (m * 3 + 1) := ix3 m 1
  have e2 : nI m * (3 : Int32) + 2 = nI (m * 3 + 2) := ix3 m 2
  rw [hn, h.most, e1, e2, e0, nI_clamp (by omega), nI_clamp (by omega), nI_clamp (by omega)]
  refine ⟨fun _ => ⟨vp_in_nI (by omega) (by decide), vp_in_nI (by omega) (by decide), vp_in_nI (by omega) (by decide), q _ ?_⟩, fun c => absurd ((nlt (b := 24) (by omega) (by decide)).mpr hm2) c⟩
  have hcl : (B 0 0 15).toNatClampNeg = m := by rw [hm, nI_clamp (by omega)]
  refine ⟨?_, ?_, ?_⟩
  · simp [st_at, recW, U_at, hn, hm]
  · simp [st_at, h.most]
  · intro z hz0 hz i hi k hk
    have hz2 : nI z = nI (m + 1) := by
      rw [← hz]; simp [recW, U_at, hm, nI_s]
    have hz3 : z = m + 1 := nI_inj (by omega) (by omega) hz2
    by_cases c : i = m
    · subst c
      rcases (show k = 0 ∨ k = 1 ∨ k = 2 by omega) with rfl | rfl | rfl
      · simp [st_at, recW, U_at, hcl]
      · simp [st_at, recW, U_at, hcl]
      · simp [st_at, recW, U_at, hcl]
    · have := h.at' m (by omega) hm i (by omega) k hk
      simp only [st_at, recW, U_at, hcl]
      rw [if_neg (by omega), if_neg (by omega), if_neg (by omega), if_neg (by omega), if_neg (by omega), if_neg (by omega), if_neg (by omega), if_neg (by omega)]
      exact this
theorem RR.shift {r : Lf} {A : AS} (h : RR r A) (hc : A 0 0 15 = 24) : RR (st (sa r 1 (va_cpy (r 1) (r 1) 3 0 69)) 0 0 ((sa r 1 (va_cpy (r 1) (r 1) 3 0 69)) 0 1 - 1)) (U (shR A) 0 0 15 (A 0 0 15 - 1)) := by
  refine ⟨?_, ?_, ?_⟩
  · rw [sa_ne _ _ (by decide), h.most]
    simp [st_at, U_at, hc]
  · rw [st_at, if_neg (by omega), sa_ne _ _ (by decide)]; exact h.most
  · intro z hz0 hz i hi k hk
    have hz2 : z = 23 := by
      refine nI_inj (by omega) (by decide) (hz.symm.trans ?_)
      simp [U_at, hc] <;> rfl
    have := h.at' 24 (by decide) (hc.trans rfl) (i + 1) (by omega) k hk
    rw [st_at, if_neg (by omega), sa_self, pk_cpy_in (by omega) (by omega), show 3 + (i * 3 + k - 0) = (i + 1) * 3 + k by omega, this]
    simp [U_at, shR, show i < 23 by omega]
theorem c_latest {r : Lf} {A : AS} (h : RR r A) (hr : rOk A) {a : Nat} {b e : Int32} {Q : Lf → Prop} (q : ∀ r', RR r' (recS a b e A) → Q r') : pX4_addAsLatest 72 r (nI a) b e Q := by
  obtain ⟨m, hm, hc⟩ := hr
  unfold pX4_addAsLatest pX4_addAsLatest_J41
  unfold recS at q
  rw [h.n, h.most]
  by_cases c : A 0 0 15 = 24
  · rw [if_pos c] at q
    refine ⟨fun l => absurd (c ▸ l) (by decide), fun _ => ⟨⟨by decide, by decide, by decide, by decide, by decide⟩, ?_⟩⟩
    exact c_add (h.shift c) (m := 23) (by simp [U_at, c] <;> rfl) (by decide) q
  · rw [if_neg c] at q
    have hm2 : m < 24 := by
      rcases Nat.lt_or_ge m 24 with l | l
      · exact l
      · exact absurd (hc.trans (by rw [show m = 24 by omega]; rfl)) c
    refine ⟨fun _ => c_add h hc hm2 q, fun l => absurd ?_ l⟩
    rw [hc]
    exact (nlt (b := 24) (by omega) (by decide)).mpr hm2
theorem SR.ended {N : Nat} {s : Lf} {A : AS} (h : SR N s A) {i : Nat} (hN : N ≤ 8) (hi : i < N) (x : Int32) : SR N (st (st s 0 0 ((s 0 0) &&& (((1 : Int32) <<< (nI i &&& 31)) ^^^ (-1 : Int32)))) 6 i x) (U (U A 1 i 6 0) 1 i 8 x) := by
  have bg : ∀ a, a < 32 → (bt ((s 0 0) &&& (((1 : Int32) <<< (nI i &&& 31)) ^^^ (-1 : Int32))) a = true ↔ bt (s 0 0) a = true ∧ ¬ a = i) := fun a ha => by
    rw [b_and, b_xor, b_one i (by omega) ha, b_m1 a ha]; simp
  generalize ((s 0 0) &&& (((1 : Int32) <<< (nI i &&& 31)) ^^^ (-1 : Int32))) = gw at bg ⊢
  refine ⟨fun a ha kk hk => ?_, fun a ha => ?_, fun a ha => ?_, fun a ha => ?_, fun a ha => ?_, fun a ha => ?_, fun a ha => ?_, fun a ha => ?_, fun a ha ha2 => ?_, fun a ha ha2 => ?_⟩
  · have := h.ru a ha kk hk
    simp only [st_at, U_at]
    rw [if_neg (by omega), if_neg (by omega), if_neg (by omega), if_neg (by omega), this]
  · have := h.q a ha; simpa [st_at, U_at] using this
  · have e := h.g a ha
    have hb := bg a (by omega)
    by_cases c : a = i
    · subst c
      have : ¬ bt gw a = true := fun q => (hb.mp q).2 rfl
      simp [st_at, U_at, this]
    · by_cases c2 : bt (s 0 0) a = true
      · have : bt gw a = true := hb.mpr ⟨c2, c⟩
        simp [st_at, U_at, c, this, e, c2]
      · have : ¬ bt gw a = true := fun q => c2 (hb.mp q).1
        simp [st_at, U_at, c, this, e, c2]
  · have := h.be a ha; simpa [st_at, U_at] using this
  · have := h.en a ha
    by_cases e : a = i
    · subst e; simp [st_at, U_at]
    · simp [st_at, U_at, this, e]
  · have := h.se a ha; simpa [st_at, U_at] using this
  · have := h.go a ha; simpa [st_at, U_at] using this
  · have := h.ti a ha; simpa [st_at, U_at] using this
  · have := h.q0 a ha ha2; simpa [st_at] using this
  · have := h.g0 a ha ha2
    have hb := bg a (by omega)
    rw [this] at hb
    simp only [st_at]
    cases c : bt gw a
    · simpa using c
    · exact absurd (hb.mp c).1 (by decide)
theorem CoR.stepR {N K : Nat} {c j s p r s' r' : Lf} {A B : AS} (h : CoR N K c j s p r A) (eg : ∀ g, g ≠ 15 → B 0 0 g = A 0 0 g) (sr : SR N s' B) (rr : RR r' B) (eJ : ∀ a w, (w = 0 ∨ 11 ≤ w ∧ w < 20) → B 1 a w = A 1 a w) (e2 : B 2 = A 2) : CoR N K c j s' p r' B := by
  refine ⟨?_, ⟨h.jr.n, ?_, ?_, ?_, ?_⟩, sr, ⟨h.pr.n, ?_, ?_, ?_, h.pr.c0⟩, rr⟩
  · exact ⟨by rw [eg _ (by decide)]; exact h.cf.st, by rw [eg _ (by decide)]; exact h.cf.sec, by rw [eg _ (by decide)]; exact h.cf.cur, by rw [eg _ (by decide)]; exact h.cf.cut, by rw [eg _ (by decide)]; exact h.cf.em, by rw [eg _ (by decide)]; exact h.cf.wt, by rw [eg _ (by decide)]; exact h.cf.sv, by rw [eg _ (by decide)]; exact h.cf.ls, by rw [eg _ (by decide)]; exact h.cf.sd, by rw [eg _ (by decide)]; exact h.cf.cy, by rw [eg _ (by decide)]; exact h.cf.off, by rw [eg _ (by decide)]; exact h.cf.spl⟩
  · rw [eg _ (by decide)]; exact h.jr.sf
  · intro a ha; rw [eJ a 0 (.inl rfl)]; exact h.jr.kind a ha
  · intro a ha; rw [eJ a 11 (.inr (by omega))]; exact h.jr.len a ha
  · intro a ha i hi; rw [eJ a 11 (.inr (by omega)), eJ a (12 + i) (.inr (by omega))]; exact h.jr.cell a ha i hi
  · rw [e2]; exact h.pr.set
  · rw [e2]; exact h.pr.force
  · rw [e2]; exact h.pr.com
theorem CoR.on {N K : Nat} {c j s p r : Lf} {A : AS} (h : CoR N K c j s p r A) (y : Nat) (hy : y < K) : CoR N K (st c 0 6 (nI y)) j s (st p 3 y (A 2 y 2 + 1)) r (comesOnA y A) := by
  have e1 : comesOnA y A 1 = A 1 := by simp [comesOnA, U_ne]
  have e3 : comesOnA y A 3 = A 3 := by simp [comesOnA, U_ne]
  refine ⟨?_, ⟨h.jr.n, ?_, ?_, ?_, ?_⟩, h.sr.fr e1, ⟨?_, fun q hq => ?_, fun q hq => ?_, fun q hq => ?_, fun q hq hq2 => ?_⟩, h.rr.fr (by simp [comesOnA, U_at]) e3⟩
  · refine ⟨?_, ?_, ?_, ?_, ?_, ?_, ?_, ?_, ?_, ?_, ?_, ?_⟩ <;> simp [st_at, comesOnA, U_at, h.cf.st, h.cf.sec, h.cf.cur, h.cf.cut, h.cf.em, h.cf.wt, h.cf.sv, h.cf.ls, h.cf.sd, h.cf.cy, h.cf.off, h.cf.spl]
  · rw [h.jr.sf]; simp [comesOnA, U_at]
  · rw [e1]; exact h.jr.kind
  · rw [e1]; exact h.jr.len
  · rw [e1]; exact h.jr.cell
  · simp [st_at, h.pr.n]
  · simp [st_at, comesOnA, U_at, h.pr.set q hq]
  · simp [st_at, comesOnA, U_at, h.pr.force q hq]
  · by_cases e : q = y
    · subst e; simp [st_at, comesOnA, U_at]
    · simp [st_at, comesOnA, U_at, h.pr.com q hq, e]
  · rw [st_at, if_neg (by omega)]; exact h.pr.c0 q hq hq2
theorem CoR.cut {N K : Nat} {c j s p r : Lf} {A : AS} (h : CoR N K c j s p r A) (x : Int32) : CoR N K (st c 0 7 x) j s p r (U A 0 0 5 x) := by
  refine h.step ?_ (h.sr.fr (by simp [U_ne])) (by simp [U_at]) (by simp [U_at]) (fun a w hw => by simp [U_at]) (by simp [U_ne]) (by simp [U_ne])
  refine ⟨?_, ?_, ?_, ?_, ?_, ?_, ?_, ?_, ?_, ?_, ?_, ?_⟩ <;> simp [st_at, U_at, h.cf.st, h.cf.sec, h.cf.cur, h.cf.cut, h.cf.em, h.cf.wt, h.cf.sv, h.cf.ls, h.cf.sd, h.cf.cy, h.cf.off, h.cf.spl]
theorem c_changeTo {t N K y : Nat} {j p : Lf} (hy2 : y < K) {c : Lf} {Q : Lf → Lf → Lf → Lf → Prop} : ∀ (k i : Nat) {s r : Lf} {A : AS}, i + k = N → CoR N K c j s p r A → CoI t N K A → (∀ c' s' p' r', CoR N K c' j s' p' r' (comesOnA y (lp (chS y) k i A)) → Q c' s' p' r') → pX0_changeTo_L2 j (nI y) Q (k + 1) c s p r (nI i) := by
  intro k
  induction k with
  | zero =>
    intro i s r A hi h hI q
    have hK := hI.hK
    refine hdE h.jr.n (by omega) ?_
    unfold pX0_comeOn
    rw [nI_clamp (by omega), h.pr.com y hy2]
    exact ⟨vp_in_nI (by omega) (by decide), vp_in_nI (by omega) (by decide), q _ _ _ _ (h.on y hy2)⟩
  | succ k ih =>
    intro i s r A hi h hI q
    have hN := hI.hN
    have hK := hI.hK
    have hi2 : i < N := by omega
    have nx : ∀ {s' r'}, CoR N K c j s' p r' (chS y i A) → pX0_changeTo_J73 j (nI y) Q (fun v vs vp vr x2 => pX0_changeTo_L2 j (nI y) Q (k + 1) v vs vp vr x2) c s' p r' (nI i) := by
      intro s' r' h'
      unfold pX0_changeTo_J73
      rw [nI_s]
      exact ih (i + 1) (by omega) h' (hI.ch y hi2) q
    unfold chS at nx
    refine hdG h.jr.n (by omega) (by omega) (c_green (by omega) (fun c1 => ⟨fun c => absurd c (by decide), fun _ => ?_⟩) (fun c1 => ⟨fun _ => nx ?_, fun c => absurd rfl c⟩))
    · have g0 := (h.sr.gi hi2).mp c1
      rw [if_neg g0] at nx
      rw [nI_clamp (by omega), nI_clamp (by omega), h.pr.set y hy2]
      refine ⟨vp_in_nI (by omega) (by decide), c_isIn (by omega) (fun c2 => ⟨fun _ => nx ?_, fun c => absurd c (by decide)⟩) (fun c2 => ⟨fun c => absurd rfl c, fun _ => ?_⟩)⟩
      · rw [if_pos c2]; exact h
      · rw [if_neg c2] at nx
        unfold pX5_endGreen
        rw [nI_clamp (by omega), h.cf.sec]
        have s' := h.sr.ended hN hi2 (A 0 0 3)
        refine ⟨vp_in_nI (by omega) (by decide), vp_in_nI (by omega) (by decide), ?_⟩
        have eb : st (st s 0 0 ((s 0 0) &&& (((1 : Int32) <<< (nI i &&& 31)) ^^^ (-1 : Int32)))) 6 i (A 0 0 3) 5 i = A 1 i 7 := by
          rw [s'.be i hi2]; simp [U_at]
        rw [eb]
        have r' : RR r (U (U A 1 i 6 0) 1 i 8 (A 0 0 3)) := h.rr.fr (by simp [U_at]) (by simp [U_ne])
        have ro : rOk (U (U A 1 i 6 0) 1 i 8 (A 0 0 3)) := by simpa [rOk, U_at] using hI.rOk
        refine c_latest r' ro (fun r'' h'' => nx ?_)
        refine h.stepR (fun g hg => ?_) (s'.fr (recS_1 _ _ _ _)) h'' (fun a w hw => ?_) ?_
        · rw [recS_g _ _ _ _ hg]; simp [U_at]
        · rw [recS_1]; simp only [U_at]; rw [if_neg (by omega), if_neg (by omega)]
        · rw [recS_2]; simp [U_ne]
    · have g0 : A 1 i 6 = 0 := by
        by_cases e : A 1 i 6 = 0
        · exact e
        · exact absurd ((h.sr.gi hi2).mpr e) c1
      rw [if_pos g0]; exact h
theorem c_changeTo' {t N K y : Nat} {c j s p r : Lf} {A : AS} (hy2 : y < K) (h : CoR N K c j s p r A) (hI : CoI t N K A) {Q : Lf → Lf → Lf → Lf → Prop} (q : ∀ c' s' p' r', CoR N K c' j s' p' r' (changesA N y A) → Q c' s' p' r') : pX0_changeTo c j s p r (nI y) Q :=
  ⟨N + 1, c_changeTo hy2 N 0 (by omega) h hI q⟩
theorem c_change {t N K : Nat} {c j s p r : Lf} {A : AS} (ht : t < 2 ^ 30) (h : CoR N K c j s p r A) (hI : CoI t N K A) (hs : A 0 0 2 = 1) {Q : Lf → Lf → Lf → Lf → Prop} (q : ∀ c' s' p' r', CoR N K c' j s' p' r' (chgA N K A) → Q c' s' p' r') : ((c 0 8 = -5 → pX0_changeByCalls c j s p r Q) ∧ (¬ c 0 8 = -5 → pX0_changeForEmergency c j s p r Q)) := by
  have hN := hI.hN
  have hK := hI.hK
  obtain ⟨y, hy2, hy, ec⟩ := cur_facts hI hs
  have e5 : A 0 0 6 < 0 ↔ A 0 0 6 = -5 := by
    rcases hI.em with e | ⟨a, ha, e, _⟩
    · rw [e]; decide
    · rw [e]; exact ⟨fun c => absurd c (nI_pos (by omega)), fun c => absurd c (m5 (by omega))⟩
  rw [h.cf.em]
  unfold chgA at q
  refine ⟨fun c0 => ?_, fun c0 => ?_⟩
  · rw [if_pos (e5.mpr c0), ec] at q
    have no : ¬ goC A N y (¬ csA N K A = 0) → Q c s p r := fun e => q _ _ _ _ (by rw [if_neg e]; exact h)
    have yes : goC A N y (¬ csA N K A = 0) → pX0_changeByCalls_J45 j Q c s p r (csA N K A) := by
      intro e
      rw [if_pos e] at q
      unfold pX0_changeByCalls_J45
      refine c_nextOf h hI hy hy2 (go_cs hI e) (fun r => ?_) (fun b hb => ?_)
      · have := ((csA_ok N hK A y (by omega)).mp r).2
        exact this.2.1 hy.symm
      · rw [nxA_eq hK hb] at q
        exact c_changeTo' hb.1 (h.cut (-5)) (hI.setCut hs (.inl rfl)) q
    unfold pX0_changeByCalls
    refine c_isHeld h.cf hI hy (by omega) (fun c1 => ⟨fun _ => no (fun e => e.2.1 c1), fun c => absurd c (by decide)⟩) (fun c1 => ⟨fun c => absurd rfl c, fun _ => ?_⟩)
    refine ⟨N + 1, c_least h hI hy hy2 N 0 (by omega) (fun c2 => ⟨fun _ => ?_, fun c => absurd c (by decide)⟩) (fun c2 => ⟨fun c => absurd rfl c, fun _ => no (fun e => c2 (fun b _ hb => e.1.2 b hb))⟩)⟩
    refine c_called h hI (fun x hx => ?_)
    rw [hx.eq (csA_ok N hK A)]
    refine ⟨fun c3 => no (fun e => e.1.1 c3), fun c3 => c_isForced h.cf h.pr hI hy hy2 (fun c4 => ⟨fun _ => yes ⟨⟨c3, fun b hb => c2 b (by omega) hb⟩, c1, .inl c4⟩, fun c => absurd c (by decide)⟩) (fun c4 => ⟨fun c => absurd rfl c, fun _ => ?_⟩)⟩
    refine ⟨N + 1, c_most h hI hy hy2 N 0 (by omega) (fun c5 => ⟨fun _ => yes ⟨⟨c3, fun b hb => c2 b (by omega) hb⟩, c1, .inr (.inl (c5.imp (fun b e => e.2)))⟩, fun c => absurd c (by decide)⟩) (fun c5 => ⟨fun c => absurd rfl c, fun _ => ?_⟩)⟩
    refine ⟨N + 1, c_gaps ht h hI hy hy2 N 0 (by omega) (fun c6 => ⟨fun c => absurd c (by decide), fun _ => yes ⟨⟨c3, fun b hb => c2 b (by omega) hb⟩, c1, .inr (.inr (fun b hb => c6 b (by omega) hb))⟩⟩) (fun c6 => ⟨fun _ => no (fun e => e.2.2.elim c4 (fun e => e.elim (fun ⟨b, hb⟩ => c5 ⟨b, by omega, hb⟩) (fun e => c6 (fun b _ hb => e b hb)))), fun c => absurd rfl c⟩)⟩
  · have c1 : ¬ A 0 0 6 < 0 := fun e => c0 (e5.mp e)
    obtain ⟨a, z, ha, e0, e1, e2, hz, e3⟩ := em_facts hI c1
    rw [if_neg c1, ec, e1, e3] at q
    have no : ¬ mayE A N y a → Q c s p r := fun e => q _ _ _ _ (by rw [if_neg e]; exact h)
    unfold pX0_changeForEmergency
    rw [h.cf.cur, hy, nI_clamp (by omega), h.pr.set y hy2, h.cf.em, e0]
    refine ⟨vp_in_nI (by omega) (by decide), c_isIn (by omega) (fun c2 => ⟨fun _ => no (fun e => e.1 c2), fun c => absurd c (by decide)⟩) (fun c2 => ⟨fun c => absurd rfl c, fun _ => ?_⟩)⟩
    refine ⟨N + 1, c_fresh h hI hs hy hy2 N 0 (by omega) (fun c3 => ⟨fun _ => ?_, fun c => absurd rfl c⟩) (fun c3 => ⟨fun c => absurd c (by decide), fun _ => no (fun e => c3 (fun b _ hb => e.2 b hb))⟩)⟩
    rw [if_pos (show mayE A N y a from ⟨c2, fun b hb => c3 b (by omega) hb⟩)] at q
    refine ⟨K + 1, c_first hK h.pr (by omega) K 0 (by omega) ?_⟩
    rw [e2]
    unfold cutA at q
    refine ⟨fun _ => ?_, fun c => absurd c (m5 (by omega))⟩
    rw [h.cf.cut]
    have i0 := hI.cutE hs
    unfold cutA at i0
    refine ⟨fun c4 => ?_, fun c4 => ?_⟩
    · have : 0 ≤ A 0 0 5 := by
        rcases hI.cut with e | ⟨d, hd, e⟩
        · exact absurd e c4
        · rw [e]; exact nI_pos' (by omega)
      rw [if_pos this] at q
      exact c_changeTo' hz h hI q
    · have : ¬ 0 ≤ A 0 0 5 := by rw [c4]; decide
      rw [if_neg this] at q i0
      have h' := h.cut (A 0 0 4)
      rw [hy] at h' q i0
      exact c_changeTo' hz h' i0 q

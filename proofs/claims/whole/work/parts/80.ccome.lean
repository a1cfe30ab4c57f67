theorem lp_succ {α : Type} (f : Nat → α → α) (k i : Nat) (x : α) : lp f (k + 1) i x = lp f k (i + 1) (f i x) := rfl
theorem lp_zero {α : Type} (f : Nat → α → α) (i : Nat) (x : α) : lp f 0 i x = x := rfl
theorem lp_add {α : Type} (f : Nat → α → α) : ∀ (a b i : Nat) (x : α), lp f (a + b) i x = lp f b (i + a) (lp f a i x) := by
  intro a
  induction a with
  | zero => intro b i x; rw [Nat.zero_add]; rfl
  | succ a ih =>
    intro b i x
    rw [show a + 1 + b = (a + b) + 1 by omega]
    show lp f (a + b) (i + 1) (f i x) = lp f b (i + (a + 1)) (lp f a (i + 1) (f i x))
    rw [ih, show i + 1 + a = i + (a + 1) by omega]
theorem lp_congr {α : Type} {f g : Nat → α → α} : ∀ (k i : Nat) (x : α), (∀ b x, i ≤ b → b < i + k → f b x = g b x) → lp f k i x = lp g k i x := by
  intro k
  induction k with
  | zero => exact fun _ _ _ => rfl
  | succ k ih =>
    intro i x h
    show lp f k (i + 1) (f i x) = lp g k (i + 1) (g i x)
    rw [h i x (by omega) (by omega)]
    exact ih (i + 1) _ (fun b x h1 h2 => h b x (by omega) (by omega))
theorem lp_id {α : Type} {f : Nat → α → α} : ∀ (k i : Nat) (x : α), (∀ b x, i ≤ b → b < i + k → f b x = x) → lp f k i x = x := by
  intro k
  induction k with
  | zero => exact fun _ _ _ => rfl
  | succ k ih =>
    intro i x h
    show lp f k (i + 1) (f i x) = x
    rw [h i x (by omega) (by omega)]
    exact ih (i + 1) _ (fun b x h1 h2 => h b x (by omega) (by omega))
theorem c_all1 {s : Lf} {Q : Int32 → Prop} : ∀ (k i : Nat) (x : Int32), i + k = 8 → Q (lp (fun a x => x + s 2 a) k i x) → pX5_allQueues_L4 s Q (k + 1) x (nI i) := by
  intro k
  induction k with
  | zero =>
    intro i x hi q
    exact hdE (N := 8) rfl (by omega) q
  | succ k ih =>
    intro i x hi q
    refine hdG (N := 8) rfl (by omega) (by omega) ?_
    rw [nI_clamp (by omega), nI_s]
    exact ⟨vp_in_nI (by omega) (by decide), ih _ _ (by omega) q⟩
theorem c_all {N : Nat} (hN : N ≤ 8) {s : Lf} {A : AS} (h : SR N s A) {Q : Int32 → Prop} (q : Q (lp (quS A) N 0 0)) : pX5_allQueues s Q := by
  refine ⟨9, c_all1 8 0 0 (by omega) ?_⟩
  rw [show (8 : Nat) = N + (8 - N) by omega, lp_add, lp_id (8 - N), lp_congr (g := quS A)]
  · exact q
  · intro b x _ hb
    rw [quS, h.q b (by omega)]
  · intro b x h1 h2
    rw [h.q0 b (by omega) (by omega), Int32.add_zero]
theorem U_comm (A : AS) {x i k y j l : Nat} (v w : Int32) (h : ¬ (x = y ∧ i = j ∧ k = l)) : U (U A x i k v) y j l w = U (U A y j l w) x i k v := by
  funext a b c
  simp only [U_at]
  by_cases h1 : a = y ∧ b = j ∧ c = l
  · rw [if_pos h1, if_pos h1, if_neg]
    rintro ⟨e1, e2, e3⟩
    exact h ⟨e1.symm.trans h1.1, e2.symm.trans h1.2.1, e3.symm.trans h1.2.2⟩
  · rw [if_neg h1, if_neg h1]
theorem U2_comm (A : AS) {b i : Nat} (h : b ≠ i) (z u w x : Int32) : U (U (U (U A 1 i 9 x) 0 0 0 z) 1 b 5 u) 0 0 9 w = U (U (U (U A 0 0 0 z) 1 b 5 u) 0 0 9 w) 1 i 9 x := by
  rw [U_comm A (x := 1) (i := i) (k := 9) (y := 0) (j := 0) (l := 0) x z (fun c => absurd c.1 (by decide)), U_comm (U A 0 0 0 z) (x := 1) (i := i) (k := 9) (y := 1) (j := b) (l := 5) x u (fun c => absurd c.2.2 (by decide)), U_comm (U (U A 0 0 0 z) 1 b 5 u) (x := 1) (i := i) (k := 9) (y := 0) (j := 0) (l := 9) x w (fun c => absurd c.1 (by decide))]
def comeG (f g : Int32 → Int32) (m o : Int32 → Int32) (i : Nat) (A : AS) : AS := if A 1 i 4 ≤ 0 then A else if A 1 i 4 ≤ g (A 0 0 0) then U A 0 0 0 (f (A 0 0 0)) else U (U (U A 0 0 0 (f (A 0 0 0))) 1 i 5 (m (A 1 i 5))) 0 0 9 (A 0 0 9 + o (A 1 i 5))
theorem comeG_U (f g m o : Int32 → Int32) (b : Nat) {i : Nat} (h : b ≠ i) (B : AS) (x : Int32) : comeG f g m o b (U B 1 i 9 x) = U (comeG f g m o b B) 1 i 9 x := by
  unfold comeG
  have e4 : U B 1 i 9 x 1 b 4 = B 1 b 4 := by simp [U_at]
  have e0 : U B 1 i 9 x 0 0 0 = B 0 0 0 := by simp [U_at]
  have e5 : U B 1 i 9 x 1 b 5 = B 1 b 5 := by simp [U_at]
  have e9 : U B 1 i 9 x 0 0 9 = B 0 0 9 := by simp [U_at]
  rw [e4, e0, e5, e9]
  by_cases c : B 1 b 4 ≤ 0
  · rw [if_pos c, if_pos c]
  · rw [if_neg c, if_neg c]
    by_cases c2 : B 1 b 4 ≤ g (B 0 0 0)
    · rw [if_pos c2, if_pos c2]
      exact U_comm B x _ (fun c => absurd c.1 (by decide))
    · rw [if_neg c2, if_neg c2]
      exact U2_comm B h _ _ _ x
theorem comeG_seen (f g m o : Int32 → Int32) (b : Nat) {i : Nat} (h : b ≠ i) (B : AS) : comeG f g m o b (seenS i B) = seenS i (comeG f g m o b B) := by
  have h1 : comeG f g m o b B 1 i = B 1 i := by
    funext w
    unfold comeG
    split
    · rfl
    · split <;> simp [U_at, Ne.symm h]
  have h3 : comeG f g m o b B 0 0 3 = B 0 0 3 := by
    unfold comeG
    split
    · rfl
    · split <;> simp [U_at]
  unfold seenS
  rw [h1, h3]
  by_cases c : B 1 i 5 ≤ 0
  · rw [if_pos c, if_pos c]
  · rw [if_neg c, if_neg c]
    exact comeG_U f g m o b h B _
theorem lpG_seen {f : Nat → AS → AS} {i : Nat} (h : ∀ b B, b ≠ i → f b (seenS i B) = seenS i (f b B)) : ∀ (k n : Nat) (B : AS), i < n → lp f k n (seenS i B) = seenS i (lp f k n B) := by
  intro k
  induction k with
  | zero => intro n B _; rw [lp_zero, lp_zero]
  | succ k ih =>
    intro n B hn
    rw [lp_succ, lp_succ, h n B (by omega), ih (n + 1) _ (by omega)]
theorem comingG_eq {f : Nat → AS → AS} (h : ∀ i b B, b ≠ i → f b (seenS i B) = seenS i (f b B)) : ∀ (k i : Nat) (A : AS), lp (fun i A => seenS i (f i A)) k i A = lp seenS k i (lp f k i A) := by
  intro k
  induction k with
  | zero => intro i A; rw [lp_zero, lp_zero, lp_zero]
  | succ k ih =>
    intro i A
    rw [lp_succ, lp_succ, lp_succ, ih, lpG_seen (h i) k (i + 1) _ (by omega)]
theorem comeS_G1 (z d : Int32) (i : Nat) (A : AS) : (if A 1 i 4 ≤ d then U A 0 0 0 z else joinA i 1 (U A 0 0 0 z)) = (if A 1 i 4 ≤ d then U A 0 0 0 z else U (U (U A 0 0 0 z) 1 i 5 (if A 1 i 5 + 1 < 99 then A 1 i 5 + 1 else 99)) 0 0 9 (A 0 0 9 + (if 0 < A 1 i 5 + 1 - 99 then A 1 i 5 + 1 - 99 else 0))) := by
  unfold joinA
  have e5 : U A 0 0 0 z 1 i 5 = A 1 i 5 := by simp [U_at]
  have e9 : U A 0 0 0 z 0 0 9 = A 0 0 9 := by simp [U_at]
  rw [e5, e9]
theorem comeS_G : comeS = comeG seedN drawN (fun q => if q + 1 < 99 then q + 1 else 99) (fun q => if 0 < q + 1 - 99 then q + 1 - 99 else 0) := by
  funext i A
  exact congrArg (fun X => if A 1 i 4 ≤ 0 then A else X) (comeS_G1 (seedN (A 0 0 0)) (drawN (A 0 0 0)) i A)
theorem coming_eq (k i : Nat) (A : AS) : lp (fun i A => seenS i (comeS i A)) k i A = lp seenS k i (lp comeS k i A) := by
  rw [comeS_G]
  exact comingG_eq (fun i b B e => comeG_seen _ _ _ _ b e B) k i A
theorem join_min {q n : Nat} (hq : q ≤ 99) (hn : n ≤ 20) : (if (99 : Int32) < nI q + nI n then (99 : Int32) else nI q + nI n) = (if nI q + nI n < 99 then nI q + nI n else 99) ∧ nI q + nI n - (if nI q + nI n < 99 then nI q + nI n else 99) = (if 0 < nI q + nI n - 99 then nI q + nI n - 99 else 0) := by
  rw [nI_add]
  have a1 : (99 : Int32) < nI (q + n) ↔ 99 < q + n := nlt (a := 99) (b := q + n) (by decide) (by omega)
  have a2 : nI (q + n) < (99 : Int32) ↔ q + n < 99 := nlt (a := q + n) (b := 99) (by omega) (by decide)
  rcases Nat.lt_trichotomy (q + n) 99 with l | l | l
  · have e : ¬ (0 : Int32) < nI (q + n) - 99 := fun c => by
      have c := i_lt.mp c
      have := pk_sub_toInt (a := q + n) (b := 99) (by omega) (by decide)
      have e0 : (0 : Int32).toInt = 0 := by decide
      rw [show nI (q + n) - 99 = nI (q + n) - nI 99 from rfl, this, e0] at c
      omega
    rw [if_neg (fun c => by have := a1.mp c; omega), if_pos (a2.mpr l), if_neg e, Int32.sub_self]
    exact ⟨rfl, rfl⟩
  · rw [l]; exact ⟨by decide, by decide⟩
  · have e : (0 : Int32) < nI (q + n) - 99 := by
      rw [show nI (q + n) - 99 = nI (q + n) - nI 99 from rfl, nI_sub (by omega)]
      exact (nlt (a := 0) (by decide) (by omega)).mpr (by omega)
    rw [if_pos (a1.mpr l), if_neg (fun c => by have := a2.mp c; omega), if_pos e]
    exact ⟨rfl, rfl⟩
theorem SR.upQ {N : Nat} {s : Lf} {A B : AS} (h : SR N s A) {i : Nat} (hi : i < N) {x : Int32} (e5 : B 1 i 5 = x) (eo : ∀ a w, ¬ (a = i ∧ w = 5) → B 1 a w = A 1 a w) : SR N (st s 2 i x) B := by
  refine ⟨fun a ha kk hk => ?_, fun a ha => ?_, fun a ha => ?_, fun a ha => ?_, fun a ha => ?_, fun a ha => ?_, fun a ha => ?_, fun a ha => ?_, fun a ha ha2 => ?_, fun a ha ha2 => ?_⟩
  · rw [eo a _ (by omega), st_at, if_neg (by omega)]; exact h.ru a ha kk hk
  · by_cases e : a = i
    · subst e; rw [e5, st_at, if_pos ⟨rfl, rfl⟩]
    · rw [eo a _ (by omega), st_at, if_neg (by omega)]; exact h.q a ha
  · rw [eo a _ (by omega)]; simpa [st_at] using h.g a ha
  · rw [eo a _ (by omega), st_at, if_neg (by omega)]; exact h.be a ha
  · rw [eo a _ (by omega), st_at, if_neg (by omega)]; exact h.en a ha
  · rw [eo a _ (by omega), st_at, if_neg (by omega)]; exact h.se a ha
  · rw [eo a _ (by omega), st_at, if_neg (by omega)]; exact h.go a ha
  · rw [eo a _ (by omega), st_at, if_neg (by omega)]; exact h.ti a ha
  · rw [st_at, if_neg (by omega)]; exact h.q0 a ha ha2
  · rw [st_at, if_neg (by omega)]; exact h.g0 a ha ha2
theorem SR.upSeen {N : Nat} {s : Lf} {A B : AS} (h : SR N s A) {i : Nat} (hi : i < N) {x : Int32} (e5 : B 1 i 9 = x) (eo : ∀ a w, ¬ (a = i ∧ w = 9) → B 1 a w = A 1 a w) : SR N (st s 3 i x) B := by
  refine ⟨fun a ha kk hk => ?_, fun a ha => ?_, fun a ha => ?_, fun a ha => ?_, fun a ha => ?_, fun a ha => ?_, fun a ha => ?_, fun a ha => ?_, fun a ha ha2 => ?_, fun a ha ha2 => ?_⟩
  · rw [eo a _ (by omega), st_at, if_neg (by omega)]; exact h.ru a ha kk hk
  · rw [eo a _ (by omega), st_at, if_neg (by omega)]; exact h.q a ha
  · rw [eo a _ (by omega)]; simpa [st_at] using h.g a ha
  · rw [eo a _ (by omega), st_at, if_neg (by omega)]; exact h.be a ha
  · rw [eo a _ (by omega), st_at, if_neg (by omega)]; exact h.en a ha
  · by_cases e : a = i
    · subst e; rw [e5, st_at, if_pos ⟨rfl, rfl⟩]
    · rw [eo a _ (by omega), st_at, if_neg (by omega)]; exact h.se a ha
  · rw [eo a _ (by omega), st_at, if_neg (by omega)]; exact h.go a ha
  · rw [eo a _ (by omega), st_at, if_neg (by omega)]; exact h.ti a ha
  · rw [st_at, if_neg (by omega)]; exact h.q0 a ha ha2
  · rw [st_at, if_neg (by omega)]; exact h.g0 a ha ha2
theorem SR.fr {N : Nat} {s : Lf} {A B : AS} (h : SR N s A) (e : B 1 = A 1) : SR N s B := by
  refine ⟨?_, ?_, ?_, ?_, ?_, ?_, ?_, ?_, h.q0, h.g0⟩
  · rw [e]; exact h.ru
  · rw [e]; exact h.q
  · rw [e]; exact h.g
  · rw [e]; exact h.be
  · rw [e]; exact h.en
  · rw [e]; exact h.se
  · rw [e]; exact h.go
  · rw [e]; exact h.ti
theorem CF.fr {c : Lf} {A B : AS} (h : CF c A) (e : ∀ g, B 0 0 g = A 0 0 g) : CF c B := by
  exact ⟨by rw [e]; exact h.st, by rw [e]; exact h.sec, by rw [e]; exact h.cur, by rw [e]; exact h.cut, by rw [e]; exact h.em, by rw [e]; exact h.wt, by rw [e]; exact h.sv, by rw [e]; exact h.ls, by rw [e]; exact h.sd, by rw [e]; exact h.cy, by rw [e]; exact h.off, by rw [e]; exact h.spl⟩
theorem CoR.join {N K : Nat} {c j s p r : Lf} {A : AS} (h : CoR N K c j s p r A) {i : Nat} (hi : i < N) {q n : Nat} (hq : q ≤ 99) (eq : A 1 i 5 = nI q) (hn : n ≤ 20) : CoR N K (st c 0 11 (c 0 11 + (nI q + nI n - (if nI q + nI n < 99 then nI q + nI n else 99)))) j (st s 2 i (if nI q + nI n < 99 then nI q + nI n else 99)) p r (joinA i (nI n) A) := by
  rw [(join_min hq hn).2]
  unfold joinA
  rw [eq]
  refine h.step ?_ (h.sr.upQ hi (by simp [U_at]) (fun a w hw => by simp only [U_at]; rw [if_neg (by omega), if_neg (by omega)])) (by simp [U_at]) (by simp [U_at]) (fun a w hw => ?_) (by simp [U_ne]) (by simp [U_ne])
  · refine ⟨?_, ?_, ?_, ?_, ?_, ?_, ?_, ?_, ?_, ?_, ?_, ?_⟩ <;> simp [st_at, U_at, h.cf.st, h.cf.sec, h.cf.cur, h.cf.cut, h.cf.em, h.cf.wt, h.cf.sv, h.cf.ls, h.cf.sd, h.cf.cy, h.cf.off, h.cf.spl]
  · simp only [U_at]; rw [if_neg (by omega), if_neg (by omega)]
theorem c_join {N : Nat} (hN : N ≤ 8) {s : Lf} {A : AS} (h : SR N s A) {i : Nat} (hi : i < N) {q n : Nat} (hq : q ≤ 99) (eq : A 1 i 5 = nI q) (hn : n ≤ 20) {Q : Int32 → Lf → Prop} (k : Q (nI q + nI n - (if nI q + nI n < 99 then nI q + nI n else 99)) (st s 2 i (if nI q + nI n < 99 then nI q + nI n else 99))) : pX5_join s (nI i) (nI n) Q := by
  unfold pX5_join
  rw [nI_clamp (by omega), h.q i hi, eq, (join_min hq hn).1, st_at, if_pos ⟨rfl, rfl⟩]
  exact ⟨vp_in_nI (by omega) (by decide), vp_in_nI (by omega) (by decide), vp_in_nI (by omega) (by decide), k⟩
theorem CoR.draw {N K : Nat} {c j s p r : Lf} {A : AS} (h : CoR N K c j s p r A) : CoR N K (st c 0 12 (seedN (A 0 0 0))) j s p r (U A 0 0 0 (seedN (A 0 0 0))) := by
  refine h.step ?_ (h.sr.fr (by simp [U_ne])) (by simp [U_at]) (by simp [U_at]) (fun a w hw => by simp [U_at]) (by simp [U_ne]) (by simp [U_ne])
  refine ⟨?_, ?_, ?_, ?_, ?_, ?_, ?_, ?_, ?_, ?_, ?_, ?_⟩ <;> simp [st_at, U_at, h.cf.st, h.cf.sec, h.cf.cur, h.cf.cut, h.cf.em, h.cf.wt, h.cf.sv, h.cf.ls, h.cf.sd, h.cf.cy, h.cf.off, h.cf.spl]
theorem c_letCome {t N K : Nat} {j p r : Lf} {Q : Lf → Lf → Prop} : ∀ (k i : Nat) {c s : Lf} {A : AS}, i + k = N → CoR N K c j s p r A → CoI t N K A → (∀ c' s', CoR N K c' j s' p r (lp (fun i A => seenS i (comeS i A)) k i A) → Q c' s') → pX0_letCome_L2 j Q (k + 1) c s (nI i) := by
  intro k
  induction k with
  | zero =>
    intro i c s A hi h hI q
    exact hdE h.jr.n (by omega) (q c s h)
  | succ k ih =>
    intro i c s A hi h hI q
    have hN := hI.hN
    have hi2 : i < N := by omega
    have nx : ∀ {c' s'}, CoR N K c' j s' p r (comeS i A) → pX0_letCome_J53 j Q (fun v vs x1 => pX0_letCome_L2 j Q (k + 1) v vs x1) c' s' (nI i) := by
      intro c' s' h'
      have hI' := hI.come i
      have q' : ∀ c'' s'', CoR N K c'' j s'' p r (seenS i (comeS i A)) → pX0_letCome_J78 j Q (fun v vs x1 => pX0_letCome_L2 j Q (k + 1) v vs x1) c'' s'' (nI i) := by
        intro c'' s'' h''
        unfold pX0_letCome_J78
        rw [nI_s]
        exact ih (i + 1) (by omega) h'' (hI'.seen i) q
      unfold pX0_letCome_J53
      rw [nI_clamp (by omega), h'.sr.q i hi2, h'.cf.sec]
      unfold seenS at q'
      refine ⟨vp_in_nI (by omega) (by decide), fun c0 => q' _ _ ?_, fun c0 => ⟨vp_in_nI (by omega) (by decide), q' _ _ ?_⟩⟩
      · rw [if_pos c0]; exact h'
      · rw [if_neg c0]
        refine h'.step (h'.cf.fr (fun g => by simp [U_at])) (h'.sr.upSeen hi2 (by simp [U_at]) (fun a w hw => by simp only [U_at]; rw [if_neg (by omega)])) (by simp [U_at]) (by simp [U_at]) (fun a w hw => ?_) (by simp [U_ne]) (by simp [U_ne])
        simp only [U_at]; rw [if_neg (by omega)]
    unfold comeS at nx
    refine hdG h.jr.n (by omega) (by omega) (c_rule hN h.sr hi2 3 (by decide) ⟨fun c1 => nx ?_, fun c1 => ?_⟩)
    · rw [if_pos c1]; exact h
    · rw [if_neg c1] at nx
      unfold pX0_drawBelow60
      simp only [st_at, and_self, if_true]
      rw [h.cf.sd]
      show (A 1 i 4 ≤ drawN (A 0 0 0) → _) ∧ (¬ A 1 i 4 ≤ drawN (A 0 0 0) → _)
      refine ⟨fun c2 => nx ?_, fun c2 => ?_⟩
      · rw [if_pos c2]; exact h.draw
      · rw [if_neg c2] at nx
        obtain ⟨z, hz, ez⟩ := (hI.sg i hi2).queue
        have h2 := h.draw
        have ez2 : U A 0 0 0 (seedN (A 0 0 0)) 1 i 5 = nI z := by simpa [U_at] using ez
        refine c_join hN (n := 1) h2.sr hi2 hz ez2 (by decide) (nx ?_)
        exact h2.join hi2 hz ez2 (by decide)

theorem c_ends {t N K : Nat} {c j s p r : Lf} {A : AS} (ht : t < 2 ^ 30) (h : CoR N K c j s p r A) (hI : CoI t N K A) {Q : Lf → Lf → Prop} (q : ∀ c' s', CoR N K c' j s' p r (endsS N A) → Q c' s') : pX0_letGo c j s (fun v_7 vs_7 => (pX5_allQueues vs_7 (fun r8 => (Q (st (st v_7 0 9 ((v_7 0 9) + r8)) 0 5 (((st v_7 0 9 ((v_7 0 9) + r8)) 0 5) + (1 : Int32))) vs_7)))) := by
  refine ⟨N + 1, c_letGo ht N 0 (by omega) h hI (fun c' s' h' => c_all hI.hN h'.sr (q _ _ ?_))⟩
  unfold endsS
  have e5 : st c' 0 9 (c' 0 9 + lp (quS (lp goS N 0 A)) N 0 0) 0 5 = A 0 0 3 := by
    rw [st_at, if_neg (by omega), h'.cf.sec, go_gl _ _ _ (by decide)]
  rw [e5, h'.cf.wt]
  generalize lp (quS (lp goS N 0 A)) N 0 0 = z
  refine h'.step ?_ (h'.sr.fr (by simp [U_ne])) (by simp [U_at]) (by simp [U_at]) (fun a w hw => by simp [U_at]) (by simp [U_ne]) (by simp [U_ne])
  refine ⟨?_, ?_, ?_, ?_, ?_, ?_, ?_, ?_, ?_, ?_, ?_, ?_⟩ <;> simp [st_at, U_at, h'.cf.st, h'.cf.sec, h'.cf.cur, h'.cf.cut, h'.cf.em, h'.cf.wt, h'.cf.sv, h'.cf.ls, h'.cf.sd, h'.cf.cy, h'.cf.off, h'.cf.spl]
theorem c_39 {t N K : Nat} {c j s p r : Lf} {A : AS} {C : Nat → Int32} (ht : t < 2 ^ 30) (hC : ClR N j C) (h : CoR N K c j s p r A) (hI : CoI t N K A) (hs : A 0 0 2 = 1) {x1 : Int32} {i : Nat} {Q : Lf → Lf → Lf → Lf → Prop} {R : Lf → Lf → Lf → Lf → Int32 → Prop} (q : ∀ c' s', CoR N K c' j s' p r (endsS N (lp (turnS C N (curN A)) N 0 A)) → R c' s' p r (nI (i + 1))) : pX0_passSeconds_J39 j x1 Q R c s p r (nI i) := by
  obtain ⟨y, hy2, hy, ec⟩ := cur_facts hI hs
  rw [ec] at q
  unfold pX0_passSeconds_J39
  refine ⟨N + 1, c_turnGreen ht hC hy2 N 0 (by omega) h hI hs hy (fun s' h' => ?_)⟩
  rw [nI_s]
  have i' : CoI t N K (lp (turnS C N y) N 0 A) := (lp_inv (fun D : AS => CoI t N K D ∧ D 0 0 2 = 1 ∧ D 0 0 4 = nI y) (fun i D ⟨q1, q2, q3⟩ => ⟨q1.turn q2 q3 hy2 i, (turn_g C N y 1 i D 2).trans q2, (turn_g C N y 1 i D 4).trans q3⟩) N 0 A ⟨hI, hs, hy⟩).1
  exact c_ends ht h' i' (Q := fun c s => R c s p r (nI (i + 1))) q
theorem c_pass {N K n : Nat} {j : Lf} {C : Nat → Int32} (hn : n < 2 ^ 30) (hC : ClR N j C) {Q : Lf → Lf → Lf → Lf → Prop} : ∀ (k i : Nat) {c s p r : Lf} {A : AS} {t : Nat}, i + k = n → t + k < 2 ^ 30 → CoR N K c j s p r A → CoI t N K A → A 0 0 2 = 1 → (∀ c' s' p' r', CoR N K c' j s' p' r' (lp (fun _ => secA C N K) k i A) → Q c' s' p' r') → pX0_passSeconds_L10 j (nI n) Q (k + 1) c s p r (nI i) := by
  intro k
  induction k with
  | zero =>
    intro i c s p r A t hi ht h hI hs q
    exact hdE rfl (by omega) (q _ _ _ _ h)
  | succ k ih =>
    intro i c s p r A t hi ht h hI hs q
    obtain ⟨i9, s9⟩ := hI.second (by omega) hs C
    refine hdG rfl (by omega) (by omega) ⟨N + 1, c_letCome N 0 (by omega) h hI (fun c1 s1 h1 => ?_)⟩
    rw [coming_eq] at h1
    have h1 : CoR N K c1 j s1 p r (comingS N A) := h1
    have i1 := hI.coming
    have hs1 : comingS N A 0 0 2 = 1 := (coming_g (by decide) (by decide) N A).trans hs
    obtain ⟨i2, s2⟩ := i1.chg hs1
    refine c_change (by omega) h1 i1 hs1 (fun c2 s2' p2 r2 h2 => c_39 (by omega) hC h2 i2 s2 (fun c3 s3 h3 => ?_))
    exact ih (i + 1) (by omega) (by omega) h3 i9 s9 q
theorem c_passes {t N K n : Nat} {c j s p r : Lf} {A : AS} {C : Nat → Int32} (hC : ClR N j C) (ht : t + n < 2 ^ 30) (h : CoR N K c j s p r A) (hI : CoI t N K A) (hs : A 0 0 2 = 1) {Q : Lf → Lf → Lf → Lf → Prop} (q : ∀ c' s' p' r', CoR N K c' j s' p' r' (lp (fun _ => secA C N K) n 0 A) → Q c' s' p' r') : pX0_passSeconds c j s p r (nI n) Q := by
  unfold pX0_passSeconds
  rw [h.cf.st, hs]
  exact ⟨fun _ => ⟨n + 1, c_pass (by omega) hC n 0 (by omega) ht h hI hs q⟩, fun c => absurd c (by decide)⟩
theorem m_passes' {v : Lf} {t N K n : Nat} {S : Nat → Int32} {A : AS} (ht : t + n < 2 ^ 30) (hI : CoI t N K A) (hs : A 0 0 2 = 1) (h : Ab S A) {Q : Lf → Prop} (q : ∀ S', Ab S' (lp (fun _ => secA (v 4) N K) n 0 A) → Q (sa v 1 S')) : pX10_passes (sa v 1 S) (nI n) Q :=
  ⟨n + 1, m_passes (by omega) n 0 (by omega) ht hI hs h q⟩
theorem CoI.passes {N K : Nat} (C : Nat → Int32) : ∀ (k i : Nat) {t : Nat} {A : AS}, t + k < 2 ^ 30 → CoI t N K A → A 0 0 2 = 1 → CoI (t + k) N K (lp (fun _ => secA C N K) k i A) ∧ lp (fun _ => secA C N K) k i A 0 0 2 = 1 := by
  intro k
  induction k with
  | zero => exact fun i t A ht hI hs => ⟨hI, hs⟩
  | succ k ih =>
    intro i t A ht hI hs
    obtain ⟨i9, s9⟩ := hI.second (by omega) hs C
    have := ih (i + 1) (t := t + 1) (by omega) i9 s9
    rw [show t + (k + 1) = t + 1 + k by omega]
    exact this

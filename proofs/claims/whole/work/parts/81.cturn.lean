theorem c_meet {j : Lf} {a b : Nat} (ha : a < 8) (hb : b < 8) {Q : Int32 → Prop} (q1 : ¬ j 5 (a * 8 + b) = -5 → Q 1) (q0 : j 5 (a * 8 + b) = -5 → Q 0) : pX1_meet j (nI a) (nI b) Q := by
  refine (w_meet j (by omega) Q).mpr ?_
  by_cases c : j 5 (a * 8 + b) = -5
  · rw [if_pos c]; exact q0 c
  · rw [if_neg c]; exact q1 c
theorem nv_neg {x : Int32} {t : Nat} (ht : t < 2 ^ 30) (h : nv x t) : x < 0 ↔ x = -5 := by
  rcases h with e | ⟨q, hq, e⟩
  · rw [e]; decide
  · rw [e]
    exact ⟨fun c => absurd c (nI_pos (by omega)), fun c => absurd c (m5 (by omega))⟩
theorem c_isClear {t N K : Nat} {c j s p r : Lf} {A : AS} {C : Nat → Int32} (ht : t < 2 ^ 30) (h : CoR N K c j s p r A) (hI : CoI t N K A) (hC : ClR N j C) {a : Nat} (ha : a < N) {Q : Int32 → Prop} : ∀ (k i : Nat), i + k = N → ((∀ b, i ≤ b → b < N → mtP C A a b) → Q 1) → ((¬ ∀ b, i ≤ b → b < N → mtP C A a b) → Q 0) → pX0_isClearFor_L2 c j s (nI a) Q (k + 1) (nI i) := by
  have hN := hI.hN
  intro k
  induction k with
  | zero =>
    intro i hi q1 q0
    exact hdE h.jr.n (by omega) (q1 (fun b h1 h2 => by omega))
  | succ k ih =>
    intro i hi q1 q0
    have hi2 : i < N := by omega
    have go : mtP C A a i → pX0_isClearFor_J61 c j s (nI a) Q (fun x2 => pX0_isClearFor_L2 c j s (nI a) Q (k + 1) x2) (nI i) := by
      intro hp
      unfold pX0_isClearFor_J61
      rw [nI_s]
      have key : (∀ b, i + 1 ≤ b → b < N → mtP C A a b) → (∀ b, i ≤ b → b < N → mtP C A a b) := by
        intro q b h1 h2
        rcases Nat.eq_or_lt_of_le h1 with e | e
        · exact e ▸ hp
        · exact q b e h2
      exact ih (i + 1) (by omega) (fun q => q1 (key q)) (fun q => q0 (fun r => q (fun b h1 h2 => r b (by omega) h2)))
    refine hdG h.jr.n (by omega) (by omega) ?_
    rw [nI_clamp (by omega), h.sr.en i hi2]
    have hn := nv_neg ht (hI.sg i hi2).en
    refine ⟨vp_in_nI (by omega) (by decide), fun c1 => go (fun _ c => absurd (hn.mpr c1) c), fun c1 => c_meet (by omega) (by omega) (fun c2 => ⟨fun c => absurd c (by decide), fun _ => ?_⟩) (fun c2 => ⟨fun _ => go (fun c => ?_), fun c => absurd rfl c⟩)⟩
    · refine (w_clearOf j (by omega) _).mpr ?_
      obtain ⟨y1, y2⟩ := hC.yes i a hi2 ha c2
      have c2' : ¬ j 5 (a * 8 + i) = -5 := fun e => c2 (hC.sym a i ha hi2 e)
      have y3 := (hC.yes a i ha hi2 c2').2
      rw [← y1, h.cf.sec]
      exact ⟨fun c3 => go (fun _ _ => c3), fun c3 => q0 (fun r => c3 (r i (by omega) (by omega) y3 (fun c => c1 (hn.mp c))))⟩
    · have e := hC.no a i ha hi2 (hC.sym i a hi2 ha c2)
      rw [e] at c
      exact absurd c (by decide)
theorem SR.begin {N : Nat} {s : Lf} {A : AS} (h : SR N s A) {i : Nat} (hN : N ≤ 8) (hi : i < N) (x : Int32) : SR N (st (st (st s 0 0 ((s 0 0) ||| ((1 : Int32) <<< (nI i &&& 31)))) 5 i x) 7 i (A 1 i 20 + 1)) (U (U (U A 1 i 6 1) 1 i 7 x) 1 i 20 (A 1 i 20 + 1)) := by
  have bg : ∀ a, a < 32 → (bt ((s 0 0) ||| ((1 : Int32) <<< (nI i &&& 31))) a = true ↔ bt (s 0 0) a = true ∨ a = i) := fun a ha => by
    rw [b_or, b_one i (by omega) ha]; simp
  refine ⟨fun a ha kk hk => ?_, fun a ha => ?_, fun a ha => ?_, fun a ha => ?_, fun a ha => ?_, fun a ha => ?_, fun a ha => ?_, fun a ha => ?_, fun a ha ha2 => ?_, fun a ha ha2 => ?_⟩
  · have := h.ru a ha kk hk
    simp only [st_at, U_at]
    rw [if_neg (by omega), if_neg (by omega), if_neg (by omega), if_neg (by omega), if_neg (by omega), if_neg (by omega), this]
  · have := h.q a ha; simpa [st_at, U_at] using this
  · have e := h.g a ha
    by_cases c : a = i
    · subst c
      have : bt ((s 0 0) ||| ((1 : Int32) <<< (nI a &&& 31))) a = true := (bg a (by omega)).mpr (.inr rfl)
      simp [st_at, U_at, this]
    · have hb := bg a (by omega)
      by_cases c2 : bt (s 0 0) a = true
      · have : bt ((s 0 0) ||| ((1 : Int32) <<< (nI i &&& 31))) a = true := hb.mpr (.inl c2)
        simp [st_at, U_at, c, this, e, c2]
      · have : ¬ bt ((s 0 0) ||| ((1 : Int32) <<< (nI i &&& 31))) a = true := fun q => (hb.mp q).elim c2 c
        simp [st_at, U_at, c, this, e, c2]
  · have := h.be a ha
    by_cases e : a = i
    · subst e; simp [st_at, U_at]
    · simp [st_at, U_at, this, e]
  · have := h.en a ha; simpa [st_at, U_at] using this
  · have := h.se a ha; simpa [st_at, U_at] using this
  · have := h.go a ha; simpa [st_at, U_at] using this
  · have := h.ti a ha
    by_cases e : a = i
    · subst e; simp [st_at, U_at]
    · simp [st_at, U_at, this, e]
  · have := h.q0 a ha ha2; simpa [st_at] using this
  · have := h.g0 a ha ha2
    have hb := bg a (by omega)
    have e : a ≠ i := by omega
    rw [this] at hb
    simp only [st_at]
    cases c : bt ((s 0 0) ||| ((1 : Int32) <<< (nI i &&& 31))) a
    · simpa using c
    · exact absurd (hb.mp c) (by simp [e])
theorem c_turnGreen {t N K y : Nat} {c j p r : Lf} {C : Nat → Int32} (ht : t < 2 ^ 30) (hC : ClR N j C) (hy2 : y < K) {Q : Lf → Prop} : ∀ (k i : Nat) {s : Lf} {A : AS}, i + k = N → CoR N K c j s p r A → CoI t N K A → A 0 0 2 = 1 → A 0 0 4 = nI y → (∀ s', CoR N K c j s' p r (lp (turnS C N y) k i A) → Q s') → pX0_turnGreen_L2 c j p Q (k + 1) s (nI i) := by
  intro k
  induction k with
  | zero =>
    intro i s A hi h hI hs hy q
    exact hdE h.jr.n (by omega) (q s h)
  | succ k ih =>
    intro i s A hi h hI hs hy q
    have hN := hI.hN
    have hK := hI.hK
    have hi2 : i < N := by omega
    have nx : ∀ {s'}, CoR N K c j s' p r (turnS C N y i A) → pX0_turnGreen_J52 c j p Q (fun vs x1 => pX0_turnGreen_L2 c j p Q (k + 1) vs x1) s' (nI i) := by
      intro s' h'
      unfold pX0_turnGreen_J52
      rw [nI_s]
      exact ih (i + 1) (by omega) h' (hI.turn hs hy hy2 i) ((turn_g C N y 1 i A 2).trans hs) ((turn_g C N y 1 i A 4).trans hy) q
    unfold turnS at nx
    have no : ∀ {c' : Prop}, ¬ (bt (A 2 y 0) i = true ∧ ¬ A 1 i 6 = 1 ∧ (∀ b, 0 ≤ b → b < N → mtP C A i b)) → pX0_turnGreen_J52 c j p Q (fun vs x1 => pX0_turnGreen_L2 c j p Q (k + 1) vs x1) s (nI i) := by
      intro _ e
      refine nx ?_
      rw [if_neg e]
      exact h
    refine hdG h.jr.n (by omega) (by omega) (c_inPhase hK h.cf h.pr hy hy2 (by omega) (fun c1 => ⟨fun c => absurd c (by decide), fun _ => ?_⟩) (fun c1 => ⟨fun _ => no (c' := True) (fun e => c1 e.1), fun c => absurd rfl c⟩))
    refine c_green (by omega) (fun c2 => ⟨fun _ => no (c' := True) (fun e => e.2.1 ((h.sr.g1 hi2).mp c2)), fun c => absurd c (by decide)⟩) (fun c2 => ⟨fun c => absurd rfl c, fun _ => ?_⟩)
    refine ⟨N + 1, c_isClear ht h hI hC hi2 N 0 (by omega) (fun c3 => ⟨fun c => absurd c (by decide), fun _ => ?_⟩) (fun c3 => ⟨fun _ => no (c' := True) (fun e => c3 e.2.2), fun c => absurd rfl c⟩)⟩
    have c2' : ¬ A 1 i 6 = 1 := fun e => c2 ((h.sr.g1 hi2).mpr e)
    unfold pX5_beginGreen
    rw [nI_clamp (by omega), h.cf.sec]
    have e7 : st (st s 0 0 ((s 0 0) ||| ((1 : Int32) <<< (nI i &&& 31)))) 5 i (A 0 0 3) 7 i = A 1 i 20 := by
      have := h.sr.ti i hi2; simpa [st_at] using this
    rw [e7]
    refine ⟨vp_in_nI (by omega) (by decide), vp_in_nI (by omega) (by decide), vp_in_nI (by omega) (by decide), nx ?_⟩
    rw [if_pos ⟨c1, c2', c3⟩]
    refine h.step (h.cf.fr (fun g => by simp [U_at])) (h.sr.begin hN hi2 _) (by simp [U_at]) (by simp [U_at]) (fun a w hw => ?_) (by simp [U_ne]) (by simp [U_ne])
    simp only [U_at]
    rw [if_neg (by omega), if_neg (by omega), if_neg (by omega)]
theorem c_calling {t N K : Nat} {c j s p r : Lf} {A : AS} (h : CoR N K c j s p r A) (hI : CoI t N K A) {Q : Int32 → Prop} (q : ∀ x, Bits x (fun a => a < N ∧ ¬ A 1 a 5 ≤ 0 ∧ A 1 a 6 = 0) → Q x) : ∀ (k i : Nat) (x : Int32), i + k = 8 → Bits x (fun a => a < i ∧ a < N ∧ ¬ A 1 a 5 ≤ 0 ∧ A 1 a 6 = 0) → pX5_calling_L4 s Q (k + 1) x (nI i) := by
  have hN := hI.hN
  intro k
  induction k with
  | zero =>
    intro i x hi hx
    exact hdE (N := 8) rfl (by omega) (q x (hx.same (fun b _ => ⟨fun e => ⟨by omega, e⟩, fun e => e.2⟩)))
  | succ k ih =>
    intro i x hi hx
    have no : ¬ (i < N ∧ ¬ A 1 i 5 ≤ 0 ∧ A 1 i 6 = 0) → pX5_calling_J33 s Q (fun x1 x2 => pX5_calling_L4 s Q (k + 1) x1 x2) x (nI i) := by
      intro e
      unfold pX5_calling_J33
      rw [nI_s]
      refine ih (i + 1) x (by omega) (hx.same (fun b _ => ⟨fun ⟨h1, h2⟩ => ⟨?_, h2⟩, fun ⟨h1, h2⟩ => ⟨by omega, h2⟩⟩))
      rcases Nat.lt_or_ge b i with l | l
      · exact l
      · exact absurd ((show b = i by omega) ▸ h2) e
    refine hdG (N := 8) rfl (by omega) (by omega) ?_
    rw [nI_clamp (by omega)]
    refine ⟨vp_in_nI (by omega) (by decide), fun c1 => no (fun e => e.2.1 (by rw [← h.sr.q i e.1]; exact c1)), fun c1 => c_green (by omega) (fun c2 => ⟨fun _ => no (fun e => (h.sr.gi e.1).mp c2 e.2.2), fun c => absurd c (by decide)⟩) (fun c2 => ⟨fun c => absurd rfl c, fun _ => ?_⟩)⟩
    have hi2 : i < N := by
      rcases Nat.lt_or_ge i N with l | l
      · exact l
      · exact absurd (by rw [h.sr.q0 i l (by omega)]; decide) c1
    have c3 : ¬ A 1 i 5 ≤ 0 := by rw [← h.sr.q i hi2]; exact c1
    have c4 : A 1 i 6 = 0 := by
      by_cases e : A 1 i 6 = 0
      · exact e
      · exact absurd ((h.sr.gi hi2).mpr e) c2
    unfold pX5_calling_J33
    rw [nI_s]
    refine ih (i + 1) _ (by omega) (hx.put (by omega) (fun b _ => ⟨fun ⟨h1, h2⟩ => ?_, fun e => ?_⟩))
    · rcases Nat.lt_or_ge b i with l | l
      · exact .inl ⟨l, h2⟩
      · exact .inr (by omega)
    · rcases e with e | e
      · exact ⟨by omega, e.2⟩
      · exact ⟨by omega, e ▸ ⟨hi2, c3, c4⟩⟩
theorem c_called1 {t N K : Nat} {c j s p r : Lf} {A : AS} (h : CoR N K c j s p r A) (hI : CoI t N K A) (hs : ¬ A 0 0 2 = 0) {cl : Int32} (hcl : Bits cl (fun a => a < N ∧ ¬ A 1 a 5 ≤ 0 ∧ A 1 a 6 = 0)) {Q : Int32 → Prop} (q : ∀ x, Bits x (fun p => p < K ∧ calledP A N p) → Q x) : ∀ (k i : Nat) (x : Int32), i + k = K → Bits x (fun p => p < i ∧ calledP A N p) → pX0_calledPhases_L21 c s p Q (k + 1) cl x (nI i) := by
  have hN := hI.hN
  have hK := hI.hK
  intro k
  induction k with
  | zero =>
    intro i x hi hx
    refine hdE h.pr.n (by omega) (q x ?_)
    rw [show i = K by omega] at hx
    exact hx
  | succ k ih =>
    intro i x hi hx
    have no : ¬ calledP A N i → pX0_calledPhases_J83 c s p Q (fun x1 x2 x3 => pX0_calledPhases_L21 c s p Q (k + 1) x1 x2 x3) cl x (nI i) := by
      intro e
      unfold pX0_calledPhases_J83
      rw [nI_s]
      refine ih (i + 1) x (by omega) (hx.same (fun b _ => ⟨fun ⟨h1, h2⟩ => ⟨?_, h2⟩, fun ⟨h1, h2⟩ => ⟨by omega, h2⟩⟩))
      rcases Nat.lt_or_ge b i with l | l
      · exact l
      · exact absurd ((show b = i by omega) ▸ h2) e
    have yes : calledP A N i → pX0_calledPhases_J77 c s p Q (fun x1 x2 x3 => pX0_calledPhases_L21 c s p Q (k + 1) x1 x2 x3) cl x (nI i) := by
      intro c0
      unfold pX0_calledPhases_J77 pX0_calledPhases_J83
      rw [nI_s]
      refine ih (i + 1) _ (by omega) (hx.put (by omega) (fun b _ => ⟨fun ⟨h1, h2⟩ => ?_, fun e => ?_⟩))
      · rcases Nat.lt_or_ge b i with l | l
        · exact .inl ⟨l, h2⟩
        · exact .inr (by omega)
      · rcases e with e | e
        · exact ⟨by omega, e.2⟩
        · exact ⟨by omega, e ▸ c0⟩
    have J : ∀ t0, V t0 (i = 0 ∧ ¬ A 0 0 10 ≤ 0) → pX0_calledPhases_J48 c s p Q (fun x1 x2 x3 => pX0_calledPhases_L21 c s p Q (k + 1) x1 x2 x3) cl x (nI i) t0 := by
      intro t0 hv
      unfold pX0_calledPhases_J48
      rw [h.cf.cur, nI_clamp (by omega), h.pr.set i (by omega)]
      refine ⟨fun c1 => no (fun e => e.2.1 c1), fun c1 => ⟨fun c2 => yes ⟨hs, c1, .inl (hv.ne.mp c2)⟩, fun c2 => ⟨vp_in_nI (by omega) (by decide), fun c3 => no (fun e => ?_), fun c3 => yes ⟨hs, c1, .inr ?_⟩⟩⟩⟩
      · rcases e.2.2 with e | ⟨b, _, hb, b1, b2⟩
        · exact hv.e.mp c2 e
        · have : bt (A 2 i 0 &&& cl) b = true := by
            rw [b_and, b1, (hcl b (by omega)).mpr ⟨hb, b2⟩]; rfl
          exact bt_ne0 this c3
      · obtain ⟨b, hb, e⟩ := ne0_bt c3
        rw [b_and, Bool.and_eq_true] at e
        have := (hcl b hb).mp e.2
        exact ⟨b, by omega, this.1, e.1, this.2⟩
    refine hdG h.pr.n (by omega) (by omega) ⟨fun c1 => J 0 (V.f (fun e => c1 (by rw [e.1]; rfl))), fun c1 => ?_⟩
    rw [h.cf.cy]
    exact ⟨fun c2 => J 0 (V.f (fun e => e.2 c2)), fun c2 => J 1 (V.t ⟨nI_inj (by omega) (by decide) c1, c2⟩)⟩
theorem c_called {t N K : Nat} {c j s p r : Lf} {A : AS} (h : CoR N K c j s p r A) (hI : CoI t N K A) {Q : Int32 → Prop} (q : ∀ x, Bits x (fun p => p < K ∧ calledP A N p) → Q x) : pX0_calledPhases c s p Q := by
  unfold pX0_calledPhases
  rw [h.cf.st]
  refine ⟨fun c1 => ⟨9, c_calling h hI (fun cl hcl => ⟨K + 1, c_called1 h hI c1 hcl q K 0 0 (by omega) (Bits.zero' (fun i _ e => by omega))⟩) 8 0 0 (by omega) (Bits.zero' (fun i _ e => by omega))⟩, fun c1 => q 0 (Bits.zero' (fun i _ e => e.2.1 c1))⟩
theorem c_local {t N K : Nat} {c : Lf} {A : AS} (h : CF c A) (hI : CoI t N K A) (h0 : ¬ A 0 0 10 ≤ 0) {Q : Int32 → Prop} (q : Q (lo A)) : pX0_local c Q := by
  unfold pX0_local
  rw [h.cy, h.sec, h.off]
  refine ⟨fun c => absurd c h0, fun _ => c_fmod ?_ q⟩
  have := i_lt.mp (n_lt.mp h0)
  exact this

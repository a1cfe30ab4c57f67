theorem nlt' {a b : Nat} (ha : a < 2 ^ 31) (hb : b < 2 ^ 31) (h : ¬ nI a < nI b) : b ≤ a := by
  rcases Nat.lt_or_ge a b with l | l
  · exact absurd ((nlt ha hb).mpr l) h
  · exact l
theorem nle' {a b : Nat} (ha : a < 2 ^ 31) (hb : b < 2 ^ 31) (h : ¬ nI a ≤ nI b) : b < a := by
  rcases Nat.lt_or_ge b a with l | l
  · exact l
  · exact absurd ((nle ha hb).mpr l) h
theorem U_ne (A : AS) {x y : Nat} (i k : Nat) (v : Int32) (h : y ≠ x) : U A x i k v y = A y := by
  funext j l
  simp [U_at, h]
theorem U_same (A : AS) (x i k : Nat) : U A x i k (A x i k) = A := by
  funext y j l
  rw [U_at]
  split
  · rename_i h; rw [h.1, h.2.1, h.2.2]
  · rfl
theorem CoR.step {N K : Nat} {c j s p r c' s' : Lf} {A B : AS} (h : CoR N K c j s p r A) (cf : CF c' B) (sr : SR N s' B) (e1 : B 0 0 1 = A 0 0 1) (e15 : B 0 0 15 = A 0 0 15) (eJ : ∀ a w, (w = 0 ∨ 11 ≤ w ∧ w < 20) → B 1 a w = A 1 a w) (e2 : B 2 = A 2) (e3 : B 3 = A 3) : CoR N K c' j s' p r B := by
  refine ⟨cf, ⟨h.jr.n, ?_, ?_, ?_, ?_⟩, sr, ⟨h.pr.n, ?_, ?_, ?_, h.pr.c0⟩, ⟨?_, h.rr.most, ?_⟩⟩
  · rw [e1]; exact h.jr.sf
  · intro a ha; rw [eJ a 0 (.inl rfl)]; exact h.jr.kind a ha
  · intro a ha; rw [eJ a 11 (.inr (by omega))]; exact h.jr.len a ha
  · intro a ha i hi; rw [eJ a 11 (.inr (by omega)), eJ a (12 + i) (.inr (by omega))]; exact h.jr.cell a ha i hi
  · rw [e2]; exact h.pr.set
  · rw [e2]; exact h.pr.force
  · rw [e2]; exact h.pr.com
  · rw [e15]; exact h.rr.n
  · rw [e15, e3]; exact h.rr.at'
theorem c_goersOf {t N K : Nat} {c j s p r : Lf} {A : AS} (ht : t < 2 ^ 30) (h : CoR N K c j s p r A) (hI : CoI t N K A) {i : Nat} (hi : i < N) (hg : ¬ A 1 i 6 = 0) {q : Nat} (hq : 1 ≤ q) (hq2 : q ≤ 99) (eq : A 1 i 5 = nI q) {Q : Int32 → Prop} (k : Q (if A 1 i 5 < mostGo A i then A 1 i 5 else mostGo A i)) : pX0_goersOf j s (nI i) (A 0 0 3 - A 1 i 7) Q := by
  have hN := hI.hN
  unfold pX0_goersOf
  rw [nI_clamp (by omega), h.jr.kind i hi, h.sr.q i hi, eq]
  rw [eq] at k
  refine ⟨vp_in_nI (by omega) (by decide), ?_⟩
  have s := hI.sg i hi
  obtain ⟨_, b, hb, e⟩ := s.gr.resolve_left hg
  have hk : A 0 0 3 - A 1 i 7 = nI (t - b) := by rw [hI.sec, e, nI_sub hb]
  unfold mostGo at k
  rw [hk] at k ⊢
  have l1 : ¬ nI q < 1 := fun r => by have := (nlt (b := 1) (by omega) (by decide)).mp r; omega
  have l0 : ¬ nI q < 0 := fun r => by have := (nlt (b := 0) (by omega) (by decide)).mp r; omega
  have m2 : nI (t - b) - nI (t - b) / 2 * 2 = nI ((t - b) % 2) := nI_mod (b := 2) (by omega) (by decide) (by decide)
  refine ⟨fun c1 => ?_, fun c1 => ⟨fun c2 => ?_, fun c2 => ⟨fun c3 => ?_, fun c3 => ?_⟩⟩⟩
  · rw [if_pos c1, m2] at k
    rw [m2]
    rcases (show (t - b) % 2 = 0 ∨ (t - b) % 2 = 1 by omega) with e | e
    · rw [e] at k ⊢
      rw [if_neg (show ¬ nI q < 1 - nI 0 from l1)] at k
      exact ⟨fun c => absurd rfl c, fun _ => k⟩
    · rw [e] at k ⊢
      rw [if_neg (show ¬ nI q < 1 - nI 1 from l0)] at k
      exact ⟨fun _ => k, fun c => absurd c (by decide)⟩
  · rw [if_neg c1, if_pos c2] at k
    refine ⟨vp_in_nI (by omega) (by decide), ?_⟩
    by_cases c99 : nI q < 99
    · rw [if_pos c99] at k; exact k
    · rw [if_neg c99] at k
      have : q = 99 := by
        have := nlt' (b := 99) (by omega) (by decide) c99
        omega
      rw [this]; exact k
  · rw [if_neg c1, if_neg c2, if_pos c3] at k
    refine ⟨fun c => ?_, fun c => ?_⟩
    · rw [if_neg c, if_neg l0] at k; exact k
    · rw [if_pos c, if_neg l1] at k; exact k
  · rw [if_neg c1, if_neg c2, if_neg c3, if_neg l1] at k
    exact k
theorem go1_0 (i : Nat) (A : AS) : go1 i A 0 = A := by
  unfold go1
  rw [Int32.sub_zero, Int32.add_zero, Int32.add_zero, U_same, U_same, U_same]
theorem c_letGo {t N K : Nat} {j p r : Lf} (ht : t < 2 ^ 30) {Q : Lf → Lf → Prop} : ∀ (k i : Nat) {c s : Lf} {A : AS}, i + k = N → CoR N K c j s p r A → CoI t N K A → (∀ c' s', CoR N K c' j s' p r (lp goS k i A) → Q c' s') → pX0_letGo_L2 j Q (k + 1) c s (nI i) := by
  intro k
  induction k with
  | zero =>
    intro i c s A hi h hI q
    exact hdE h.jr.n (by omega) (q c s h)
  | succ k ih =>
    intro i c s A hi h hI q
    have hN := hI.hN
    have hi2 : i < N := by omega
    have nx : ∀ {c' s'}, CoR N K c' j s' p r (goS i A) → pX0_letGo_J92 j Q (fun v vs x1 => pX0_letGo_L2 j Q (k + 1) v vs x1) c' s' (nI i) := by
      intro c' s' h'
      unfold pX0_letGo_J92
      rw [nI_s]
      exact ih (i + 1) (by omega) h' (hI.go ht i) q
    obtain ⟨z, hz, ez⟩ := (hI.sg i hi2).queue
    refine hdG h.jr.n (by omega) (by omega) (c_green (by omega) (fun g => ⟨fun c => absurd c (by decide), fun _ => ?_⟩) (fun g => ⟨fun _ => nx ?_, fun c => absurd rfl c⟩))
    · rw [nI_clamp (by omega), h.sr.q i hi2, ez]
      have hg := (h.sr.gi hi2).mp g
      refine ⟨vp_in_nI (by omega) (by decide), fun c0 => nx ?_, fun c0 => ⟨vp_in_nI (by omega) (by decide), ?_⟩⟩
      · have z0 : z = 0 := by have := (nle (b := 0) (by omega) (by decide)).mp c0; omega
        subst z0
        obtain ⟨m, hm, em⟩ := mostGo_ok ht hI hi2 hg
        have e : goS i A = A := by
          unfold goS
          rw [if_neg hg, em, ez]
          by_cases l : nI 0 < nI m
          · rw [if_pos l]; exact go1_0 i A
          · rw [if_neg l]
            have : m = 0 := by
              have := nlt' (by decide) (by omega) l
              omega
            rw [this]; exact go1_0 i A
        rw [e]; exact h
      · rw [h.cf.sec, h.sr.be i hi2]
        have hz1 : 1 ≤ z := by
          have := nle' (b := 0) (by omega) (by decide) c0
          omega
        refine c_goersOf ht h hI hi2 hg hz1 hz ez ?_
        refine ⟨vp_in_nI (by omega) (by decide), vp_in_nI (by omega) (by decide), vp_in_nI (by omega) (by decide), vp_in_nI (by omega) (by decide), nx ?_⟩
        unfold goS
        rw [if_neg hg, ← ez]
        generalize (if A 1 i 5 < mostGo A i then A 1 i 5 else mostGo A i) = n
        unfold go1
        refine h.step ?_ ?_ (by simp [U_at]) (by simp [U_at]) (fun a w hw => ?_) (by simp [U_ne]) (by simp [U_ne])
        · refine ⟨?_, ?_, ?_, ?_, ?_, ?_, ?_, ?_, ?_, ?_, ?_, ?_⟩ <;> simp [st_at, U_at, h.cf.st, h.cf.sec, h.cf.cur, h.cf.cut, h.cf.em, h.cf.wt, h.cf.sv, h.cf.ls, h.cf.sd, h.cf.cy, h.cf.off, h.cf.spl]
        · refine ⟨fun a ha kk hk => ?_, fun a ha => ?_, fun a ha => ?_, fun a ha => ?_, fun a ha => ?_, fun a ha => ?_, fun a ha => ?_, fun a ha => ?_, fun a ha ha2 => ?_, fun a ha ha2 => ?_⟩
          · have := h.sr.ru a ha kk hk
            simp only [st_at, U_at]
            rw [if_neg (by omega), if_neg (by omega), if_neg (by omega), if_neg (by omega), if_neg (by omega), this]
          · have := h.sr.q a ha
            by_cases e : a = i
            · subst e; simp [st_at, U_at, this]
            · simp [st_at, U_at, this, e]
          · have := h.sr.g a ha; simpa [st_at, U_at] using this
          · have := h.sr.be a ha; simpa [st_at, U_at] using this
          · have := h.sr.en a ha; simpa [st_at, U_at] using this
          · have := h.sr.se a ha; simpa [st_at, U_at] using this
          · have := h.sr.go a ha
            by_cases e : a = i
            · subst e; simp [st_at, U_at, this]
            · simp [st_at, U_at, this, e]
          · have := h.sr.ti a ha; simpa [st_at, U_at] using this
          · have := h.sr.q0 a ha ha2
            have e : a ≠ i := by omega
            simp [st_at, this, e]
          · have := h.sr.g0 a ha ha2; simpa [st_at] using this
        · simp only [U_at]
          rw [if_neg (by omega), if_neg (by omega), if_neg (by omega)]
    · have hg : A 1 i 6 = 0 := by
        by_cases c : A 1 i 6 = 0
        · exact c
        · exact absurd ((h.sr.gi hi2).mpr c) g
      unfold goS
      rw [if_pos hg]
      exact h

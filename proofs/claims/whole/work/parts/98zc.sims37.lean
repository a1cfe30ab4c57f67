abbrev RS (tn : Nat → Nat) (m : Nat) (v : Lf) (p : Nat) : Prop := (v 0 1 = nI m) ∧ (v 0 2 = nI p) ∧ (∀ i, i < m → v 1 i = nI (tn i))
theorem RS.n {tn : Nat → Nat} {m : Nat} {v : Lf} {p : Nat} (h : RS tn m v p) : v 0 1 = nI m := h.1
theorem RS.at' {tn : Nat → Nat} {m : Nat} {v : Lf} {p : Nat} (h : RS tn m v p) : v 0 2 = nI p := h.2.1
theorem RS.sg {tn : Nat → Nat} {m : Nat} {v : Lf} {p : Nat} (h : RS tn m v p) : ∀ i, i < m → v 1 i = nI (tn i) := h.2.2
theorem RS.next {tn : Nat → Nat} {m p : Nat} {v : Lf} (h : RS tn m v p) : RS tn m (st v 0 2 (v 0 2 + 1)) (p + 1) := by
  refine ⟨?_, ?_, fun i hi => ?_⟩
  · rw [st_at, if_neg (by omega)]; exact h.n
  · rw [st_at, if_pos ⟨rfl, rfl⟩, h.at', nI_s]
  · rw [st_at, if_neg (by omega)]; exact h.sg i hi
theorem RS.oth {tn : Nat → Nat} {m p : Nat} {v : Lf} (h : RS tn m v p) {c i : Nat} (x : Int32) (hc : 2 ≤ c) : RS tn m (st v c i x) p := by
  refine ⟨?_, ?_, fun i hi => ?_⟩
  · rw [st_at, if_neg (by omega)]; exact h.n
  · rw [st_at, if_neg (by omega)]; exact h.at'
  · rw [st_at, if_neg (by omega)]; exact h.sg i hi
theorem c_sign {tn : Nat → Nat} {m p : Nat} {v : Lf} (hm : m ≤ 100) (hp : p < 2 ^ 20) (h : RS tn m v p) {Q : Int32 → Prop} (q : Q (sI tn m p)) : pX3_sign v Q := by
  unfold pX3_sign
  unfold sI at q
  rw [h.n, h.at']
  refine ⟨fun c => ?_, fun c => ?_⟩
  · have c := (nle (by omega) (by omega)).mp c
    rw [if_neg (by omega)] at q
    exact q
  · have c := nle' (by omega) (by omega) c
    rw [if_pos c] at q
    rw [nI_clamp (by omega), h.sg p c]
    exact ⟨vp_in_nI (by omega) (by decide), q⟩
theorem s_in {tn : Nat → Nat} {m p : Nat} (l : p < m) : sI tn m p = nI (tn p) := by rw [sI, if_pos l]
theorem s_eq {tn : Nat → Nat} {m p x : Nat} (ht : ∀ i, i < m → tn i ≤ 127) (hx : x < 2 ^ 20) : sI tn m p = nI x ↔ p < m ∧ tn p = x := by
  unfold sI
  by_cases l : p < m
  · rw [if_pos l]
    have := ht p l
    exact ⟨fun e => ⟨l, nI_inj (by omega) (by omega) e⟩, fun e => by rw [e.2]⟩
  · rw [if_neg l]
    refine ⟨fun e => ?_, fun e => absurd e.1 l⟩
    have := congrArg Int32.toInt e
    rw [nI_toInt (by omega)] at this
    have e1 : (-1 : Int32).toInt = -1 := by decide
    omega
theorem s_rng {tn : Nat → Nat} {m p lo w : Nat} (ht : ∀ i, i < m → tn i ≤ 127) (hlo : lo < 200) (hw : w < 200) (hn : ((-1 : Int32) - nI lo) < 0) {Q : Int32 → Prop} (q1 : p < m ∧ lo ≤ tn p ∧ tn p ≤ lo + w → Q 1) (q0 : ¬ (p < m ∧ lo ≤ tn p ∧ tn p ≤ lo + w) → Q 0) : pX9_within (sI tn m p - nI lo) 0 (nI w) Q := by
  have key : (0 ≤ sI tn m p - nI lo ∧ sI tn m p - nI lo ≤ nI w) ↔ (p < m ∧ lo ≤ tn p ∧ tn p ≤ lo + w) := by
    have e0 : (0 : Int32).toInt = 0 := by decide
    unfold sI
    by_cases l : p < m
    · have := ht p l
      rw [if_pos l, i_le, i_le, pk_sub_toInt (by omega) (by omega), nI_toInt (by omega), e0]
      omega
    · rw [if_neg l]
      exact ⟨fun c => absurd c.1 (n_lt.mpr hn), fun c => absurd c.1 l⟩
  exact w_in (fun c1 c2 => q1 (key.mp ⟨c1, c2⟩)) (fun c => q0 (fun e => c (key.mpr e)))
theorem s_dig {tn : Nat → Nat} {m p : Nat} (ht : ∀ i, i < m → tn i ≤ 127) {Q : Int32 → Prop} (q1 : p < m ∧ 48 ≤ tn p ∧ tn p ≤ 57 → Q 1) (q0 : ¬ (p < m ∧ 48 ≤ tn p ∧ tn p ≤ 57) → Q 0) : pX9_within (sI tn m p) 48 57 Q := by
  have key : ((48 : Int32) ≤ sI tn m p ∧ sI tn m p ≤ 57) ↔ (p < m ∧ 48 ≤ tn p ∧ tn p ≤ 57) := by
    unfold sI
    by_cases l : p < m
    · have := ht p l
      rw [if_pos l]
      have a := nle (a := 48) (b := tn p) (by decide) (by omega)
      have b := nle (a := tn p) (b := 57) (by omega) (by decide)
      exact ⟨fun c => ⟨l, a.mp c.1, b.mp c.2⟩, fun c => ⟨a.mpr c.2.1, b.mpr c.2.2⟩⟩
    · rw [if_neg l]
      exact ⟨fun c => absurd c.1 (by decide), fun c => absurd c.1 l⟩
  exact w_in (fun c1 c2 => q1 (key.mp ⟨c1, c2⟩)) (fun c => q0 (fun e => c (key.mpr e)))
abbrev FN (v v' : Lf) : Prop := (v' 5 = v 5) ∧ (∀ c, c ≠ 0 → c ≠ 5 → v' c = v c) ∧ (v' 0 4 = v 0 4)
theorem FN.f5 {v v' : Lf} (h : FN v v') : v' 5 = v 5 := h.1
theorem FN.o {v v' : Lf} (h : FN v v') : ∀ c, c ≠ 0 → c ≠ 5 → v' c = v c := h.2.1
theorem FN.o4 {v v' : Lf} (h : FN v v') : v' 0 4 = v 0 4 := h.2.2
theorem FN.next {v v' : Lf} (h : FN v v') (x : Int32) : FN v (st v' 0 2 x) := ⟨by rw [st_oth _ _ _ (by decide)]; exact h.f5, fun c h0 h5 => by rw [st_oth _ _ _ h0]; exact h.o c h0 h5, by rw [st_at, if_neg (by omega)]; exact h.o4⟩
theorem c_digs {tn : Nat → Nat} {m : Nat} (hm : m ≤ 100) (ht : ∀ i, i < m → tn i ≤ 127) {v0 : Lf} {mk z fg : Nat} {x4 x5 : Int32} (hfg : fg ≤ 2) {Q : Int32 → Lf → Prop} : ∀ (k d x p : Nat) (v : Lf), d + k = fg → RS tn m v p → FN v0 v → p ≤ m → (∀ v', RS tn m v' (dgL tn m k p x).1 → FN v0 v' → pX3_parseNumber_J100 (nI mk) (nI z) (nI fg) x4 x5 Q v' (nI (dgL tn m k p x).2)) → pX3_parseNumber_L49 (nI mk) (nI z) (nI fg) x4 x5 Q (k + 1) v (nI x) (nI d) := by
  intro k
  induction k with
  | zero =>
    intro d x p v hd h fn hp q
    exact hdE rfl (by omega) (q v h fn)
  | succ k ih =>
    intro d x p v hd h fn hp q
    rw [dgL] at q
    refine hdG rfl (by omega) (by omega) (c_sign hm (by omega) h (s_dig ht (fun l => ?_) (fun l => ?_)))
    · rw [if_pos l] at q
      first | refine ⟨fun c => absurd c (by decide), fun _ => ?_⟩ | refine ⟨fun _ => ?_, fun c => absurd c (by decide)⟩
      refine c_sign hm (by omega) h ?_
      rw [s_in l.1, show nI x * (10 : Int32) + nI (tn p) - 48 = nI (x * 10 + tn p - 48) from by
        show nI x * nI 10 + nI (tn p) - nI 48 = _
        rw [pk_mul, nI_add, nI_sub (by omega)], nI_s]
      exact ih (d + 1) _ (p + 1) _ (by omega) h.next (fn.next _) (by omega) q
    · rw [if_neg l] at q
      first | refine ⟨fun c => absurd c (by decide), fun _ => ?_⟩ | refine ⟨fun _ => ?_, fun c => absurd c (by decide)⟩
      exact q v h fn
theorem c_num {tn : Nat → Nat} {m : Nat} (hm : m ≤ 100) (ht : ∀ i, i < m → tn i ≤ 127) {v : Lf} {p z mk fg lo hi df : Nat} (h : RS tn m v p) (hp : p ≤ m) (hz : z < 16) (hmk : mk < 200) (hf0 : 1 ≤ fg) (hfg : fg ≤ 2) (hlo : lo < 100) (hhi : hi < 100) (hd : v 5 z = nI df) {Q : Int32 → Lf → Prop} (q1 : (onL tn m p mk fg lo hi df).1 = true → ∀ v', RS tn m v' (onL tn m p mk fg lo hi df).2.1 → v' 5 z = nI (onL tn m p mk fg lo hi df).2.2 → (∀ x, x ≠ z → v' 5 x = v 5 x) → (∀ c, c ≠ 0 → c ≠ 5 → v' c = v c) → v' 0 4 = v 0 4 → Q 1 v') (q0 : (onL tn m p mk fg lo hi df).1 = false → ∀ v', v' 0 3 = nI (onL tn m p mk fg lo hi df).2.1 → Q 0 v') : pX3_parseNumber v (nI mk) (nI z) (nI fg) (nI lo) (nI hi) Q := by
  unfold pX3_parseNumber
  have se := s_eq (tn := tn) (m := m) (p := p) (x := mk) ht (by omega)
  refine c_sign hm (by omega) h ⟨fun c => ?_, fun c => ?_⟩
  · have l := se.mp c
    unfold onL at q1 q0
    rw [if_pos l] at q1 q0
    have h1 := h.next
    have fn1 : FN v (st v 0 2 (v 0 2 + 1)) := FN.next ⟨rfl, fun _ _ _ => rfl, rfl⟩ _
    have bd := dg_bd (tn := tn) (m := m) fg (p + 1) 0 0 (by decide)
    have b100 : 10 ^ (0 + fg) ≤ 10 ^ 2 := Nat.pow_le_pow_right (by decide) (by omega)
    refine c_sign hm (by omega) h1 (s_dig ht (fun l2 => ?_) (fun l2 => ?_))
    · first | refine ⟨fun c => absurd c (by decide), fun _ => ?_⟩ | refine ⟨fun _ => ?_, fun c => absurd c (by decide)⟩
      have gt : ¬ (dgL tn m fg (p + 1) 0).1 = p + 1 := by
        obtain ⟨f, rfl⟩ : ∃ f, fg = f + 1 := ⟨fg - 1, by omega⟩
        rw [dgL, if_pos l2]
        have := dg_le (tn := tn) (m := m) f (p + 1 + 1) (0 * 10 + tn (p + 1) - 48) (by omega)
        omega
      have le := dg_le (tn := tn) (m := m) fg (p + 1) 0 (by omega)
      rw [if_neg gt] at q1 q0
      refine ⟨fg + 1, c_digs hm ht hfg fg 0 0 (p + 1) _ (by omega) h1 fn1 (by omega) (fun v' h' fn' => ?_)⟩
      unfold pX3_parseNumber_J100
      rw [nI_clamp (by omega)]
      have vp : vp_in (nI z) 16 := vp_in_nI (by omega) (by decide)
      have a := nle (a := lo) (b := (dgL tn m fg (p + 1) 0).2) (by omega) (by omega)
      have b := nle (a := (dgL tn m fg (p + 1) 0).2) (b := hi) (by omega) (by omega)
      refine ⟨vp, w_in (fun d1 d2 => ?_) (fun d => ?_)⟩
      · first | refine ⟨fun c => absurd c (by decide), fun _ => ?_⟩ | refine ⟨fun _ => ?_, fun c => absurd c (by decide)⟩
        rw [if_pos ⟨a.mp d1, b.mp d2⟩] at q1
        unfold pX3_parseNumber_J133
        refine q1 rfl _ (h'.oth _ (by decide)) (by rw [st_at, if_pos ⟨rfl, rfl⟩]) (fun x hx => ?_) (fun c h0 h5 => ?_) ?_
        · rw [st_at, if_neg (fun e => hx e.2), fn'.f5]
        · rw [st_oth _ _ _ h5]; exact fn'.o c h0 h5
        · rw [st_at, if_neg (by omega)]; exact fn'.o4
      · first | refine ⟨fun c => absurd c (by decide), fun _ => ?_⟩ | refine ⟨fun _ => ?_, fun c => absurd c (by decide)⟩
        rw [if_neg (fun e => d ⟨a.mpr e.1, b.mpr e.2⟩)] at q0
        unfold pX3_failAt
        first | refine ⟨fun c => absurd c (by decide), fun _ => ?_⟩ | refine ⟨fun _ => ?_, fun c => absurd c (by decide)⟩
        refine q0 rfl _ ?_
        rw [st_at, if_pos ⟨rfl, rfl⟩, st_at, if_neg (by omega), h'.at']
        exact nI_sub (a := (dgL tn m fg (p + 1) 0).1) (b := 1) (by omega)
    · first | refine ⟨fun c => absurd c (by decide), fun _ => ?_⟩ | refine ⟨fun _ => ?_, fun c => absurd c (by decide)⟩
      have eq : (dgL tn m fg (p + 1) 0).1 = p + 1 := by
        obtain ⟨f, rfl⟩ : ∃ f, fg = f + 1 := ⟨fg - 1, by omega⟩
        rw [dgL, if_neg l2]
      rw [if_pos eq] at q0
      unfold pX3_failAt
      refine ⟨rfl, q0 rfl _ ?_⟩
      rw [st_at, if_pos ⟨rfl, rfl⟩, h1.at']
  · unfold onL at q1
    rw [if_neg (fun y => c (se.mpr y))] at q1
    exact q1 rfl v h hd (fun _ _ => rfl) (fun _ _ _ => rfl) rfl
theorem c_has {v : Lf} {c i X : Nat} {cs : Nat → Nat} (hc : c < 4) (hi : i ≤ 8) (h3 : v 3 c = nI i) (h4 : ∀ j, j < i → v 4 (c * 8 + j) = nI (cs j) ∧ cs j < 64) (hX : X < 64) {Q : Int32 → Prop} (q1 : (¬ ∀ j, j < i → ¬ cs j = X) → Q 1) (q0 : (∀ j, j < i → ¬ cs j = X) → Q 0) : pX3_hasCell v (nI c) (nI X) Q := by
  have L : ∀ (k j : Nat), j + k = i → (∀ e, e < j → ¬ cs e = X) → pX3_hasCell_L2 v (nI c) (nI X) Q (k + 1) (nI j) := by
    intro k
    induction k with
    | zero =>
      intro j hj f
      refine ⟨vp_in_nI (by omega) (by decide), ?_⟩
      rw [nI_clamp (n := c) (by omega)]
      exact hdE h3 (by omega) (q0 (fun e he => f e (by omega)))
    | succ k ih =>
      intro j hj f
      refine ⟨vp_in_nI (by omega) (by decide), ?_⟩
      rw [nI_clamp (n := c) (by omega)]
      refine hdG h3 (by omega) (by omega) ?_
      rw [ix8r, nI_clamp (by omega), (h4 j (by omega)).1]
      have lj := (h4 j (by omega)).2
      refine ⟨vp_in_nI (by omega) (by decide), fun d => ?_, fun d => ?_⟩
      · rw [nI_s]
        refine ih (j + 1) (by omega) (fun e he => ?_)
        by_cases ee : e = j
        · subst ee; exact fun y => d (by rw [y])
        · exact f e (by omega)
      · exact q1 (fun y => y j (by omega) (nI_inj (by omega) (by omega) d))
  exact ⟨i + 1, L i 0 (by omega) (fun e he => by omega)⟩
abbrev FW (c : Nat) (v0 v : Lf) : Prop := (v 2 = v0 2) ∧ (v 5 = v0 5) ∧ (v 0 4 = v0 0 4) ∧ (∀ x, x ≠ c → v 3 x = v0 3 x) ∧ (∀ x, x < c * 8 → v 4 x = v0 4 x)
theorem FW.f2 {c : Nat} {v0 v : Lf} (h : FW c v0 v) : v 2 = v0 2 := h.1
theorem FW.f5 {c : Nat} {v0 v : Lf} (h : FW c v0 v) : v 5 = v0 5 := h.2.1
theorem FW.o4 {c : Nat} {v0 v : Lf} (h : FW c v0 v) : v 0 4 = v0 0 4 := h.2.2.1
theorem FW.f3 {c : Nat} {v0 v : Lf} (h : FW c v0 v) : ∀ x, x ≠ c → v 3 x = v0 3 x := h.2.2.2.1
theorem FW.f4 {c : Nat} {v0 v : Lf} (h : FW c v0 v) : ∀ x, x < c * 8 → v 4 x = v0 4 x := h.2.2.2.2
theorem FW.slot {c : Nat} {v0 v : Lf} (h : FW c v0 v) {j : Nat} (hj : j ≠ 4) (x : Int32) : FW c v0 (st v 0 j x) := ⟨by rw [st_oth _ _ _ (by decide)]; exact h.f2, by rw [st_oth _ _ _ (by decide)]; exact h.f5, by rw [st_at, if_neg (by omega)]; exact h.o4, fun y hy => by rw [st_at, if_neg (by omega)]; exact h.f3 y hy, fun y hy => by rw [st_at, if_neg (by omega)]; exact h.f4 y hy⟩
theorem c_way {tn : Nat → Nat} {m : Nat} (hm : m ≤ 100) (ht : ∀ i, i < m → tn i ≤ 127) {v0 : Lf} {c : Nat} (hc : c < 4) {Q : Int32 → Lf → Prop} : ∀ (k i p : Nat) (cs : Nat → Nat) (v : Lf), i + k = 8 → p ≤ m → RS tn m v p → v 3 c = nI i → (∀ j, j < i → v 4 (c * 8 + j) = nI (cs j) ∧ cs j < 64) → FW c v0 v → ((wyL tn m k i p cs).1 = true → ∀ v', RS tn m v' (wyL tn m k i p cs).2.1 → v' 3 c = nI (wyL tn m k i p cs).2.2.1 → (∀ j, j < (wyL tn m k i p cs).2.2.1 → v' 4 (c * 8 + j) = nI ((wyL tn m k i p cs).2.2.2 j)) → FW c v0 v' → Q 1 v') → ((wyL tn m k i p cs).1 = false → ∀ v', v' 0 3 = nI (wyL tn m k i p cs).2.1 → Q 0 v') → pX3_parseWay_L9 (nI c) Q (k + 1) v (nI i) := by
  intro k
  induction k with
  | zero =>
    intro i p cs v hi hp h h3 h4 fw q1 q0
    exact hdE (N := 8) rfl (by omega) (q1 rfl v h h3 (fun j hj => (h4 j hj).1) fw)
  | succ k ih =>
    intro i p cs v hi hp h h3 h4 fw q1 q0
    rw [wyL] at q1 q0
    refine hdG (N := 8) rfl (by omega) (by omega) (c_sign hm (by omega) h (s_rng (lo := 97) (w := 7) ht (by decide) (by decide) (by decide) (fun l => ?_) (fun l => ?_)))
    · first | refine ⟨fun c => absurd c (by decide), fun _ => ?_⟩ | refine ⟨fun _ => ?_, fun c => absurd c (by decide)⟩
      rw [if_pos l] at q1 q0
      have h1 := h.next
      have fw1 := fw.slot (j := 2) (by decide) (v 0 2 + 1)
      have J99 : ¬ ((p + 1 < m ∧ 49 ≤ tn (p + 1) ∧ tn (p + 1) ≤ 56) ∧ ∀ j, j < i → ¬ cs j = clN tn p) → pX3_parseWay_J99 (nI c) Q (st v 0 2 (v 0 2 + 1)) := by
        intro d
        rw [if_neg d] at q0
        unfold pX3_parseWay_J99 pX3_failAt
        refine ⟨rfl, q0 rfl _ ?_⟩
        rw [st_at, if_pos ⟨rfl, rfl⟩, h1.at']
      refine c_sign hm (by omega) h1 (s_rng (lo := 49) (w := 7) ht (by decide) (by decide) (by decide) (fun l2 => ?_) (fun l2 => ?_))
      · first | refine ⟨fun c => absurd c (by decide), fun _ => ?_⟩ | refine ⟨fun _ => ?_, fun c => absurd c (by decide)⟩
        have ev : (sI tn m p - (97 : Int32)) + (8 : Int32) * (sI tn m (p + 1) - (49 : Int32)) = nI (clN tn p) := by
          rw [s_in l.1, s_in l2.1]
          show (nI (tn p) - nI 97) + nI 8 * (nI (tn (p + 1)) - nI 49) = _
          rw [nI_sub (by omega), nI_sub (by omega), pk_mul, nI_add]
          rfl
        have lX : clN tn p < 64 := by unfold clN; omega
        rw [ev]
        refine c_has (i := i) (cs := cs) hc (by omega) (by rw [st_at, if_neg (by omega)]; exact h3) (fun j hj => by rw [st_at, if_neg (by omega)]; exact h4 j hj) lX (fun d => ?_) (fun d => ?_)
        · first | refine ⟨fun c => absurd c (by decide), fun _ => ?_⟩ | refine ⟨fun _ => ?_, fun c => absurd c (by decide)⟩
          exact J99 (fun y => d y.2)
        · first | refine ⟨fun c => absurd c (by decide), fun _ => ?_⟩ | refine ⟨fun _ => ?_, fun c => absurd c (by decide)⟩
          rw [if_pos ⟨l2, d⟩] at q1 q0
          rw [ix8r, nI_clamp (by omega), nI_clamp (by omega), nI_s]
          refine ⟨vp_in_nI (by omega) (by decide), vp_in_nI (by omega) (by decide), ih (i + 1) (p + 2) _ _ (by omega) (by omega) ((h1.next.oth _ (by decide)).oth _ (by decide)) (by rw [st_at, if_pos ⟨rfl, rfl⟩]) (fun j hj => ?_) ?_ q1 q0⟩
          · by_cases ej : j = i
            · subst ej
              rw [st_at, if_neg (by omega), st_at, if_pos ⟨rfl, rfl⟩, if_pos rfl]
              exact ⟨rfl, lX⟩
            · rw [st_at, if_neg (by omega), st_at, if_neg (by omega), st_at, if_neg (by omega), st_at, if_neg (by omega), if_neg ej]
              exact h4 j (by omega)
          · have fw2 := fw1.slot (j := 2) (by decide) (st v 0 2 (v 0 2 + 1) 0 2 + 1)
            exact ⟨by rw [st_oth _ _ _ (by decide), st_oth _ _ _ (by decide)]; exact fw2.f2, by rw [st_oth _ _ _ (by decide), st_oth _ _ _ (by decide)]; exact fw2.f5, by rw [st_at, if_neg (by omega), st_at, if_neg (by omega)]; exact fw2.o4, fun y hy => by rw [st_at, if_neg (fun e => hy e.2), st_at, if_neg (by omega)]; exact fw2.f3 y hy, fun y hy => by rw [st_at, if_neg (by omega), st_at, if_neg (by omega)]; exact fw2.f4 y hy⟩
      · first | refine ⟨fun c => absurd c (by decide), fun _ => ?_⟩ | refine ⟨fun _ => ?_, fun c => absurd c (by decide)⟩
        exact J99 (fun y => l2 y.1)
    · first | refine ⟨fun c => absurd c (by decide), fun _ => ?_⟩ | refine ⟨fun _ => ?_, fun c => absurd c (by decide)⟩
      rw [if_neg l] at q1 q0
      refine ⟨fun d => ?_, fun d => ?_⟩
      · have d := (nlt (a := 0) (b := i) (by decide) (by omega)).mp d
        rw [if_neg (by omega)] at q1
        unfold pX3_parseWay_J48
        exact q1 rfl v h h3 (fun j hj => (h4 j hj).1) fw
      · have d := nlt' (a := 0) (b := i) (by decide) (by omega) d
        rw [if_pos (by omega)] at q0
        unfold pX3_failAt
        first | refine ⟨fun c => absurd c (by decide), fun _ => ?_⟩ | refine ⟨fun _ => ?_, fun c => absurd c (by decide)⟩
        refine q0 rfl _ ?_
        rw [st_at, if_pos ⟨rfl, rfl⟩, h.at']
def DC (v : Lf) (c : Nat) (d : Nat → Nat) : Prop := v 2 c = nI (d 0) ∧ v 3 c = nI (d 5) ∧ (∀ j, j < d 5 → v 4 (c * 8 + j) = nI (d (6 + j))) ∧ ∀ k, k < 4 → v 5 (c * 4 + k) = nI (d (1 + k))
abbrev FC (c : Nat) (v v' : Lf) : Prop := (∀ x, x < c → v' 2 x = v 2 x) ∧ (∀ x, x < c → v' 3 x = v 3 x) ∧ (∀ x, x < c * 8 → v' 4 x = v 4 x) ∧ (∀ x, x < c * 4 → v' 5 x = v 5 x) ∧ (v' 0 4 = v 0 4)
theorem FC.f2 {c : Nat} {v v' : Lf} (h : FC c v v') : ∀ x, x < c → v' 2 x = v 2 x := h.1
theorem FC.f3 {c : Nat} {v v' : Lf} (h : FC c v v') : ∀ x, x < c → v' 3 x = v 3 x := h.2.1
theorem FC.f4 {c : Nat} {v v' : Lf} (h : FC c v v') : ∀ x, x < c * 8 → v' 4 x = v 4 x := h.2.2.1
theorem FC.f5 {c : Nat} {v v' : Lf} (h : FC c v v') : ∀ x, x < c * 4 → v' 5 x = v 5 x := h.2.2.2.1
theorem FC.o4 {c : Nat} {v v' : Lf} (h : FC c v v') : v' 0 4 = v 0 4 := h.2.2.2.2
theorem DC.fr {v v' : Lf} {e c : Nat} {d : Nat → Nat} (h : DC v e d) (f : FC c v v') (he : e < c) (h8 : d 5 ≤ 8) : DC v' e d :=
  ⟨(f.f2 e he).trans h.1, (f.f3 e he).trans h.2.1, fun j hj => (f.f4 _ (by omega)).trans (h.2.2.1 j hj), fun k hk => (f.f5 _ (by omega)).trans (h.2.2.2 k hk)⟩
theorem c_kind {tn : Nat → Nat} {m p : Nat} (ht : ∀ i, i < m → tn i ≤ 127) {Q : Int32 → Prop} (q1 : p < m ∧ ¬ kdN (tn p) = 9 → Q (nI (kdN (tn p)))) (q0 : ¬ (p < m ∧ ¬ kdN (tn p) = 9) → Q (-5)) : pX3_kindOf (sI tn m p) Q := by
  have e := fun (x : Nat) (hx : x < 200) => s_eq (tn := tn) (m := m) (p := p) (x := x) ht (by omega)
  unfold pX3_kindOf
  refine ⟨fun c => ?_, fun c0 => ⟨fun c => ?_, fun c1 => ⟨fun c => ?_, fun c2 => ⟨fun c => ?_, fun c3 => ?_⟩⟩⟩⟩
  · have c := (e 98 (by decide)).mp c
    rw [c.2] at q1
    exact q1 ⟨c.1, by decide⟩
  · have c := (e 99 (by decide)).mp c
    rw [c.2] at q1
    exact q1 ⟨c.1, by decide⟩
  · have c := (e 116 (by decide)).mp c
    rw [c.2] at q1
    exact q1 ⟨c.1, by decide⟩
  · have c := (e 119 (by decide)).mp c
    rw [c.2] at q1
    exact q1 ⟨c.1, by decide⟩
  · refine q0 (fun y => y.2 ?_)
    unfold kdN
    rw [if_neg (fun z => c1 ((e 99 (by decide)).mpr ⟨y.1, z⟩)), if_neg (fun z => c3 ((e 119 (by decide)).mpr ⟨y.1, z⟩)), if_neg (fun z => c2 ((e 116 (by decide)).mpr ⟨y.1, z⟩)), if_neg (fun z => c0 ((e 98 (by decide)).mpr ⟨y.1, z⟩))]

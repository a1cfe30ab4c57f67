abbrev MS (tn : Nat → Nat) (m : Nat) (v : Lf) (p : Nat) : Prop := (v 0 9 = nI m) ∧ (v 0 10 = nI p) ∧ (v 0 11 = -1) ∧ (∀ i, i < m → v 6 i = nI (tn i))
theorem MS.n {tn : Nat → Nat} {m : Nat} {v : Lf} {p : Nat} (h : MS tn m v p) : v 0 9 = nI m := h.1
theorem MS.at' {tn : Nat → Nat} {m : Nat} {v : Lf} {p : Nat} (h : MS tn m v p) : v 0 10 = nI p := h.2.1
theorem MS.ok {tn : Nat → Nat} {m : Nat} {v : Lf} {p : Nat} (h : MS tn m v p) : v 0 11 = -1 := h.2.2.1
theorem MS.sg {tn : Nat → Nat} {m : Nat} {v : Lf} {p : Nat} (h : MS tn m v p) : ∀ i, i < m → v 6 i = nI (tn i) := h.2.2.2
abbrev Mr (b : Nat) (v M : Lf) : Prop := (∀ c, c ≠ 0 → c ≠ 7 → M c = v c) ∧ (∀ j, j ≠ 10 → j ≠ 11 → M 0 j = v 0 j) ∧ (∀ x, x < b → M 7 x = v 7 x)
theorem Mr.o {b : Nat} {v M : Lf} (h : Mr b v M) : ∀ c, c ≠ 0 → c ≠ 7 → M c = v c := h.1
theorem Mr.o0 {b : Nat} {v M : Lf} (h : Mr b v M) : ∀ j, j ≠ 10 → j ≠ 11 → M 0 j = v 0 j := h.2.1
theorem Mr.o7 {b : Nat} {v M : Lf} (h : Mr b v M) : ∀ x, x < b → M 7 x = v 7 x := h.2.2
theorem Mr.refl (b : Nat) (v : Lf) : Mr b v v := ⟨fun _ _ _ => rfl, fun _ _ _ => rfl, fun _ _ => rfl⟩
theorem Mr.trans {b : Nat} {v M M2 : Lf} (h : Mr b v M) (h2 : Mr b M M2) : Mr b v M2 := ⟨fun c a b => (h2.o c a b).trans (h.o c a b), fun j a b => (h2.o0 j a b).trans (h.o0 j a b), fun x hx => (h2.o7 x hx).trans (h.o7 x hx)⟩
theorem Mr.less {b b2 : Nat} {v M : Lf} (h : Mr b v M) (hb : b2 ≤ b) : Mr b2 v M := ⟨h.o, h.o0, fun x hx => h.o7 x (by omega)⟩
theorem Mr.s7 {b : Nat} {v M : Lf} (h : Mr b v M) {i : Nat} (hi : b ≤ i) (x : Int32) : Mr b v (st M 7 i x) := ⟨fun c h0 h7 => by rw [st_oth _ _ _ h7]; exact h.o c h0 h7, fun j a b => by rw [st_at, if_neg (by omega)]; exact h.o0 j a b, fun y hy => by rw [st_at, if_neg (by omega)]; exact h.o7 y hy⟩
theorem Mr.s0 {b : Nat} {v M : Lf} (h : Mr b v M) {i : Nat} (hi : i = 10 ∨ i = 11) (x : Int32) : Mr b v (st M 0 i x) := ⟨fun c h0 h7 => by rw [st_oth _ _ _ h0]; exact h.o c h0 h7, fun j a b => by rw [st_at, if_neg (by omega)]; exact h.o0 j a b, fun y hy => by rw [st_at, if_neg (by omega)]; exact h.o7 y hy⟩
theorem MS.s7 {tn : Nat → Nat} {m p : Nat} {v : Lf} (h : MS tn m v p) (i : Nat) (x : Int32) : MS tn m (st v 7 i x) p := ⟨by rw [st_at, if_neg (by omega)]; exact h.n, by rw [st_at, if_neg (by omega)]; exact h.at', by rw [st_at, if_neg (by omega)]; exact h.ok, fun j hj => by rw [st_at, if_neg (by omega)]; exact h.sg j hj⟩
theorem MS.s10 {tn : Nat → Nat} {m p : Nat} {v : Lf} (h : MS tn m v p) (q : Nat) : MS tn m (st v 0 10 (nI q)) q := ⟨by rw [st_at, if_neg (by omega)]; exact h.n, by rw [st_at, if_pos ⟨rfl, rfl⟩], by rw [st_at, if_neg (by omega)]; exact h.ok, fun j hj => by rw [st_at, if_neg (by omega)]; exact h.sg j hj⟩
theorem n1 : ¬ (0 : Int32) ≤ -1 := by decide
theorem m_sees {tn : Nat → Nat} {m p lo hi : Nat} {v : Lf} (hm : m ≤ 100) (ht : ∀ i, i < m → tn i ≤ 127) (hp : p < 2 ^ 20) (hlo : lo < 200) (hhi : hi < 200) (h : MS tn m v p) {Q : Int32 → Prop} (q1 : p < m ∧ lo ≤ tn p ∧ tn p ≤ hi → Q 1) (q0 : ¬ (p < m ∧ lo ≤ tn p ∧ tn p ≤ hi) → Q 0) : pX10_sees v (nI lo) (nI hi) Q := by
  unfold pX10_sees
  rw [h.ok, h.n, h.at']
  refine ⟨fun c => absurd c n1, fun _ => ⟨fun c => ?_, fun c => ?_⟩⟩
  · have c := (nle (by omega) (by omega)).mp c
    exact q0 (fun y => by omega)
  · have c := nle' (by omega) (by omega) c
    have t := ht p c
    rw [nI_clamp (by omega), h.sg p c]
    have a := nle (a := lo) (b := tn p) (by omega) (by omega)
    have b := nle (a := tn p) (b := hi) (by omega) (by omega)
    refine ⟨vp_in_nI (by omega) (by decide), w_inM (fun d1 d2 => ?_) (fun d => ?_)⟩
    · first | refine ⟨fun c => absurd c (by decide), fun _ => ?_⟩ | refine ⟨fun _ => ?_, fun c => absurd c (by decide)⟩
      exact q1 ⟨c, a.mp d1, b.mp d2⟩
    · first | refine ⟨fun c => absurd c (by decide), fun _ => ?_⟩ | refine ⟨fun _ => ?_, fun c => absurd c (by decide)⟩
      exact q0 (fun y => d ⟨a.mpr y.2.1, b.mpr y.2.2⟩)
theorem m_seesF {v : Lf} {f : Nat} (hf : f < 2 ^ 20) (h : v 0 11 = nI f) {lo hi : Int32} {Q : Int32 → Prop} (q : Q 0) : pX10_sees v lo hi Q := by
  unfold pX10_sees
  rw [h]
  exact ⟨fun _ => q, fun c => absurd (nI_pos' (by omega)) c⟩
theorem m_takes {tn : Nat → Nat} {m p x : Nat} {v : Lf} (hm : m ≤ 100) (ht : ∀ i, i < m → tn i ≤ 127) (hp : p < 2 ^ 20) (hx : x < 200) (h : MS tn m v p) {Q : Int32 → Lf → Prop} (q1 : p < m ∧ tn p = x → Q 1 (st v 0 10 (nI (p + 1)))) (q0 : ¬ (p < m ∧ tn p = x) → Q 0 (st v 0 10 (nI p))) : pX10_takes v (nI x) Q := by
  have J : ¬ (p < m ∧ tn p = x) → pX10_takes_J35 (nI x) Q v := by
    intro c
    unfold pX10_takes_J35 pX10_takes_J36 pX10_takes_J51
    rw [h.at', Int32.add_zero]
    exact ⟨fun _ => ⟨rfl, q0 c⟩, fun c => absurd rfl c⟩
  unfold pX10_takes
  rw [h.ok, h.n, h.at']
  refine ⟨fun c => absurd c n1, fun _ => ⟨fun c => ?_, fun c => ?_⟩⟩
  · have c := (nle (by omega) (by omega)).mp c
    exact J (fun y => by omega)
  · have c := nle' (by omega) (by omega) c
    have t := ht p c
    rw [nI_clamp (by omega), h.sg p c]
    refine ⟨vp_in_nI (by omega) (by decide), fun d => J (fun y => d (by rw [y.2])), fun d => ?_⟩
    have e : tn p = x := nI_inj (by omega) (by omega) d
    unfold pX10_takes_J36 pX10_takes_J51
    rw [h.at', nI_s]
    exact ⟨fun c => absurd c (by decide), fun _ => ⟨rfl, q1 ⟨c, e⟩⟩⟩
theorem m_takesF {v : Lf} {f : Nat} (hf : f < 2 ^ 20) (h : v 0 11 = nI f) {x : Int32} {Q : Int32 → Lf → Prop} (q : ∀ y, Q 0 (st v 0 10 y)) : pX10_takes v x Q := by
  unfold pX10_takes pX10_takes_J35 pX10_takes_J36 pX10_takes_J51
  rw [h]
  exact ⟨fun _ => ⟨fun _ => ⟨rfl, q _⟩, fun c => absurd rfl c⟩, fun c => absurd (nI_pos' (by omega)) c⟩
theorem m_fail {v : Lf} (h : v 0 11 = -1) {x : Int32} {Q : Lf → Prop} (q : Q (st v 0 11 x)) : pX10_fails v x Q := by
  unfold pX10_fails
  rw [h]
  exact ⟨fun c => absurd c n1, fun _ => q⟩
theorem m_failF {v : Lf} {f : Nat} (hf : f < 2 ^ 20) (h : v 0 11 = nI f) {x : Int32} {Q : Lf → Prop} (q : Q v) : pX10_fails v x Q := by
  unfold pX10_fails
  rw [h]
  exact ⟨fun _ => q, fun c => absurd (nI_pos' (by omega)) c⟩
theorem m_digs {tn : Nat → Nat} {m b : Nat} (hm : m ≤ 100) (ht : ∀ i, i < m → tn i ≤ 127) {v0 : Lf} {p0 fg : Nat} {x2 x3 : Int32} (hfg : fg ≤ 2) {Q : Int32 → Lf → Prop} : ∀ (k d x : Nat) (v : Lf), d + k = fg → p0 + d ≤ m → MS tn m v (p0 + d) → Mr b v0 v → (∀ c, c ≠ 0 → v c = v0 c) → (∀ v', MS tn m v' (dgL tn m k (p0 + d) x).1 → Mr b v0 v' → (∀ c, c ≠ 0 → v' c = v0 c) → pX10_number_J64 (nI fg) x2 x3 Q v' (nI p0) (nI (dgL tn m k (p0 + d) x).2)) → pX10_number_L9 (nI fg) x2 x3 Q (k + 1) v (nI p0) (nI x) := by
  intro k
  induction k with
  | zero =>
    intro d x v hd hp h mr o q
    refine ⟨fun _ => q v h mr o, fun c => absurd ?_ c⟩
    rw [h.at', nI_add]
    exact (nle (by omega) (by omega)).mpr (by omega)
  | succ k ih =>
    intro d x v hd hp h mr o q
    rw [dgL] at q
    refine ⟨fun c => absurd ?_ (show ¬ p0 + fg ≤ p0 + d by omega), fun _ => m_sees (lo := 48) (hi := 57) hm ht (by omega) (by decide) (by decide) h (fun l => ?_) (fun l => ?_)⟩
    · rw [h.at', nI_add] at c
      exact (nle (by omega) (by omega)).mp c
    · rw [if_pos l] at q
      first | refine ⟨fun c => absurd c (by decide), fun _ => ?_⟩ | refine ⟨fun _ => ?_, fun c => absurd c (by decide)⟩
      rw [h.at', nI_clamp (by omega), h.sg _ l.1, nI_s, show (10 : Int32) * nI x + nI (tn (p0 + d)) - 48 = nI (x * 10 + tn (p0 + d) - 48) from by
        show nI 10 * nI x + nI (tn (p0 + d)) - nI 48 = _
        rw [pk_mul, nI_add, nI_sub (by omega), Nat.mul_comm]]
      exact ⟨vp_in_nI (by omega) (by decide), ih (d + 1) _ _ (by omega) (by omega) (h.s10 (p0 + d + 1)) (mr.s0 (.inl rfl) _) (fun c hc => by rw [st_oth _ _ _ hc]; exact o c hc) q⟩
    · rw [if_neg l] at q
      first | refine ⟨fun c => absurd c (by decide), fun _ => ?_⟩ | refine ⟨fun _ => ?_, fun c => absurd c (by decide)⟩
      exact q v h mr o
theorem m_numb {tn : Nat → Nat} {m b : Nat} (hm : m ≤ 100) (ht : ∀ i, i < m → tn i ≤ 127) {v : Lf} {p mk fg lo hi df : Nat} (l : p < m ∧ tn p = mk) (h : MS tn m v (p + 1)) (hf0 : 1 ≤ fg) (hfg : fg ≤ 2) (hlo : lo < 100) (hhi : hi < 100) {Q : Int32 → Lf → Prop} (q1 : (onL tn m p mk fg lo hi df).1 = true → ∀ v', MS tn m v' (onL tn m p mk fg lo hi df).2.1 → Mr b v v' → (∀ c, c ≠ 0 → v' c = v c) → Q (nI (onL tn m p mk fg lo hi df).2.2) v') (q0 : (onL tn m p mk fg lo hi df).1 = false → ∀ x v', v' 0 11 = nI (onL tn m p mk fg lo hi df).2.1 → Mr b v v' → (∀ c, c ≠ 0 → v' c = v c) → Q x v') : pX10_number v (nI fg) (nI lo) (nI hi) Q := by
  unfold onL at q1 q0
  rw [if_pos l] at q1 q0
  unfold pX10_number
  rw [h.at']
  have bd := dg_bd (tn := tn) (m := m) fg (p + 1) 0 0 (by decide)
  have b100 : 10 ^ (0 + fg) ≤ 10 ^ 2 := Nat.pow_le_pow_right (by decide) (by omega)
  have le := dg_le (tn := tn) (m := m) fg (p + 1) 0 (by omega)
  refine ⟨fg + 1, m_digs (b := b) hm ht hfg fg 0 0 v (by omega) (by omega) h (Mr.refl b v) (fun _ _ => rfl) (fun v' h' mr o => ?_)⟩
  have h' : MS tn m v' (dgL tn m fg (p + 1) 0).1 := h'
  show pX10_number_J64 (nI fg) (nI lo) (nI hi) Q v' (nI (p + 1)) (nI (dgL tn m fg (p + 1) 0).2)
  have a := nle (a := lo) (b := (dgL tn m fg (p + 1) 0).2) (by omega) (by omega)
  have bb := nle (a := (dgL tn m fg (p + 1) 0).2) (b := hi) (by omega) (by omega)
  unfold pX10_number_J64
  rw [h'.at']
  refine ⟨fun d => ?_, fun d => ?_⟩
  · have d : ¬ (dgL tn m fg (p + 1) 0).1 = p + 1 := fun e => d (by rw [e])
    rw [if_neg d] at q1 q0
    unfold pX10_number_J81
    refine w_inM (fun d1 d2 => ?_) (fun dd => ?_)
    · first | refine ⟨fun c => absurd c (by decide), fun _ => ?_⟩ | refine ⟨fun _ => ?_, fun c => absurd c (by decide)⟩
      rw [if_pos ⟨a.mp d1, bb.mp d2⟩] at q1
      exact q1 rfl v' h' mr o
    · first | refine ⟨fun c => absurd c (by decide), fun _ => ?_⟩ | refine ⟨fun _ => ?_, fun c => absurd c (by decide)⟩
      rw [if_neg (fun e => dd ⟨a.mpr e.1, bb.mpr e.2⟩)] at q0
      refine m_fail h'.ok (q0 rfl _ _ ?_ (mr.s0 (.inr rfl) _) (fun c hc => by rw [st_oth _ _ _ hc]; exact o c hc))
      rw [st_at, if_pos ⟨rfl, rfl⟩, h'.at']
      exact nI_sub (a := (dgL tn m fg (p + 1) 0).1) (b := 1) (by omega)
  · have d : (dgL tn m fg (p + 1) 0).1 = p + 1 := nI_inj (by omega) (by omega) d
    rw [if_pos d] at q0
    refine m_fail h'.ok ?_
    have e11 : st v' 0 11 (nI (dgL tn m fg (p + 1) 0).1) 0 11 = nI (p + 1) := by rw [st_at, if_pos ⟨rfl, rfl⟩, d]
    have fin : ∀ x, Q x (st v' 0 11 (nI (dgL tn m fg (p + 1) 0).1)) := fun x => q0 rfl x _ e11 (mr.s0 (.inr rfl) _) (fun c hc => by rw [st_oth _ _ _ hc]; exact o c hc)
    unfold pX10_number_J81
    refine w_inM (fun d1 d2 => ?_) (fun dd => ?_)
    · first | refine ⟨fun c => absurd c (by decide), fun _ => ?_⟩ | refine ⟨fun _ => ?_, fun c => absurd c (by decide)⟩
      exact fin _
    · first | refine ⟨fun c => absurd c (by decide), fun _ => ?_⟩ | refine ⟨fun _ => ?_, fun c => absurd c (by decide)⟩
      exact m_failF (f := p + 1) (by omega) e11 (fin _)
theorem ixb (b k : Nat) : nI b + nI k = nI (b + k) := nI_add b k
theorem m_t374 {v : Lf} {b f : Nat} (hb : b + 14 ≤ 56) (h : v 0 11 = nI f) {x : Int32} {Q : Lf → Prop} (q : ∀ v', v' 0 11 = nI f → Mr b v v' → Q v') : pX10_clause_J374 (nI b) Q v (nI b + 4) x := by
  have i4 : nI b + (4 : Int32) = nI (b + 4) := nI_add b 4
  unfold pX10_clause_J374
  rw [i4, nI_clamp (by omega)]
  exact ⟨vp_in_nI (by omega) (by decide), q _ (by rw [st_at, if_neg (by omega)]; exact h) ((Mr.refl b v).s7 (by omega) _)⟩
theorem m_t345 {v : Lf} {b f : Nat} (hf : f < 2 ^ 20) (hb : b + 14 ≤ 56) (h : v 0 11 = nI f) {x : Int32} {Q : Lf → Prop} (q : ∀ v', v' 0 11 = nI f → Mr b v v' → Q v') : pX10_clause_J345 (nI b) Q v (nI b + 3) x := by
  have i3 : nI b + (3 : Int32) = nI (b + 3) := nI_add b 3
  unfold pX10_clause_J345
  rw [i3, nI_clamp (by omega)]
  refine ⟨vp_in_nI (by omega) (by decide), m_takesF hf (by rw [st_at, if_neg (by omega)]; exact h) (fun y => ?_)⟩
  first | refine ⟨fun c => absurd c (by decide), fun _ => ?_⟩ | refine ⟨fun _ => ?_, fun c => absurd c (by decide)⟩
  exact m_t374 hb (by rw [st_at, if_neg (by omega), st_at, if_neg (by omega)]; exact h) (fun v' e mr => q v' e ((((Mr.refl b v).s7 (by omega) _).s0 (.inl rfl) _).trans mr))
theorem m_t316 {v : Lf} {b f : Nat} (hf : f < 2 ^ 20) (hb : b + 14 ≤ 56) (h : v 0 11 = nI f) {x : Int32} {Q : Lf → Prop} (q : ∀ v', v' 0 11 = nI f → Mr b v v' → Q v') : pX10_clause_J316 (nI b) Q v (nI b + 2) x := by
  have i2 : nI b + (2 : Int32) = nI (b + 2) := nI_add b 2
  unfold pX10_clause_J316
  rw [i2, nI_clamp (by omega)]
  refine ⟨vp_in_nI (by omega) (by decide), m_takesF hf (by rw [st_at, if_neg (by omega)]; exact h) (fun y => ?_)⟩
  first | refine ⟨fun c => absurd c (by decide), fun _ => ?_⟩ | refine ⟨fun _ => ?_, fun c => absurd c (by decide)⟩
  exact m_t345 hf hb (by rw [st_at, if_neg (by omega), st_at, if_neg (by omega)]; exact h) (fun v' e mr => q v' e ((((Mr.refl b v).s7 (by omega) _).s0 (.inl rfl) _).trans mr))
theorem m_t279 {v : Lf} {b f : Nat} (hf : f < 2 ^ 20) (hb : b + 14 ≤ 56) (h : v 0 11 = nI f) {x : Int32} {Q : Lf → Prop} (q : ∀ v', v' 0 11 = nI f → Mr b v v' → Q v') : pX10_clause_J279 (nI b) Q v (nI b + 1) x := by
  have i1 : nI b + (1 : Int32) = nI (b + 1) := nI_add b 1
  unfold pX10_clause_J279
  rw [i1, nI_clamp (by omega)]
  refine ⟨vp_in_nI (by omega) (by decide), m_takesF hf (by rw [st_at, if_neg (by omega)]; exact h) (fun y => ?_)⟩
  first | refine ⟨fun c => absurd c (by decide), fun _ => ?_⟩ | refine ⟨fun _ => ?_, fun c => absurd c (by decide)⟩
  exact m_t316 hf hb (by rw [st_at, if_neg (by omega), st_at, if_neg (by omega)]; exact h) (fun v' e mr => q v' e ((((Mr.refl b v).s7 (by omega) _).s0 (.inl rfl) _).trans mr))
theorem m_t251 {v : Lf} {b f : Nat} (hf : f < 2 ^ 20) (hb : b + 14 ≤ 56) (h : v 0 11 = nI f) {Q : Lf → Prop} (q : ∀ v', v' 0 11 = nI f → Mr b v v' → Q v') : pX10_clause_J251 (nI b) Q v := by
  unfold pX10_clause_J251
  refine m_takesF hf h (fun y => ?_)
  first | refine ⟨fun c => absurd c (by decide), fun _ => ?_⟩ | refine ⟨fun _ => ?_, fun c => absurd c (by decide)⟩
  exact m_t279 hf hb (by rw [st_at, if_neg (by omega)]; exact h) (fun v' e mr => q v' e (((Mr.refl b v).s0 (.inl rfl) _).trans mr))

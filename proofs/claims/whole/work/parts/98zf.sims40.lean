theorem m_nums {tn : Nat → Nat} {m : Nat} (hm : m ≤ 100) (ht : ∀ i, i < m → tn i ≤ 127) {v : Lf} {p b kd len : Nat} {cs : Nat → Nat} (h : MS tn m v p) (hp : p ≤ m) (hb : b + 14 ≤ 56) {Q : Lf → Prop} (q1 : (cl1 tn m kd len cs (onL tn m p 42 2 1 20 5)).1 = true → ∀ v', MS tn m v' (cl1 tn m kd len cs (onL tn m p 42 2 1 20 5)).2.1 → (∀ k, k < 4 → v' 7 (b + (1 + k)) = nI ((cl1 tn m kd len cs (onL tn m p 42 2 1 20 5)).2.2 (1 + k))) → (∀ x, x < b + 1 ∨ b + 5 ≤ x → v' 7 x = v 7 x) → Mr b v v' → Q v') (q0 : (cl1 tn m kd len cs (onL tn m p 42 2 1 20 5)).1 = false → ∀ v', v' 0 11 = nI (cl1 tn m kd len cs (onL tn m p 42 2 1 20 5)).2.1 → Mr b v v' → Q v') : pX10_clause_J251 (nI b) Q v := by
  have i1 : nI b + (1 : Int32) = nI (b + 1) := nI_add b 1
  have i2 : nI b + (2 : Int32) = nI (b + 2) := nI_add b 2
  have i3 : nI b + (3 : Int32) = nI (b + 3) := nI_add b 3
  have i4 : nI b + (4 : Int32) = nI (b + 4) := nI_add b 4
  have vp : ∀ k, k < 14 → vp_in (nI (b + k)) 56 := fun k hk => vp_in_nI (by omega) (by decide)
  have le0 := on_le (tn := tn) (mk := 42) (fg := 2) (lo := 1) (hi := 20) (df := 5) hp
  have b0 := on_bd (tn := tn) (m := m) (p := p) (mk := 42) (fg := 2) (lo := 1) (hi := 20) (df := 5) (by decide) (by decide)
  have S1 : (onL tn m p 42 2 1 20 5).1 = true → ∀ v1, MS tn m v1 (onL tn m p 42 2 1 20 5).2.1 → Mr b v v1 → (∀ x, x < b + 1 ∨ b + 5 ≤ x → v1 7 x = v 7 x) → pX10_clause_J279 (nI b) Q v1 (nI b + 1) (nI (onL tn m p 42 2 1 20 5).2.2) := by
    intro t v1 h1 mr1 f1
    revert q1 q0 le0 b0 t h1
    generalize onL tn m p 42 2 1 20 5 = o0
    intro q1 q0 le0 b0 t h1
    unfold cl1 at q1 q0
    rw [if_pos t] at q1 q0
    unfold pX10_clause_J279
    rw [i1, nI_clamp (by omega)]
    have le1 := on_le (tn := tn) (mk := 47) (fg := 2) (lo := o0.2.2) (hi := 99) (df := 40) le0
    have b1 := on_bd (tn := tn) (m := m) (p := o0.2.1) (mk := 47) (fg := 2) (lo := o0.2.2) (hi := 99) (df := 40) (by decide) (by decide)
    have S2 : (onL tn m o0.2.1 47 2 o0.2.2 99 40).1 = true → ∀ v2, MS tn m v2 (onL tn m o0.2.1 47 2 o0.2.2 99 40).2.1 → Mr b v v2 → (∀ x, x < b + 1 ∨ b + 5 ≤ x → v2 7 x = v 7 x) → v2 7 (b + 1) = nI o0.2.2 → pX10_clause_J316 (nI b) Q v2 (nI b + 2) (nI (onL tn m o0.2.1 47 2 o0.2.2 99 40).2.2) := by
      intro t2 v2 h2 mr2 f2 d1
      revert q1 q0 le1 b1 t2 h2
      generalize onL tn m o0.2.1 47 2 o0.2.2 99 40 = o1
      intro q1 q0 le1 b1 t2 h2
      unfold cl2 at q1 q0
      rw [if_pos t2] at q1 q0
      unfold pX10_clause_J316
      rw [i2, nI_clamp (by omega)]
      have le2 := on_le (tn := tn) (mk := 126) (fg := 1) (lo := 1) (hi := 9) (df := 3) le1
      have b2 := on_bd (tn := tn) (m := m) (p := o1.2.1) (mk := 126) (fg := 1) (lo := 1) (hi := 9) (df := 3) (by decide) (by decide)
      have S3 : (onL tn m o1.2.1 126 1 1 9 3).1 = true → ∀ v3, MS tn m v3 (onL tn m o1.2.1 126 1 1 9 3).2.1 → Mr b v v3 → (∀ x, x < b + 1 ∨ b + 5 ≤ x → v3 7 x = v 7 x) → v3 7 (b + 1) = nI o0.2.2 → v3 7 (b + 2) = nI o1.2.2 → pX10_clause_J345 (nI b) Q v3 (nI b + 3) (nI (onL tn m o1.2.1 126 1 1 9 3).2.2) := by
        intro t3 v3 h3 mr3 f3 e1 e2
        revert q1 q0 le2 b2 t3 h3
        generalize onL tn m o1.2.1 126 1 1 9 3 = o2
        intro q1 q0 le2 b2 t3 h3
        unfold cl3 at q1 q0
        rw [if_pos t3] at q1 q0
        unfold pX10_clause_J345
        rw [i3, nI_clamp (by omega)]
        have S4 : (onL tn m o2.2.1 64 2 0 60 0).1 = true → ∀ v4, MS tn m v4 (onL tn m o2.2.1 64 2 0 60 0).2.1 → Mr b v v4 → (∀ x, x < b + 1 ∨ b + 5 ≤ x → v4 7 x = v 7 x) → v4 7 (b + 1) = nI o0.2.2 → v4 7 (b + 2) = nI o1.2.2 → v4 7 (b + 3) = nI o2.2.2 → pX10_clause_J374 (nI b) Q v4 (nI b + 4) (nI (onL tn m o2.2.1 64 2 0 60 0).2.2) := by
          intro t4 v4 h4 mr4 f4 g1 g2 g3
          revert q1 q0 t4 h4
          generalize onL tn m o2.2.1 64 2 0 60 0 = o3
          intro q1 q0 t4 h4
          unfold cl4 at q1
          rw [if_pos t4] at q1
          unfold pX10_clause_J374
          rw [i4, nI_clamp (by omega)]
          refine ⟨vp 4 (by decide), q1 rfl _ (h4.s7 _ _) (fun k hk => ?_) (fun x hx => ?_) (mr4.s7 (by omega) _)⟩
          · rcases (show k = 0 ∨ k = 1 ∨ k = 2 ∨ k = 3 by omega) with rfl | rfl | rfl | rfl
            · rw [st_at, if_neg (by omega)]; exact g1
            · rw [st_at, if_neg (by omega)]; exact g2
            · rw [st_at, if_neg (by omega)]; exact g3
            · rw [st_at, if_pos ⟨rfl, by omega⟩]; rfl
          · rw [st_at, if_neg (by omega)]; exact f4 x hx
        have w3 : ∀ y x, y = 10 → (x < b + 1 ∨ b + 5 ≤ x → st (st v3 7 (b + 3) (nI o2.2.2)) 0 y (nI 0) 7 x = v 7 x) := fun y x _ hx => by rw [st_at, if_neg (by omega), st_at, if_neg (by omega)]; exact f3 x hx
        have h3' := h3.s7 (b + 3) (nI o2.2.2)
        have mr3' : Mr b v (st v3 7 (b + 3) (nI o2.2.2)) := mr3.s7 (by omega) _
        have fx : ∀ x, x < b + 1 ∨ b + 5 ≤ x → st v3 7 (b + 3) (nI o2.2.2) 7 x = v 7 x := fun x hx => by rw [st_at, if_neg (by omega)]; exact f3 x hx
        have gx1 : st v3 7 (b + 3) (nI o2.2.2) 7 (b + 1) = nI o0.2.2 := by rw [st_at, if_neg (by omega)]; exact e1
        have gx2 : st v3 7 (b + 3) (nI o2.2.2) 7 (b + 2) = nI o1.2.2 := by rw [st_at, if_neg (by omega)]; exact e2
        have gx3 : st v3 7 (b + 3) (nI o2.2.2) 7 (b + 3) = nI o2.2.2 := by rw [st_at, if_pos ⟨rfl, rfl⟩]
        refine ⟨vp 3 (by decide), m_takes (x := 64) hm ht (by omega) (by decide) h3' (fun l => ?_) (fun l => ?_)⟩
        · first | refine ⟨fun c => absurd c (by decide), fun _ => ?_⟩ | refine ⟨fun _ => ?_, fun c => absurd c (by decide)⟩
          refine m_numb (b := b) (mk := 64) (fg := 2) (lo := 0) (hi := 60) (df := 0) hm ht l (h3'.s10 _) (by decide) (by decide) (by decide) (by decide) (fun t4 v4 h4 mr4 o4 => S4 t4 v4 h4 ((mr3'.s0 (.inl rfl) _).trans mr4) (fun x hx => ?_) ?_ ?_ ?_) (fun t4 x v4 e4 mr4 o4 => ?_)
          · rw [o4 7 (by decide), st_oth _ _ _ (by decide)]; exact fx x hx
          · rw [o4 7 (by decide), st_oth _ _ _ (by decide)]; exact gx1
          · rw [o4 7 (by decide), st_oth _ _ _ (by decide)]; exact gx2
          · rw [o4 7 (by decide), st_oth _ _ _ (by decide)]; exact gx3
          · have t4' : ¬ (onL tn m o2.2.1 64 2 0 60 0).1 = true := by rw [t4]; exact Bool.false_ne_true
            unfold cl4 at q0
            rw [if_neg t4'] at q0
            exact m_t374 hb e4 (fun v5 e5 mr5 => q0 rfl v5 e5 (((mr3'.s0 (.inl rfl) _).trans mr4).trans mr5))
        · first | refine ⟨fun c => absurd c (by decide), fun _ => ?_⟩ | refine ⟨fun _ => ?_, fun c => absurd c (by decide)⟩
          have en : onL tn m o2.2.1 64 2 0 60 0 = (true, o2.2.1, 0) := by unfold onL; rw [if_neg l]
          have := S4 (by rw [en]) (st (st v3 7 (b + 3) (nI o2.2.2)) 0 10 (nI o2.2.1)) (by rw [en]; exact h3'.s10 _) (mr3'.s0 (.inl rfl) _) (fun x hx => by rw [st_oth _ _ _ (by decide)]; exact fx x hx) (by rw [st_oth _ _ _ (by decide)]; exact gx1) (by rw [st_oth _ _ _ (by decide)]; exact gx2) (by rw [st_oth _ _ _ (by decide)]; exact gx3)
          rw [en] at this
          exact this
      have h2' := h2.s7 (b + 2) (nI o1.2.2)
      have mr2' : Mr b v (st v2 7 (b + 2) (nI o1.2.2)) := mr2.s7 (by omega) _
      have fx : ∀ x, x < b + 1 ∨ b + 5 ≤ x → st v2 7 (b + 2) (nI o1.2.2) 7 x = v 7 x := fun x hx => by rw [st_at, if_neg (by omega)]; exact f2 x hx
      have gx1 : st v2 7 (b + 2) (nI o1.2.2) 7 (b + 1) = nI o0.2.2 := by rw [st_at, if_neg (by omega)]; exact d1
      have gx2 : st v2 7 (b + 2) (nI o1.2.2) 7 (b + 2) = nI o1.2.2 := by rw [st_at, if_pos ⟨rfl, rfl⟩]
      refine ⟨vp 2 (by decide), m_takes (x := 126) hm ht (by omega) (by decide) h2' (fun l => ?_) (fun l => ?_)⟩
      · first | refine ⟨fun c => absurd c (by decide), fun _ => ?_⟩ | refine ⟨fun _ => ?_, fun c => absurd c (by decide)⟩
        refine m_numb (b := b) (mk := 126) (fg := 1) (lo := 1) (hi := 9) (df := 3) hm ht l (h2'.s10 _) (by decide) (by decide) (by decide) (by decide) (fun t4 v4 h4 mr4 o4 => S3 t4 v4 h4 ((mr2'.s0 (.inl rfl) _).trans mr4) (fun x hx => ?_) ?_ ?_) (fun t4 x v4 e4 mr4 o4 => ?_)
        · rw [o4 7 (by decide), st_oth _ _ _ (by decide)]; exact fx x hx
        · rw [o4 7 (by decide), st_oth _ _ _ (by decide)]; exact gx1
        · rw [o4 7 (by decide), st_oth _ _ _ (by decide)]; exact gx2
        · have t4' : ¬ (onL tn m o1.2.1 126 1 1 9 3).1 = true := by rw [t4]; exact Bool.false_ne_true
          unfold cl3 at q0
          rw [if_neg t4'] at q0
          exact m_t345 (f := (onL tn m o1.2.1 126 1 1 9 3).2.1) (by omega) hb e4 (fun v5 e5 mr5 => q0 rfl v5 e5 (((mr2'.s0 (.inl rfl) _).trans mr4).trans mr5))
      · first | refine ⟨fun c => absurd c (by decide), fun _ => ?_⟩ | refine ⟨fun _ => ?_, fun c => absurd c (by decide)⟩
        have en : onL tn m o1.2.1 126 1 1 9 3 = (true, o1.2.1, 3) := by unfold onL; rw [if_neg l]
        have := S3 (by rw [en]) (st (st v2 7 (b + 2) (nI o1.2.2)) 0 10 (nI o1.2.1)) (by rw [en]; exact h2'.s10 _) (mr2'.s0 (.inl rfl) _) (fun x hx => by rw [st_oth _ _ _ (by decide)]; exact fx x hx) (by rw [st_oth _ _ _ (by decide)]; exact gx1) (by rw [st_oth _ _ _ (by decide)]; exact gx2)
        rw [en] at this
        exact this
    have h1' := h1.s7 (b + 1) (nI o0.2.2)
    have mr1' : Mr b v (st v1 7 (b + 1) (nI o0.2.2)) := mr1.s7 (by omega) _
    have fx : ∀ x, x < b + 1 ∨ b + 5 ≤ x → st v1 7 (b + 1) (nI o0.2.2) 7 x = v 7 x := fun x hx => by rw [st_at, if_neg (by omega)]; exact f1 x hx
    have gx1 : st v1 7 (b + 1) (nI o0.2.2) 7 (b + 1) = nI o0.2.2 := by rw [st_at, if_pos ⟨rfl, rfl⟩]
    refine ⟨vp 1 (by decide), m_takes (x := 47) hm ht (by omega) (by decide) h1' (fun l => ?_) (fun l => ?_)⟩
    · first | refine ⟨fun c => absurd c (by decide), fun _ => ?_⟩ | refine ⟨fun _ => ?_, fun c => absurd c (by decide)⟩
      rw [st_oth _ _ _ (by decide : (7 : Nat) ≠ 0), gx1]
      refine ⟨vp 1 (by decide), m_numb (b := b) (mk := 47) (fg := 2) (lo := o0.2.2) (hi := 99) (df := 40) hm ht l (h1'.s10 _) (by decide) (by decide) b0 (by decide) (fun t4 v4 h4 mr4 o4 => S2 t4 v4 h4 ((mr1'.s0 (.inl rfl) _).trans mr4) (fun x hx => ?_) ?_) (fun t4 x v4 e4 mr4 o4 => ?_)⟩
      · rw [o4 7 (by decide), st_oth _ _ _ (by decide)]; exact fx x hx
      · rw [o4 7 (by decide), st_oth _ _ _ (by decide)]; exact gx1
      · have t4' : ¬ (onL tn m o0.2.1 47 2 o0.2.2 99 40).1 = true := by rw [t4]; exact Bool.false_ne_true
        unfold cl2 at q0
        rw [if_neg t4'] at q0
        exact m_t316 (f := (onL tn m o0.2.1 47 2 o0.2.2 99 40).2.1) (by omega) hb e4 (fun v5 e5 mr5 => q0 rfl v5 e5 (((mr1'.s0 (.inl rfl) _).trans mr4).trans mr5))
    · first | refine ⟨fun c => absurd c (by decide), fun _ => ?_⟩ | refine ⟨fun _ => ?_, fun c => absurd c (by decide)⟩
      have en : onL tn m o0.2.1 47 2 o0.2.2 99 40 = (true, o0.2.1, 40) := by unfold onL; rw [if_neg l]
      have := S2 (by rw [en]) (st (st v1 7 (b + 1) (nI o0.2.2)) 0 10 (nI o0.2.1)) (by rw [en]; exact h1'.s10 _) (mr1'.s0 (.inl rfl) _) (fun x hx => by rw [st_oth _ _ _ (by decide)]; exact fx x hx) (by rw [st_oth _ _ _ (by decide)]; exact gx1)
      rw [en] at this
      exact this
  unfold pX10_clause_J251
  refine m_takes (x := 42) hm ht (by omega) (by decide) h (fun l => ?_) (fun l => ?_)
  · first | refine ⟨fun c => absurd c (by decide), fun _ => ?_⟩ | refine ⟨fun _ => ?_, fun c => absurd c (by decide)⟩
    refine m_numb (b := b) (mk := 42) (fg := 2) (lo := 1) (hi := 20) (df := 5) hm ht l (h.s10 _) (by decide) (by decide) (by decide) (by decide) (fun t4 v4 h4 mr4 o4 => S1 t4 v4 h4 (((Mr.refl b v).s0 (.inl rfl) _).trans mr4) (fun x hx => ?_)) (fun t4 x v4 e4 mr4 o4 => ?_)
    · rw [o4 7 (by decide), st_oth _ _ _ (by decide)]
    · have t4' : ¬ (onL tn m p 42 2 1 20 5).1 = true := by rw [t4]; exact Bool.false_ne_true
      unfold cl1 at q0
      rw [if_neg t4'] at q0
      exact m_t279 (f := (onL tn m p 42 2 1 20 5).2.1) (by omega) hb e4 (fun v5 e5 mr5 => q0 rfl v5 e5 ((((Mr.refl b v).s0 (.inl rfl) _).trans mr4).trans mr5))
  · first | refine ⟨fun c => absurd c (by decide), fun _ => ?_⟩ | refine ⟨fun _ => ?_, fun c => absurd c (by decide)⟩
    have en : onL tn m p 42 2 1 20 5 = (true, p, 5) := by unfold onL; rw [if_neg l]
    have := S1 (by rw [en]) (st v 0 10 (nI p)) (by rw [en]; exact h.s10 _) ((Mr.refl b v).s0 (.inl rfl) _) (fun x hx => by rw [st_oth _ _ _ (by decide)])
    rw [en] at this
    exact this
theorem m_dup {v0 : Lf} {b i X f : Nat} {cs : Nat → Nat} (hf : f < 2 ^ 20) (hb : b + 14 ≤ 56) (hi : i < 8) {Q : Lf → Prop} {K70 : Lf → Int32 → Prop} (kk : ∀ v', v' 0 11 = nI f → Mr b v0 v' → K70 v' (nI (i + 1))) : ∀ (k j : Nat) (v : Lf), j + k = i → v 0 11 = nI f → Mr b v0 v → pX10_clause_L176 (nI b) Q K70 (k + 1) v (nI i) (nI X) (nI j) := by
  have i5 : nI b + (5 : Int32) = nI (b + 5) := nI_add b 5
  have i6 : nI b + (6 : Int32) = nI (b + 6) := nI_add b 6
  intro k
  induction k with
  | zero =>
    intro j v hj h mr
    refine hdE rfl (by omega) ?_
    rw [i6, i5, nI_add, nI_clamp (by omega), nI_clamp (by omega), nI_s]
    exact ⟨vp_in_nI (by omega) (by decide), vp_in_nI (by omega) (by decide), kk _ (by rw [st_at, if_neg (by omega), st_at, if_neg (by omega), st_at, if_neg (by omega)]; exact h) (((mr.s0 (.inl rfl) _).s7 (by omega) _).s7 (by omega) _)⟩
  | succ k ih =>
    intro j v hj h mr
    refine hdG rfl (by omega) (by omega) ?_
    rw [i6, nI_add]
    refine ⟨vp_in_nI (by omega) (by decide), fun _ => ?_, fun _ => m_failF hf h ?_⟩
    · unfold pX10_clause_J207
      rw [nI_s]
      exact ih (j + 1) v (by omega) h mr
    · unfold pX10_clause_J207
      rw [nI_s]
      exact ih (j + 1) v (by omega) h mr
theorem m_nodup {tn : Nat → Nat} {m p : Nat} {v0 v : Lf} {b i X : Nat} {cs : Nat → Nat} (hm : m ≤ 100) (hp : p < m) (hb : b + 14 ≤ 56) (hi : i < 8) (hX : X < 64) (h : MS tn m v p) (h6 : ∀ j, j < i → v 7 (b + 6 + j) = nI (cs j) ∧ cs j < 64) (mr : Mr b v0 v) {Q : Lf → Prop} {K70 : Lf → Int32 → Prop} (k1 : (∀ j, j < i → ¬ cs j = X) → K70 (st (st (st v 0 10 (nI (p + 1))) 7 (b + 6 + i) (nI X)) 7 (b + 5) (nI (i + 1))) (nI (i + 1))) (k0 : (¬ ∀ j, j < i → ¬ cs j = X) → ∀ v', v' 0 11 = nI p → Mr b v0 v' → K70 v' (nI (i + 1))) : pX10_clause_L176 (nI b) Q K70 (i + 1) v (nI i) (nI X) (nI 0) := by
  have i5 : nI b + (5 : Int32) = nI (b + 5) := nI_add b 5
  have i6 : nI b + (6 : Int32) = nI (b + 6) := nI_add b 6
  have L : ∀ (k j : Nat), j + k = i → (∀ e, e < j → ¬ cs e = X) → pX10_clause_L176 (nI b) Q K70 (k + 1) v (nI i) (nI X) (nI j) := by
    intro k
    induction k with
    | zero =>
      intro j hj f
      refine hdE rfl (by omega) ?_
      rw [i6, i5, nI_add, nI_clamp (by omega), nI_clamp (by omega), nI_s, h.at', nI_s]
      exact ⟨vp_in_nI (by omega) (by decide), vp_in_nI (by omega) (by decide), k1 (fun e he => f e (by omega))⟩
    | succ k ih =>
      intro j hj f
      refine hdG rfl (by omega) (by omega) ?_
      rw [i6, nI_add, nI_clamp (by omega), (h6 j (by omega)).1]
      have lj := (h6 j (by omega)).2
      refine ⟨vp_in_nI (by omega) (by decide), fun d => ?_, fun d => m_fail h.ok ?_⟩
      · unfold pX10_clause_J207
        rw [nI_s]
        refine ih (j + 1) (by omega) (fun e he => ?_)
        by_cases ee : e = j
        · subst ee; exact fun y => d (by rw [y])
        · exact f e (by omega)
      · unfold pX10_clause_J207
        rw [nI_s]
        have d : cs j = X := nI_inj (by omega) (by omega) d
        exact m_dup (f := p) (cs := cs) (by omega) hb hi (k0 (fun y => y j (by omega) d)) k (j + 1) _ (by omega) (by rw [st_at, if_pos ⟨rfl, rfl⟩, h.at']) (mr.s0 (.inr rfl) _)
  exact L i 0 (by omega) (fun e he => by omega)
theorem m_way {tn : Nat → Nat} {m : Nat} (hm : m ≤ 100) (ht : ∀ i, i < m → tn i ≤ 127) {v0 : Lf} {b : Nat} (hb : b + 14 ≤ 56) {Q : Lf → Prop} : ∀ (k i p : Nat) (cs : Nat → Nat) (v : Lf), i + k = 8 → p ≤ m → MS tn m v p → (0 < i → v 7 (b + 5) = nI i) → (∀ j, j < i → v 7 (b + 6 + j) = nI (cs j) ∧ cs j < 64) → v 7 b = v0 7 b → Mr b v0 v → ((wyL tn m k i p cs).1 = true → ∀ v', MS tn m v' (wyL tn m k i p cs).2.1 → v' 7 (b + 5) = nI (wyL tn m k i p cs).2.2.1 → (∀ j, j < (wyL tn m k i p cs).2.2.1 → v' 7 (b + 6 + j) = nI ((wyL tn m k i p cs).2.2.2 j)) → v' 7 b = v0 7 b → Mr b v0 v' → pX10_clause_J251 (nI b) Q v') → ((wyL tn m k i p cs).1 = false → ∀ v', v' 0 11 = nI (wyL tn m k i p cs).2.1 → Mr b v0 v' → Q v') → pX10_clause_L70 (nI b) Q (k + 1) v (nI i) := by
  intro k
  induction k with
  | zero =>
    intro i p cs v hi hp h h5 h6 hk mr q1 q0
    have e8 : i = 8 := by omega
    refine ⟨fun c => absurd (nI_inj (b := 0) (by omega) (by decide) c) (by omega), fun _ => hdE (N := 8) rfl e8 (q1 rfl v h (h5 (by omega)) (fun j hj => (h6 j hj).1) hk mr)⟩
  | succ k ih =>
    intro i p cs v hi hp h h5 h6 hk mr q1 q0
    rw [wyL] at q1 q0
    have J91 : (p < m ∧ 97 ≤ tn p ∧ tn p ≤ 104) → pX10_clause_J91 (nI b) Q (fun v x2 => pX10_clause_L70 (nI b) Q (k + 1) v x2) v (nI i) := by
      intro l
      rw [if_pos l] at q1 q0
      unfold pX10_clause_J91
      refine m_sees (lo := 97) (hi := 104) hm ht (by omega) (by decide) (by decide) h (fun _ => ?_) (fun y => absurd l y)
      first | refine ⟨fun c => absurd c (by decide), fun _ => ?_⟩ | refine ⟨fun _ => ?_, fun c => absurd c (by decide)⟩
      have h1 := h.s10 (p + 1)
      have t := ht p l.1
      rw [h.at', nI_clamp (n := p) (by omega), h.sg p l.1, nI_s]
      refine ⟨vp_in_nI (by omega) (by decide), m_sees (lo := 49) (hi := 56) hm ht (by omega) (by decide) (by decide) h1 (fun l2 => ?_) (fun l2 => ?_)⟩
      · first | refine ⟨fun c => absurd c (by decide), fun _ => ?_⟩ | refine ⟨fun _ => ?_, fun c => absurd c (by decide)⟩
        have t2 := ht (p + 1) l2.1
        rw [h1.at', nI_clamp (n := p + 1) (by omega), h1.sg (p + 1) l2.1]
        have ev : (nI (tn p) - (97 : Int32)) + (8 : Int32) * (nI (tn (p + 1)) - (49 : Int32)) = nI (clN tn p) := by
          show (nI (tn p) - nI 97) + nI 8 * (nI (tn (p + 1)) - nI 49) = _
          rw [nI_sub (by omega), nI_sub (by omega), pk_mul, nI_add]
          rfl
        have lX : clN tn p < 64 := by unfold clN; omega
        rw [ev]
        refine ⟨vp_in_nI (by omega) (by decide), i + 1, m_nodup (v0 := v0) (cs := cs) hm l2.1 hb (by omega) lX h1 (fun j hj => by rw [st_oth _ _ _ (by decide)]; exact h6 j hj) (mr.s0 (.inl rfl) _) (fun d => ?_) (fun d v' e' mr' => ?_)⟩
        · rw [if_pos ⟨l2, d⟩] at q1 q0
          refine ih (i + 1) (p + 2) _ _ (by omega) (by omega) (((h1.s10 (p + 1 + 1)).s7 _ _).s7 _ _) (fun _ => by rw [st_at, if_pos ⟨rfl, rfl⟩]) (fun j hj => ?_) ?_ ((((mr.s0 (.inl rfl) _).s0 (.inl rfl) _).s7 (by omega) _).s7 (by omega) _) q1 q0
          · by_cases ej : j = i
            · subst ej
              rw [st_at, if_neg (by omega), st_at, if_pos ⟨rfl, rfl⟩, if_pos rfl]
              exact ⟨rfl, lX⟩
            · rw [st_at, if_neg (by omega), st_at, if_neg (by omega), st_at, if_neg (by omega), st_at, if_neg (by omega), if_neg ej]
              exact h6 j (by omega)
          · rw [st_at, if_neg (by omega), st_at, if_neg (by omega), st_at, if_neg (by omega), st_at, if_neg (by omega)]; exact hk
        · rw [if_neg (fun y => d y.2)] at q0
          have T : pX10_clause_J251 (nI b) Q v' := m_t251 (f := p + 1) (by omega) hb e' (fun v2 e2 mr2 => q0 rfl v2 e2 (mr'.trans mr2))
          refine ⟨fun c => absurd (nI_inj (b := 0) (by omega) (by decide) c) (by omega), fun _ => ⟨fun _ => T, fun _ => m_seesF (f := p + 1) (by omega) e' ?_⟩⟩
          first | refine ⟨fun c => absurd c (by decide), fun _ => ?_⟩ | refine ⟨fun _ => ?_, fun c => absurd c (by decide)⟩
          exact T
      · first | refine ⟨fun c => absurd c (by decide), fun _ => ?_⟩ | refine ⟨fun _ => ?_, fun c => absurd c (by decide)⟩
        rw [if_neg (fun y => l2 y.1)] at q0
        refine m_fail (by rw [st_at, if_neg (by omega)]; exact h.ok) (q0 rfl _ ?_ ((mr.s0 (.inl rfl) _).s0 (.inr rfl) _))
        rw [st_at, if_pos ⟨rfl, rfl⟩, st_at, if_pos ⟨rfl, rfl⟩]
    have NL : ¬ (p < m ∧ 97 ≤ tn p ∧ tn p ≤ 104) → (i = 0 → Q (st v 0 11 (v 0 10))) ∧ (¬ i = 0 → pX10_clause_J251 (nI b) Q v) := by
      intro l
      rw [if_neg l] at q1 q0
      refine ⟨fun e => ?_, fun e => ?_⟩
      · rw [if_pos e] at q0
        exact q0 rfl _ (by rw [st_at, if_pos ⟨rfl, rfl⟩, h.at']) (mr.s0 (.inr rfl) _)
      · rw [if_neg e] at q1
        exact q1 rfl v h (h5 (by omega)) (fun j hj => (h6 j hj).1) hk mr
    refine ⟨fun c => ?_, fun c => ⟨fun c2 => absurd ((nle (a := 8) (b := i) (by decide) (by omega)).mp c2) (by omega), fun _ => m_sees (lo := 97) (hi := 104) hm ht (by omega) (by decide) (by decide) h (fun l => ?_) (fun l => ?_)⟩⟩
    · have i0 : i = 0 := nI_inj (b := 0) (by omega) (by decide) c
      by_cases l : p < m ∧ 97 ≤ tn p ∧ tn p ≤ 104
      · exact J91 l
      · unfold pX10_clause_J91
        refine m_sees (lo := 97) (hi := 104) hm ht (by omega) (by decide) (by decide) h (fun y => absurd y l) (fun _ => ?_)
        first | refine ⟨fun c => absurd c (by decide), fun _ => ?_⟩ | refine ⟨fun _ => ?_, fun c => absurd c (by decide)⟩
        exact m_fail h.ok ((NL l).1 i0)
    · first | refine ⟨fun c => absurd c (by decide), fun _ => ?_⟩ | refine ⟨fun _ => ?_, fun c => absurd c (by decide)⟩
      exact J91 l
    · first | refine ⟨fun c => absurd c (by decide), fun _ => ?_⟩ | refine ⟨fun _ => ?_, fun c => absurd c (by decide)⟩
      exact (NL l).2 (fun e => c (by rw [e]; rfl))
def MD (v : Lf) (b : Nat) (d : Nat → Nat) : Prop := ∀ w, w < 6 + d 5 → v 7 (b + w) = nI (d w)
theorem m_kind {x : Nat} (hx : x < 200) {Q : Int32 → Prop} (q1 : ¬ kdN x = 9 → Q (nI (kdN x))) (q0 : kdN x = 9 → Q (-1)) : pX10_kindOf (nI x) Q := by
  have e := fun (y : Nat) (hy : y < 200) => nI_eq (a := x) (b := y) (by omega) (by omega)
  unfold pX10_kindOf
  refine ⟨fun c0 => ⟨fun c1 => ⟨fun c2 => ⟨fun c3 => ?_, fun c3 => ?_⟩, fun c2 => ?_⟩, fun c1 => ?_⟩, fun c0 => ?_⟩
  · refine q0 ?_
    unfold kdN
    rw [if_neg (fun z => c0 ((e 99 (by decide)).mpr z)), if_neg (fun z => c1 ((e 119 (by decide)).mpr z)), if_neg (fun z => c2 ((e 116 (by decide)).mpr z)), if_neg (fun z => c3 ((e 98 (by decide)).mpr z))]
  · have := (e 98 (by decide)).mp c3
    subst this
    exact q1 (by decide)
  · have := (e 116 (by decide)).mp c2
    subst this
    exact q1 (by decide)
  · have := (e 119 (by decide)).mp c1
    subst this
    exact q1 (by decide)
  · have := (e 99 (by decide)).mp c0
    subst this
    exact q1 (by decide)
theorem m_clause {tn : Nat → Nat} {m : Nat} (hm : m ≤ 100) (ht : ∀ i, i < m → tn i ≤ 127) {v : Lf} {p b : Nat} (h : MS tn m v p) (hp : p ≤ m) (hb : b + 14 ≤ 56) {Q : Lf → Prop} (q1 : (clA tn m p).1 = true → ∀ v', MS tn m v' (clA tn m p).2.1 → MD v' b (clA tn m p).2.2 → Mr b v v' → Q v') (q0 : (clA tn m p).1 = false → ∀ v', v' 0 11 = nI (clA tn m p).2.1 → Mr b v v' → Q v') : pX10_clause v (nI b) Q := by
  unfold clA at q1 q0
  have vp : vp_in (nI b) 56 := vp_in_nI (by omega) (by decide)
  have no : ¬ (p < m ∧ ¬ kdN (tn p) = 9) → pX10_clause_J39 (nI b) Q v (nI b) (-1) := by
    intro l
    rw [if_neg l] at q0
    unfold pX10_clause_J39
    rw [nI_clamp (by omega)]
    have e : st v 7 b (-1) 7 b = -1 := by rw [st_at, if_pos ⟨rfl, rfl⟩]
    rw [e]
    refine ⟨vp, vp, fun c => absurd c n1, fun _ => m_fail (by rw [st_at, if_neg (by omega)]; exact h.ok) (q0 rfl _ ?_ (((Mr.refl b v).s7 (by omega) _).s0 (.inr rfl) _))⟩
    rw [st_at, if_pos ⟨rfl, rfl⟩, st_at, if_neg (by omega), h.at']
  unfold pX10_clause
  rw [h.ok, h.n, h.at']
  refine ⟨fun c => absurd c n1, fun _ => ⟨fun c => ?_, fun c => ?_⟩⟩
  · have c := (nle (by omega) (by omega)).mp c
    exact no (fun y => by omega)
  · have c := nle' (by omega) (by omega) c
    have t := ht p c
    rw [nI_clamp (n := p) (by omega), h.sg p c]
    refine ⟨vp_in_nI (by omega) (by decide), m_kind (by omega) (fun d => ?_) (fun d => no (fun y => y.2 d))⟩
    have kl := kd_lt d
    rw [if_pos ⟨c, d⟩] at q1 q0
    unfold pX10_clause_J39
    rw [nI_clamp (by omega)]
    have e : st v 7 b (nI (kdN (tn p))) 7 b = nI (kdN (tn p)) := by rw [st_at, if_pos ⟨rfl, rfl⟩]
    have h1 := h.s7 b (nI (kdN (tn p)))
    rw [e, h1.at', nI_s]
    have wl := wy_le (tn := tn) (m := m) 8 0 (p + 1) (fun _ => 0) (by omega)
    refine ⟨vp, vp, fun _ => ⟨9, m_way hm ht (v0 := st v 7 b (nI (kdN (tn p)))) hb 8 0 (p + 1) (fun _ => 0) _ (by omega) (by omega) (h1.s10 _) (fun y => by omega) (fun j hj => by omega) (by rw [st_oth _ _ _ (by decide)]) ((Mr.refl b _).s0 (.inl rfl) _) (fun t2 v2 h2 e5 e6 eb mr2 => ?_) (fun t2 v2 e2 mr2 => ?_)⟩, fun y => absurd (nI_pos' (by omega)) y⟩
    · unfold cl0 at q1 q0
      rw [if_pos t2] at q1 q0
      have mr2 : Mr b v v2 := ((Mr.refl b v).s7 (by omega) _).trans mr2
      refine m_nums (kd := kdN (tn p)) (len := (wyL tn m 8 0 (p + 1) (fun _ => 0)).2.2.1) (cs := (wyL tn m 8 0 (p + 1) (fun _ => 0)).2.2.2) hm ht h2 wl hb (fun t3 v3 h3 n4 f7 mr3 => ?_) (fun t3 v3 e3 mr3 => q0 t3 v3 e3 (mr2.trans mr3))
      obtain ⟨k0, k5, k6⟩ := cl1_d t3
      refine q1 t3 v3 h3 (fun w hw => ?_) (mr2.trans mr3)
      rw [k5] at hw
      by_cases w0 : w = 0
      · subst w0
        rw [k0, Nat.add_zero, f7 _ (by omega), eb, e]
      · by_cases w4 : w < 5
        · obtain ⟨k, rfl⟩ : ∃ k, w = 1 + k := ⟨w - 1, by omega⟩
          exact n4 k (by omega)
        · by_cases w5 : w = 5
          · subst w5
            rw [k5, f7 _ (by omega), e5]
          · obtain ⟨k, rfl⟩ : ∃ k, w = 6 + k := ⟨w - 6, by omega⟩
            rw [k6, f7 _ (by omega), ← Nat.add_assoc]
            exact e6 k (by omega)
    · have t2' : ¬ (wyL tn m 8 0 (p + 1) (fun _ => 0)).1 = true := by rw [t2]; exact Bool.false_ne_true
      unfold cl0 at q0
      rw [if_neg t2'] at q0
      exact q0 rfl v2 e2 (((Mr.refl b v).s7 (by omega) _).trans mr2)
theorem MD.fr {v v' : Lf} {b e c : Nat} {d : Nat → Nat} (h : MD v (14 * e) d) (mr : Mr b v v') (hb : b = 14 * c) (he : e < c) (h8 : d 5 ≤ 8) : MD v' (14 * e) d := fun w hw => (mr.o7 _ (by omega)).trans (h w hw)
theorem m_parse {tn : Nat → Nat} {m : Nat} (hm : m ≤ 100) (ht : ∀ i, i < m → tn i ≤ 127) {v0 : Lf} {Q : Int32 → Lf → Prop} : ∀ (k c p : Nat) (ds : Nat → Nat → Nat) (v : Lf), c + (k + 1) = 4 → p ≤ m → MS tn m v p → (∀ e, e < c → MD v (14 * e) (ds e) ∧ ClOk (ds e)) → Mr 0 v0 v → ((prL tn m (k + 1) c p ds).1 = true → ∀ v', v' 0 11 = -1 → (∀ e, e < (prL tn m (k + 1) c p ds).2.1 → MD v' (14 * e) ((prL tn m (k + 1) c p ds).2.2 e)) → Mr 0 v0 v' → pX10_read_J78 Q v' (nI (prL tn m (k + 1) c p ds).2.1)) → ((prL tn m (k + 1) c p ds).1 = false → ∀ v' y, v' 0 11 = nI (prL tn m (k + 1) c p ds).2.1 → Mr 0 v0 v' → pX10_read_J78 Q v' y) → pX10_read_L35 Q (k + 1) v (nI m) (nI c) := by
  intro k
  induction k with
  | zero =>
    intro c p ds v hc hp h hd mr q1 q0
    have c3 : c = 3 := by omega
    subst c3
    rw [prL] at q1 q0
    have eb : (14 : Int32) * (nI 3 - nI 3 / (4 : Int32) * (4 : Int32)) = nI 42 := by decide +kernel
    unfold pX10_read_L35
    rw [eb]
    have lp' := cl_le (tn := tn) hp
    refine m_clause hm ht h hp (by decide) (fun t v1 h1 md mr1 => ⟨fun _ => ?_, fun y => absurd (by decide) y⟩) (fun t v1 e1 mr1 => ⟨fun _ => ?_, fun y => absurd (by decide) y⟩)
    · rw [if_pos t] at q1 q0
      have co := cl_ok t
      have mr2 := mr.trans (mr1.less (Nat.zero_le _))
      unfold pX10_read_J62
      rw [h1.at']
      refine ⟨fun d => ?_, fun d => ?_⟩
      · have d := (nle (by omega) (by omega)).mp d
        rw [if_pos (by omega)] at q1
        refine q1 rfl v1 h1.ok (fun e he => ?_) mr2
        have he : e < 4 := he
        show MD v1 (14 * e) (if e = 3 then (clA tn m p).2.2 else ds e)
        by_cases ee : e = 3
        · rw [if_pos ee, ee]; exact md
        · rw [if_neg ee]
          have := hd e (by omega)
          exact this.1.fr mr1 (c := 3) (by decide) (by omega) this.2.2.2.2.1
      · have d := nle' (by omega) (by omega) d
        rw [if_neg (by omega), if_pos (.inl rfl)] at q0
        refine m_fail h1.ok (q0 rfl _ _ (by rw [st_at, if_pos ⟨rfl, rfl⟩]) (mr2.s0 (.inr rfl) _))
    · have t' : ¬ (clA tn m p).1 = true := by rw [t]; exact Bool.false_ne_true
      rw [if_neg t'] at q0
      have mr2 := mr.trans (mr1.less (Nat.zero_le _))
      unfold pX10_read_J62
      exact ⟨fun _ => q0 rfl v1 _ e1 mr2, fun _ => m_failF (f := (clA tn m p).2.1) (by omega) e1 (q0 rfl v1 _ e1 mr2)⟩
  | succ k ih =>
    intro c p ds v hc hp h hd mr q1 q0
    rw [prL] at q1 q0
    have eb : (14 : Int32) * (nI c - nI c / (4 : Int32) * (4 : Int32)) = nI (14 * c) := by
      rcases (show c = 0 ∨ c = 1 ∨ c = 2 by omega) with rfl | rfl | rfl <;> decide +kernel
    unfold pX10_read_L35
    rw [eb, nI_s]
    have lp' := cl_le (tn := tn) hp
    have n4 : ¬ (4 : Int32) ≤ nI (c + 1) := fun y => by
      have := (nle (a := 4) (b := c + 1) (by decide) (by omega)).mp y
      omega
    refine m_clause hm ht h hp (by omega) (fun t v1 h1 md mr1 => ⟨fun y => absurd y n4, fun _ => ?_⟩) (fun t v1 e1 mr1 => ⟨fun y => absurd y n4, fun _ => ?_⟩)
    · rw [if_pos t] at q1 q0
      have co := cl_ok t
      have mr2 := mr.trans (mr1.less (Nat.zero_le _))
      have nd : ∀ e, e < c + 1 → MD v1 (14 * e) (if e = c then (clA tn m p).2.2 else ds e) ∧ ClOk (if e = c then (clA tn m p).2.2 else ds e) := by
        intro e he
        by_cases ee : e = c
        · rw [if_pos ee, ee]; exact ⟨md, co⟩
        · rw [if_neg ee]
          have := hd e (by omega)
          exact ⟨this.1.fr mr1 rfl (by omega) this.2.2.2.2.1, this.2⟩
      have nd2 : ∀ y e, e < c + 1 → MD (st v1 0 10 y) (14 * e) (if e = c then (clA tn m p).2.2 else ds e) := fun y e he w hw => by
        rw [st_oth _ _ _ (by decide)]; exact (nd e he).1 w hw
      refine m_takes (x := 59) hm ht (by omega) (by decide) h1 (fun l => ?_) (fun l => ?_)
      · first | refine ⟨fun c => absurd c (by decide), fun _ => ?_⟩ | refine ⟨fun _ => ?_, fun c => absurd c (by decide)⟩
        rw [if_neg (show ¬ (clA tn m p).2.1 = m by omega), if_neg (show ¬ (k + 1 = 0 ∨ ¬ ((clA tn m p).2.1 < m ∧ tn (clA tn m p).2.1 = 59)) from fun y => y.elim (by omega) (fun y => y l))] at q1 q0
        exact ih (c + 1) _ _ _ (by omega) (by omega) (h1.s10 _) (fun e he => ⟨nd2 _ e he, (nd e he).2⟩) (mr2.s0 (.inl rfl) _) q1 q0
      · first | refine ⟨fun c => absurd c (by decide), fun _ => ?_⟩ | refine ⟨fun _ => ?_, fun c => absurd c (by decide)⟩
        unfold pX10_read_J62
        rw [st_at, if_pos ⟨rfl, rfl⟩]
        refine ⟨fun d => ?_, fun d => ?_⟩
        · have d := (nle (by omega) (by omega)).mp d
          rw [if_pos (by omega)] at q1
          exact q1 rfl _ (by rw [st_at, if_neg (by omega)]; exact h1.ok) (nd2 _) (mr2.s0 (.inl rfl) _)
        · have d := nle' (by omega) (by omega) d
          rw [if_neg (by omega), if_pos (.inr l)] at q0
          exact m_fail (by rw [st_at, if_neg (by omega)]; exact h1.ok) (q0 rfl _ _ (by rw [st_at, if_pos ⟨rfl, rfl⟩]) ((mr2.s0 (.inl rfl) _).s0 (.inr rfl) _))
    · have t' : ¬ (clA tn m p).1 = true := by rw [t]; exact Bool.false_ne_true
      rw [if_neg t'] at q0
      have mr2 := mr.trans (mr1.less (Nat.zero_le _))
      refine m_takesF (f := (clA tn m p).2.1) (by omega) e1 (fun y => ?_)
      first | refine ⟨fun c => absurd c (by decide), fun _ => ?_⟩ | refine ⟨fun _ => ?_, fun c => absurd c (by decide)⟩
      have e2 : st v1 0 10 y 0 11 = nI (clA tn m p).2.1 := by rw [st_at, if_neg (by omega)]; exact e1
      have mr3 := mr2.s0 (i := 10) (.inl rfl) y
      unfold pX10_read_J62
      exact ⟨fun _ => q0 rfl _ _ e2 mr3, fun _ => m_failF (f := (clA tn m p).2.1) (by omega) e2 (q0 rfl _ _ e2 mr3)⟩

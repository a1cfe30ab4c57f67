theorem c_nums {tn : Nat → Nat} {m : Nat} (hm : m ≤ 100) (ht : ∀ i, i < m → tn i ≤ 127) {v : Lf} {p c kd len : Nat} {cs : Nat → Nat} (h : RS tn m v p) (hp : p ≤ m) (hc : c < 4) {Q : Int32 → Lf → Prop} (q1 : (cl1 tn m kd len cs (onL tn m p 42 2 1 20 5)).1 = true → ∀ v', RS tn m v' (cl1 tn m kd len cs (onL tn m p 42 2 1 20 5)).2.1 → (∀ k, k < 4 → v' 5 (c * 4 + k) = nI ((cl1 tn m kd len cs (onL tn m p 42 2 1 20 5)).2.2 (1 + k))) → (∀ x, x < c * 4 → v' 5 x = v 5 x) → (∀ c, c ≠ 0 → c ≠ 5 → v' c = v c) → v' 0 4 = v 0 4 → Q 1 v') (q0 : (cl1 tn m kd len cs (onL tn m p 42 2 1 20 5)).1 = false → ∀ v', v' 0 3 = nI (cl1 tn m kd len cs (onL tn m p 42 2 1 20 5)).2.1 → Q 0 v') : pX3_parseNumbers v (nI c) Q := by
  have ix : ∀ k : Nat, nI c * (4 : Int32) + nI k = nI (c * 4 + k) := fun k => by
    show nI c * nI 4 + nI k = _
    rw [pk_mul, nI_add]
  have i0 : nI c * (4 : Int32) + (0 : Int32) = nI (c * 4 + 0) := ix 0
  have i1 : nI c * (4 : Int32) + (1 : Int32) = nI (c * 4 + 1) := ix 1
  have i2 : nI c * (4 : Int32) + (2 : Int32) = nI (c * 4 + 2) := ix 2
  have i3 : nI c * (4 : Int32) + (3 : Int32) = nI (c * 4 + 3) := ix 3
  unfold pX3_parseNumbers
  rw [i0, i1, i2, i3, nI_clamp (n := c * 4 + 0) (by omega), nI_clamp (n := c * 4 + 1) (by omega), nI_clamp (n := c * 4 + 2) (by omega), nI_clamp (n := c * 4 + 3) (by omega)]
  have vp : ∀ k, k < 4 → vp_in (nI (c * 4 + k)) 16 := fun k hk => vp_in_nI (by omega) (by decide)
  refine ⟨vp 0 (by decide), vp 1 (by decide), vp 2 (by decide), vp 3 (by decide), ?_⟩
  have d0 : ∀ x, x < c * 4 → st (st (st (st v 5 (c * 4 + 0) 5) 5 (c * 4 + 1) 40) 5 (c * 4 + 2) 3) 5 (c * 4 + 3) 0 5 x = v 5 x := fun x hx => by
    rw [st_at, if_neg (by omega), st_at, if_neg (by omega), st_at, if_neg (by omega), st_at, if_neg (by omega)]
  have dk : st (st (st (st v 5 (c * 4 + 0) 5) 5 (c * 4 + 1) 40) 5 (c * 4 + 2) 3) 5 (c * 4 + 3) 0 5 (c * 4 + 0) = nI 5 ∧ st (st (st (st v 5 (c * 4 + 0) 5) 5 (c * 4 + 1) 40) 5 (c * 4 + 2) 3) 5 (c * 4 + 3) 0 5 (c * 4 + 1) = nI 40 ∧ st (st (st (st v 5 (c * 4 + 0) 5) 5 (c * 4 + 1) 40) 5 (c * 4 + 2) 3) 5 (c * 4 + 3) 0 5 (c * 4 + 2) = nI 3 ∧ st (st (st (st v 5 (c * 4 + 0) 5) 5 (c * 4 + 1) 40) 5 (c * 4 + 2) 3) 5 (c * 4 + 3) 0 5 (c * 4 + 3) = nI 0 := by
    refine ⟨?_, ?_, ?_, ?_⟩
    · rw [st_at, if_neg (by omega), st_at, if_neg (by omega), st_at, if_neg (by omega), st_at, if_pos ⟨rfl, rfl⟩]; rfl
    · rw [st_at, if_neg (by omega), st_at, if_neg (by omega), st_at, if_pos ⟨rfl, rfl⟩]; rfl
    · rw [st_at, if_neg (by omega), st_at, if_pos ⟨rfl, rfl⟩]; rfl
    · rw [st_at, if_pos ⟨rfl, rfl⟩]; rfl
  have dO : ∀ c2, c2 ≠ 0 → c2 ≠ 5 → st (st (st (st v 5 (c * 4 + 0) 5) 5 (c * 4 + 1) 40) 5 (c * 4 + 2) 3) 5 (c * 4 + 3) 0 c2 = v c2 := fun c2 _ h5 => by
    rw [st_oth _ _ _ h5, st_oth _ _ _ h5, st_oth _ _ _ h5, st_oth _ _ _ h5]
  have d4 : st (st (st (st v 5 (c * 4 + 0) 5) 5 (c * 4 + 1) 40) 5 (c * 4 + 2) 3) 5 (c * 4 + 3) 0 0 4 = v 0 4 := by
    rw [st_at, if_neg (by omega), st_at, if_neg (by omega), st_at, if_neg (by omega), st_at, if_neg (by omega)]
  have h' : RS tn m (st (st (st (st v 5 (c * 4 + 0) 5) 5 (c * 4 + 1) 40) 5 (c * 4 + 2) 3) 5 (c * 4 + 3) 0) p := (((h.oth _ (by decide)).oth _ (by decide)).oth _ (by decide)).oth _ (by decide)
  revert h' d0 dk dO d4
  generalize st (st (st (st v 5 (c * 4 + 0) 5) 5 (c * 4 + 1) 40) 5 (c * 4 + 2) 3) 5 (c * 4 + 3) 0 = v1
  intro d0 dk dO d4 h'
  have le0 := on_le (tn := tn) (mk := 42) (fg := 2) (lo := 1) (hi := 20) (df := 5) hp
  have b0 := on_bd (tn := tn) (m := m) (p := p) (mk := 42) (fg := 2) (lo := 1) (hi := 20) (df := 5) (by decide) (by decide)
  refine c_num (mk := 42) (fg := 2) (lo := 1) (hi := 20) hm ht h' hp (by omega) (by decide) (by decide) (by decide) (by decide) (by decide) dk.1 (fun t v2 r2 e2 f2 o2 s2 => ?_) (fun t v2 e2 => ?_)
  · first | refine ⟨fun c => absurd c (by decide), fun _ => ?_⟩ | refine ⟨fun _ => ?_, fun c => absurd c (by decide)⟩
    rw [e2]
    revert q1 q0 t r2 e2 le0 b0
    generalize onL tn m p 42 2 1 20 5 = o0
    intro q1 q0 le0 b0 t r2 e2
    unfold cl1 at q1 q0
    rw [if_pos t] at q1 q0
    have le1 := on_le (tn := tn) (mk := 47) (fg := 2) (lo := o0.2.2) (hi := 99) (df := 40) le0
    have b1 := on_bd (tn := tn) (m := m) (p := o0.2.1) (mk := 47) (fg := 2) (lo := o0.2.2) (hi := 99) (df := 40) (by decide) (by decide)
    refine ⟨vp 0 (by decide), c_num (mk := 47) (fg := 2) (lo := o0.2.2) (hi := 99) hm ht r2 le0 (by omega) (by decide) (by decide) (by decide) b0 (by decide) ((f2 _ (by omega)).trans dk.2.1) (fun t3 v3 r3 e3 f3 o3 s3 => ?_) (fun t3 v3 e3 => ?_)⟩
    · first | refine ⟨fun c => absurd c (by decide), fun _ => ?_⟩ | refine ⟨fun _ => ?_, fun c => absurd c (by decide)⟩
      revert q1 q0 t3 r3 e3 le1 b1
      generalize onL tn m o0.2.1 47 2 o0.2.2 99 40 = o1
      intro q1 q0 le1 b1 t3 r3 e3
      unfold cl2 at q1 q0
      rw [if_pos t3] at q1 q0
      have le2 := on_le (tn := tn) (mk := 126) (fg := 1) (lo := 1) (hi := 9) (df := 3) le1
      have b2 := on_bd (tn := tn) (m := m) (p := o1.2.1) (mk := 126) (fg := 1) (lo := 1) (hi := 9) (df := 3) (by decide) (by decide)
      refine c_num (mk := 126) (fg := 1) (lo := 1) (hi := 9) hm ht r3 le1 (by omega) (by decide) (by decide) (by decide) (by decide) (by decide) ((f3 _ (by omega)).trans ((f2 _ (by omega)).trans dk.2.2.1)) (fun t4 v4 r4 e4 f4 o4 s4 => ?_) (fun t4 v4 e4 => ?_)
      · first | refine ⟨fun c => absurd c (by decide), fun _ => ?_⟩ | refine ⟨fun _ => ?_, fun c => absurd c (by decide)⟩
        revert q1 q0 t4 r4 e4 le2 b2
        generalize onL tn m o1.2.1 126 1 1 9 3 = o2'
        intro q1 q0 le2 b2 t4 r4 e4
        unfold cl3 at q1 q0
        rw [if_pos t4] at q1 q0
        refine c_num (mk := 64) (fg := 2) (lo := 0) (hi := 60) hm ht r4 le2 (by omega) (by decide) (by decide) (by decide) (by decide) (by decide) ((f4 _ (by omega)).trans ((f3 _ (by omega)).trans ((f2 _ (by omega)).trans dk.2.2.2))) (fun t5 v5 r5 e5 f5 o5 s5 => ?_) (fun t5 v5 e5 => ?_)
        · first | refine ⟨fun c => absurd c (by decide), fun _ => ?_⟩ | refine ⟨fun _ => ?_, fun c => absurd c (by decide)⟩
          revert q1 q0 t5 r5 e5
          generalize onL tn m o2'.2.1 64 2 0 60 0 = o3'
          intro q1 q0 t5 r5 e5
          unfold cl4 at q1
          rw [if_pos t5] at q1
          refine q1 rfl v5 r5 (fun k hk => ?_) (fun x hx => ?_) (fun c2 h0 h5 => ?_) ?_
          · rcases (show k = 0 ∨ k = 1 ∨ k = 2 ∨ k = 3 by omega) with rfl | rfl | rfl | rfl
            · rw [f5 _ (by omega), f4 _ (by omega), f3 _ (by omega)]; exact e2
            · rw [f5 _ (by omega), f4 _ (by omega)]; exact e3
            · rw [f5 _ (by omega)]; exact e4
            · exact e5
          · rw [f5 _ (by omega), f4 _ (by omega), f3 _ (by omega), f2 _ (by omega)]; exact d0 x hx
          · rw [o5 _ h0 h5, o4 _ h0 h5, o3 _ h0 h5, o2 _ h0 h5]; exact dO c2 h0 h5
          · rw [s5, s4, s3, s2]; exact d4
        · first | refine ⟨fun c => absurd c (by decide), fun _ => ?_⟩ | refine ⟨fun _ => ?_, fun c => absurd c (by decide)⟩
          have t5 : ¬ (onL tn m o2'.2.1 64 2 0 60 0).1 = true := by rw [t5]; exact Bool.false_ne_true
          unfold cl4 at q0
          rw [if_neg t5] at q0
          exact q0 rfl v5 e5
      · first | refine ⟨fun c => absurd c (by decide), fun _ => ?_⟩ | refine ⟨fun _ => ?_, fun c => absurd c (by decide)⟩
        have t4 : ¬ (onL tn m o1.2.1 126 1 1 9 3).1 = true := by rw [t4]; exact Bool.false_ne_true
        unfold cl3 at q0
        rw [if_neg t4] at q0
        exact q0 rfl v4 e4
    · first | refine ⟨fun c => absurd c (by decide), fun _ => ?_⟩ | refine ⟨fun _ => ?_, fun c => absurd c (by decide)⟩
      have t3 : ¬ (onL tn m o0.2.1 47 2 o0.2.2 99 40).1 = true := by rw [t3]; exact Bool.false_ne_true
      unfold cl2 at q0
      rw [if_neg t3] at q0
      exact q0 rfl v3 e3
  · first | refine ⟨fun c => absurd c (by decide), fun _ => ?_⟩ | refine ⟨fun _ => ?_, fun c => absurd c (by decide)⟩
    have t : ¬ (onL tn m p 42 2 1 20 5).1 = true := by rw [t]; exact Bool.false_ne_true
    unfold cl1 at q0
    rw [if_neg t] at q0
    exact q0 rfl v2 e2
theorem cl1_d {tn : Nat → Nat} {m kd len : Nat} {cs : Nat → Nat} {o : Bool × Nat × Nat} (h : (cl1 tn m kd len cs o).1 = true) : (cl1 tn m kd len cs o).2.2 0 = kd ∧ (cl1 tn m kd len cs o).2.2 5 = len ∧ ∀ j, (cl1 tn m kd len cs o).2.2 (6 + j) = cs j := by
  unfold cl1 at h ⊢
  by_cases c1 : o.1 = true
  · rw [if_pos c1] at h ⊢
    unfold cl2 at h ⊢
    by_cases c2 : (onL tn m o.2.1 47 2 o.2.2 99 40).1 = true
    · rw [if_pos c2] at h ⊢
      unfold cl3 at h ⊢
      by_cases c3 : (onL tn m (onL tn m o.2.1 47 2 o.2.2 99 40).2.1 126 1 1 9 3).1 = true
      · rw [if_pos c3] at h ⊢
        unfold cl4 at h ⊢
        by_cases c4 : (onL tn m (onL tn m (onL tn m o.2.1 47 2 o.2.2 99 40).2.1 126 1 1 9 3).2.1 64 2 0 60 0).1 = true
        · rw [if_pos c4]
          exact ⟨rfl, rfl, fun j => dt_c _ _ _ _ _ _ _ j⟩
        · rw [if_neg c4] at h; exact absurd h Bool.false_ne_true
      · rw [if_neg c3] at h; exact absurd h Bool.false_ne_true
    · rw [if_neg c2] at h; exact absurd h Bool.false_ne_true
  · rw [if_neg c1] at h; exact absurd h Bool.false_ne_true
theorem c_clause {tn : Nat → Nat} {m : Nat} (hm : m ≤ 100) (ht : ∀ i, i < m → tn i ≤ 127) {v : Lf} {p c : Nat} (h : RS tn m v p) (hp : p ≤ m) (hc : c < 4) {Q : Int32 → Lf → Prop} (q1 : (clA tn m p).1 = true → ∀ v', RS tn m v' (clA tn m p).2.1 → DC v' c (clA tn m p).2.2 → FC c v v' → Q 1 v') (q0 : (clA tn m p).1 = false → ∀ v', v' 0 3 = nI (clA tn m p).2.1 → Q 0 v') : pX3_parseClause v (nI c) Q := by
  unfold pX3_parseClause
  unfold clA at q1 q0
  refine c_sign hm (by omega) h (c_kind ht (fun l => ?_) (fun l => ?_))
  · rw [if_pos l] at q1 q0
    have kl := kd_lt l.2
    refine ⟨fun _ => ⟨vp_in_nI (by omega) (by decide), ?_⟩, fun e => absurd e (m5 (by omega))⟩
    rw [nI_clamp (n := c) (by omega)]
    have h1 : RS tn m (st (st v 2 c (nI (kdN (tn p)))) 0 2 (st v 2 c (nI (kdN (tn p))) 0 2 + 1)) (p + 1) := (h.oth (c := 2) (i := c) _ (by decide)).next
    have w2 : st (st v 2 c (nI (kdN (tn p)))) 0 2 (st v 2 c (nI (kdN (tn p))) 0 2 + 1) 2 c = nI (kdN (tn p)) := by rw [st_at, if_neg (by omega), st_at, if_pos ⟨rfl, rfl⟩]
    have wo : FC c v (st (st v 2 c (nI (kdN (tn p)))) 0 2 (st v 2 c (nI (kdN (tn p))) 0 2 + 1)) := ⟨fun x hx => by rw [st_at, if_neg (by omega), st_at, if_neg (by omega)], fun x hx => by rw [st_at, if_neg (by omega), st_at, if_neg (by omega)], fun x hx => by rw [st_at, if_neg (by omega), st_at, if_neg (by omega)], fun x hx => by rw [st_at, if_neg (by omega), st_at, if_neg (by omega)], by rw [st_at, if_neg (by omega), st_at, if_neg (by omega)]⟩
    revert h1 w2 wo
    generalize st (st v 2 c (nI (kdN (tn p)))) 0 2 (st v 2 c (nI (kdN (tn p))) 0 2 + 1) = v1
    intro h1 w2 wo
    unfold pX3_parseWay
    rw [nI_clamp (n := c) (by omega)]
    have wl := wy_le (tn := tn) (m := m) 8 0 (p + 1) (fun _ => 0) (by omega)
    refine ⟨vp_in_nI (by omega) (by decide), 9, c_way hm ht (v0 := st v1 3 c 0) hc 8 0 (p + 1) (fun _ => 0) _ (by omega) (by omega) (h1.oth _ (by decide)) (by rw [st_at, if_pos ⟨rfl, rfl⟩]; rfl) (fun j hj => by omega) ⟨rfl, rfl, rfl, fun _ _ => rfl, fun _ _ => rfl⟩ (fun t v2 r2 e3 e4 fw => ?_) (fun t v2 e2 => ?_)⟩
    · first | refine ⟨fun c => absurd c (by decide), fun _ => ?_⟩ | refine ⟨fun _ => ?_, fun c => absurd c (by decide)⟩
      unfold cl0 at q1 q0
      rw [if_pos t] at q1 q0
      refine c_nums (kd := kdN (tn p)) (len := (wyL tn m 8 0 (p + 1) (fun _ => 0)).2.2.1) (cs := (wyL tn m 8 0 (p + 1) (fun _ => 0)).2.2.2) hm ht r2 wl hc (fun t2 v3 r3 n5 f5 o3 s3 => ?_) (fun t2 v3 e => ?_)
      · first | refine ⟨fun c => absurd c (by decide), fun _ => ?_⟩ | refine ⟨fun _ => ?_, fun c => absurd c (by decide)⟩
        obtain ⟨k0, k5, k6⟩ := cl1_d t2
        refine q1 t2 v3 r3 ⟨?_, ?_, fun j hj => ?_, n5⟩ ⟨fun x hx => ?_, fun x hx => ?_, fun x hx => ?_, fun x hx => ?_, ?_⟩
        · rw [k0, o3 2 (by decide) (by decide), fw.f2, st_oth _ _ _ (by decide)]; exact w2
        · rw [k5, o3 3 (by decide) (by decide)]; exact e3
        · rw [k6, o3 4 (by decide) (by decide)]
          rw [k5] at hj
          exact e4 j hj
        · rw [o3 2 (by decide) (by decide), fw.f2, st_oth _ _ _ (by decide)]; exact wo.f2 x hx
        · rw [o3 3 (by decide) (by decide), fw.f3 x (by omega), st_at, if_neg (by omega)]; exact wo.f3 x hx
        · rw [o3 4 (by decide) (by decide), fw.f4 x hx, st_oth _ _ _ (by decide)]; exact wo.f4 x hx
        · rw [f5 x hx, fw.f5, st_oth _ _ _ (by decide)]; exact wo.f5 x hx
        · rw [s3, fw.o4, st_at, if_neg (by omega)]; exact wo.o4
      · first | refine ⟨fun c => absurd c (by decide), fun _ => ?_⟩ | refine ⟨fun _ => ?_, fun c => absurd c (by decide)⟩
        exact q0 t2 v3 e
    · first | refine ⟨fun c => absurd c (by decide), fun _ => ?_⟩ | refine ⟨fun _ => ?_, fun c => absurd c (by decide)⟩
      have t : ¬ (wyL tn m 8 0 (p + 1) (fun _ => 0)).1 = true := by rw [t]; exact Bool.false_ne_true
      unfold cl0 at q0
      rw [if_neg t] at q0
      exact q0 rfl v2 e2
  · rw [if_neg l] at q0
    refine ⟨fun e => absurd rfl e, fun _ => ?_⟩
    unfold pX3_failAt
    refine ⟨rfl, q0 rfl _ ?_⟩
    rw [st_at, if_pos ⟨rfl, rfl⟩, h.at']
theorem c_parse {tn : Nat → Nat} {m : Nat} (hm : m ≤ 100) (ht : ∀ i, i < m → tn i ≤ 127) {Q : Int32 → Lf → Prop} : ∀ (k c p : Nat) (ds : Nat → Nat → Nat) (v : Lf), c + k = 4 → p ≤ m → RS tn m v p → v 0 4 = nI c → (∀ e, e < c → DC v e (ds e) ∧ ClOk (ds e)) → ((prL tn m k c p ds).1 = true → ∀ v', v' 0 4 = nI (prL tn m k c p ds).2.1 → (∀ e, e < (prL tn m k c p ds).2.1 → DC v' e ((prL tn m k c p ds).2.2 e)) → Q 1 v') → ((prL tn m k c p ds).1 = false → ∀ v', v' 0 3 = nI (prL tn m k c p ds).2.1 → Q 0 v') → pX3_parse_L12 Q (k + 1) v (nI c) := by
  intro k
  induction k with
  | zero =>
    intro c p ds v hc hp h h4 hd q1 q0
    refine hdE (N := 4) rfl (by omega) ?_
    unfold pX3_failAt
    refine ⟨rfl, q0 rfl _ ?_⟩
    rw [st_at, if_pos ⟨rfl, rfl⟩, h.at']
    rfl
  | succ k ih =>
    intro c p ds v hc hp h h4 hd q1 q0
    rw [prL] at q1 q0
    refine hdG (N := 4) rfl (by omega) (by omega) (c_clause hm ht h hp (by omega) (fun t v1 r1 dc fc => ?_) (fun t v1 e1 => ?_))
    · first | refine ⟨fun c => absurd c (by decide), fun _ => ?_⟩ | refine ⟨fun _ => ?_, fun c => absurd c (by decide)⟩
      rw [if_pos t] at q1 q0
      have lp' := cl_le (tn := tn) hp
      have co := cl_ok t
      have s4 : v1 0 4 + 1 = nI (c + 1) := by rw [fc.o4, h4, nI_s]
      rw [s4]
      have r2 : RS tn m (st v1 0 4 (nI (c + 1))) (clA tn m p).2.1 := ⟨by rw [st_at, if_neg (by omega)]; exact r1.n, by rw [st_at, if_neg (by omega)]; exact r1.at', fun i hi => by rw [st_at, if_neg (by omega)]; exact r1.sg i hi⟩
      have e4 : st v1 0 4 (nI (c + 1)) 0 4 = nI (c + 1) := by rw [st_at, if_pos ⟨rfl, rfl⟩]
      have nd : ∀ e, e < c + 1 → DC v1 e (if e = c then (clA tn m p).2.2 else ds e) ∧ ClOk (if e = c then (clA tn m p).2.2 else ds e) := by
        intro e he
        by_cases ee : e = c
        · rw [if_pos ee, ee]; exact ⟨dc, co⟩
        · rw [if_neg ee]
          have := hd e (by omega)
          exact ⟨this.1.fr fc (by omega) this.2.2.2.2.1, this.2⟩
      have dd : ∀ e i x, e < c + 1 → DC (st v1 0 i x) e (if e = c then (clA tn m p).2.2 else ds e) := by
        intro e i x he
        obtain ⟨a, b, cc, d⟩ := (nd e he).1
        exact ⟨by rw [st_oth _ _ _ (by decide)]; exact a, by rw [st_oth _ _ _ (by decide)]; exact b, by rw [st_oth _ _ _ (by decide)]; exact cc, by rw [st_oth _ _ _ (by decide)]; exact d⟩
      have ddd : ∀ e i x i2 x2, e < c + 1 → DC (st (st v1 0 i x) 0 i2 x2) e (if e = c then (clA tn m p).2.2 else ds e) := by
        intro e i x i2 x2 he
        obtain ⟨a, b, cc, d⟩ := dd e i x he
        exact ⟨by rw [st_oth _ _ _ (by decide)]; exact a, by rw [st_oth _ _ _ (by decide)]; exact b, by rw [st_oth _ _ _ (by decide)]; exact cc, by rw [st_oth _ _ _ (by decide)]; exact d⟩
      rw [r2.at', r2.n, e4]
      have J67 : (¬ (clA tn m p).2.1 = m) → (k = 0 ∨ ¬ ((clA tn m p).2.1 < m ∧ tn (clA tn m p).2.1 = 59)) → pX3_parse_J67 Q (st v1 0 4 (nI (c + 1))) := by
        intro n1 n2
        rw [if_neg n1, if_pos n2] at q0
        unfold pX3_parse_J67 pX3_failAt
        refine ⟨rfl, q0 rfl _ ?_⟩
        rw [st_at, if_pos ⟨rfl, rfl⟩, r2.at']
      refine ⟨fun d => ?_, fun d => ?_⟩
      · have n1 : ¬ (clA tn m p).2.1 = m := fun e => d (by rw [e])
        refine ⟨fun d2 => J67 n1 (.inl ?_), fun d2 => ?_⟩
        · have := nI_inj (b := 4) (by omega) (by decide) d2
          omega
        · have n4 : ¬ k = 0 := fun e => d2 (by rw [show c + 1 = 4 by omega]; rfl)
          have se := s_eq (tn := tn) (m := m) (p := (clA tn m p).2.1) (x := 59) ht (by decide)
          refine c_sign hm (by omega) r2 ⟨fun d3 => ?_, fun d3 => J67 n1 (.inr (fun y => d3 (se.mpr y)))⟩
          have l := se.mp d3
          rw [if_neg n1, if_neg (show ¬ (k = 0 ∨ ¬ ((clA tn m p).2.1 < m ∧ tn (clA tn m p).2.1 = 59)) from fun y => y.elim n4 (fun y => y l))] at q1 q0
          rw [r2.at'.symm, nI_s]
          exact ih (c + 1) _ _ _ (by omega) (by omega) r2.next (by rw [st_at, if_neg (by omega)]; exact e4) (fun e he => ⟨ddd e _ _ _ _ he, (nd e he).2⟩) q1 q0
      · have e1 : (clA tn m p).2.1 = m := nI_inj (by omega) (by omega) d
        rw [if_pos e1] at q1
        exact q1 rfl _ e4 (fun e he => dd e _ _ he)
    · first | refine ⟨fun c => absurd c (by decide), fun _ => ?_⟩ | refine ⟨fun _ => ?_, fun c => absurd c (by decide)⟩
      have t : ¬ (clA tn m p).1 = true := by rw [t]; exact Bool.false_ne_true
      rw [if_neg t] at q0
      exact q0 rfl v1 e1

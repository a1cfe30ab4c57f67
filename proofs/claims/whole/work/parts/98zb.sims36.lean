def sI (tn : Nat → Nat) (m p : Nat) : Int32 := if p < m then nI (tn p) else -1
def dgL (tn : Nat → Nat) (m : Nat) : Nat → Nat → Nat → Nat × Nat
  | 0, p, x => (p, x)
  | k + 1, p, x => if p < m ∧ 48 ≤ tn p ∧ tn p ≤ 57 then dgL tn m k (p + 1) (x * 10 + tn p - 48) else (p, x)
def onL (tn : Nat → Nat) (m p mk fg lo hi df : Nat) : Bool × Nat × Nat :=
  if p < m ∧ tn p = mk then
    (if (dgL tn m fg (p + 1) 0).1 = p + 1 then (false, p + 1, 0)
     else if lo ≤ (dgL tn m fg (p + 1) 0).2 ∧ (dgL tn m fg (p + 1) 0).2 ≤ hi then (true, (dgL tn m fg (p + 1) 0).1, (dgL tn m fg (p + 1) 0).2)
     else (false, (dgL tn m fg (p + 1) 0).1 - 1, 0))
  else (true, p, df)
def clN (tn : Nat → Nat) (p : Nat) : Nat := tn p - 97 + 8 * (tn (p + 1) - 49)
def wyL (tn : Nat → Nat) (m : Nat) : Nat → Nat → Nat → (Nat → Nat) → Bool × Nat × Nat × (Nat → Nat)
  | 0, i, p, cs => (true, p, i, cs)
  | k + 1, i, p, cs =>
    if p < m ∧ 97 ≤ tn p ∧ tn p ≤ 104 then
      (if (p + 1 < m ∧ 49 ≤ tn (p + 1) ∧ tn (p + 1) ≤ 56) ∧ ∀ j, j < i → ¬ cs j = clN tn p then wyL tn m k (i + 1) (p + 2) (fun j => if j = i then clN tn p else cs j)
       else (false, p + 1, i, cs))
    else if i = 0 then (false, p, i, cs) else (true, p, i, cs)
def kdN (x : Nat) : Nat := if x = 99 then 0 else if x = 119 then 1 else if x = 116 then 2 else if x = 98 then 3 else 9
def dtN (kd l mo g r len : Nat) (cs : Nat → Nat) (w : Nat) : Nat := if w = 0 then kd else if w = 1 then l else if w = 2 then mo else if w = 3 then g else if w = 4 then r else if w = 5 then len else cs (w - 6)
theorem dt_c (kd l mo g r len : Nat) (cs : Nat → Nat) (j : Nat) : dtN kd l mo g r len cs (6 + j) = cs j := by
  unfold dtN
  rw [if_neg (by omega), if_neg (by omega), if_neg (by omega), if_neg (by omega), if_neg (by omega), if_neg (by omega), show 6 + j - 6 = j by omega]
def cl4 (kd l mo g len : Nat) (cs : Nat → Nat) (o : Bool × Nat × Nat) : Bool × Nat × (Nat → Nat) := if o.1 = true then (true, o.2.1, dtN kd l mo g o.2.2 len cs) else (false, o.2.1, fun _ => 0)
def cl3 (tn : Nat → Nat) (m kd l mo len : Nat) (cs : Nat → Nat) (o : Bool × Nat × Nat) : Bool × Nat × (Nat → Nat) := if o.1 = true then cl4 kd l mo o.2.2 len cs (onL tn m o.2.1 64 2 0 60 0) else (false, o.2.1, fun _ => 0)
def cl2 (tn : Nat → Nat) (m kd l len : Nat) (cs : Nat → Nat) (o : Bool × Nat × Nat) : Bool × Nat × (Nat → Nat) := if o.1 = true then cl3 tn m kd l o.2.2 len cs (onL tn m o.2.1 126 1 1 9 3) else (false, o.2.1, fun _ => 0)
def cl1 (tn : Nat → Nat) (m kd len : Nat) (cs : Nat → Nat) (o : Bool × Nat × Nat) : Bool × Nat × (Nat → Nat) := if o.1 = true then cl2 tn m kd o.2.2 len cs (onL tn m o.2.1 47 2 o.2.2 99 40) else (false, o.2.1, fun _ => 0)
def cl0 (tn : Nat → Nat) (m kd : Nat) (w : Bool × Nat × Nat × (Nat → Nat)) : Bool × Nat × (Nat → Nat) := if w.1 = true then cl1 tn m kd w.2.2.1 w.2.2.2 (onL tn m w.2.1 42 2 1 20 5) else (false, w.2.1, fun _ => 0)
def clA (tn : Nat → Nat) (m p : Nat) : Bool × Nat × (Nat → Nat) := if p < m ∧ ¬ kdN (tn p) = 9 then cl0 tn m (kdN (tn p)) (wyL tn m 8 0 (p + 1) (fun _ => 0)) else (false, p, fun _ => 0)
def prL (tn : Nat → Nat) (m : Nat) : Nat → Nat → Nat → (Nat → Nat → Nat) → Bool × Nat × (Nat → Nat → Nat)
  | 0, _, p, ds => (false, p, ds)
  | k + 1, c, p, ds =>
    if (clA tn m p).1 = true then
      (if (clA tn m p).2.1 = m then (true, c + 1, fun e => if e = c then (clA tn m p).2.2 else ds e)
       else if k = 0 ∨ ¬ ((clA tn m p).2.1 < m ∧ tn (clA tn m p).2.1 = 59) then (false, (clA tn m p).2.1, ds)
       else prL tn m k (c + 1) ((clA tn m p).2.1 + 1) (fun e => if e = c then (clA tn m p).2.2 else ds e))
    else (false, (clA tn m p).2.1, ds)
theorem dg_le {tn : Nat → Nat} {m : Nat} : ∀ (k p x : Nat), p ≤ m → (dgL tn m k p x).1 ≤ m ∧ p ≤ (dgL tn m k p x).1 := by
  intro k
  induction k with
  | zero => exact fun p x h => ⟨h, Nat.le_refl _⟩
  | succ k ih =>
    intro p x h
    rw [dgL]
    split
    · rename_i c
      have := ih (p + 1) (x * 10 + tn p - 48) (by omega)
      exact ⟨this.1, by omega⟩
    · exact ⟨h, Nat.le_refl _⟩
theorem dg_bd {tn : Nat → Nat} {m : Nat} : ∀ (k p x d : Nat), x < 10 ^ d → (dgL tn m k p x).2 < 10 ^ (d + k) := by
  intro k
  induction k with
  | zero => exact fun p x d h => h
  | succ k ih =>
    intro p x d h
    rw [dgL]
    split
    · rename_i c
      have e : 10 ^ (d + 1) = 10 * 10 ^ d := by rw [Nat.pow_succ, Nat.mul_comm]
      have := ih (p + 1) (x * 10 + tn p - 48) (d + 1) (by omega)
      rw [show d + (k + 1) = d + 1 + k by omega]
      exact this
    · exact Nat.lt_of_lt_of_le h (Nat.pow_le_pow_right (by decide) (by omega))
theorem on_le {tn : Nat → Nat} {m p mk fg lo hi df : Nat} (h : p ≤ m) : (onL tn m p mk fg lo hi df).2.1 ≤ m := by
  unfold onL
  split
  · rename_i c
    have := dg_le (tn := tn) (m := m) fg (p + 1) 0 (by omega)
    split
    · show p + 1 ≤ m; omega
    · split
      · exact this.1
      · show (dgL tn m fg (p + 1) 0).1 - 1 ≤ m; omega
  · exact h
theorem on_bd {tn : Nat → Nat} {m p mk fg lo hi df : Nat} (hd : df < 100) (h : hi < 100) : (onL tn m p mk fg lo hi df).2.2 < 100 := by
  unfold onL
  split
  · split
    · show 0 < 100; decide
    · split
      · rename_i c; exact Nat.lt_of_le_of_lt c.2 h
      · show 0 < 100; decide
  · exact hd
theorem wy_le {tn : Nat → Nat} {m : Nat} : ∀ (k i p : Nat) (cs : Nat → Nat), p ≤ m → (wyL tn m k i p cs).2.1 ≤ m := by
  intro k
  induction k with
  | zero => exact fun i p cs h => h
  | succ k ih =>
    intro i p cs h
    rw [wyL]
    split
    · rename_i c
      split
      · rename_i c2
        exact ih _ _ _ (by omega)
      · show p + 1 ≤ m; omega
    · split <;> exact h
theorem wy_ok {tn : Nat → Nat} {m : Nat} : ∀ (k i p : Nat) (cs : Nat → Nat), i + k = 8 → (∀ j, j < i → cs j < 64) → (wyL tn m k i p cs).1 = true → 1 ≤ (wyL tn m k i p cs).2.2.1 ∧ (wyL tn m k i p cs).2.2.1 ≤ 8 ∧ ∀ j, j < (wyL tn m k i p cs).2.2.1 → (wyL tn m k i p cs).2.2.2 j < 64 := by
  intro k
  induction k with
  | zero => exact fun i p cs hi h _ => ⟨by show 1 ≤ i; omega, by show i ≤ 8; omega, h⟩
  | succ k ih =>
    intro i p cs hi h
    rw [wyL]
    split
    · rename_i c
      split
      · rename_i c2
        intro e
        refine ih (i + 1) (p + 2) _ (by omega) (fun j hj => ?_) e
        by_cases ej : j = i
        · rw [if_pos ej]; unfold clN; omega
        · rw [if_neg ej]; exact h j (by omega)
      · intro e; exact absurd e Bool.false_ne_true
    · split
      · intro e; exact absurd e Bool.false_ne_true
      · intro _; exact ⟨by show 1 ≤ i; omega, by show i ≤ 8; omega, h⟩
theorem kd_lt {x : Nat} (h : ¬ kdN x = 9) : kdN x ≤ 3 := by
  unfold kdN at h ⊢
  split
  · decide
  · split
    · decide
    · split
      · decide
      · split
        · decide
        · rename_i a b c d
          rw [if_neg a, if_neg b, if_neg c, if_neg d] at h
          exact absurd rfl h
def ClOk (d : Nat → Nat) : Prop := d 0 ≤ 3 ∧ (d 1 < 100 ∧ d 2 < 100 ∧ d 3 < 100 ∧ d 4 < 100) ∧ 1 ≤ d 5 ∧ d 5 ≤ 8 ∧ ∀ j, j < d 5 → d (6 + j) < 64
theorem cl_le {tn : Nat → Nat} {m p : Nat} (h : p ≤ m) : (clA tn m p).2.1 ≤ m := by
  unfold clA
  split
  · rename_i c
    have w := wy_le (tn := tn) (m := m) 8 0 (p + 1) (fun _ => 0) (by omega)
    unfold cl0
    split
    · have o0 := on_le (tn := tn) (mk := 42) (fg := 2) (lo := 1) (hi := 20) (df := 5) w
      unfold cl1
      split
      · have o1 := on_le (tn := tn) (mk := 47) (fg := 2) (lo := (onL tn m (wyL tn m 8 0 (p + 1) (fun _ => 0)).2.1 42 2 1 20 5).2.2) (hi := 99) (df := 40) o0
        unfold cl2
        split
        · have o2 := on_le (tn := tn) (mk := 126) (fg := 1) (lo := 1) (hi := 9) (df := 3) o1
          unfold cl3
          split
          · have o3 := on_le (tn := tn) (mk := 64) (fg := 2) (lo := 0) (hi := 60) (df := 0) o2
            unfold cl4
            split
            · exact o3
            · exact o3
          · exact o2
        · exact o1
      · exact o0
    · exact w
  · exact h
theorem cl_ok {tn : Nat → Nat} {m p : Nat} (h : (clA tn m p).1 = true) : ClOk (clA tn m p).2.2 := by
  unfold clA at h ⊢
  by_cases c : p < m ∧ ¬ kdN (tn p) = 9
  · rw [if_pos c] at h ⊢
    have w := wy_ok (tn := tn) (m := m) 8 0 (p + 1) (fun _ => 0) rfl (fun j hj => by omega)
    revert h w
    generalize wyL tn m 8 0 (p + 1) (fun _ => 0) = W
    intro h w
    unfold cl0 at h ⊢
    by_cases c0 : W.1 = true
    · rw [if_pos c0] at h ⊢
      have w := w c0
      have b0 := on_bd (tn := tn) (m := m) (p := W.2.1) (mk := 42) (fg := 2) (lo := 1) (hi := 20) (df := 5) (by decide) (by decide)
      revert h b0
      generalize onL tn m W.2.1 42 2 1 20 5 = o0
      intro h b0
      unfold cl1 at h ⊢
      by_cases c1 : o0.1 = true
      · rw [if_pos c1] at h ⊢
        have b1 := on_bd (tn := tn) (m := m) (p := o0.2.1) (mk := 47) (fg := 2) (lo := o0.2.2) (hi := 99) (df := 40) (by decide) (by decide)
        revert h b1
        generalize onL tn m o0.2.1 47 2 o0.2.2 99 40 = o1
        intro h b1
        unfold cl2 at h ⊢
        by_cases c2 : o1.1 = true
        · rw [if_pos c2] at h ⊢
          have b2 := on_bd (tn := tn) (m := m) (p := o1.2.1) (mk := 126) (fg := 1) (lo := 1) (hi := 9) (df := 3) (by decide) (by decide)
          revert h b2
          generalize onL tn m o1.2.1 126 1 1 9 3 = o2
          intro h b2
          unfold cl3 at h ⊢
          by_cases c3 : o2.1 = true
          · rw [if_pos c3] at h ⊢
            have b3 := on_bd (tn := tn) (m := m) (p := o2.2.1) (mk := 64) (fg := 2) (lo := 0) (hi := 60) (df := 0) (by decide) (by decide)
            revert h b3
            generalize onL tn m o2.2.1 64 2 0 60 0 = o3
            intro h b3
            unfold cl4 at h ⊢
            by_cases c4 : o3.1 = true
            · rw [if_pos c4]
              refine ⟨kd_lt c.2, ⟨b0, b1, b2, b3⟩, w.1, w.2.1, fun j hj => ?_⟩
              have := w.2.2 j hj
              show dtN (kdN (tn p)) o0.2.2 o1.2.2 o2.2.2 o3.2.2 W.2.2.1 W.2.2.2 (6 + j) < 64
              rw [dt_c]
              exact this
            · rw [if_neg c4] at h; exact absurd h Bool.false_ne_true
          · rw [if_neg c3] at h; exact absurd h Bool.false_ne_true
        · rw [if_neg c2] at h; exact absurd h Bool.false_ne_true
      · rw [if_neg c1] at h; exact absurd h Bool.false_ne_true
    · rw [if_neg c0] at h; exact absurd h Bool.false_ne_true
  · rw [if_neg c] at h; exact absurd h Bool.false_ne_true
theorem pr_ok {tn : Nat → Nat} {m : Nat} : ∀ (k c p : Nat) (ds : Nat → Nat → Nat), c + k = 4 → (∀ e, e < c → ClOk (ds e)) → (prL tn m k c p ds).1 = true → (prL tn m k c p ds).2.1 ≤ 4 ∧ ∀ e, e < (prL tn m k c p ds).2.1 → ClOk ((prL tn m k c p ds).2.2 e) := by
  intro k
  induction k with
  | zero => intro c p ds _ _ h; exact absurd h Bool.false_ne_true
  | succ k ih =>
    intro c p ds hc hd
    rw [prL]
    have nd : (clA tn m p).1 = true → ∀ e, e < c + 1 → ClOk ((fun e => if e = c then (clA tn m p).2.2 else ds e) e) := by
      intro h e he
      show ClOk (if e = c then (clA tn m p).2.2 else ds e)
      by_cases ee : e = c
      · rw [if_pos ee]; exact cl_ok h
      · rw [if_neg ee]; exact hd e (by omega)
    split
    · rename_i h
      split
      · intro _
        exact ⟨by show c + 1 ≤ 4; omega, nd h⟩
      · split
        · intro e; exact absurd e Bool.false_ne_true
        · exact ih (c + 1) _ _ (by omega) (nd h)
    · intro e; exact absurd e Bool.false_ne_true

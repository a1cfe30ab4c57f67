abbrev AS : Type := Nat → Nat → Nat → Int32
def U (A : AS) (x i k : Nat) (v : Int32) : AS := fun y j l => if y = x ∧ j = i ∧ l = k then v else A y j l
theorem U_at (A : AS) (x i k : Nat) (v : Int32) (y j l : Nat) : U A x i k v y j l = if y = x ∧ j = i ∧ l = k then v else A y j l := rfl
def fl : Nat → Nat → Nat → Nat
  | 0, _, k => k
  | 1, a, w => 24 + 24 * a + w
  | 2, q, k => 216 + 3 * q + k
  | 3, i, k => 234 + 3 * i + k
  | 4, i, k => 306 + 3 * i + k
  | 5, i, k => 321 + 3 * i + k
  | 6, i, k => 345 + 2 * i + k
  | _ + 7, i, k => 355 + 2 * i + k
def okA : Nat → Nat → Nat → Prop
  | 0, i, k => i = 0 ∧ k < 24
  | 1, a, w => a < 8 ∧ w < 24
  | 2, q, k => q < 6 ∧ k < 3
  | 3, i, k => i < 24 ∧ k < 3
  | 4, i, k => i < 5 ∧ k < 3
  | 5, i, k => i < 8 ∧ k < 3
  | 6, i, k => i < 5 ∧ k < 2
  | x + 7, i, k => x = 0 ∧ i < 8 ∧ k < 2
def Ab (S : Nat → Int32) (A : AS) : Prop := ∀ x i k, okA x i k → S (fl x i k) = A x i k
theorem fl_inj {x i k y j l : Nat} (h : okA x i k) (h2 : okA y j l) (e : fl x i k = fl y j l) : x = y ∧ i = j ∧ k = l := by
  match x, y, h, h2, e with
  | 0, 0, h, h2, e | 0, 1, h, h2, e | 0, 2, h, h2, e | 0, 3, h, h2, e | 0, 4, h, h2, e | 0, 5, h, h2, e | 0, 6, h, h2, e | 0, y + 7, h, h2, e
  | 1, 0, h, h2, e | 1, 1, h, h2, e | 1, 2, h, h2, e | 1, 3, h, h2, e | 1, 4, h, h2, e | 1, 5, h, h2, e | 1, 6, h, h2, e | 1, y + 7, h, h2, e
  | 2, 0, h, h2, e | 2, 1, h, h2, e | 2, 2, h, h2, e | 2, 3, h, h2, e | 2, 4, h, h2, e | 2, 5, h, h2, e | 2, 6, h, h2, e | 2, y + 7, h, h2, e
  | 3, 0, h, h2, e | 3, 1, h, h2, e | 3, 2, h, h2, e | 3, 3, h, h2, e | 3, 4, h, h2, e | 3, 5, h, h2, e | 3, 6, h, h2, e | 3, y + 7, h, h2, e
  | 4, 0, h, h2, e | 4, 1, h, h2, e | 4, 2, h, h2, e | 4, 3, h, h2, e | 4, 4, h, h2, e | 4, 5, h, h2, e | 4, 6, h, h2, e | 4, y + 7, h, h2, e
  | 5, 0, h, h2, e | 5, 1, h, h2, e | 5, 2, h, h2, e | 5, 3, h, h2, e | 5, 4, h, h2, e | 5, 5, h, h2, e | 5, 6, h, h2, e | 5, y + 7, h, h2, e
  | 6, 0, h, h2, e | 6, 1, h, h2, e | 6, 2, h, h2, e | 6, 3, h, h2, e | 6, 4, h, h2, e | 6, 5, h, h2, e | 6, 6, h, h2, e | 6, y + 7, h, h2, e
  | x + 7, 0, h, h2, e | x + 7, 1, h, h2, e | x + 7, 2, h, h2, e | x + 7, 3, h, h2, e | x + 7, 4, h, h2, e | x + 7, 5, h, h2, e | x + 7, 6, h, h2, e | x + 7, y + 7, h, h2, e =>
    simp only [okA, fl] at h h2 e
    omega
theorem Ab.up {S : Nat → Int32} {A : AS} (h : Ab S A) {x i k : Nat} (o : okA x i k) (v : Int32) : Ab (upd S (fl x i k) v) (U A x i k v) := by
  intro y j l o2
  rw [U_at, upd_at]
  by_cases c : fl y j l = fl x i k
  · have := fl_inj o2 o c
    simp [c, this]
  · rw [if_neg c, if_neg (fun q => c (by rw [q.1, q.2.1, q.2.2])), h y j l o2]
theorem Ab.gl {S : Nat → Int32} {A : AS} (h : Ab S A) {k : Nat} (hk : k < 24) : S k = A 0 0 k := h 0 0 k ⟨rfl, hk⟩
def lp {α : Type} (f : Nat → α → α) : Nat → Nat → α → α
  | 0, _, x => x
  | k + 1, i, x => lp f k (i + 1) (f i x)
theorem nle {a b : Nat} (ha : a < 2 ^ 31) (hb : b < 2 ^ 31) : (nI a ≤ nI b) ↔ a ≤ b := by
  rw [i_le, nI_toInt ha, nI_toInt hb]; omega
theorem nlt {a b : Nat} (ha : a < 2 ^ 31) (hb : b < 2 ^ 31) : (nI a < nI b) ↔ a < b := by
  rw [i_lt, nI_toInt ha, nI_toInt hb]; omega
theorem nI_s (i : Nat) : nI i + 1 = nI (i + 1) := nI_add i 1
theorem m_at {v : Lf} {S : Nat → Int32} {A : AS} (h : Ab S A) {a : Nat} (w : Nat) {Q : Int32 → Prop} (ha : a < 8) (hw : w < 24) (q : Q (A 1 a w)) : pX10_at (sa v 1 S) (nI a) (@OfNat.ofNat Int32 w _) Q := by
  refine (w_at (w := w) (sa v 1 S) (by omega) Q).mpr ?_
  rw [sa_self]
  exact (h 1 a w ⟨ha, hw⟩) ▸ q
theorem m_puts {v : Lf} {S : Nat → Int32} {A : AS} (h : Ab S A) {a : Nat} (w : Nat) {x : Int32} {Q : Lf → Prop} (ha : a < 8) (hw : w < 24) (q : ∀ S', Ab S' (U A 1 a w x) → Q (sa v 1 S')) : pX10_puts (sa v 1 S) (nI a) (@OfNat.ofNat Int32 w _) x Q := by
  refine (w_puts (w := w) (sa v 1 S) (by omega) x Q).mpr ?_
  rw [sa_self, sa_sa]
  exact q _ (h.up (x := 1) ⟨ha, hw⟩ x)
theorem m_set {v : Lf} {S : Nat → Int32} {A : AS} (h : Ab S A) {p : Nat} {Q : Int32 → Prop} (hp : p < 6) (q : Q (A 2 p 0)) : pX10_setOf (sa v 1 S) (nI p) Q := by
  refine (w_setOf (sa v 1 S) (by omega) Q).mpr ?_
  rw [sa_self]
  exact (h 2 p 0 ⟨hp, by decide⟩) ▸ q
theorem st_sa1 (v : Lf) (S : Nat → Int32) (i : Nat) (x : Int32) : st (sa v 1 S) 1 i x = sa v 1 (upd S i x) := by rw [st_sa, sa_self, sa_sa]
theorem m_greenFor {v : Lf} {S : Nat → Int32} {A : AS} (h : Ab S A) {a : Nat} {Q : Int32 → Prop} (ha : a < 8) (q : Q (A 0 0 3 - A 1 a 7)) : pX10_greenFor (sa v 1 S) (nI a) Q := by
  unfold pX10_greenFor
  refine m_at h 7 ha (by decide) ?_
  rw [sa_self, h.gl (by decide)]
  exact q
def mostGo (A : AS) (i : Nat) : Int32 := if A 1 i 0 = 0 then 1 - ((A 0 0 3 - A 1 i 7) - (A 0 0 3 - A 1 i 7) / 2 * 2) else if A 1 i 0 = 1 then 99 else if A 1 i 0 = 2 then (if (A 0 0 3 - A 1 i 7) - (A 0 0 3 - A 1 i 7) / 4 * 4 = 0 then 1 else 0) else 1
def go1 (i : Nat) (A : AS) (n : Int32) : AS := U (U (U A 1 i 5 (A 1 i 5 - n)) 1 i 10 (A 1 i 10 + n)) 0 0 8 (A 0 0 8 + n)
def goS (i : Nat) (A : AS) : AS := if A 1 i 6 = 0 then A else go1 i A (if A 1 i 5 < mostGo A i then A 1 i 5 else mostGo A i)
theorem m_going {v : Lf} {N : Nat} (hN : N ≤ 8) {Q : Lf → Prop} : ∀ (k i : Nat) {S : Nat → Int32} {A : AS}, i + k = N → A 0 0 13 = nI N → Ab S A → (∀ S', Ab S' (lp goS k i A) → Q (sa v 1 S')) → pX10_going_L2 Q (k + 1) (sa v 1 S) (nI i) := by
  intro k
  induction k with
  | zero =>
    intro i S A hi hm h q
    unfold pX10_going_L2
    rw [sa_self, h.gl (by decide), hm]
    refine ⟨fun _ => q S h, fun c => absurd ((nle (by omega) (by omega)).mpr (by omega)) c⟩
  | succ k ih =>
    intro i S A hi hm h q
    unfold pX10_going_L2
    rw [sa_self, h.gl (by decide), hm]
    refine ⟨fun c => absurd ((nle (by omega) (by omega)).mp c) (by omega), fun _ => ?_⟩
    refine m_at h 6 (by omega) (by decide) ⟨fun c => ?_, fun c => ?_⟩
    · have step : ∀ t, mostGo A i = t → pX10_going_J81 Q (fun v x1 => pX10_going_L2 Q (k + 1) v x1) (sa v 1 S) (nI i) t := by
        intro t ht
        unfold pX10_going_J81
        refine m_at h 5 (by omega) (by decide) (m_at h 5 (by omega) (by decide) (m_puts h 5 (by omega) (by decide) (fun S1 h1 => m_at h1 10 (by omega) (by decide) (m_puts h1 10 (by omega) (by decide) (fun S2 h2 => ?_)))))
        unfold pX10_going_J140
        rw [sa_self, st_sa1, h2.gl (by decide), nI_s]
        refine ih (i + 1) (by omega) ?_ (h2.up (x := 0) (i := 0) (k := 8) ⟨rfl, by decide⟩ _) ?_
        · simp [U_at, hm]
        · simp only [U_at]
          simp only [lp, goS, if_neg c, go1, ht] at q
          simpa using q
      refine m_at h 0 (by omega) (by decide) (m_greenFor h (by omega) ?_)
      refine ⟨fun c1 => ⟨fun c2 => ⟨fun c3 => step _ ?_, fun c3 => ⟨fun c4 => step _ ?_, fun c4 => step _ ?_⟩⟩, fun c2 => step _ ?_⟩, fun c1 => step _ ?_⟩
      all_goals simp [mostGo, *]
    · unfold pX10_going_J140
      rw [nI_s]
      refine ih (i + 1) (by omega) hm h ?_
      simpa only [lp, goS, if_pos c] using q

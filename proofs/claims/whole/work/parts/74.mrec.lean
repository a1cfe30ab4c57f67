def comesOnA (p : Nat) (A : AS) : AS := U (U A 0 0 4 (nI p)) 2 p 2 (A 2 p 2 + 1)
theorem ix216 (p k : Nat) : (216 : Int32) + (3 : Int32) * nI p + nI k = nI (216 + 3 * p + k) := by
  show nI 216 + nI 3 * nI p + nI k = _
  rw [pk_mul, nI_add, nI_add]
theorem ix234 (p k : Nat) : (234 : Int32) + (3 : Int32) * nI p + nI k = nI (234 + 3 * p + k) := by
  show nI 234 + nI 3 * nI p + nI k = _
  rw [pk_mul, nI_add, nI_add]
theorem ix234z (p : Nat) : (234 : Int32) + (3 : Int32) * nI p = nI (234 + 3 * p) := by
  show nI 234 + nI 3 * nI p = _
  rw [pk_mul, nI_add]
theorem m_comesOn {v : Lf} {S : Nat → Int32} {A : AS} (h : Ab S A) {p : Nat} (hp : p < 6) {Q : Lf → Prop} (q : ∀ S', Ab S' (comesOnA p A) → Q (sa v 1 S')) : pX10_comesOn (sa v 1 S) (nI p) Q := by
  unfold pX10_comesOn
  rw [show (216 : Int32) + (3 : Int32) * nI p + (2 : Int32) = nI (216 + 3 * p + 2) from ix216 p 2, nI_clamp (by omega), st_sa1, st_sa1, sa_self]
  refine ⟨vp_in_nI (by omega) (by decide), vp_in_nI (by omega) (by decide), ?_⟩
  have h1 := h.ug (k := 4) (by decide) (nI p)
  have e : upd S 4 (nI p) (216 + 3 * p + 2) = A 2 p 2 := (h1 2 p 2 ⟨hp, by decide⟩).trans (by simp [U_at])
  rw [e]
  exact q _ (h1.up (x := 2) (i := p) (k := 2) ⟨hp, by decide⟩ _)
def shR (A : AS) : AS := fun x i k => if x = 3 ∧ i < 23 then A 3 (i + 1) k else A x i k
theorem Ab.sh {S S' : Nat → Int32} {A : AS} (h : Ab S A) (e : ∀ x, S' x = if 234 ≤ x ∧ x < 303 then S (x + 3) else S x) : Ab S' (shR A) := by
  intro x i k o
  by_cases c : x = 3 ∧ i < 23
  · obtain ⟨rfl, hi⟩ := c
    have o := o
    rw [show fl 3 i k = 234 + 3 * i + k from rfl, e]
    simp only [okA] at o
    have := h 3 (i + 1) k ⟨by omega, o.2⟩
    simp only [fl] at this
    rw [if_pos (by omega)]
    simp only [shR, hi, and_self, if_true]
    rw [← this]
    congr 1
    omega
  · rw [e, shR, if_neg c, ← h x i k o, if_neg]
    intro r
    apply c
    match x, o, r with
    | 0, o, r | 1, o, r | 2, o, r | 3, o, r | 4, o, r | 5, o, r | 6, o, r | x + 7, o, r =>
      simp only [okA, fl] at o r
      omega
def recW (a : Nat) (b e : Int32) (B : AS) : AS := U (U (U (U B 3 (B 0 0 15).toNatClampNeg 0 (nI a)) 3 (B 0 0 15).toNatClampNeg 1 b) 3 (B 0 0 15).toNatClampNeg 2 e) 0 0 15 (B 0 0 15 + 1)
def recS (a : Nat) (b e : Int32) (A : AS) : AS := recW a b e (if A 0 0 15 = 24 then U (shR A) 0 0 15 (A 0 0 15 - 1) else A)
theorem m_rec {v : Lf} {S : Nat → Int32} {B : AS} (h : Ab S B) {m a : Nat} (hm : B 0 0 15 = nI m) (hm2 : m < 24) (ha : a < 8) {x1 : Int32} {Q : Lf → Prop} {K : Lf → Int32 → Prop} (q : ∀ S', Ab S' (recW a (B 1 a 7) (B 0 0 3) B) → K (sa v 1 S') (nI (a + 1))) : pX10_changes_J118 x1 Q K (sa v 1 S) (nI a) := by
  unfold pX10_changes_J118 pX10_changes_J179
  rw [h.gv (v := v) (k := 15) (by decide) hm, ix234z, show nI (234 + 3 * m) + 1 = nI (234 + 3 * m + 1) from nI_add _ 1, show nI (234 + 3 * m) + 2 = nI (234 + 3 * m + 2) from nI_add _ 2, nI_clamp (by omega), nI_clamp (by omega), nI_clamp (by omega), nI_s]
  simp only [st_sa1, sa_self]
  have h1 := h.up (x := 3) (i := m) (k := 0) ⟨hm2, by decide⟩ (nI a)
  refine ⟨vp_in_nI (by omega) (by decide), m_at h1 7 ha (by decide) ⟨vp_in_nI (by omega) (by decide), vp_in_nI (by omega) (by decide), ?_⟩⟩
  have e0 : U B 3 m 0 (nI a) 1 a 7 = B 1 a 7 := by simp [U_at]
  rw [e0]
  have h2 := h1.up (x := 3) (i := m) (k := 1) ⟨hm2, by decide⟩ (B 1 a 7)
  rw [show upd (upd S (234 + 3 * m) (nI a)) (234 + 3 * m + 1) (B 1 a 7) 3 = B 0 0 3 from (h2.gl (k := 3) (by decide)).trans (by simp [U_at])]
  have h3 := h2.up (x := 3) (i := m) (k := 2) ⟨hm2, by decide⟩ (B 0 0 3)
  rw [show upd (upd (upd S (234 + 3 * m) (nI a)) (234 + 3 * m + 1) (B 1 a 7)) (234 + 3 * m + 2) (B 0 0 3) 15 = nI m from (h3.gl (k := 15) (by decide)).trans (by simp [U_at, hm])]
  have h4 := h3.ug (k := 15) (by decide) (nI m + 1)
  refine q _ ?_
  unfold recW
  rw [hm, nI_clamp (by omega)]
  exact h4
theorem m_shift {v : Lf} {x1 : Int32} {Q : Lf → Prop} {K : Lf → Int32 → Prop} {x2 : Int32} : ∀ (k i : Nat) (S : Nat → Int32), i + k = 69 → (∀ S', (∀ x, S' x = if 234 + i ≤ x ∧ x < 303 then S (x + 3) else S x) → pX10_changes_J118 x1 Q K (sa v 1 (upd S' 15 (S' 15 - 1))) x2) → pX10_changes_L73 x1 Q K (k + 1) (sa v 1 S) x2 (nI i) := by
  intro k
  induction k with
  | zero =>
    intro i S hi q
    refine hdE (N := 69) rfl (by omega) ?_
    rw [st_sa1, sa_self]
    refine q S (fun x => ?_)
    rw [if_neg (by omega)]
  | succ k ih =>
    intro i S hi q
    refine hdG (N := 69) rfl (by omega) (by omega) ?_
    rw [show (234 : Int32) + nI i = nI (234 + i) from nI_add 234 i, show nI (234 + i) + 3 = nI (234 + i + 3) from nI_add _ 3, nI_clamp (by omega), nI_clamp (by omega), st_sa1, sa_self, nI_s]
    refine ⟨vp_in_nI (by omega) (by decide), vp_in_nI (by omega) (by decide), ih (i + 1) _ (by omega) (fun S' e => q S' (fun x => ?_))⟩
    rw [e, upd_at, upd_at]
    by_cases c : x = 234 + i
    · subst c
      rw [if_neg (by omega), if_pos rfl, if_pos (by omega)]
    · rw [if_neg (show ¬ x = 234 + i from c)]
      by_cases c2 : 234 + i ≤ x ∧ x < 303
      · rw [if_pos c2, if_pos (by omega), if_neg (by omega)]
      · rw [if_neg c2, if_neg (by omega)]
def chS (p i : Nat) (A : AS) : AS := if A 1 i 6 = 0 then A else if bt (A 2 p 0) i = true then A else recS i (A 1 i 7) (A 0 0 3) (U (U A 1 i 6 0) 1 i 8 (A 0 0 3))
def changesA (N p : Nat) (A : AS) : AS := comesOnA p (lp (chS p) N 0 A)
def rOk (A : AS) : Prop := ∃ m, m ≤ 24 ∧ A 0 0 15 = nI m
theorem m_changes {v : Lf} {N p : Nat} (hN : N ≤ 8) (hp : p < 6) {Q : Lf → Prop} : ∀ (k i : Nat) {S : Nat → Int32} {A : AS}, i + k = N → A 0 0 13 = nI N → rOk A → Ab S A → (∀ S', Ab S' (comesOnA p (lp (chS p) k i A)) → Q (sa v 1 S')) → pX10_changes_L2 (nI p) Q (k + 1) (sa v 1 S) (nI i) := by
  intro k
  induction k with
  | zero =>
    intro i S A hi hm hr h q
    exact hdE (h.gv (by decide) hm) (by omega) (m_comesOn h hp q)
  | succ k ih =>
    intro i S A hi hm hr h q
    refine hdG (h.gv (by decide) hm) (by omega) (by omega) (m_at h 6 (by omega) (by decide) ⟨fun c => ?_, fun c => m_set h hp (m_has (by omega) (fun c1 => ⟨fun c => absurd c (by decide), fun _ => ?_⟩) (fun c1 => ⟨fun _ => ?_, fun c => absurd rfl c⟩))⟩)
    · unfold pX10_changes_J179
      rw [nI_s]
      refine ih (i + 1) (by omega) hm hr h ?_
      simpa only [lp, chS, if_pos c] using q
    · unfold pX10_changes_J179
      rw [nI_s]
      refine ih (i + 1) (by omega) hm hr h ?_
      simpa only [lp, chS, if_neg c, if_pos c1] using q
    · refine m_puts h 6 (by omega) (by decide) (fun S1 h1 => ?_)
      rw [h1.gw (by decide)]
      refine m_puts h1 8 (by omega) (by decide) (fun S2 h2 => ?_)
      simp only [lp, chS, if_neg c, if_neg c1] at q
      obtain ⟨m, hm2, hr⟩ := hr
      rw [h2.gw (k := 15) (by decide)]
      have e15 : U (U A 1 i 6 0) 1 i 8 (U A 1 i 6 0 0 0 3) 0 0 15 = A 0 0 15 := by simp [U_at]
      have e3 : U A 1 i 6 0 0 0 3 = A 0 0 3 := by simp [U_at]
      rw [e15]
      rw [e3] at h2
      refine ⟨fun c2 => ?_, fun c2 => ⟨70, m_shift 69 0 S2 (by omega) (fun S3 e => ?_)⟩⟩
      · have hm3 : m < 24 := by
          rcases Nat.lt_or_ge m 24 with e | e
          · exact e
          · exact absurd (hr.trans (by rw [show m = 24 by omega]; rfl)) c2
        refine m_rec h2 (m := m) (by simp [U_at, hr]) hm3 (by omega) (fun S4 h4 => ?_)
        refine ih (i + 1) (by omega) (by simp [recW, U_at, hm]) ⟨m + 1, by omega, by simp [recW, U_at, hr, nI_s]⟩ h4 ?_
        have e : recW i (U (U A 1 i 6 0) 1 i 8 (A 0 0 3) 1 i 7) (U (U A 1 i 6 0) 1 i 8 (A 0 0 3) 0 0 3) (U (U A 1 i 6 0) 1 i 8 (A 0 0 3)) = recS i (A 1 i 7) (A 0 0 3) (U (U A 1 i 6 0) 1 i 8 (A 0 0 3)) := by
          unfold recS
          rw [show U (U A 1 i 6 0) 1 i 8 (A 0 0 3) 0 0 15 = A 0 0 15 from by simp [U_at], if_neg c2]
          simp [U_at]
        rw [e]
        exact q
      · have h3 : Ab S3 (shR (U (U A 1 i 6 0) 1 i 8 (A 0 0 3))) := h2.sh (fun x => e x)
        have h3b := h3.ug (k := 15) (by decide) (A 0 0 15 - 1)
        rw [h3.gl (k := 15) (by decide)]
        have e15 : shR (U (U A 1 i 6 0) 1 i 8 (A 0 0 3)) 0 0 15 = A 0 0 15 := by simp [shR, U_at]
        rw [e15]
        refine m_rec h3b (m := 23) (by simp [U_at, c2] <;> rfl) (by decide) (by omega) (fun S4 h4 => ?_)
        refine ih (i + 1) (by omega) (by simp [recW, U_at, shR, hm]) ⟨24, by omega, by simp [recW, U_at, c2] <;> rfl⟩ h4 ?_
        have e : recW i (U (shR (U (U A 1 i 6 0) 1 i 8 (A 0 0 3))) 0 0 15 (A 0 0 15 - 1) 1 i 7) (U (shR (U (U A 1 i 6 0) 1 i 8 (A 0 0 3))) 0 0 15 (A 0 0 15 - 1) 0 0 3) (U (shR (U (U A 1 i 6 0) 1 i 8 (A 0 0 3))) 0 0 15 (A 0 0 15 - 1)) = recS i (A 1 i 7) (A 0 0 3) (U (U A 1 i 6 0) 1 i 8 (A 0 0 3)) := by
          unfold recS
          rw [show U (U A 1 i 6 0) 1 i 8 (A 0 0 3) 0 0 15 = A 0 0 15 from by simp [U_at], if_pos c2]
          simp [U_at, shR]
        rw [e]
        exact q

theorem m_copies {fA : Nat → Int32} {Q : (Nat → Int32) → Prop} : ∀ (k i : Nat) (fB : Nat → Int32), i + k = 372 → (∀ x, x < i → fB x = fA x) → (∀ g : Nat → Int32, (∀ x, x < 372 → g x = fA x) → Q g) → pX10_copies_L2 372 372 fA Q (k + 1) fB (nI i) := by
  intro k
  induction k with
  | zero =>
    intro i fB hi h q
    exact hdE (N := 372) rfl (by omega) (q fB (fun x hx => h x (by omega)))
  | succ k ih =>
    intro i fB hi h q
    refine hdG (N := 372) rfl (by omega) (by omega) ?_
    rw [nI_clamp (by omega), nI_s]
    refine ⟨vp_in_nI (by omega) (by decide), vp_in_nI (by omega) (by decide), ih (i + 1) _ (by omega) (fun x hx => ?_) q⟩
    rw [upd_at]
    by_cases c : x = i
    · rw [if_pos c, c]
    · rw [if_neg c]; exact h x (by omega)
theorem m_copy {fA fB : Nat → Int32} {Q : (Nat → Int32) → Prop} (q : ∀ g : Nat → Int32, (∀ x, x < 372 → g x = fA x) → Q g) : pX10_copies 372 372 fA fB Q :=
  ⟨373, m_copies 372 0 fB (by omega) (fun x hx => by omega) q⟩
theorem fl_lt {x i k : Nat} (h : okA x i k) : fl x i k < 372 := by
  match x, h with
  | 0, h | 1, h | 2, h | 3, h | 4, h | 5, h | 6, h | x + 7, h =>
    simp only [okA, fl] at h ⊢
    omega
theorem Ab.agree {S S' : Nat → Int32} {A : AS} (h : Ab S A) (e : ∀ x, x < 372 → S' x = S x) : Ab S' A := fun x i k o => (e _ (fl_lt o)).trans (h x i k o)
theorem m_thinks {v : Lf} {Q : Lf → Prop} (q : ∀ g : Nat → Int32, (∀ x, x < 372 → g x = v 1 x) → Q (sa v 3 g)) : pX10_thinks v Q := m_copy q
theorem m_forgets {v : Lf} {Q : Lf → Prop} (q : ∀ g : Nat → Int32, (∀ x, x < 372 → g x = v 3 x) → Q (sa v 1 g)) : pX10_forgets v Q := m_copy q
def Ag (n : Nat) (f g : Nat → Int32) : Prop := ∀ x, x < n → f x = g x
theorem cpy_ag {n : Nat} {f g : Nat → Int32} {a b m : Nat} (ha : a = 0) (hb : b = 0) (hm : m = n) : Ag n (va_cpy f g a b m) f := by
  subst ha hb hm
  intro x hx
  rw [pk_cpy_in (by omega) (by omega)]
  congr 1
  omega
theorem c_copyS {v o : Lf} {Q : Lf → Prop} (q : ∀ s : Lf, s 0 0 = o 0 0 → Ag 32 (s 1) (o 1) → (∀ k, 2 ≤ k → k < 8 → Ag 8 (s k) (o k)) → Q s) : pX5_copyFrom v o Q := by
  unfold pX5_copyFrom
  have z : (0 : Int32).toNatClampNeg = 0 := by decide
  have e8 : (8 : Int32).toNatClampNeg = 8 := by decide
  have e32 : (32 : Int32).toNatClampNeg = 32 := by decide
  refine q _ ?_ ?_ ?_
  · simp [sa, st, upd]
  · intro x hx
    simp only [sa]
    simp only [Nat.reduceEqDiff, if_false, if_true]
    exact cpy_ag z z e32 x hx
  · intro k h1 h2 x hx
    rcases (show k = 2 ∨ k = 3 ∨ k = 4 ∨ k = 5 ∨ k = 6 ∨ k = 7 by omega) with rfl | rfl | rfl | rfl | rfl | rfl
    all_goals
      simp only [sa]
      simp only [Nat.reduceEqDiff, if_false, if_true]
      exact cpy_ag z z e8 x hx
theorem c_copyJ {v o : Lf} {Q : Lf → Prop} (q : ∀ s : Lf, s 0 0 = o 0 0 → s 0 1 = o 0 1 → Ag 8 (s 1) (o 1) → Ag 8 (s 2) (o 2) → Ag 64 (s 3) (o 3) → Ag 64 (s 4) (o 4) → Ag 64 (s 5) (o 5) → Q s) : pX1_copyFrom v o Q := by
  unfold pX1_copyFrom
  have z : (0 : Int32).toNatClampNeg = 0 := by decide
  have e8 : (8 : Int32).toNatClampNeg = 8 := by decide
  have e64 : (64 : Int32).toNatClampNeg = 64 := by decide
  refine q _ ?_ ?_ ?_ ?_ ?_ ?_ ?_
  · simp [sa, st, upd]
  · simp [sa, st, upd]
  all_goals
    intro x hx
    simp only [sa]
    simp only [Nat.reduceEqDiff, if_false, if_true]
    first | exact cpy_ag z z e8 x hx | exact cpy_ag z z e64 x hx
theorem c_copyP {v o : Lf} {Q : Lf → Prop} (q : ∀ s : Lf, s 0 0 = o 0 0 → Ag 6 (s 1) (o 1) → Ag 6 (s 2) (o 2) → Ag 6 (s 3) (o 3) → Q s) : pX2_copyFrom v o Q := by
  unfold pX2_copyFrom
  have z : (0 : Int32).toNatClampNeg = 0 := by decide
  have e6 : (6 : Int32).toNatClampNeg = 6 := by decide
  refine q _ ?_ ?_ ?_ ?_
  · simp [sa, st, upd]
  all_goals
    intro x hx
    simp only [sa]
    simp only [Nat.reduceEqDiff, if_false, if_true]
    exact cpy_ag z z e6 x hx
theorem c_copyR {n : Nat} (hn : n < 2 ^ 30) {v o : Lf} {Q : Lf → Prop} (q : ∀ s : Lf, s 0 0 = o 0 0 → s 0 1 = v 0 1 → Ag n (s 1) (o 1) → Q s) : pX4_copyFrom n n v o Q := by
  unfold pX4_copyFrom
  have z : (0 : Int32).toNatClampNeg = 0 := by decide
  have e : (if nI n < nI n then nI n else nI n) = nI n := by split <;> rfl
  rw [e, nI_clamp (by omega), z]
  refine ⟨⟨by decide, by decide, nI_pos (by omega), by omega, by omega⟩, q _ ?_ ?_ ?_⟩
  · simp [sa, st, upd]
  · simp [sa, st, upd]
  · intro x hx
    simp only [sa]
    simp only [if_true]
    exact cpy_ag rfl rfl rfl x hx
theorem c_copyW {v o : Lf} {Q : Lf → Prop} (q : ∀ s : Lf, s 0 0 = o 0 0 → s 0 1 = o 0 1 → Ag 15 (s 1) (o 1) → Q s) : pX7_copyFrom v o Q := by
  unfold pX7_copyFrom
  have z : (0 : Int32).toNatClampNeg = 0 := by decide
  have e15 : (15 : Int32).toNatClampNeg = 15 := by decide
  refine q _ ?_ ?_ ?_
  · simp [sa, st, upd]
  · simp [sa, st, upd]
  · intro x hx
    simp only [sa]
    simp only [if_true]
    exact cpy_ag z z e15 x hx
theorem narF {x : Int32} (h : x = 0 ∨ x = 1) : narrow .boolean (.int x) = .int x ∧ fits .boolean (.int x) = true := by
  rcases h with rfl | rfl <;> exact ⟨rfl, rfl⟩
theorem c_copyC {t N K : Nat} {vO oj os op or' v j s p r : Lf} {A : AS} (h : CoR N K vO oj os op or' A) (hI : CoI t N K A) (ht : TbR N oj A) (hr : r 0 1 = 24) {Q : Lf → Lf → Lf → Lf → Lf → Prop} (q : ∀ c' j' s' p' r', CoR N K c' j' s' p' r' A → TbR N j' A → (SpR N oj os → SpR N j' s') → Q c' j' s' p' r') : pX0_copyFrom v vO oj os op or' j s p r Q := by
  have hN := hI.hN
  have hK := hI.hK
  unfold pX0_copyFrom
  refine c_copyJ (fun j' j0 j1 j2 j3 j4 j5 j6 => c_copyS (fun s' s0 s1 s2 => c_copyP (fun p' p0 p1 p2 p3 => c_copyR (n := 72) (by decide) (fun r' r0 r1 r2 => ?_))))
  refine ⟨narF ?_, q _ _ _ _ _ ⟨?_, ?_, ?_, ?_, ?_⟩ ⟨?_, ?_⟩ (fun sp => ?_)⟩
  · rw [h.cf.st]; exact hI.st.imp id (fun e => e.1)
  · refine ⟨?_, ?_, ?_, ?_, ?_, ?_, ?_, ?_, ?_, ?_, ?_, ?_⟩ <;> simp [st_at, h.cf.st, h.cf.sec, h.cf.cur, h.cf.cut, h.cf.em, h.cf.wt, h.cf.sv, h.cf.ls, h.cf.sd, h.cf.cy, h.cf.off, h.cf.spl]
  · refine ⟨j0.trans h.jr.n, j1.trans h.jr.sf, fun a ha => (j2 a (by omega)).trans (h.jr.kind a ha), fun a ha => (j3 a (by omega)).trans (h.jr.len a ha), fun a ha i hi l => (j4 _ (by omega)).trans (h.jr.cell a ha i hi l)⟩
  · refine ⟨fun a ha k hk => (s1 _ (by omega)).trans (h.sr.ru a ha k hk), fun a ha => (s2 2 (by decide) (by decide) a (by omega)).trans (h.sr.q a ha), fun a ha => ?_, fun a ha => (s2 5 (by decide) (by decide) a (by omega)).trans (h.sr.be a ha), fun a ha => (s2 6 (by decide) (by decide) a (by omega)).trans (h.sr.en a ha), fun a ha => (s2 3 (by decide) (by decide) a (by omega)).trans (h.sr.se a ha), fun a ha => (s2 4 (by decide) (by decide) a (by omega)).trans (h.sr.go a ha), fun a ha => (s2 7 (by decide) (by decide) a (by omega)).trans (h.sr.ti a ha), fun a ha ha2 => (s2 2 (by decide) (by decide) a (by omega)).trans (h.sr.q0 a ha ha2), fun a ha ha2 => ?_⟩
    · rw [s0]; exact h.sr.g a ha
    · rw [s0]; exact h.sr.g0 a ha ha2
  · exact ⟨p0.trans h.pr.n, fun a ha => (p1 a (by omega)).trans (h.pr.set a ha), fun a ha => (p2 a (by omega)).trans (h.pr.force a ha), fun a ha => (p3 a (by omega)).trans (h.pr.com a ha), fun a ha ha2 => (p3 a (by omega)).trans (h.pr.c0 a ha ha2)⟩
  · exact ⟨r0.trans h.rr.n, r1.trans hr, fun m hm e i hi k hk => (r2 _ (by omega)).trans (h.rr.at' m hm e i hi k hk)⟩
  · exact fun a b ha hb => (j6 _ (by omega)).trans (ht.nar a b ha hb)
  · exact fun a b ha hb hab => (j5 _ (by omega)).trans (ht.bare a b ha hb hab)
  · refine ⟨fun a ha ha2 => (j3 a (by omega)).trans (sp.len a ha ha2), fun a ha => (j6 _ (by omega)).trans (sp.dg a ha), fun a ha ha2 => ?_, fun a ha ha2 => ?_⟩
    · rw [s1 _ (by omega), s1 _ (by omega), s1 _ (by omega), s1 _ (by omega)]; exact sp.ru a ha ha2
    · rw [s2 3 (by decide) (by decide) a (by omega), s2 4 (by decide) (by decide) a (by omega), s2 5 (by decide) (by decide) a (by omega), s2 6 (by decide) (by decide) a (by omega), s2 7 (by decide) (by decide) a (by omega)]; exact sp.nv a ha ha2
theorem c_copyWo {B t N K : Nat} {A : AS} {c j s p r w g n q v1 v2 v3 v4 v5 v6 v7 v8 v9 : Lf} {S : Nat → Int32} (h : Wo B t N K A c j s p r w g n q S) (h5 : v5 0 1 = 24) (h7 : v7 0 1 = 8) (h8 : v8 0 1 = 5) (h9 : v9 0 1 = 8) {Q : Lf → Lf → Lf → Lf → Lf → Lf → Lf → Lf → Lf → Prop} (k : ∀ c' j' s' p' r' w' g' n' q', (∀ S', Ab S' A → Wo B t N K A c' j' s' p' r' w' g' n' q' S') → Q c' j' s' p' r' w' g' n' q') : pX8_copyFrom c j s p r w g n q v1 v2 v3 v4 v5 v6 v7 v8 v9 Q := by
  unfold pX8_copyFrom
  refine c_copyC h.co h.ci h.tb' h5 (fun c' j' s' p' r' co tb sp => c_copyW (fun w' w0 w1 w2 => c_copyR (n := 24) (by decide) (fun g' g0 g1 g2 => c_copyR (n := 15) (by decide) (fun n' n0 n1 n2 => c_copyR (n := 24) (by decide) (fun q' q0 q1 q2 => k _ _ _ _ _ _ _ _ _ (fun S' ab => ?_))))))
  refine ⟨ab, h.tb, co, h.ci, tb, fun e => sp (h.sp e), ⟨w0.trans h.wv.rd, w1.trans h.wv.n, ?_⟩, ⟨g0.trans h.gt.n, g1.trans h7, ?_⟩, ⟨n0.trans h.nt.n, n1.trans h8, ?_⟩, ⟨q0.trans h.pl.n, q1.trans h9, ?_⟩, h.z, h.bd⟩
  · obtain ⟨R, a, b, c, m, d, e, f⟩ := h.wv.rdok
    exact ⟨R, a, b, c, m, d, e, fun i hi => ⟨fun k hk => (w2 _ (by omega)).trans ((f i hi).1 k hk), (f i hi).2⟩⟩
  · obtain ⟨m, d, e, f⟩ := h.gt.row
    exact ⟨m, d, e, fun i hi => ⟨fun k hk => (g2 _ (by omega)).trans ((f i hi).1 k hk), (f i hi).2⟩⟩
  · obtain ⟨m, d, e, f⟩ := h.nt.row
    exact ⟨m, d, e, fun i hi k hk => (n2 _ (by omega)).trans (f i hi k hk)⟩
  · obtain ⟨m, d, e, f⟩ := h.pl.row
    exact ⟨m, d, e, fun i hi => ⟨fun k hk => (q2 _ (by omega)).trans ((f i hi).1 k hk), (f i hi).2⟩⟩

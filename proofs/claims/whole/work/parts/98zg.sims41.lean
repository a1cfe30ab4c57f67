def idA (A : AS) (x : Nat) : Int32 := if x < 24 then A 0 0 x else if x < 216 then A 1 ((x - 24) / 24) ((x - 24) % 24) else if x < 234 then A 2 ((x - 216) / 3) ((x - 216) % 3) else if x < 306 then A 3 ((x - 234) / 3) ((x - 234) % 3) else if x < 321 then A 4 ((x - 306) / 3) ((x - 306) % 3) else if x < 345 then A 5 ((x - 321) / 3) ((x - 321) % 3) else if x < 355 then A 6 ((x - 345) / 2) ((x - 345) % 2) else A 7 ((x - 355) / 2) ((x - 355) % 2)
theorem Ab.ex (A : AS) : Ab (idA A) A := by
  intro x i k o
  match x, o with
  | 0, o =>
    simp only [okA] at o
    show idA A k = A 0 i k
    unfold idA
    rw [if_pos o.2, o.1]
  | 1, o =>
    simp only [okA] at o
    show idA A (24 + 24 * i + k) = A 1 i k
    unfold idA
    rw [if_neg (by omega), if_pos (by omega), show (24 + 24 * i + k - 24) / 24 = i by omega, show (24 + 24 * i + k - 24) % 24 = k by omega]
  | 2, o =>
    simp only [okA] at o
    show idA A (216 + 3 * i + k) = A 2 i k
    unfold idA
    rw [if_neg (by omega), if_neg (by omega), if_pos (by omega), show (216 + 3 * i + k - 216) / 3 = i by omega, show (216 + 3 * i + k - 216) % 3 = k by omega]
  | 3, o =>
    simp only [okA] at o
    show idA A (234 + 3 * i + k) = A 3 i k
    unfold idA
    rw [if_neg (by omega), if_neg (by omega), if_neg (by omega), if_pos (by omega), show (234 + 3 * i + k - 234) / 3 = i by omega, show (234 + 3 * i + k - 234) % 3 = k by omega]
  | 4, o =>
    simp only [okA] at o
    show idA A (306 + 3 * i + k) = A 4 i k
    unfold idA
    rw [if_neg (by omega), if_neg (by omega), if_neg (by omega), if_neg (by omega), if_pos (by omega), show (306 + 3 * i + k - 306) / 3 = i by omega, show (306 + 3 * i + k - 306) % 3 = k by omega]
  | 5, o =>
    simp only [okA] at o
    show idA A (321 + 3 * i + k) = A 5 i k
    unfold idA
    rw [if_neg (by omega), if_neg (by omega), if_neg (by omega), if_neg (by omega), if_neg (by omega), if_pos (by omega), show (321 + 3 * i + k - 321) / 3 = i by omega, show (321 + 3 * i + k - 321) % 3 = k by omega]
  | 6, o =>
    simp only [okA] at o
    show idA A (345 + 2 * i + k) = A 6 i k
    unfold idA
    rw [if_neg (by omega), if_neg (by omega), if_neg (by omega), if_neg (by omega), if_neg (by omega), if_neg (by omega), if_pos (by omega), show (345 + 2 * i + k - 345) / 2 = i by omega, show (345 + 2 * i + k - 345) % 2 = k by omega]
  | x + 7, o =>
    simp only [okA] at o
    obtain ⟨rfl, o1, o2⟩ := o
    show idA A (355 + 2 * i + k) = A 7 i k
    unfold idA
    rw [if_neg (by omega), if_neg (by omega), if_neg (by omega), if_neg (by omega), if_neg (by omega), if_neg (by omega), if_neg (by omega), show (355 + 2 * i + k - 355) / 2 = i by omega, show (355 + 2 * i + k - 355) % 2 = k by omega]
theorem pr_le {tn : Nat → Nat} {m : Nat} : ∀ (k c p : Nat) (ds : Nat → Nat → Nat), p ≤ m → (prL tn m k c p ds).2.1 ≤ m + c + k := by
  intro k
  induction k with
  | zero => intro c p ds h; show p ≤ m + c + 0; omega
  | succ k ih =>
    intro c p ds h
    have l := cl_le (tn := tn) h
    rw [prL]
    split
    · split
      · show c + 1 ≤ m + c + (k + 1); omega
      · split
        · show (clA tn m p).2.1 ≤ m + c + (k + 1); omega
        · rename_i a b
          have := ih (c + 1) ((clA tn m p).2.1 + 1) (fun e => if e = c then (clA tn m p).2.2 else ds e) (by omega)
          omega
    · show (clA tn m p).2.1 ≤ m + c + (k + 1); omega
def gonS (N : Nat) (d : Nat → Nat) (i : Nat) (A : AS) : AS := gonA A N (nI (d (6 + i)))
def sgD (A : AS) (N : Nat) (d : Nat → Nat) : AS := sigA A N (nI (d 0)) (nI (d 1)) (nI (d 2)) (nI (d 3)) (nI (d 4))
def brA (A : AS) (N : Nat) (d : Nat → Nat) : AS := lp (gonS N d) (d 5) 0 (sgD A N d)
abbrev GP (t N K : Nat) (A : AS) (d : Nat → Nat) (i : Nat) (A' : AS) : Prop := (CoI t (N + 1) K A') ∧ (lenA A' N = i) ∧ (A' 1 N 11 = nI i) ∧ (∀ b, b ≠ N → A' 1 b = A 1 b) ∧ (∀ w, (w ≤ 10 ∨ w = 20) → A' 1 N w = sgW (nI (d 0)) (nI (d 1)) (nI (d 2)) (nI (d 3)) (nI (d 4)) w) ∧ (∀ k, k ≠ 13 → A' 0 0 k = A 0 0 k) ∧ (A' 0 0 13 = nI (N + 1)) ∧ (∀ x, 2 ≤ x → A' x = A x)
theorem GP.ci {t N K : Nat} {A : AS} {d : Nat → Nat} {i : Nat} {A' : AS} (h : GP t N K A d i A') : CoI t (N + 1) K A' := h.1
theorem GP.len {t N K : Nat} {A : AS} {d : Nat → Nat} {i : Nat} {A' : AS} (h : GP t N K A d i A') : lenA A' N = i := h.2.1
theorem GP.e11 {t N K : Nat} {A : AS} {d : Nat → Nat} {i : Nat} {A' : AS} (h : GP t N K A d i A') : A' 1 N 11 = nI i := h.2.2.1
theorem GP.o1 {t N K : Nat} {A : AS} {d : Nat → Nat} {i : Nat} {A' : AS} (h : GP t N K A d i A') : ∀ b, b ≠ N → A' 1 b = A 1 b := h.2.2.2.1
theorem GP.oN {t N K : Nat} {A : AS} {d : Nat → Nat} {i : Nat} {A' : AS} (h : GP t N K A d i A') : ∀ w, (w ≤ 10 ∨ w = 20) → A' 1 N w = sgW (nI (d 0)) (nI (d 1)) (nI (d 2)) (nI (d 3)) (nI (d 4)) w := h.2.2.2.2.1
theorem GP.og {t N K : Nat} {A : AS} {d : Nat → Nat} {i : Nat} {A' : AS} (h : GP t N K A d i A') : ∀ k, k ≠ 13 → A' 0 0 k = A 0 0 k := h.2.2.2.2.2.1
theorem GP.e13 {t N K : Nat} {A : AS} {d : Nat → Nat} {i : Nat} {A' : AS} (h : GP t N K A d i A') : A' 0 0 13 = nI (N + 1) := h.2.2.2.2.2.2.1
theorem GP.ox {t N K : Nat} {A : AS} {d : Nat → Nat} {i : Nat} {A' : AS} (h : GP t N K A d i A') : ∀ x, 2 ≤ x → A' x = A x := h.2.2.2.2.2.2.2
theorem GP.one {t N K : Nat} {A : AS} {d : Nat → Nat} (h : CoI t N K A) (hN : N < 8) (h0 : A 0 0 2 = 0) (co : ClOk d) : GP t N K A d 1 (gonS N d 0 (sgD A N d)) := by
  have c0 : qb (nI (d 6)) 63 := ⟨d 6, Nat.le_of_lt_succ (co.2.2.2.2 0 (by have := co.2.2.1; omega)), rfl⟩
  have ci := h.sig hN h0 (kd := nI (d 0)) ⟨d 0, co.1, rfl⟩ c0 (nI (d 1)) (nI (d 2)) (nI (d 3)) (nI (d 4))
  have e : gonS N d 0 (sgD A N d) = sg1 A N (nI (d 0)) (nI (d 1)) (nI (d 2)) (nI (d 3)) (nI (d 4)) (nI (d 6)) := rfl
  rw [e]
  refine ⟨ci, ?_, sg1_11 _ _ _ _ _ _ _ _, fun b hb => ?_, fun w hw => sg1_N _ _ _ _ _ _ _ _ (by omega) (by omega), fun k hk => sg1_g _ _ _ _ _ _ _ _ hk, sg1_13 _ _ _ _ _ _ _ _, fun x hx => sg1_o _ _ _ _ _ _ _ _ hx⟩
  · rw [lenA, sg1_11]; rfl
  · funext w; exact sg1_b _ _ _ _ _ _ _ _ hb w
theorem GP.next {t N K i : Nat} {A A' : AS} {d : Nat → Nat} (g : GP t N K A d i A') (hi : i < 8) (hd : d (6 + i) < 64) : GP t N K A d (i + 1) (gonS N d i A') := by
  have hl : lenA A' N < 8 := by rw [g.len]; exact hi
  unfold gonS
  refine ⟨g.ci.gon (by omega) hl ⟨d (6 + i), by omega, rfl⟩, by rw [gon_len _ hl, g.len], by rw [gon_11, g.len], fun b hb => ?_, fun w hw => ?_, fun k hk => ?_, ?_, fun x hx => ?_⟩
  · funext w
    rw [gon_w _ _ _ (fun e => hb e.1), g.o1 b hb]
  · rw [gon_w _ _ _ (by omega)]; exact g.oN w hw
  · rw [gon_o _ _ _ (by decide)]; exact g.og k hk
  · rw [gon_o _ _ _ (by decide)]; exact g.e13
  · rw [gon_o _ _ _ (by omega)]; exact g.ox x hx
theorem GP.all {t N K : Nat} {A : AS} {d : Nat → Nat} (co : ClOk d) : ∀ (k i : Nat) {A' : AS}, i + k = d 5 → GP t N K A d i A' → GP t N K A d (d 5) (lp (gonS N d) k i A') := by
  intro k
  induction k with
  | zero =>
    intro i A' hi g
    have e : i = d 5 := by omega
    subst e
    exact g
  | succ k ih =>
    intro i A' hi g
    have l8 := co.2.2.2.1
    exact ih (i + 1) (by omega) (g.next (by omega) (co.2.2.2.2 i (by omega)))
theorem c_rules {vx j : Lf} {c N : Nat} {d : Nat → Nat} (hc : c < 4) (hN : N < 8) (d5 : ∀ k, k < 4 → vx 5 (c * 4 + k) = nI (d (1 + k))) {s : Lf} {Q : Lf → Lf → Prop} (q : ∀ s', (∀ c x, ¬ (c = 1 ∧ x / 4 = N) → s' c x = s c x) → (∀ e, e < 4 → s' 1 (N * 4 + e) = nI (d (1 + e))) → Q j s') : ∀ (k i : Nat) (s' : Lf), i + k = 4 → (∀ c x, ¬ (c = 1 ∧ x / 4 = N) → s' c x = s c x) → (∀ e, e < i → s' 1 (N * 4 + e) = nI (d (1 + e))) → pX9_bringClause_L75 vx (nI c) Q (k + 1) j s' (nI N) (nI i) := by
  have ix : ∀ a b : Nat, nI a * (4 : Int32) + nI b = nI (a * 4 + b) := fun a b => by
    show nI a * nI 4 + nI b = _
    rw [pk_mul, nI_add]
  intro k
  induction k with
  | zero =>
    intro i s' hi o r
    exact hdE (N := 4) rfl (by omega) (q s' o (fun e he => r e (by omega)))
  | succ k ih =>
    intro i s' hi o r
    refine hdG (N := 4) rfl (by omega) (by omega) ?_
    rw [ix, ix, nI_clamp (by omega), nI_clamp (by omega), d5 i (by omega), nI_s]
    refine ⟨vp_in_nI (by omega) (by decide), vp_in_nI (by omega) (by decide), ih (i + 1) _ (by omega) (fun c2 x hx => by rw [st_at, if_neg (by omega)]; exact o c2 x hx) (fun e he => ?_)⟩
    by_cases ee : e = i
    · subst ee; rw [st_at, if_pos ⟨rfl, rfl⟩]
    · rw [st_at, if_neg (by omega)]; exact r e (by omega)
theorem c_cells {t N K : Nat} {A : AS} {d : Nat → Nat} (co : ClOk d) (hN : N < 8) {vx s : Lf} {c : Nat} (hc : c < 4) (dc : DC vx c d) {Q : Lf → Lf → Prop} (q : ∀ j' s', (∀ a, N + 1 ≤ a → a < 8 → j' 2 a = 0) → JR (N + 1) j' (brA A N d) → TbR (N + 1) j' (brA A N d) → (∀ x, x < 8 → j' 5 (x * 8 + x) = -5) → (∀ c x, ¬ (c = 1 ∧ x / 4 = N) → s' c x = s c x) → (∀ e, e < 4 → s' 1 (N * 4 + e) = nI (d (1 + e))) → Q j' s') : ∀ (k i : Nat) (A' : AS) (j : Lf), i + k = d 5 → 1 ≤ i → GP t N K A d i A' → lp (gonS N d) k i A' = brA A N d → (∀ a, N + 1 ≤ a → a < 8 → j 2 a = 0) → JR (N + 1) j A' → TbR (N + 1) j A' → (∀ x, x < 8 → j 5 (x * 8 + x) = -5) → pX9_bringClause_L31 vx (nI c) Q (k + 1) j s (nI N) (nI i) := by
  have l8 := co.2.2.2.1
  intro k
  induction k with
  | zero =>
    intro i A' j hi h1 g e len0 jr tb dg
    rw [lp_zero] at e
    subst e
    refine ⟨vp_in_nI (by omega) (by decide), ?_⟩
    rw [nI_clamp (n := c) (by omega)]
    exact hdE dc.2.1 (by omega) ⟨5, c_rules hc hN dc.2.2.2 (s := s) (fun s' o r => q j s' len0 jr tb dg o r) 4 0 s (by omega) (fun _ _ _ => rfl) (fun e he => by omega)⟩
  | succ k ih =>
    intro i A' j hi h1 g e len0 jr tb dg
    rw [lp_succ] at e
    have hd := co.2.2.2.2 i (by omega)
    have g2 := g.next (by omega) hd
    refine ⟨vp_in_nI (by omega) (by decide), ?_⟩
    rw [nI_clamp (n := c) (by omega)]
    refine hdG dc.2.1 (by omega) (by omega) ?_
    rw [ix8r, nI_clamp (by omega), dc.2.2.1 i (by omega), nI_s]
    refine ⟨vp_in_nI (by omega) (by decide), c_addCell g.ci jr tb dg (by omega) (by rw [g.len]; omega) ⟨d (6 + i), by omega, rfl⟩ (fun j2 o2 jr2 tb2 dg2 => ?_)⟩
    exact ih (i + 1) _ j2 (by omega) (by omega) g2 e (fun a a1 a2 => (o2 a a1 a2).trans (len0 a a1 a2)) jr2 tb2 dg2
theorem br_s (A : AS) (N : Nat) (d : Nat → Nat) (k : Nat) (h : d 5 = k + 1) : lp (gonS N d) k 1 (gonS N d 0 (sgD A N d)) = brA A N d := by
  unfold brA
  rw [h]
  rfl
theorem br_gp {t N K : Nat} {A : AS} {d : Nat → Nat} (h : CoI t N K A) (hN : N < 8) (h0 : A 0 0 2 = 0) (co : ClOk d) : GP t N K A d (d 5) (brA A N d) := by
  obtain ⟨k, hk⟩ : ∃ k, d 5 = k + 1 := ⟨d 5 - 1, by have := co.2.2.1; omega⟩
  rw [← br_s A N d k hk]
  exact GP.all co k 1 (by omega) (GP.one h hN h0 co)
theorem c_bring {B t N K : Nat} {A : AS} {vNc j s p r w g n q vx : Lf} (W : ∀ S, Ab S A → Wo B t N K A vNc j s p r w g n q S) (h0 : A 0 0 2 = 0) (hN : N < 8) {c : Nat} (hc : c < 4) {d : Nat → Nat} (co : ClOk d) (dc : DC vx c d) {Q : Lf → Lf → Prop} (k : ∀ j' s', (∀ S, Ab S (brA A N d) → Wo B t (N + 1) K (brA A N d) vNc j' s' p r w g n q S) → Q j' s') : pX9_bringClause j s vx (nI c) Q := by
  have hw := W _ (Ab.ex A)
  have gp := br_gp hw.ci hN h0 co
  have sp := hw.sp h0
  obtain ⟨l, hl⟩ : ∃ k, d 5 = k + 1 := ⟨d 5 - 1, by have := co.2.2.1; omega⟩
  have l8 := co.2.2.2.1
  have e8 : nI c * (8 : Int32) = nI (c * 8) := pk_mul c 8
  have d0 : vx 4 (c * 8) = nI (d 6) := dc.2.2.1 0 (by omega)
  unfold pX9_bringClause
  rw [e8, nI_clamp (n := c) (by omega), nI_clamp (by omega), dc.1, d0]
  refine ⟨vp_in_nI (by omega) (by decide), vp_in_nI (by omega) (by decide), c_addSignal hw.ci h0 hN hw.co.jr hw.tb' sp.len sp.dg ⟨d 0, co.1, rfl⟩ ⟨d 6, Nat.le_of_lt_succ (co.2.2.2.2 0 (by omega)), rfl⟩ (nI (d 1)) (nI (d 2)) (nI (d 3)) (nI (d 4)) (fun j1 len1 jr1 tb1 dg1 => ⟨l + 1, ?_⟩)⟩
  refine c_cells (t := t) (K := K) (A := A) (s := s) co hN hc dc (fun j' s' len' jr' tb' dg' o ru => k j' s' (fun S hS => ?_)) l 1 (gonS N d 0 (sgD A N d)) j1 (by omega) (by omega) (GP.one hw.ci hN h0 co) (br_s A N d l hl) len1 jr1 tb1 dg1
  exact hw.sig h0 hN hS (kd := nI (d 0)) (l := nI (d 1)) (m := nI (d 2)) (gp := nI (d 3)) (ra := nI (d 4)) gp.o1 gp.oN gp.og gp.ox gp.ci jr' tb' len' dg' o (ru 0 (by decide)) (ru 1 (by decide)) (ru 2 (by decide)) (ru 3 (by decide))
def rdS (N : Nat) (ds : Nat → Nat → Nat) (c : Nat) (A : AS) : AS := brA A (N + c) (ds c)
theorem c_brings {B t N n K : Nat} {vNc p r w g z q vx : Lf} {ds : Nat → Nat → Nat} (h4 : vx 0 4 = nI n) (hn : n ≤ 4) (hN : N + n ≤ 8) (dc : ∀ e, e < n → DC vx e (ds e)) (co : ∀ e, e < n → ClOk (ds e)) {Q : Int32 → Lf → Lf → Lf → Prop} : ∀ (k c : Nat) (A : AS) (j s : Lf), c + k = n → A 0 0 2 = 0 → (∀ S, Ab S A → Wo B t (N + c) K A vNc j s p r w g z q S) → (∀ j' s', (∀ S, Ab S (lp (rdS N ds) k c A) → Wo B t (N + n) K (lp (rdS N ds) k c A) vNc j' s' p r w g z q S) → lp (rdS N ds) k c A 0 0 2 = 0 → Q (nI n) j' s' vx) → pX9_read_L87 vNc Q (k + 1) j s vx (nI c) := by
  intro k
  induction k with
  | zero =>
    intro c A j s hc h0 W q
    have e : c = n := by omega
    subst e
    refine hdE h4 rfl ?_
    rw [h4]
    exact q j s W h0
  | succ k ih =>
    intro c A j s hc h0 W q
    have hw := W _ (Ab.ex A)
    have gp := br_gp (d := ds c) hw.ci (by omega) h0 (co c (by omega))
    refine hdG h4 (by omega) (by omega) (c_bring W h0 (by omega) (by omega) (co c (by omega)) (dc c (by omega)) (fun j' s' W' => ?_))
    rw [nI_s]
    exact ih (c + 1) (brA A (N + c) (ds c)) j' s' (by omega) ((gp.og 2 (by decide)).trans h0) W' q
theorem m_cells {v : Lf} {N : Nat} (hN : N < 8) {d : Nat → Nat} (co : ClOk d) {b : Nat} (hb : b + 14 ≤ 56) (md : MD v b d) {x2 x3 : Int32} {Q : Int32 → Lf → Prop} {K117 : Lf → Int32 → Int32 → Prop} : ∀ (k i : Nat) (A' : AS) (S : Nat → Int32), i + k = d 5 → A' 0 0 13 = nI (N + 1) → lenA A' N = i → A' 1 N 11 = nI i → Ab S A' → (∀ S', Ab S' (lp (gonS N d) k i A') → K117 (sa v 1 S') x2 (x3 + 1)) → pX10_read_L178 Q K117 (k + 1) (sa v 1 S) x2 x3 (nI b) (nI i) := by
  have i5 : nI b + (5 : Int32) = nI (b + 5) := nI_add b 5
  have i6 : nI b + (6 : Int32) = nI (b + 6) := nI_add b 6
  have l8 := co.2.2.2.1
  have e5 : ∀ S, sa v 1 S 7 (b + 5) = nI (d 5) := fun S => by rw [sa_ne _ _ (by decide)]; exact md 5 (by omega)
  intro k
  induction k with
  | zero =>
    intro i A' S hi e13 el e11 h q
    refine ⟨by rw [i5]; exact vp_in_nI (by omega) (by decide), ?_⟩
    rw [i5, nI_clamp (n := b + 5) (by omega)]
    exact hdE (e5 S) (by omega) (q S h)
  | succ k ih =>
    intro i A' S hi e13 el e11 h q
    refine ⟨by rw [i5]; exact vp_in_nI (by omega) (by decide), ?_⟩
    rw [i5, nI_clamp (n := b + 5) (by omega)]
    refine hdG (e5 S) (by omega) (by omega) ?_
    have ec : sa v 1 S 7 (b + 6 + i) = nI (d (6 + i)) := by rw [sa_ne _ _ (by decide), Nat.add_assoc]; exact md (6 + i) (by omega)
    have eN : sa v 1 S 1 13 - 1 = nI N := by rw [h.gw (k := 13) (by decide), e13]; exact nI_pred N
    rw [i6, nI_add, nI_clamp (by omega), ec, eN]
    refine ⟨vp_in_nI (by omega) (by decide), m_goesOn h hN (by rw [el]; omega) (by rw [el]; exact e11) (fun S' hS => ?_)⟩
    rw [nI_s]
    refine ih (i + 1) (gonS N d i A') S' (by omega) ?_ ?_ ?_ hS q
    · unfold gonS
      rw [gon_o _ _ _ (by decide)]; exact e13
    · unfold gonS
      rw [gon_len _ (by rw [el]; omega), el]
    · unfold gonS
      rw [gon_11, el]
theorem m_brings {v : Lf} {N n : Nat} (hn : n ≤ 4) (hN : N + n ≤ 8) {ds : Nat → Nat → Nat} (md : ∀ e, e < n → MD v (14 * e) (ds e)) (co : ∀ e, e < n → ClOk (ds e)) {Q : Int32 → Lf → Prop} : ∀ (k c : Nat) (A : AS) (S : Nat → Int32), c + k = n → A 0 0 13 = nI (N + c) → Ab S A → (∀ S', Ab S' (lp (rdS N ds) k c A) → pX10_clears_ (sa v 1 S') (fun v10 => Q (nI n) v10)) → pX10_read_L117 Q (k + 1) (sa v 1 S) (nI n) (nI c) := by
  intro k
  induction k with
  | zero =>
    intro c A S hc e13 h q
    exact hdE rfl (by omega) (q S h)
  | succ k ih =>
    intro c A S hc e13 h q
    have co' := co c (by omega)
    have i0 : (14 : Int32) * nI c = nI (14 * c) := pk_mul 14 c
    have i1 : nI (14 * c) + (1 : Int32) = nI (14 * c + 1) := nI_add _ 1
    have i2 : nI (14 * c) + (2 : Int32) = nI (14 * c + 2) := nI_add _ 2
    have i3 : nI (14 * c) + (3 : Int32) = nI (14 * c + 3) := nI_add _ 3
    have i4 : nI (14 * c) + (4 : Int32) = nI (14 * c + 4) := nI_add _ 4
    have ed : ∀ w, w < 6 → sa v 1 S 7 (14 * c + w) = nI (ds c w) := fun w hw => by rw [sa_ne _ _ (by decide)]; exact md c (by omega) w (by omega)
    refine hdG rfl (by omega) (by omega) ?_
    rw [i0, i1, i2, i3, i4, nI_clamp (by omega), nI_clamp (by omega), nI_clamp (by omega), nI_clamp (by omega), nI_clamp (by omega), show sa v 1 S 7 (14 * c) = nI (ds c 0) from ed 0 (by decide), ed 1 (by decide), ed 2 (by decide), ed 3 (by decide), ed 4 (by decide)]
    have vp : ∀ w, w < 14 → vp_in (nI (14 * c + w)) 56 := fun w hw => vp_in_nI (by omega) (by decide)
    refine ⟨vp 0 (by decide), vp 1 (by decide), vp 2 (by decide), vp 3 (by decide), vp 4 (by decide), m_comes h (N := N + c) (by omega) e13 (fun S1 h1 => ⟨ds c 5 + 1, m_cells (N := N + c) (by omega) co' (by omega) (md c (by omega)) (ds c 5) 0 (sgD A (N + c) (ds c)) S1 (by omega) ?_ (sg_len _ _ _ _ _ _ _) ?_ h1 (fun S2 h2 => ?_)⟩)⟩
    · unfold sgD
      rw [sigA_at, if_neg (by omega), if_pos ⟨rfl, rfl, rfl⟩]
    · unfold sgD
      rw [sigA_at, if_pos ⟨rfl, rfl⟩]
      rfl
    · rw [nI_s]
      refine ih (c + 1) (brA A (N + c) (ds c)) S2 (by omega) ?_ h2 q
      have : ∀ (k i : Nat) (D : AS), lp (gonS (N + c) (ds c)) k i D 0 0 13 = D 0 0 13 := fun k i D => lp_inv (fun E : AS => E 0 0 13 = D 0 0 13) (fun i E e => by unfold gonS; rw [gon_o _ _ _ (by decide)]; exact e) k i D rfl
      unfold brA
      rw [this]
      unfold sgD
      rw [sigA_at, if_neg (by omega), if_pos ⟨rfl, rfl, rfl⟩]
      rfl
theorem St.rdI {B t N K N' : Nat} {A A' : AS} {v vNc vNcj vNcs vNcp vNcr vNw vNg vNn vNq vIc vIcj vIcs vIcp vIcr vIw vIg vIn vIq vT vTj vTs vTp vTr vx : Lf} {vt : Nat → Lf} {gt : Nat → Lg} {vM : Lf} {gM : Lg} {vNcj' vNcs' vx' M' : Lf} (h : St B t N K A v vNc vNcj vNcs vNcp vNcr vNw vNg vNn vNq vIc vIcj vIcs vIcp vIcr vIw vIg vIn vIq vT vTj vTs vTp vTr vx vt gt vM gM) (o : ∀ c, c ≠ 0 → c ≠ 1 → c ≠ 4 → c ≠ 5 → c ≠ 7 → M' c = vM c) (o3 : M' 0 3 = vM 0 3) (o4 : M' 0 4 = vM 0 4) (o9 : M' 0 9 = 0) (x1 : vx' 0 1 = 0) (w : Wo B t N' K A' vNc vNcj' vNcs' vNcp vNcr vNw vNg vNn vNq (M' 1)) (m : MtR N' A' (M' 4) (M' 5)) : Inv v vNc vNcj' vNcs' vNcp vNcr vNw vNg vNn vNq vIc vIcj vIcs vIcp vIcr vIw vIg vIn vIq vT vTj vTs vTp vTr vx' vt gt M' gM := by
  have m2 : M' 2 = vM 2 := o 2 (by decide) (by decide) (by decide) (by decide) (by decide)
  have m8 : M' 8 = vM 8 := o 8 (by decide) (by decide) (by decide) (by decide) (by decide)
  have m9 : M' 9 = vM 9 := o 9 (by decide) (by decide) (by decide) (by decide) (by decide)
  refine ⟨B, t, N', K, A', w, m, h.hB, h.cnt, ?_, ?_, ?_, h.most, ⟨?_, 0, by decide, ?_, fun i hi => by omega⟩, ⟨?_, ?_, ?_⟩⟩
  · rw [o4]; exact h.cntM
  · rw [o3]; exact h.kept
  · rw [o3, m2]; exact h.img
  · rw [x1, o9]
  · rw [o9]; rfl
  · rw [m8, m9]; exact h.tp.so
  · rw [m9]; exact h.tp.le
  · rw [m9]; exact h.tp.at'

theorem sim_read : Sim_X9_read Inv := by
  intro v vNc vNcj vNcs vNcp vNcr vNw vNg vNn vNq vIc vIcj vIcs vIcp vIcr vIw vIg vIn vIq vT vTj vTs vTp vTr vx vt gt vM gM hInv _
  obtain ⟨B, t, N, K, A, h⟩ := id hInv
  have hw := h.now
  have hN := hw.ci.hN
  have hK := hw.ci.hK
  have hM := hw.n13
  have hP := hw.n14
  have m2 : vM 1 2 = A 0 0 2 := hw.ab.gl (k := 2) (by decide)
  obtain ⟨m, hm, em, hrow⟩ := h.txt.ok
  have nx : vx 0 1 = nI m := h.txt.n.trans em
  have z2 : (-10 : Int32) = -10 := rfl
  unfold pX9_read
  rw [hw.co.cf.st]
  refine ⟨fun c => ?_, fun c => ?_⟩
  · have hs : A 0 0 2 = 1 := hw.ci.st.elim (fun q => absurd q c) (fun q => q.1)
    unfold pX9_read_J24 pX9_read_J25
    rw [hw.co.cf.st]
    refine ⟨fun e => absurd e c, fun _ => ?_⟩
    unfold pX10_read
    refine ⟨fun e => absurd (m2.trans hs) e, fun _ => ⟨rfl, ?_⟩⟩
    exact h.rdI (fun c h0 _ _ _ _ => st_oth _ _ _ h0) (by rw [st_at, if_neg (by omega)]) (by rw [st_at, if_neg (by omega)]) (by rw [st_at, if_pos ⟨rfl, rfl⟩]) (by rw [st_at, if_pos ⟨rfl, rfl⟩]) (by rw [st_oth _ _ _ (by decide)]; exact hw) (by rw [st_oth _ _ _ (by decide), st_oth _ _ _ (by decide)]; exact h.tab)
  · have n1 : ¬ vM 1 2 = 1 := fun e => absurd ((c.symm.trans m2.symm).trans e) (by decide)
    have tx : ∀ i, i < m → vM 6 i = nI (vM 6 i).toNatClampNeg ∧ (vM 6 i).toNatClampNeg ≤ 127 := fun i hi => by
      obtain ⟨_, z, hz, ez⟩ := hrow i hi
      rw [ez, nI_clamp (by omega)]
      exact ⟨rfl, hz⟩
    have ht : ∀ i, i < m → (fun i => (vM 6 i).toNatClampNeg) i ≤ 127 := fun i hi => (tx i hi).2
    have ms : MS (fun i => (vM 6 i).toNatClampNeg) m (st (st vM 0 10 0) 0 11 (-1)) 0 := ⟨by rw [st_at, if_neg (by omega), st_at, if_neg (by omega)]; exact em, by rw [st_at, if_neg (by omega), st_at, if_pos ⟨rfl, rfl⟩]; rfl, by rw [st_at, if_pos ⟨rfl, rfl⟩], fun i hi => by rw [st_at, if_neg (by omega), st_at, if_neg (by omega)]; exact (tx i hi).1⟩
    have rs : RS (fun i => (vM 6 i).toNatClampNeg) m (st (st vx 0 2 0) 0 4 0) 0 := ⟨by rw [st_at, if_neg (by omega), st_at, if_neg (by omega)]; exact nx, by rw [st_at, if_neg (by omega), st_at, if_pos ⟨rfl, rfl⟩]; rfl, fun i hi => by rw [st_at, if_neg (by omega), st_at, if_neg (by omega)]; exact ((hrow i hi).1).trans (tx i hi).1⟩
    have mp := fun (Q : Int32 → Lf → Prop) => m_parse (tn := fun i => (vM 6 i).toNatClampNeg) hm ht (v0 := vM) (Q := Q) 3 0 0 (fun _ _ => 0) _ (by decide) (Nat.zero_le _) ms (fun e he => by omega) (((Mr.refl 0 vM).s0 (.inl rfl) _).s0 (.inr rfl) _)
    have cp := fun (Q : Int32 → Lf → Prop) => c_parse (tn := fun i => (vM 6 i).toNatClampNeg) hm ht (Q := Q) 4 0 0 (fun _ _ => 0) _ (by decide) (Nat.zero_le _) rs (by rw [st_at, if_pos ⟨rfl, rfl⟩]; rfl) (fun e he => by omega)
    have po := pr_ok (tn := fun i => (vM 6 i).toNatClampNeg) (m := m) 4 0 0 (fun _ _ => 0) (by decide) (fun e he => by omega)
    have pre : ∀ Q : Int32 → Lf → Prop, pX10_read_L35 Q 4 (st (st vM 0 10 0) 0 11 (-1)) (nI m) (nI 0) → pX10_read vM Q := by
      intro Q hq
      unfold pX10_read
      rw [em]
      exact ⟨fun _ => ⟨4, hq⟩, fun e => absurd e n1⟩
    have ple := pr_le (tn := fun i => (vM 6 i).toNatClampNeg) (m := m) 4 0 0 (fun _ _ => 0) (Nat.zero_le _)
    revert mp cp po ple
    generalize prL (fun i => (vM 6 i).toNatClampNeg) m 4 0 0 (fun _ _ => 0) = P
    intro mp cp po ple
    have lf : ∀ f : Nat, f < 2 ^ 20 → ¬ nI f < 0 := fun f hf => nI_pos (by omega)
    have sl : ∀ v' : Lf, Mr 0 vM v' → (∀ c, c ≠ 0 → c ≠ 1 → c ≠ 4 → c ≠ 5 → c ≠ 7 → st v' 0 9 0 c = vM c) ∧ st v' 0 9 0 0 3 = vM 0 3 ∧ st v' 0 9 0 0 4 = vM 0 4 ∧ st v' 0 9 0 0 9 = 0 := by
      intro v' mr
      refine ⟨fun c h0 _ _ _ h7 => ?_, ?_, ?_, ?_⟩
      · rw [st_oth _ _ _ h0]; exact mr.o c h0 h7
      · rw [st_at, if_neg (by omega)]; exact mr.o0 3 (by decide) (by decide)
      · rw [st_at, if_neg (by omega)]; exact mr.o0 4 (by decide) (by decide)
      · rw [st_at, if_pos ⟨rfl, rfl⟩]
    have keep : ∀ (v' vx' : Lf), Mr 0 vM v' → vx' 0 1 = 0 → Inv v vNc vNcj vNcs vNcp vNcr vNw vNg vNn vNq vIc vIcj vIcs vIcp vIcr vIw vIg vIn vIq vT vTj vTs vTp vTr vx' vt gt (st v' 0 9 0) gM := by
      intro v' vx' mr hx
      obtain ⟨s1, s2, s3, s4⟩ := sl v' mr
      exact h.rdI s1 s2 s3 s4 hx (by rw [st_oth _ _ _ (by decide), mr.o 1 (by decide) (by decide)]; exact hw) (by rw [st_oth _ _ _ (by decide), st_oth _ _ _ (by decide), mr.o 4 (by decide) (by decide), mr.o 5 (by decide) (by decide)]; exact h.tab)
    refine ⟨5, cp _ (fun tr vx1 e4 dc => ⟨fun e => absurd e (by decide), fun _ => ?_⟩) (fun tr vx1 e3 => ⟨fun _ => ?_, fun e => absurd rfl e⟩)⟩
    · obtain ⟨p4, pk⟩ := po tr
      unfold pX9_read_J25
      rw [hw.co.cf.st]
      refine ⟨fun _ => ⟨fun _ => ?_, fun e => absurd e (by decide)⟩, fun e => absurd c e⟩
      have e4' : st vx1 0 1 0 0 4 = nI P.2.1 := by rw [st_at, if_neg (by omega)]; exact e4
      rw [e4', hw.co.jr.n, nI_add]
      have le8 := nle (a := N + P.2.1) (b := 8) (by omega) (by decide)
      refine ⟨fun l => ?_, fun l => ?_⟩
      · have l := le8.mp l
        refine ⟨P.2.1 + 1, c_brings (B := B) (t := t) (N := N) (n := P.2.1) (K := K) (ds := P.2.2) e4' p4 l (fun e he => ?_) pk P.2.1 0 A vNcj vNcs (by omega) c (fun S hS => ⟨hS, hw.tb, hw.co, hw.ci, hw.tb', hw.sp, hw.wv, hw.gt, hw.nt, hw.pl, hw.z, hw.bd⟩) (fun j' s' W h0 => ?_)⟩
        · obtain ⟨a, b, cc, d⟩ := dc e he
          exact ⟨by rw [st_oth _ _ _ (by decide)]; exact a, by rw [st_oth _ _ _ (by decide)]; exact b, by rw [st_oth _ _ _ (by decide)]; exact cc, by rw [st_oth _ _ _ (by decide)]; exact d⟩
        · refine pre _ (mp _ (fun _ v' e11 md mr => ?_) (fun t2 => absurd (tr.symm.trans t2) (by decide)))
          obtain ⟨s1, s2, s3, s4⟩ := sl v' mr
          have ab' : Ab (st v' 0 9 0 1) A := by rw [st_oth _ _ _ (by decide), mr.o 1 (by decide) (by decide)]; exact hw.ab
          unfold pX10_read_J78
          have f11 : st v' 0 9 0 0 11 = -1 := by rw [st_at, if_neg (by omega)]; exact e11
          rw [f11, ab'.gl (k := 13) (by decide), hw.ci.m, nI_add]
          refine ⟨fun _ => ⟨fun _ => ⟨P.2.1 + 1, ?_⟩, fun e => absurd (le8.mpr l) e⟩, fun e => absurd (by decide) e⟩
          have mb := m_brings (v := st v' 0 9 0) (N := N) (n := P.2.1) p4 l (ds := P.2.2) (fun e he w hw2 => by rw [st_oth _ _ _ (by decide)]; exact md e he w hw2) pk (Q := fun r' vM' => nI P.2.1 = r' ∧ Inv v vNc j' s' vNcp vNcr vNw vNg vNn vNq vIc vIcj vIcs vIcp vIcr vIw vIg vIn vIq vT vTj vTs vTp vTr (st vx1 0 1 0) vt gt vM' gM) P.2.1 0 A (st v' 0 9 0 1) (by omega) hw.ci.m ab' (fun S' hS => ?_)
          · rw [sa_id] at mb
            exact mb
          · have w2 := W S' hS
            refine m_clears w2.ci w2.z (by rw [sa_self]; exact hS) (fun M o tm => ⟨rfl, ?_⟩)
            refine h.rdI (fun c h0 h1 h4 h5 h7 => (o c h4 h5).trans ((sa_ne _ _ h1).trans (s1 c h0 h1 h4 h5 h7))) ?_ ?_ ?_ (by rw [st_at, if_pos ⟨rfl, rfl⟩]) (by rw [o 1 (by decide) (by decide), sa_self]; exact w2) tm
            · rw [o 0 (by decide) (by decide), sa_ne _ _ (by decide)]; exact s2
            · rw [o 0 (by decide) (by decide), sa_ne _ _ (by decide)]; exact s3
            · rw [o 0 (by decide) (by decide), sa_ne _ _ (by decide)]; exact s4
      · refine pre _ (mp _ (fun _ v' e11 md mr => ?_) (fun t2 => absurd (tr.symm.trans t2) (by decide)))
        have ab' : Ab (st v' 0 9 0 1) A := by rw [st_oth _ _ _ (by decide), mr.o 1 (by decide) (by decide)]; exact hw.ab
        unfold pX10_read_J78
        have f11 : st v' 0 9 0 0 11 = -1 := by rw [st_at, if_neg (by omega)]; exact e11
        rw [f11, ab'.gl (k := 13) (by decide), hw.ci.m, nI_add]
        exact ⟨fun _ => ⟨fun l2 => absurd l2 l, fun _ => ⟨rfl, keep v' _ mr (by rw [st_at, if_pos ⟨rfl, rfl⟩])⟩⟩, fun e => absurd (by decide) e⟩
    · unfold pX9_read_J24 pX9_read_J25
      rw [hw.co.cf.st]
      refine ⟨fun _ => ⟨fun e => absurd rfl e, fun _ => ?_⟩, fun e => absurd c e⟩
      have e3' : st vx1 0 1 0 0 3 = nI P.2.1 := by rw [st_at, if_neg (by omega)]; exact e3
      rw [e3']
      refine pre _ (mp _ (fun t2 => absurd (t2.symm.trans tr) (by decide)) (fun _ v' y e11 mr => ?_))
      unfold pX10_read_J78
      have f11 : st v' 0 9 0 0 11 = nI P.2.1 := by rw [st_at, if_neg (by omega)]; exact e11
      rw [f11]
      refine ⟨fun e => absurd e (lf P.2.1 (by omega)), fun _ => ⟨rfl, keep v' _ mr (by rw [st_at, if_pos ⟨rfl, rfl⟩])⟩⟩

theorem Wo.side {B t N K : Nat} {A A' : AS} {c j s p r w g n q w' g' n' q' : Lf} {S S' : Nat → Int32} (h : Wo B t N K A c j s p r w g n q S) (ab : Ab S' A') (e1 : A' 1 = A 1) (e2 : A' 2 = A 2) (e3 : A' 3 = A 3) (eg : ∀ k, k < 16 → A' 0 0 k = A 0 0 k) (wv : WvR w' A') (gt : GtR N g' A') (nt : NtR n' A') (pl : PlR q' A') : Wo B t N K A' c j s p r w' g' n' q' S' := by
  refine ⟨ab, h.tb, h.co.glob ?_ e1 e2 e3 (eg _ (by decide)) (eg _ (by decide)), h.ci.glob e1 e2 e3 (fun k hk => eg k (by omega)) ?_ (fun e => ?_) ?_, h.tb'.fr h.ci (fun a _ w _ => by rw [e1]), fun e => h.sp (by rw [← eg 2 (by decide)]; exact e), wv, gt, nt, pl, fun a h1 h2 => by rw [e1]; exact h.z a h1 h2, h.bd.same (eg _ (by decide)) (eg _ (by decide)) (eg _ (by decide)) e3⟩
  · have cf := h.co.cf
    exact ⟨by rw [eg _ (by decide)]; exact cf.st, by rw [eg _ (by decide)]; exact cf.sec, by rw [eg _ (by decide)]; exact cf.cur, by rw [eg _ (by decide)]; exact cf.cut, by rw [eg _ (by decide)]; exact cf.em, by rw [eg _ (by decide)]; exact cf.wt, by rw [eg _ (by decide)]; exact cf.sv, by rw [eg _ (by decide)]; exact cf.ls, by rw [eg _ (by decide)]; exact cf.sd, by rw [eg _ (by decide)]; exact cf.cy, by rw [eg _ (by decide)]; exact cf.off, by rw [eg _ (by decide)]; exact cf.spl⟩
  · rw [eg _ (by decide)]; exact h.ci.em
  · rw [eg _ (by decide)]; exact (h.ci.st0 e).2.1
  · rw [eg _ (by decide)]; exact h.ci.cy
theorem WvR.fr {w : Lf} {A B : AS} (h : WvR w A) (a : B 0 0 16 = A 0 0 16) (b : B 0 0 17 = A 0 0 17) (e : B 4 = A 4) : WvR w B := ⟨by rw [a]; exact h.rd, by rw [b]; exact h.n, by rw [a, b, e]; exact h.rdok⟩
theorem GtR.fr {N : Nat} {w : Lf} {A B : AS} (h : GtR N w A) (a : B 0 0 18 = A 0 0 18) (e : B 5 = A 5) : GtR N w B := ⟨by rw [a]; exact h.n, h.most, by rw [a, e]; exact h.row⟩
theorem NtR.fr {w : Lf} {A B : AS} (h : NtR w A) (a : B 0 0 19 = A 0 0 19) (e : B 6 = A 6) : NtR w B := ⟨by rw [a]; exact h.n, h.most, by rw [a, e]; exact h.row⟩
theorem PlR.fr {w : Lf} {A B : AS} (h : PlR w A) (a : B 0 0 20 = A 0 0 20) (e : B 7 = A 7) : PlR w B := ⟨by rw [a]; exact h.n, h.most, by rw [a, e]; exact h.row⟩
theorem c_addY {n m M : Nat} {g : Lf} {x1 x2 x3 : Int32} (h0 : g 0 0 = nI m) (h1 : g 0 1 = nI M) (hm : m < M) (hM : 3 * M ≤ n) (hn : n < 2 ^ 20) {Q : Int32 → Lf → Prop} (q : ∀ g' : Lf, g' 0 0 = nI (m + 1) → g' 0 1 = nI M → (∀ k, g' 1 k = if k = m * 3 + 2 then x3 else if k = m * 3 + 1 then x2 else if k = m * 3 then x1 else g 1 k) → Q 1 g') : pX4_add n g x1 x2 x3 Q := by
  unfold pX4_add
  have e0 : nI m * (3 : Int32) = nI (m * 3) := pk_mul m 3
  have e1 : nI m * (3 : Int32) + 1 = nI (m * 3 + 1) := ix3 m 1
  have e2 : nI m * (3 : Int32) + 2 = nI (m * 3 + 2) := ix3 m 2
  rw [h0, h1, e1, e2, e0, nI_clamp (by omega), nI_clamp (by omega), nI_clamp (by omega)]
  refine ⟨fun _ => ⟨vp_in_nI (by omega) (by omega), vp_in_nI (by omega) (by omega), vp_in_nI (by omega) (by omega), q _ ?_ ?_ (fun k => ?_)⟩, fun c => absurd ((nlt (by omega) (by omega)).mpr hm) c⟩
  · simp [st_at, h0, nI_s]
  · simp [st_at, h1]
  · simp [st_at]
theorem c_addN {n m M : Nat} {g : Lf} {x1 x2 x3 : Int32} (h0 : g 0 0 = nI m) (h1 : g 0 1 = nI M) (hm : M ≤ m) (hb : m < 2 ^ 20) {Q : Int32 → Lf → Prop} (q : Q 0 g) : pX4_add n g x1 x2 x3 Q := by
  unfold pX4_add
  rw [h0, h1]
  exact ⟨fun c => absurd ((nlt (by omega) (by omega)).mp c) (by omega), fun _ => q⟩

theorem sim_wave : Sim_X9_wave Inv := by
  intro v vNc vNcj vNcs vNcp vNcr vNw vNg vNn vNq vIc vIcj vIcs vIcp vIcr vIw vIg vIn vIq vT vTj vTs vTp vTr vx vt gt vM gM hInv x1
  obtain ⟨B, t, N, K, A, h⟩ := id hInv
  have hw := h.now
  have hN := hw.ci.hN
  have hK := hw.ci.hK
  have hM := hw.n13
  have hP := hw.n14
  unfold pX9_wave
  refine w_in (fun c1 c2 => ?_) (fun c => ?_)
  · first | refine ⟨fun c => absurd c (by decide), fun _ => ?_⟩ | refine ⟨fun _ => ?_, fun c => absurd c (by decide)⟩
    unfold pX10_wave
    refine inY ⟨c1, c2⟩ ?_
    first | refine ⟨fun c => absurd c (by decide), fun _ => ?_⟩ | refine ⟨fun _ => ?_, fun c => absurd c (by decide)⟩
    obtain ⟨R, h1, h2, rfl⟩ := (bd_iff (l := 20) (h := 60) (by decide) (by decide) x1).mp ⟨c1, c2⟩
    rw [hw.wv.rd, hw.ab.gl (k := 16) (by decide), st_sa vM, st_sa1]
    refine ⟨rfl, h.nowC (t' := t) (N' := N) (K' := K) (A' := U (U A 0 0 16 (nI R)) 0 0 17 0) (hw.side ((hw.ab.ug (k := 16) (by decide) (nI R)).ug (k := 17) (by decide) 0) (by simp [U_ne]) (by simp [U_ne]) (by simp [U_ne]) (fun k hk => ?_) ⟨by simp [st_at, U_at], by simp [st_at, U_at], R, h1, h2, by simp [U_at], 0, by decide, by simp [U_at] <;> rfl, fun i hi => by omega⟩ (hw.gt.fr (by simp [U_at]) (by simp [U_ne])) (hw.nt.fr (by simp [U_at]) (by simp [U_ne])) (hw.pl.fr (by simp [U_at]) (by simp [U_ne]))) (h.tab.fr hw.ci (fun a _ w _ => by simp [U_at]) (by simp [U_at]))⟩
    rw [U_at, if_neg (by omega), U_at, if_neg (by omega)]
  · first | refine ⟨fun c => absurd c (by decide), fun _ => ?_⟩ | refine ⟨fun _ => ?_, fun c => absurd c (by decide)⟩
    unfold pX10_wave
    refine inN c ?_
    first | refine ⟨fun c => absurd c (by decide), fun _ => ?_⟩ | refine ⟨fun _ => ?_, fun c => absurd c (by decide)⟩
    exact ⟨rfl, hInv⟩
theorem sim_note : Sim_X9_note Inv := by
  intro v vNc vNcj vNcs vNcp vNcr vNw vNg vNn vNq vIc vIcj vIcs vIcp vIcr vIw vIg vIn vIq vT vTj vTs vTp vTr vx vt gt vM gM hInv x1 x2
  obtain ⟨B, t, N, K, A, h⟩ := id hInv
  have hw := h.now
  have hN := hw.ci.hN
  have hK := hw.ci.hK
  have hM := hw.n13
  have hP := hw.n14
  unfold pX9_note pX10_note
  obtain ⟨m, hm, em, hrow⟩ := hw.nt.row
  have m19 : vM 1 19 = nI m := (hw.ab.gl (k := 19) (by decide)).trans em
  have n0' : vNn 0 0 = nI m := hw.nt.n.trans em
  by_cases c0 : x1 = -1
  · refine ⟨fun c => absurd c0 c, fun _ => ⟨fun c => absurd c0 c, fun _ => ?_⟩⟩
    rw [st_sa vM]
    refine ⟨rfl, h.nowC (t' := t) (N' := N) (K' := K) (A' := U A 0 0 19 0) (hw.side (hw.ab.ug (k := 19) (by decide) 0) (by simp [U_ne]) (by simp [U_ne]) (by simp [U_ne]) (fun k hk => ?_) (hw.wv.fr (by simp [U_at]) (by simp [U_at]) (by simp [U_ne])) (hw.gt.fr (by simp [U_at]) (by simp [U_ne])) ⟨by simp [st_at, U_at], by simp [st_at, hw.nt.most], 0, by decide, by simp [U_at] <;> rfl, fun i hi => by omega⟩ (hw.pl.fr (by simp [U_at]) (by simp [U_ne]))) (h.tab.fr hw.ci (fun a _ w _ => by simp [U_at]) (by simp [U_at]))⟩
    rw [U_at, if_neg (by omega)]
  · refine ⟨fun _ => w_in (fun c1 c2 => ?_) (fun c => ?_), fun c => absurd c c0⟩
    · first | refine ⟨fun c => absurd c (by decide), fun _ => ?_⟩ | refine ⟨fun _ => ?_, fun c => absurd c (by decide)⟩
      refine w_in (fun d1 d2 => ?_) (fun d => ?_)
      · first | refine ⟨fun c => absurd c (by decide), fun _ => ?_⟩ | refine ⟨fun _ => ?_, fun c => absurd c (by decide)⟩
        by_cases l : m < 5
        · refine c_addY (M := 5) n0' hw.nt.most l (by decide) (by decide) (fun g' g0 g1 g2 => ?_)
          first | refine ⟨fun c => absurd c (by decide), fun _ => ?_⟩ | refine ⟨fun _ => ?_, fun c => absurd c (by decide)⟩
          refine ⟨fun _ => inY ⟨c1, c2⟩ ?_, fun c => absurd c c0⟩
          first | refine ⟨fun c => absurd c (by decide), fun _ => ?_⟩ | refine ⟨fun _ => ?_, fun c => absurd c (by decide)⟩
          refine inY ⟨d1, d2⟩ ?_
          first | refine ⟨fun c => absurd c (by decide), fun _ => ?_⟩ | refine ⟨fun _ => ?_, fun c => absurd c (by decide)⟩
          rw [m19]
          have i0 : (345 : Int32) + (2 : Int32) * nI m = nI (345 + 2 * m) := by
            show nI 345 + nI 2 * nI m = _
            rw [pk_mul, nI_add]
          have i1 : (345 : Int32) + (2 : Int32) * nI m + 1 = nI (345 + 2 * m + 1) := by rw [i0]; exact nI_add _ 1
          refine ⟨fun _ => ?_, fun e => absurd (nI_inj (b := 5) (by omega) (by decide) e) (by omega)⟩
          have hab1 := hw.ab.up (x := 6) (i := m) (k := 0) ⟨by omega, by decide⟩ x1
          have hab2 := hab1.up (x := 6) (i := m) (k := 1) ⟨by omega, by decide⟩ x2
          have hab3 := hab2.ug (k := 19) (by decide) (nI m + 1)
          rw [i0, nI_clamp (by omega)]
          have q1 : st vM 1 (345 + 2 * m) x1 1 19 = nI m := by rw [st_at, if_neg (by omega), m19]
          rw [q1, i1, nI_clamp (by omega)]
          have q2 : st (st vM 1 (345 + 2 * m) x1) 1 (345 + 2 * m + 1) x2 1 19 = nI m := by rw [st_at, if_neg (by omega), q1]
          rw [q2]
          refine ⟨vp_in_nI (by omega) (by decide), vp_in_nI (by omega) (by decide), ?_, ?_⟩
          · rw [st_at, if_pos ⟨rfl, rfl⟩, g0, nI_s]
          · rw [st_sa vM, st_sa1, st_sa1]
            refine h.nowC (t' := t) (N' := N) (K' := K) (A' := U (U (U A 6 m 0 x1) 6 m 1 x2) 0 0 19 (nI m + 1)) (hw.side hab3 (by simp [U_ne]) (by simp [U_ne]) (by simp [U_ne]) (fun k hk => ?_) (hw.wv.fr (by simp [U_at]) (by simp [U_at]) (by simp [U_ne])) (hw.gt.fr (by simp [U_at]) (by simp [U_ne])) ⟨?_, g1, m + 1, by omega, by simp [U_at, nI_s], fun i hi k hk => ?_⟩ (hw.pl.fr (by simp [U_at]) (by simp [U_ne]))) (h.tab.fr hw.ci (fun a _ w _ => by simp [U_at]) (by simp [U_at]))
            · rw [U_at, if_neg (by omega), U_at, if_neg (by omega), U_at, if_neg (by omega)]
            · rw [g0]; simp [U_at, nI_s]
            · rw [g2]
              by_cases ei : i = m
              · subst ei
                rcases (show k = 0 ∨ k = 1 by omega) with rfl | rfl
                · simp [U_at]
                · simp [U_at]
              · have := hrow i (by omega) k hk
                simp only [U_at]
                rw [if_neg (by omega), if_neg (by omega), if_neg (by omega), if_neg (by omega), if_neg (by omega), if_neg (by omega)]
                exact this
        · have e5 : m = 5 := by omega
          refine c_addN (M := 5) n0' hw.nt.most (by omega) (by omega) ?_
          first | refine ⟨fun c => absurd c (by decide), fun _ => ?_⟩ | refine ⟨fun _ => ?_, fun c => absurd c (by decide)⟩
          refine ⟨fun _ => inY ⟨c1, c2⟩ ?_, fun c => absurd c c0⟩
          first | refine ⟨fun c => absurd c (by decide), fun _ => ?_⟩ | refine ⟨fun _ => ?_, fun c => absurd c (by decide)⟩
          refine inY ⟨d1, d2⟩ ?_
          first | refine ⟨fun c => absurd c (by decide), fun _ => ?_⟩ | refine ⟨fun _ => ?_, fun c => absurd c (by decide)⟩
          rw [m19, e5]
          exact ⟨fun e => absurd rfl e, fun _ => ⟨rfl, hInv⟩⟩
      · first | refine ⟨fun c => absurd c (by decide), fun _ => ?_⟩ | refine ⟨fun _ => ?_, fun c => absurd c (by decide)⟩
        refine ⟨fun _ => inY ⟨c1, c2⟩ ?_, fun c => absurd c c0⟩
        first | refine ⟨fun c => absurd c (by decide), fun _ => ?_⟩ | refine ⟨fun _ => ?_, fun c => absurd c (by decide)⟩
        refine inN d ?_
        first | refine ⟨fun c => absurd c (by decide), fun _ => ?_⟩ | refine ⟨fun _ => ?_, fun c => absurd c (by decide)⟩
        exact ⟨rfl, hInv⟩
    · first | refine ⟨fun c => absurd c (by decide), fun _ => ?_⟩ | refine ⟨fun _ => ?_, fun c => absurd c (by decide)⟩
      refine ⟨fun _ => inN c ?_, fun c => absurd c c0⟩
      first | refine ⟨fun c => absurd c (by decide), fun _ => ?_⟩ | refine ⟨fun _ => ?_, fun c => absurd c (by decide)⟩
      exact ⟨rfl, hInv⟩

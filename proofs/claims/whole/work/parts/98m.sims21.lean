def bcv (x0 : Int32) : Int32 := ((((((((x0 - ((((x0).toUInt32 >>> (((1 : Int32)).toUInt32 &&& Int32.toUInt32 31)).toInt32) &&& (1431655765 : Int32))) &&& (858993459 : Int32)) + (((((x0 - ((((x0).toUInt32 >>> (((1 : Int32)).toUInt32 &&& Int32.toUInt32 31)).toInt32) &&& (1431655765 : Int32)))).toUInt32 >>> (((2 : Int32)).toUInt32 &&& Int32.toUInt32 31)).toInt32) &&& (858993459 : Int32))) + ((((((x0 - ((((x0).toUInt32 >>> (((1 : Int32)).toUInt32 &&& Int32.toUInt32 31)).toInt32) &&& (1431655765 : Int32))) &&& (858993459 : Int32)) + (((((x0 - ((((x0).toUInt32 >>> (((1 : Int32)).toUInt32 &&& Int32.toUInt32 31)).toInt32) &&& (1431655765 : Int32)))).toUInt32 >>> (((2 : Int32)).toUInt32 &&& Int32.toUInt32 31)).toInt32) &&& (858993459 : Int32)))).toUInt32 >>> (((4 : Int32)).toUInt32 &&& Int32.toUInt32 31)).toInt32)) &&& (252645135 : Int32)) + ((((((((x0 - ((((x0).toUInt32 >>> (((1 : Int32)).toUInt32 &&& Int32.toUInt32 31)).toInt32) &&& (1431655765 : Int32))) &&& (858993459 : Int32)) + (((((x0 - ((((x0).toUInt32 >>> (((1 : Int32)).toUInt32 &&& Int32.toUInt32 31)).toInt32) &&& (1431655765 : Int32)))).toUInt32 >>> (((2 : Int32)).toUInt32 &&& Int32.toUInt32 31)).toInt32) &&& (858993459 : Int32))) + ((((((x0 - ((((x0).toUInt32 >>> (((1 : Int32)).toUInt32 &&& Int32.toUInt32 31)).toInt32) &&& (1431655765 : Int32))) &&& (858993459 : Int32)) + (((((x0 - ((((x0).toUInt32 >>> (((1 : Int32)).toUInt32 &&& Int32.toUInt32 31)).toInt32) &&& (1431655765 : Int32)))).toUInt32 >>> (((2 : Int32)).toUInt32 &&& Int32.toUInt32 31)).toInt32) &&& (858993459 : Int32)))).toUInt32 >>> (((4 : Int32)).toUInt32 &&& Int32.toUInt32 31)).toInt32)) &&& (252645135 : Int32))).toUInt32 >>> (((8 : Int32)).toUInt32 &&& Int32.toUInt32 31)).toInt32)) + (((((((((x0 - ((((x0).toUInt32 >>> (((1 : Int32)).toUInt32 &&& Int32.toUInt32 31)).toInt32) &&& (1431655765 : Int32))) &&& (858993459 : Int32)) + (((((x0 - ((((x0).toUInt32 >>> (((1 : Int32)).toUInt32 &&& Int32.toUInt32 31)).toInt32) &&& (1431655765 : Int32)))).toUInt32 >>> (((2 : Int32)).toUInt32 &&& Int32.toUInt32 31)).toInt32) &&& (858993459 : Int32))) + ((((((x0 - ((((x0).toUInt32 >>> (((1 : Int32)).toUInt32 &&& Int32.toUInt32 31)).toInt32) &&& (1431655765 : Int32))) &&& (858993459 : Int32)) + (((((x0 - ((((x0).toUInt32 >>> (((1 : Int32)).toUInt32 &&& Int32.toUInt32 31)).toInt32) &&& (1431655765 : Int32)))).toUInt32 >>> (((2 : Int32)).toUInt32 &&& Int32.toUInt32 31)).toInt32) &&& (858993459 : Int32)))).toUInt32 >>> (((4 : Int32)).toUInt32 &&& Int32.toUInt32 31)).toInt32)) &&& (252645135 : Int32)) + ((((((((x0 - ((((x0).toUInt32 >>> (((1 : Int32)).toUInt32 &&& Int32.toUInt32 31)).toInt32) &&& (1431655765 : Int32))) &&& (858993459 : Int32)) + (((((x0 - ((((x0).toUInt32 >>> (((1 : Int32)).toUInt32 &&& Int32.toUInt32 31)).toInt32) &&& (1431655765 : Int32)))).toUInt32 >>> (((2 : Int32)).toUInt32 &&& Int32.toUInt32 31)).toInt32) &&& (858993459 : Int32))) + ((((((x0 - ((((x0).toUInt32 >>> (((1 : Int32)).toUInt32 &&& Int32.toUInt32 31)).toInt32) &&& (1431655765 : Int32))) &&& (858993459 : Int32)) + (((((x0 - ((((x0).toUInt32 >>> (((1 : Int32)).toUInt32 &&& Int32.toUInt32 31)).toInt32) &&& (1431655765 : Int32)))).toUInt32 >>> (((2 : Int32)).toUInt32 &&& Int32.toUInt32 31)).toInt32) &&& (858993459 : Int32)))).toUInt32 >>> (((4 : Int32)).toUInt32 &&& Int32.toUInt32 31)).toInt32)) &&& (252645135 : Int32))).toUInt32 >>> (((8 : Int32)).toUInt32 &&& Int32.toUInt32 31)).toInt32))).toUInt32 >>> (((16 : Int32)).toUInt32 &&& Int32.toUInt32 31)).toInt32)) &&& (63 : Int32))
theorem bc_ok : ∀ q, q < 256 → (bcv (nI q) ≤ 1 ↔ nI q &&& (nI q - 1) = 0) := by decide +kernel
theorem bits8 {r : Int32} {P : Nat → Prop} (h : Bits r P) (hP : ∀ z, P z → z < 8) : ∃ q, q < 256 ∧ r = nI q := by
  refine ⟨r.toBitVec.toNat, ?_, ?_⟩
  · refine Nat.lt_pow_two_of_testBit (n := 8) _ (fun i hi => ?_)
    rw [BitVec.testBit_toNat]
    by_cases l : i < 32
    · cases e : r.toBitVec.getLsbD i
      · rfl
      · exact absurd (hP i ((h i l).mp e)) (by omega)
    · exact BitVec.getLsbD_of_ge _ _ (by omega)
  · apply Int32.toBitVec_inj.mp
    show r.toBitVec = BitVec.ofNat 32 r.toBitVec.toNat
    rw [BitVec.ofNat_toNat]
    exact (BitVec.setWidth_eq _).symm

noncomputable def crd (P : Nat → Nat → Prop) (c : Nat) : Bool := @decide (∃ r, Bits r (P c) ∧ ¬ r &&& (r - 1) = 0) (Classical.propDecidable _)
theorem crd_eq {P : Nat → Nat → Prop} {c : Nat} {r : Int32} (h : Bits r (P c)) : crd P c = true ↔ ¬ r &&& (r - 1) = 0 := by
  unfold crd
  constructor
  · intro e
    obtain ⟨s, h1, h2⟩ := @of_decide_eq_true _ (Classical.propDecidable _) e
    rw [h.eq h1]; exact h2
  · exact fun e => @decide_eq_true _ (Classical.propDecidable _) ⟨r, h, e⟩
theorem c_crowd {j s' r' g : Lf} {s x : Int32} {P : Nat → Nat → Prop} (hP : ∀ c, c < 64 → (∀ z, P c z → z < 8) ∧ ∀ Q : Int32 → Prop, (∀ r, Bits r (P c) → Q r) → pX8_takersOf j s' r' g (nI c) s x Q) {Q : Int32 → Prop} : ∀ (k i : Nat), i + k = 64 → Q (ffr (crd P) k i) → pX9_crowded_L27 j s' r' g s x Q (k + 1) (nI i) := by
  intro k
  induction k with
  | zero =>
    intro i hi q
    exact hdE (N := 64) rfl (by omega) q
  | succ k ih =>
    intro i hi q
    obtain ⟨h8, hp⟩ := hP i (by omega)
    refine hdG (N := 64) rfl (by omega) (by omega) (hp _ (fun r hr => ?_))
    obtain ⟨z, hz, ez⟩ := bits8 hr h8
    have b := bc_ok z hz
    rw [← ez] at b
    unfold pJ6_bitCount_0f7a4
    show (bcv r ≤ 1 → _) ∧ (¬ bcv r ≤ 1 → _)
    refine ⟨fun d => ?_, fun d => ?_⟩
    · rw [nI_s]
      rw [ffr, if_neg (fun e => (crd_eq hr).mp e (b.mp d))] at q
      exact ih (i + 1) (by omega) q
    · rw [ffr, if_pos ((crd_eq hr).mpr (fun e => d (b.mpr e)))] at q
      exact q
theorem m_crowd {v : Lf} {s x : Int32} {P : Nat → Nat → Prop} (hP : ∀ c, c < 64 → ∀ Q : Int32 → Prop, (∀ r, Bits r (P c) → Q r) → pX10_coulds v (nI c) s x Q) {Q : Int32 → Prop} : ∀ (k i : Nat), i + k = 64 → Q (ffr (crd P) k i) → pX10_crowded_L27 v s x Q (k + 1) (nI i) := by
  intro k
  induction k with
  | zero =>
    intro i hi q
    exact hdE (N := 64) rfl (by omega) q
  | succ k ih =>
    intro i hi q
    refine hdG (N := 64) rfl (by omega) (by omega) (hP i (by omega) _ (fun r hr => ⟨fun d => ?_, fun d => ?_⟩))
    · rw [nI_s]
      rw [ffr, if_neg (fun e => (crd_eq hr).mp e d)] at q
      exact ih (i + 1) (by omega) q
    · rw [ffr, if_pos ((crd_eq hr).mpr d)] at q
      exact q

theorem sim_crowded : Sim_X9_crowded Inv := by
  intro v vNc vNcj vNcs vNcp vNcr vNw vNg vNn vNq vIc vIcj vIcs vIcp vIcr vIw vIg vIn vIq vT vTj vTs vTp vTr vx vt gt vM gM hInv x1 x2
  obtain ⟨B, t, N, K, A, h⟩ := id hInv
  have hw := h.now
  have hN := hw.ci.hN
  have hK := hw.ci.hK
  have hM := hw.n13
  have hP := hw.n14
  unfold pX9_crowded
  refine w_in (fun c1 c2 => ?_) (fun c => ?_)
  · first | refine ⟨fun c => absurd c (by decide), fun _ => ?_⟩ | refine ⟨fun _ => ?_, fun c => absurd c (by decide)⟩
    refine w_in (fun d1 d2 => ?_) (fun d => ?_)
    · first | refine ⟨fun c => absurd c (by decide), fun _ => ?_⟩ | refine ⟨fun _ => ?_, fun c => absurd c (by decide)⟩
      have hb := fun c : Nat => both_could h.hB hw (by01 ⟨c1, c2⟩) (nI c) x1
      refine ⟨65, c_crowd (P := fun c => (hb c).choose) (fun c _ => ⟨fun z hz => Nat.lt_of_lt_of_le ((hb c).choose_spec.1 z hz) hN, (hb c).choose_spec.2.1⟩) 64 0 (by omega) ?_⟩
      unfold pX10_crowded
      refine inY ⟨c1, c2⟩ ?_
      first | refine ⟨fun c => absurd c (by decide), fun _ => ?_⟩ | refine ⟨fun _ => ?_, fun c => absurd c (by decide)⟩
      refine inY ⟨d1, d2⟩ ?_
      first | refine ⟨fun c => absurd c (by decide), fun _ => ?_⟩ | refine ⟨fun _ => ?_, fun c => absurd c (by decide)⟩
      exact ⟨65, m_crowd (P := fun c => (hb c).choose) (fun c _ => (hb c).choose_spec.2.2) 64 0 (by omega) ⟨rfl, hInv⟩⟩
    · first | refine ⟨fun c => absurd c (by decide), fun _ => ?_⟩ | refine ⟨fun _ => ?_, fun c => absurd c (by decide)⟩
      unfold pX10_crowded
      refine inY ⟨c1, c2⟩ ?_
      first | refine ⟨fun c => absurd c (by decide), fun _ => ?_⟩ | refine ⟨fun _ => ?_, fun c => absurd c (by decide)⟩
      refine inN d ?_
      first | refine ⟨fun c => absurd c (by decide), fun _ => ?_⟩ | refine ⟨fun _ => ?_, fun c => absurd c (by decide)⟩
      exact ⟨rfl, hInv⟩
  · first | refine ⟨fun c => absurd c (by decide), fun _ => ?_⟩ | refine ⟨fun _ => ?_, fun c => absurd c (by decide)⟩
    unfold pX10_crowded
    refine inN c ?_
    first | refine ⟨fun c => absurd c (by decide), fun _ => ?_⟩ | refine ⟨fun _ => ?_, fun c => absurd c (by decide)⟩
    exact ⟨rfl, hInv⟩

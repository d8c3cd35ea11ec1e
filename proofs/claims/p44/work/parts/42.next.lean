/-! LINES, CAN, NEXT: refusals of pairs, the two walks, the best place -/
/-- a row of pairs: whom, how many -/
def zgd (n : Nat) (R : Nat → Int32) (r k : Nat) : Prop := if k % 2 = 0 then ∃ i, i < n ∧ R (r * 40 + k) = qn i else ∃ g, g < 10 ∧ R (r * 40 + k) = qn g
section NE
variable {n L0 : Nat} {K P : Nat → Nat} {ds : List Nat} {kp : Nat → Option (List Nat)} {I : Nat → Nat → Int32} {J : Nat → Nat → Int64}
theorem zgd_0 {R : Nat → Int32} {r k : Nat} (h : k % 2 = 0) : zgd n R r k ↔ ∃ i, i < n ∧ R (r * 40 + k) = qn i := by unfold zgd; rw [if_pos h]
theorem zgd_1 {R : Nat → Int32} {r k : Nat} (h : k % 2 = 1) : zgd n R r k ↔ ∃ g, g < 10 ∧ R (r * 40 + k) = qn g := by unfold zgd; rw [if_neg (by omega)]
theorem zgd_0F {R : Nat → Int32} {r k : Nat} (hn : n ≤ 6) (h : k % 2 = 0) (hg : ¬ zgd n R r k) : R (r * 40 + k) < 0 ∨ qn n ≤ R (r * 40 + k) := by
  rcases qn_cs n (by omega) (R (r * 40 + k)) with ⟨i, hi, e⟩ | ⟨-, h2⟩
  · exact absurd ((zgd_0 h).mpr ⟨i, hi, e⟩) hg
  · exact h2
theorem zgd_1F {R : Nat → Int32} {r k : Nat} (h : k % 2 = 1) (hg : ¬ zgd n R r k) : R (r * 40 + k) < 0 ∨ qn 10 ≤ R (r * 40 + k) := by
  rcases qn_cs 10 (by omega) (R (r * 40 + k)) with ⟨i, hi, e⟩ | ⟨-, h2⟩
  · exact absurd ((zgd_1 h).mpr ⟨i, hi, e⟩) hg
  · exact h2
/-- the pairs of a row that is not refused -/
theorem zgd_all {R : Nat → Int32} {r T : Nat} (hn : n ≤ 6) (h : ∀ k, k < 2 * T → zgd n R r k) : ∃ wh go : Nat → Nat, ∀ t, t < T → wh t < n ∧ go t < 10 ∧ R (r * 40 + 2 * t) = qn (wh t) ∧ R (r * 40 + (2 * t + 1)) = qn (go t) := by
  have h1 : ∀ t, t < T → ∃ i, i < n ∧ R (r * 40 + 2 * t) = qn i := fun t ht => (zgd_0 (by omega)).mp (h (2 * t) (by omega))
  have h2 : ∀ t, t < T → ∃ g, g < 10 ∧ R (r * 40 + (2 * t + 1)) = qn g := fun t ht => (zgd_1 (by omega)).mp (h (2 * t + 1) (by omega))
  refine ⟨fun t => (R (r * 40 + 2 * t)).toNatClampNeg, fun t => (R (r * 40 + (2 * t + 1))).toNatClampNeg, fun t ht => ?_⟩
  obtain ⟨i, hi, e1⟩ := h1 t ht
  obtain ⟨g, hg, e2⟩ := h2 t ht
  dsimp only
  rw [e1, e2, qn_nat (by omega), qn_nat (by omega)]
  exact ⟨hi, hg, rfl, rfl⟩
theorem q_m2 {k : Nat} (hk : k < 2147483648) : qn k - qn k / 2 * 2 = qn (k % 2) := by
  show qn k - qn k / qn 2 * qn 2 = _
  rw [qn_div (by omega) (by omega), qn_mul, qn_mod]
theorem q_g6 {a : Nat} (h : a < 6) : (0 : Int32) ≤ qn a ∧ qn a < 6 := by
  show qn 0 ≤ qn a ∧ qn a < qn 6
  rw [qn_le (by omega) (by omega), qn_lt (by omega) (by omega)]; omega
theorem q_g240 {a : Nat} (h : a < 240) : (0 : Int32) ≤ qn a ∧ qn a < 240 := by
  show qn 0 ≤ qn a ∧ qn a < qn 240
  rw [qn_le (by omega) (by omega), qn_lt (by omega) (by omega)]; omega
theorem q_g24 {a : Nat} (h : a < 24) : (0 : Int32) ≤ qn a ∧ qn a < 24 := by
  show qn 0 ≤ qn a ∧ qn a < qn 24
  rw [qn_le (by omega) (by omega), qn_lt (by omega) (by omega)]; omega
theorem eX_refP_b {r T : Nat} (e1 : I 1 0 = qn 40) (hn : n ≤ 6) (e0 : I 15 0 = qn n) (hr : r < 6) (hT : T ≤ 8) (e : I 2 r = qn (2 * T)) :
    ((∀ k, k < 2 * T → zgd n (I 3) r k) → fX_refusalOfPairs_b46 100000 (qn r) (qn (2 * T)) 0 I J = some (qn 0, I, J)) ∧ ((¬ ∀ k, k < 2 * T → zgd n (I 3) r k) → fX_refusalOfPairs_b46 100000 (qn r) (qn (2 * T)) 0 I J = some (-qn 3, xfd 3 I, J)) := by
  refine lp (σ := Unit) (R := fun o => ((∀ k, k < 2 * T → zgd n (I 3) r k) → o = some (qn 0, I, J)) ∧ ((¬ ∀ k, k < 2 * T → zgd n (I 3) r k) → o = some (-qn 3, xfd 3 I, J))) (Inv := fun t _ => ∀ k, k < 2 * t → zgd n (I 3) r k) (fun fu t _ => fX_refusalOfPairs_b46 fu (qn r) (qn (2 * T)) (qn (2 * t)) I J) T 100000 0 () (Nat.zero_le _) (by omega) (fun k hk => absurd hk (Nat.not_lt_zero k)) ?_ ?_
  · intro fu _ s1
    refine ⟨fun _ => ?_, fun h => absurd s1 h⟩
    rw [fX_refusalOfPairs_b46, if_pos (Int32.le_refl _)]; rfl
  · intro fu t _ ht s1
    have w1 := eS1_get (I := I) (J := J) (r := r) (n := 2 * T) (i := 2 * t + 1) e1 hr e (by omega) (by omega)
    have w2 := eS1_get (I := I) (J := J) (r := r) (n := 2 * T) (i := 2 * t) e1 hr e (by omega) (by omega)
    have c0 : ¬ qn (2 * T) ≤ qn (2 * t) := by rw [qn_le (by omega) (by omega)]; omega
    have ea : qn (2 * t) + 1 = qn (2 * t + 1) := qn_add _ 1
    have ef : fX_found 3 I J = some (-qn 3, xfd 3 I, J) := eX_found (f := 3) (by omega) (by omega)
    by_cases g0 : zgd n (I 3) r (2 * t)
    case neg =>
      refine Or.inl ⟨fun h => absurd (h (2 * t) (by omega)) g0, fun _ => ?_⟩
      rw [fX_refusalOfPairs_b46, if_neg c0, ea, w1, qp_bd_t, w2, qp_bd_t, eC_hasF e0 (zgd_0F hn (by omega) g0), qp_bd_t, if_pos (show qn 0 = 0 from rfl), ef, qp_bd_t]
    obtain ⟨i, hi, ei⟩ := (zgd_0 (by omega)).mp g0
    by_cases g1 : zgd n (I 3) r (2 * t + 1)
    case neg =>
      refine Or.inl ⟨fun h => absurd (h (2 * t + 1) (by omega)) g1, fun _ => ?_⟩
      rw [fX_refusalOfPairs_b46, if_neg c0, ea, w1, qp_bd_t, w2, qp_bd_t, ei, eC_has e0 hn hi, qp_bd_t, if_neg (by decide)]
      rcases zgd_1F (by omega) g1 with h | h
      · rw [if_pos h, ef, qp_bd_t]
      · have h' := h
        rw [Int32.le_iff_toInt_le, qn_toInt (by omega)] at h'
        have q0 : (0 : Int32).toInt = 0 := rfl
        have q9 : (9 : Int32).toInt = 9 := rfl
        rw [if_neg (by rw [Int32.lt_iff_toInt_lt]; omega), if_neg (by rw [Int32.le_iff_toInt_le]; omega), ef, qp_bd_t]
    obtain ⟨g, hg, eg⟩ := (zgd_1 (by omega)).mp g1
    refine Or.inr ⟨(), fun k hk => ?_, ?_⟩
    · rcases (show k < 2 * t ∨ k = 2 * t ∨ k = 2 * t + 1 by omega) with h | h | h
      · exact s1 k h
      · rw [h]; exact g0
      · rw [h]; exact g1
    · rw [fX_refusalOfPairs_b46, if_neg c0, ea, w1, qp_bd_t, w2, qp_bd_t, ei, eC_has e0 hn hi, qp_bd_t, if_neg (by decide), eg, if_neg (by show ¬ qn g < qn 0; rw [qn_lt (by omega) (by omega)]; omega), if_pos (by show qn g ≤ qn 9; rw [qn_le (by omega) (by omega)]; omega), show qn (2 * t) + 2 = qn (2 * (t + 1)) from qn_add _ 2]
def zpr (n T : Nat) (wh go : Nat → Nat) (R : Nat → Int32) (r : Nat) : Prop := ∀ t, t < T → wh t < n ∧ go t < 10 ∧ R (r * 40 + 2 * t) = qn (wh t) ∧ R (r * 40 + (2 * t + 1)) = qn (go t)
theorem zQ_iff {L T : Nat} {wh go : Nat → Nat} {o : List Nat} : zQ K P L T wh go o = true ↔ ∀ t, t < T → zG K P o L (wh t) = go t := by
  unfold zQ
  rw [decide_eq_true_iff]
theorem eX_tally {r T L : Nat} {wh go : Nat → Nat} (e1 : I 1 0 = qn 40) (hn : n ≤ 6) (hk : ∀ i, i < n → K i ≤ 5 ∧ P i ≤ 9 ∧ I 16 i = qn (K i) ∧ I 17 i = qn (P i)) (e0 : I 15 0 = qn n) (e3 : I 14 3 = qn L) (hL : L ≤ 20) (hr : r < 6) (hT : T ≤ 8) (e : I 2 r = qn (2 * T)) (hp : zpr n T wh go (I 3) r) :
    ∃ I', fX_tallyOrders (qn r) I J = some ((), I', J) ∧ zTy n K P L ((zall n).filter (zQ K P L T wh go)) I' ∧ ∀ c, c < 18 ∨ (22 < c ∧ c < 29) ∨ 32 < c → I' c = I c := by
  obtain ⟨I1, a1, a2, a3, a4, a5⟩ := eO_forget (I := I) (J := J)
  unfold fX_tallyOrders
  rw [a1, qp_bd_t, eS1_size hr, qp_bd_t, a5 2 (by omega), e]
  refine lp (σ := Nat → Nat → Int32) (R := fun o => ∃ I', o = some ((), I', J) ∧ zTy n K P L ((zall n).filter (zQ K P L T wh go)) I' ∧ ∀ c, c < 18 ∨ (22 < c ∧ c < 29) ∨ 32 < c → I' c = I c)
    (Inv := fun t I' => (∀ i, i < n → zkn wh go t i (I' 30 i)) ∧ I' 29 0 = qn 0 ∧ (∀ i, i < 6 → I' 31 i = qn 0) ∧ (∀ j, j < 24 → I' 32 j = qn 0) ∧ ∀ c, c < 29 ∨ 32 < c → I' c = I c) (fun fu t I' => fX_tallyOrders_b18 fu (qn r) (qn (2 * T)) (qn (2 * t)) I' J) T 100000 0 I1 (Nat.zero_le _) (by omega)
    ⟨fun i hi => Or.inl ⟨(a3 i (by omega)).1, fun t ht => absurd ht (Nat.not_lt_zero t)⟩, a2, fun i hi => (a3 i hi).2, a4, a5⟩ ?_ ?_
  · rintro fu I2 ⟨s1, s2, s3, s4, s5⟩
    obtain ⟨I3, b1, b2, b3⟩ := eO_ext (J := J) (K := K) (P := P) (L := L) (Q := zQ K P L T wh go) (I0 := I2) hn (by rw [s5 16 (by omega), s5 17 (by omega)]; exact hk) (by rw [s5 15 (by omega)]; exact e0) (by rw [s5 14 (by omega)]; exact e3) hL
      (fun o ho => (zkn_all (v := I2 30) (G := zG K P o L) (fun i => zG_3) (fun t ht => (hp t ht).1) s1).trans zQ_iff.symm) n 8 [] 0 [] I2 (by omega) (Nat.zero_add n) (fun x hx => by cases hx) (by omega) (fun i hi => by rw [Nat.zero_testBit]; constructor <;> intro h <;> cases h) (fun o ho => zall_P hn ho)
      ⟨s2, fun p hp => s3 p (by omega), fun i hi g hg => s4 _ (by omega)⟩ (fun _ _ _ _ _ => rfl)
    refine ⟨I3, ?_, b2, fun c hc => (b3 c (by omega) (by omega) (by omega) (by omega)).trans (s5 c (by omega))⟩
    rw [fX_tallyOrders_b18, if_pos (Int32.le_refl _)]
    have b1' : fO_extend 8 0 0 0 I2 J = some ((), I3, J) := b1
    rw [b1', qp_bd_t]
  · rintro fu t I2 ht ⟨s1, s2, s3, s4, s5⟩
    obtain ⟨h1, h2, h3, h4⟩ := hp t ht
    have x1 : I2 1 0 = qn 40 := by rw [s5 1 (by omega)]; exact e1
    have x2 : I2 2 r = qn (2 * T) := by rw [s5 2 (by omega)]; exact e
    have w1 := eS1_get (I := I2) (J := J) (r := r) (n := 2 * T) (i := 2 * t) x1 hr x2 (by omega) (by omega)
    have w2 := eS1_get (I := I2) (J := J) (r := r) (n := 2 * T) (i := 2 * t + 1) x1 hr x2 (by omega) (by omega)
    rw [s5 3 (by omega), h3] at w1
    rw [s5 3 (by omega), h4] at w2
    refine Or.inr ⟨qp_up I2 30 (wh t) (if I2 30 (wh t) = -1 then qn (go t) else if ¬ I2 30 (wh t) = qn (go t) then -2 else qn (go t)), ⟨fun i hi => ?_, by rw [qm_nk (by omega)]; exact s2, fun i hi => by rw [qm_nk (by omega)]; exact s3 i hi, fun j hj => by rw [qm_nk (by omega)]; exact s4 j hj, fun c hc => by rw [qm_nk (by omega)]; exact s5 c hc⟩, ?_⟩
    · rw [qm_if]
      by_cases ei : wh t = i
      · rw [if_pos ei]
        have h := zkn_w (s1 (wh t) h1) rfl h2
        rw [← ei]; exact h
      · rw [if_neg ei]
        exact zkn_o (s1 i hi) ei
    · rw [fX_tallyOrders_b18, if_neg (by rw [qn_le (by omega) (by omega)]; omega), w1, qp_bd_t, show qn (2 * t) + 1 = qn (2 * t + 1) from qn_add _ 1, w2, qp_bd_t, eO_learn (by omega), qp_bd_t, show qn (2 * t) + 2 = qn (2 * (t + 1)) from qn_add _ 2]
/-- what the model's fits leaves -/
def zMU (I I' : Nat → Nat → Int32) : Prop := (∀ c, c ≠ 36 → c < 48 ∨ (51 < c ∧ c ≠ 53) → I' c = I c) ∧ ∀ j, j ≠ 20 → I' 36 j = I 36 j
theorem zMU_rfl : zMU I I := ⟨fun _ _ _ => rfl, fun _ _ => rfl⟩
theorem zMU_tr {I I1 I2 : Nat → Nat → Int32} (h : zMU I I1) (h' : zMU I1 I2) : zMU I I2 := ⟨fun c h1 h2 => (h'.1 c h1 h2).trans (h.1 c h1 h2), fun j hj => (h'.2 j hj).trans (h.2 j hj)⟩
end NE

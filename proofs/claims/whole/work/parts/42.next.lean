/-! LINES, CAN, NEXT: refusals of pairs, the two walks, the best place -/
/-- a row of pairs: whom, how many -/
def zgd (n : Nat) (R : Nat → Int32) (r k : Nat) : Prop := if k % 2 = 0 then ∃ i, i < n ∧ R (r * 40 + k) = qn i else ∃ g, g < 10 ∧ R (r * 40 + k) = qn g
section NE
variable {n L0 : Nat} {K P : Nat → Nat} {ds : List Nat} {kp : Nat → Option (List Nat)} {I : Nat → Nat → Int32} {J : Nat → Nat → Int64}
theorem zgd_0 {R : Nat → Int32} {r k : Nat} (h : k % 2 = 0) : zgd n R r k ↔ ∃ i, i < n ∧ R (r * 40 + k) = qn i := by unfold zgd; rw [if_pos h]
theorem zgd_1 {R : Nat → Int32} {r k : Nat} (h : k % 2 = 1) : zgd n R r k ↔ ∃ g, g < 10 ∧ R (r * 40 + k) = qn g := by unfold zgd; rw [if_neg (by omega)]
theorem zgd_0F {R : Nat → Int32} {r k : Nat} (hn : n ≤ 6) (h : k % 2 = 0) (hg : ¬ zgd n R r k) : R (r * 40 + k) < 0 ∨ qn n ≤ R (r * 40 + k) := by
  rcases qn_cs n (by omega) (R (r * 40 + k)) with ⟨i, hi, e⟩ | ⟨-, h2⟩
  · exact absurd ((zgd_0 h).mpr ⟨i, hi, e⟩) hg
  · exact h2
theorem zgd_1F {R : Nat → Int32} {r k : Nat} (h : k % 2 = 1) (hg : ¬ zgd n R r k) : R (r * 40 + k) < 0 ∨ qn 10 ≤ R (r * 40 + k) := by
  rcases qn_cs 10 (by omega) (R (r * 40 + k)) with ⟨i, hi, e⟩ | ⟨-, h2⟩
  · exact absurd ((zgd_1 h).mpr ⟨i, hi, e⟩) hg
  · exact h2
/-- the pairs of a row that is not refused -/
theorem zgd_all {R : Nat → Int32} {r T : Nat} (hn : n ≤ 6) (h : ∀ k, k < 2 * T → zgd n R r k) : ∃ wh go : Nat → Nat, ∀ t, t < T → wh t < n ∧ go t < 10 ∧ R (r * 40 + 2 * t) = qn (wh t) ∧ R (r * 40 + (2 * t + 1)) = qn (go t) := by
  have h1 : ∀ t, t < T → ∃ i, i < n ∧ R (r * 40 + 2 * t) = qn i := fun t ht => (zgd_0 (by omega)).mp (h (2 * t) (by omega))
  have h2 : ∀ t, t < T → ∃ g, g < 10 ∧ R (r * 40 + (2 * t + 1)) = qn g := fun t ht => (zgd_1 (by omega)).mp (h (2 * t + 1) (by omega))
  refine ⟨fun t => (R (r * 40 + 2 * t)).toNatClampNeg, fun t => (R (r * 40 + (2 * t + 1))).toNatClampNeg, fun t ht => ?_⟩
  obtain ⟨i, hi, e1⟩ := h1 t ht
  obtain ⟨g, hg, e2⟩ := h2 t ht
  dsimp only
  rw [e1, e2, qn_nat (by omega), qn_nat (by omega)]
  exact ⟨hi, hg, rfl, rfl⟩
theorem q_m2 {k : Nat} (hk : k < 2147483648) : qn k - qn k / 2 * 2 = qn (k % 2) := by
  show qn k - qn k / qn 2 * qn 2 = _
  rw [qn_div (by omega) (by omega), qn_mul, qn_mod]
theorem q_g6 {a : Nat} (h : a < 6) : (0 : Int32) ≤ qn a ∧ qn a < 6 := by
  show qn 0 ≤ qn a ∧ qn a < qn 6
  rw [qn_le (by omega) (by omega), qn_lt (by omega) (by omega)]; omega
theorem q_g240 {a : Nat} (h : a < 240) : (0 : Int32) ≤ qn a ∧ qn a < 240 := by
  show qn 0 ≤ qn a ∧ qn a < qn 240
  rw [qn_le (by omega) (by omega), qn_lt (by omega) (by omega)]; omega
theorem q_g24 {a : Nat} (h : a < 24) : (0 : Int32) ≤ qn a ∧ qn a < 24 := by
  show qn 0 ≤ qn a ∧ qn a < qn 24
  rw [qn_le (by omega) (by omega), qn_lt (by omega) (by omega)]; omega
theorem eX_refP_b {r T : Nat} (e1 : I 1 0 = qn 40) (hn : n ≤ 6) (e0 : I 15 0 = qn n) (hr : r < 6) (hT : T ≤ 8) (e : I 2 r = qn (2 * T)) :
    ((∀ k, k < 2 * T → zgd n (I 3) r k) → fX_refusalOfPairs_b46 100000 (qn r) (qn (2 * T)) 0 I J = some (qn 0, I, J)) ∧ ((¬ ∀ k, k < 2 * T → zgd n (I 3) r k) → fX_refusalOfPairs_b46 100000 (qn r) (qn (2 * T)) 0 I J = some (-qn 3, xfd 3 I, J)) := by
  refine lp (σ := Unit) (R := fun o => ((∀ k, k < 2 * T → zgd n (I 3) r k) → o = some (qn 0, I, J)) ∧ ((¬ ∀ k, k < 2 * T → zgd n (I 3) r k) → o = some (-qn 3, xfd 3 I, J))) (Inv := fun t _ => ∀ k, k < 2 * t → zgd n (I 3) r k) (fun fu t _ => fX_refusalOfPairs_b46 fu (qn r) (qn (2 * T)) (qn (2 * t)) I J) T 100000 0 () (Nat.zero_le _) (by omega) (fun k hk => absurd hk (Nat.not_lt_zero k)) ?_ ?_
  · intro fu _ s1
    refine ⟨fun _ => ?_, fun h => absurd s1 h⟩
    rw [fX_refusalOfPairs_b46, if_pos (Int32.le_refl _)]; rfl
  · intro fu t _ ht s1
    have w1 := eS1_get (I := I) (J := J) (r := r) (n := 2 * T) (i := 2 * t + 1) e1 hr e (by omega) (by omega)
    have w2 := eS1_get (I := I) (J := J) (r := r) (n := 2 * T) (i := 2 * t) e1 hr e (by omega) (by omega)
    have c0 : ¬ qn (2 * T) ≤ qn (2 * t) := by rw [qn_le (by omega) (by omega)]; omega
    have ea : qn (2 * t) + 1 = qn (2 * t + 1) := qn_add _ 1
    have ef : fX_found 3 I J = some (-qn 3, xfd 3 I, J) := eX_found (f := 3) (by omega) (by omega)
    by_cases g0 : zgd n (I 3) r (2 * t)
    case neg =>
      refine Or.inl ⟨fun h => absurd (h (2 * t) (by omega)) g0, fun _ => ?_⟩
      rw [fX_refusalOfPairs_b46, if_neg c0, ea, w1, qp_bd_t, w2, qp_bd_t, eC_hasF e0 (zgd_0F hn (by omega) g0), qp_bd_t, if_pos (show qn 0 = 0 from rfl), ef, qp_bd_t]
    obtain ⟨i, hi, ei⟩ := (zgd_0 (by omega)).mp g0
    by_cases g1 : zgd n (I 3) r (2 * t + 1)
    case neg =>
      refine Or.inl ⟨fun h => absurd (h (2 * t + 1) (by omega)) g1, fun _ => ?_⟩
      rw [fX_refusalOfPairs_b46, if_neg c0, ea, w1, qp_bd_t, w2, qp_bd_t, ei, eC_has e0 hn hi, qp_bd_t, if_neg (by decide)]
      rcases zgd_1F (by omega) g1 with h | h
      · rw [if_pos h, ef, qp_bd_t]
      · have h' := h
        rw [Int32.le_iff_toInt_le, qn_toInt (by omega)] at h'
        have q0 : (0 : Int32).toInt = 0 := rfl
        have q9 : (9 : Int32).toInt = 9 := rfl
        rw [if_neg (by rw [Int32.lt_iff_toInt_lt]; omega), if_neg (by rw [Int32.le_iff_toInt_le]; omega), ef, qp_bd_t]
    obtain ⟨g, hg, eg⟩ := (zgd_1 (by omega)).mp g1
    refine Or.inr ⟨(), fun k hk => ?_, ?_⟩
    · rcases (show k < 2 * t ∨ k = 2 * t ∨ k = 2 * t + 1 by omega) with h | h | h
      · exact s1 k h
      · rw [h]; exact g0
      · rw [h]; exact g1
    · rw [fX_refusalOfPairs_b46, if_neg c0, ea, w1, qp_bd_t, w2, qp_bd_t, ei, eC_has e0 hn hi, qp_bd_t, if_neg (by decide), eg, if_neg (by show ¬ qn g < qn 0; rw [qn_lt (by omega) (by omega)]; omega), if_pos (by show qn g ≤ qn 9; rw [qn_le (by omega) (by omega)]; omega), show qn (2 * t) + 2 = qn (2 * (t + 1)) from qn_add _ 2]
theorem eM_refP_b {r T : Nat} {R : Nat → Int32} (hn : n ≤ 6) (e0 : I 37 0 = qn n) (hr : r < 6) (hT : T ≤ 8) (e : I 41 r = qn (2 * T)) (eR : ∀ k, k < 40 → I 40 (40 * r + k) = R (r * 40 + k)) :
    ((∀ k, k < 2 * T → zgd n R r k) → fM_refusesPairs_b45 100000 (qn r) 0 I J = some (qn 0, I, J)) ∧ ((¬ ∀ k, k < 2 * T → zgd n R r k) → fM_refusesPairs_b45 100000 (qn r) 0 I J = some (-qn 3, mfd 3 I, J)) := by
  refine lp (σ := Unit) (R := fun o => ((∀ k, k < 2 * T → zgd n R r k) → o = some (qn 0, I, J)) ∧ ((¬ ∀ k, k < 2 * T → zgd n R r k) → o = some (-qn 3, mfd 3 I, J))) (Inv := fun k' _ => ∀ k, k < k' → zgd n R r k) (fun fu k _ => fM_refusesPairs_b45 fu (qn r) (qn k) I J) (2 * T) 100000 0 () (Nat.zero_le _) (by omega) (fun k hk => absurd hk (Nat.not_lt_zero k)) ?_ ?_
  · intro fu _ s1
    refine ⟨fun _ => ?_, fun h => absurd s1 h⟩
    rw [fM_refusesPairs_b45, qp_gd_t (q_g6 hr), qn_nat (by omega), e, if_pos (Int32.le_refl _)]; rfl
  · intro fu k _ hk s1
    have c0 : ¬ qn (2 * T) ≤ qn k := by rw [qn_le (by omega) (by omega)]; omega
    have ea : qn k + 1 = qn (k + 1) := qn_add _ 1
    have ef : fM_finds 3 I J = some (-qn 3, mfd 3 I, J) := eM_finds (f := 3) (by omega)
    have ex : (40 : Int32) * qn r + qn k = qn (40 * r + k) := by
      show qn 40 * qn r + qn k = _
      rw [qn_mul, qn_add]
    have cont : zgd n R r k → ∀ k', k' < k + 1 → zgd n R r k' := fun h k' hk' => by
      rcases (show k' < k ∨ k' = k by omega) with h' | h'
      · exact s1 k' h'
      · rw [h']; exact h
    have eR' := eR k (by omega)
    by_cases hk2 : k % 2 = 1
    · by_cases g1 : zgd n R r k
      · obtain ⟨g, hg, eg⟩ := (zgd_1 hk2).mp g1
        refine Or.inr ⟨(), cont g1, ?_⟩
        have hin : fM_in (Int32.toInt64 (qn g)) 0 9 I J = some (qn 1, I, J) := by rw [qn_64 (by omega)]; exact eM_inN (a := g) (b := 0) (c := 9) (by omega) (by omega) (by omega) (by omega)
        rw [fM_refusesPairs_b45, qp_gd_t (q_g6 hr), qn_nat (by omega), e, if_neg c0, ex, qp_gd_t (q_g240 (by omega)), q_m2 (by omega), hk2, if_pos (by decide), qn_nat (by omega), eR', eg, hin, qp_bd_t, if_pos (by decide), ea]
      · refine Or.inl ⟨fun h => absurd (h k (by omega)) g1, fun _ => ?_⟩
        have hin : fM_in (Int32.toInt64 (R (r * 40 + k))) 0 9 I J = some (qn 0, I, J) := eM_inPF (lo := 0) (hi := 10) (by omega) (by omega) rfl (zgd_1F hk2 g1)
        rw [fM_refusesPairs_b45, qp_gd_t (q_g6 hr), qn_nat (by omega), e, if_neg c0, ex, qp_gd_t (q_g240 (by omega)), q_m2 (by omega), hk2, if_pos (by decide), qn_nat (by omega), eR', hin, qp_bd_t, if_neg (by decide), ef, qp_bd_t]
    · have hk0 : k % 2 = 0 := by omega
      by_cases g1 : zgd n R r k
      · obtain ⟨i, hi, ei⟩ := (zgd_0 hk0).mp g1
        refine Or.inr ⟨(), cont g1, ?_⟩
        have hin : fM_in (Int32.toInt64 (qn i)) 0 (Int32.toInt64 (qn n - 1)) I J = some (qn 1, I, J) := eM_inM (by omega) hi
        rw [fM_refusesPairs_b45, qp_gd_t (q_g6 hr), qn_nat (by omega), e, if_neg c0, ex, qp_gd_t (q_g240 (by omega)), q_m2 (by omega), hk0, if_neg (by decide), qn_nat (by omega), eR', ei, e0, hin, qp_bd_t, if_pos (by decide), ea]
      · refine Or.inl ⟨fun h => absurd (h k (by omega)) g1, fun _ => ?_⟩
        have hin : fM_in (Int32.toInt64 (R (r * 40 + k))) 0 (Int32.toInt64 (qn n - 1)) I J = some (qn 0, I, J) := eM_inMF (by omega) (zgd_0F hn hk0 g1)
        rw [fM_refusesPairs_b45, qp_gd_t (q_g6 hr), qn_nat (by omega), e, if_neg c0, ex, qp_gd_t (q_g240 (by omega)), q_m2 (by omega), hk0, if_neg (by decide), qn_nat (by omega), eR', e0, hin, qp_bd_t, if_neg (by decide), ef, qp_bd_t]
def zpr (n T : Nat) (wh go : Nat → Nat) (R : Nat → Int32) (r : Nat) : Prop := ∀ t, t < T → wh t < n ∧ go t < 10 ∧ R (r * 40 + 2 * t) = qn (wh t) ∧ R (r * 40 + (2 * t + 1)) = qn (go t)
theorem zprs {r : Nat} (hC : zC I J) (hn : n ≤ 6) (e0 : I 15 0 = qn n) (e0' : I 37 0 = qn n) (hr : r < 6) :
    (∃ f, 1 ≤ f ∧ f ≤ 5 ∧ fX_refusalOfPairs (qn r) I J = some (-qn 3, xfd f I, J) ∧ fM_refusesPairs (qn r) (xfd f I) J = some (-qn 3, mfd f (xfd f I), J)) ∨
    ∃ T wh go, T ≤ 8 ∧ I 2 r = qn (2 * T) ∧ zpr n T wh go (I 3) r ∧ fX_refusalOfPairs (qn r) I J = some (qn 0, I, J) ∧ ∀ I' J', I' 37 = I 37 → I' 40 = I 40 → I' 41 = I 41 → fM_refusesPairs (qn r) I' J' = some (qn 0, I', J') := by
  obtain ⟨h1, ⟨h41, h40, -⟩, -, hs, -⟩ := id hC
  have f41 : ∀ f, xfd f I 41 = I 2 := fun f => by rw [xfd_ne (by omega) (by omega)]; exact h41
  have f40 : ∀ f, xfd f I 40 = I 3 := fun f => by rw [xfd_ne (by omega) (by omega)]; exact h40
  have f37 : ∀ f, xfd f I 37 0 = qn n := fun f => by rw [xfd_ne (by omega) (by omega)]; exact e0'
  rcases hs r hr with hs | ⟨m, hm, hs⟩
  · refine Or.inl ⟨1, by omega, by omega, ?_, ?_⟩
    · unfold fX_refusalOfPairs
      rw [eX_ref1N hr hs, qp_bd_t, if_neg (by decide)]
    · unfold fM_refusesPairs
      rw [qp_gd_t (q_g6 hr), qn_nat (by omega), f41, hs, if_neg (by decide), show (1 : Int32) = qn 1 from rfl, eM_finds (by omega), qp_bd_t]
  · have ex1 := eX_ref1 (I := I) (J := J) hr hs (by omega)
    have c0 : (0 : Int32) ≤ qn m := by show qn 0 ≤ qn m; rw [qn_le (by omega) (by omega)]; omega
    by_cases hm2 : m % 2 = 1
    · refine Or.inl ⟨5, by omega, by omega, ?_, ?_⟩
      · unfold fX_refusalOfPairs
        rw [ex1, qp_bd_t, if_pos (show qn 0 = 0 from rfl), eS1_size hr, qp_bd_t, hs, q_m2 (by omega), hm2, if_pos (by decide), show (5 : Int32) = qn 5 from rfl, eX_found (by omega) (by omega), qp_bd_t]
      · unfold fM_refusesPairs
        rw [qp_gd_t (q_g6 hr), qn_nat (by omega), f41, hs, if_pos c0, qp_gd_t (q_g6 hr), q_m2 (by omega), hm2, if_pos (by decide), show (5 : Int32) = qn 5 from rfl, eM_finds (by omega), qp_bd_t]
    · have hm0 : m % 2 = 0 := by omega
      obtain ⟨T, rfl⟩ : ∃ T, m = 2 * T := ⟨m / 2, by omega⟩
      by_cases h16 : 2 * T ≤ 16
      case neg =>
        have c16 : ¬ qn (2 * T) ≤ 16 := by show ¬ qn (2 * T) ≤ qn 16; rw [qn_le (by omega) (by omega)]; exact h16
        refine Or.inl ⟨5, by omega, by omega, ?_, ?_⟩
        · unfold fX_refusalOfPairs
          rw [ex1, qp_bd_t, if_pos (show qn 0 = 0 from rfl), eS1_size hr, qp_bd_t, hs, q_m2 (by omega), hm0, if_neg (by exact fun q => q rfl), if_neg c16, show (5 : Int32) = qn 5 from rfl, eX_found (by omega) (by omega), qp_bd_t]
        · unfold fM_refusesPairs
          rw [qp_gd_t (q_g6 hr), qn_nat (by omega), f41, hs, if_pos c0, qp_gd_t (q_g6 hr), q_m2 (by omega), hm0, if_neg (by exact fun q => q rfl), qp_gd_t (q_g6 hr), if_neg c16, show (5 : Int32) = qn 5 from rfl, eM_finds (by omega), qp_bd_t]
      have c16 : qn (2 * T) ≤ 16 := by show qn (2 * T) ≤ qn 16; rw [qn_le (by omega) (by omega)]; exact h16
      have bx := eX_refP_b (I := I) (J := J) (T := T) h1.1 hn e0 hr (by omega) hs
      have runX : fX_refusalOfPairs (qn r) I J = fX_refusalOfPairs_b46 100000 (qn r) (qn (2 * T)) 0 I J := by
        unfold fX_refusalOfPairs
        rw [ex1, qp_bd_t, if_pos (show qn 0 = 0 from rfl), eS1_size hr, qp_bd_t, hs, q_m2 (by omega), hm0, if_neg (by exact fun q => q rfl), if_pos c16]
      have runM : ∀ (I' : Nat → Nat → Int32) (J' : Nat → Nat → Int64), I' 41 = I 2 → fM_refusesPairs (qn r) I' J' = fM_refusesPairs_b45 100000 (qn r) 0 I' J' := by
        intro I' J' f41
        unfold fM_refusesPairs
        rw [qp_gd_t (q_g6 hr), qn_nat (by omega), f41, hs, if_pos c0, qp_gd_t (q_g6 hr), q_m2 (by omega), hm0, if_neg (by exact fun q => q rfl), qp_gd_t (q_g6 hr), if_pos c16]
      by_cases hg : ∀ k, k < 2 * T → zgd n (I 3) r k
      · obtain ⟨wh, go, hp⟩ := zgd_all hn hg
        refine Or.inr ⟨T, wh, go, by omega, hs, hp, by rw [runX, bx.1 hg], fun I' J' e37 e40 e41 => ?_⟩
        have bm := eM_refP_b (I := I') (J := J') (T := T) (r := r) (R := I 3) hn (by rw [e37]; exact e0') hr (by omega) (by rw [e41, h41]; exact hs) (fun k hk => by rw [e40, h40, Nat.mul_comm])
        rw [runM I' J' (by rw [e41, h41]), bm.1 hg]
      · have bm := eM_refP_b (I := xfd 3 I) (J := J) (T := T) (r := r) (R := I 3) hn (f37 3) hr (by omega) (by rw [f41]; exact hs) (fun k hk => by rw [f40, Nat.mul_comm])
        exact Or.inl ⟨3, by omega, by omega, by rw [runX, bx.2 hg], by rw [runM _ _ (f41 3), bm.2 hg]⟩
theorem zQ_iff {L T : Nat} {wh go : Nat → Nat} {o : List Nat} : zQ K P L T wh go o = true ↔ ∀ t, t < T → zG K P o L (wh t) = go t := by
  unfold zQ
  rw [decide_eq_true_iff]
theorem eX_tally {r T L : Nat} {wh go : Nat → Nat} (e1 : I 1 0 = qn 40) (hn : n ≤ 6) (hk : ∀ i, i < n → K i ≤ 5 ∧ P i ≤ 9 ∧ I 16 i = qn (K i) ∧ I 17 i = qn (P i)) (e0 : I 15 0 = qn n) (e3 : I 14 3 = qn L) (hL : L ≤ 20) (hr : r < 6) (hT : T ≤ 8) (e : I 2 r = qn (2 * T)) (hp : zpr n T wh go (I 3) r) :
    ∃ I', fX_tallyOrders (qn r) I J = some ((), I', J) ∧ zTy n K P L ((zall n).filter (zQ K P L T wh go)) I' ∧ ∀ c, c < 18 ∨ (22 < c ∧ c < 29) ∨ 32 < c → I' c = I c := by
  obtain ⟨I1, a1, a2, a3, a4, a5⟩ := eO_forget (I := I) (J := J)
  unfold fX_tallyOrders
  rw [a1, qp_bd_t, eS1_size hr, qp_bd_t, a5 2 (by omega), e]
  refine lp (σ := Nat → Nat → Int32) (R := fun o => ∃ I', o = some ((), I', J) ∧ zTy n K P L ((zall n).filter (zQ K P L T wh go)) I' ∧ ∀ c, c < 18 ∨ (22 < c ∧ c < 29) ∨ 32 < c → I' c = I c)
    (Inv := fun t I' => (∀ i, i < n → zkn wh go t i (I' 30 i)) ∧ I' 29 0 = qn 0 ∧ (∀ i, i < 6 → I' 31 i = qn 0) ∧ (∀ j, j < 24 → I' 32 j = qn 0) ∧ ∀ c, c < 29 ∨ 32 < c → I' c = I c) (fun fu t I' => fX_tallyOrders_b18 fu (qn r) (qn (2 * T)) (qn (2 * t)) I' J) T 100000 0 I1 (Nat.zero_le _) (by omega)
    ⟨fun i hi => Or.inl ⟨(a3 i (by omega)).1, fun t ht => absurd ht (Nat.not_lt_zero t)⟩, a2, fun i hi => (a3 i hi).2, a4, a5⟩ ?_ ?_
  · rintro fu I2 ⟨s1, s2, s3, s4, s5⟩
    obtain ⟨I3, b1, b2, b3⟩ := eO_ext (J := J) (K := K) (P := P) (L := L) (Q := zQ K P L T wh go) (I0 := I2) hn (by rw [s5 16 (by omega), s5 17 (by omega)]; exact hk) (by rw [s5 15 (by omega)]; exact e0) (by rw [s5 14 (by omega)]; exact e3) hL
      (fun o ho => (zkn_all (v := I2 30) (G := zG K P o L) (fun i => zG_3) (fun t ht => (hp t ht).1) s1).trans zQ_iff.symm) n 8 [] 0 [] I2 (by omega) (Nat.zero_add n) (fun x hx => by cases hx) (by omega) (fun i hi => by rw [Nat.zero_testBit]; constructor <;> intro h <;> cases h) (fun o ho => zall_P hn ho)
      ⟨s2, fun p hp => s3 p (by omega), fun i hi g hg => s4 _ (by omega)⟩ (fun _ _ _ _ _ => rfl)
    refine ⟨I3, ?_, b2, fun c hc => (b3 c (by omega) (by omega) (by omega) (by omega)).trans (s5 c (by omega))⟩
    rw [fX_tallyOrders_b18, if_pos (Int32.le_refl _)]
    have b1' : fO_extend 8 0 0 0 I2 J = some ((), I3, J) := b1
    rw [b1', qp_bd_t]
  · rintro fu t I2 ht ⟨s1, s2, s3, s4, s5⟩
    obtain ⟨h1, h2, h3, h4⟩ := hp t ht
    have x1 : I2 1 0 = qn 40 := by rw [s5 1 (by omega)]; exact e1
    have x2 : I2 2 r = qn (2 * T) := by rw [s5 2 (by omega)]; exact e
    have w1 := eS1_get (I := I2) (J := J) (r := r) (n := 2 * T) (i := 2 * t) x1 hr x2 (by omega) (by omega)
    have w2 := eS1_get (I := I2) (J := J) (r := r) (n := 2 * T) (i := 2 * t + 1) x1 hr x2 (by omega) (by omega)
    rw [s5 3 (by omega), h3] at w1
    rw [s5 3 (by omega), h4] at w2
    refine Or.inr ⟨qp_up I2 30 (wh t) (if I2 30 (wh t) = -1 then qn (go t) else if ¬ I2 30 (wh t) = qn (go t) then -2 else qn (go t)), ⟨fun i hi => ?_, by rw [qm_nk (by omega)]; exact s2, fun i hi => by rw [qm_nk (by omega)]; exact s3 i hi, fun j hj => by rw [qm_nk (by omega)]; exact s4 j hj, fun c hc => by rw [qm_nk (by omega)]; exact s5 c hc⟩, ?_⟩
    · rw [qm_if]
      by_cases ei : wh t = i
      · rw [if_pos ei]
        have h := zkn_w (s1 (wh t) h1) rfl h2
        rw [← ei]; exact h
      · rw [if_neg ei]
        exact zkn_o (s1 i hi) ei
    · rw [fX_tallyOrders_b18, if_neg (by rw [qn_le (by omega) (by omega)]; omega), w1, qp_bd_t, show qn (2 * t) + 1 = qn (2 * t + 1) from qn_add _ 1, w2, qp_bd_t, eO_learn (by omega), qp_bd_t, show qn (2 * t) + 2 = qn (2 * (t + 1)) from qn_add _ 2]
/-- what the model's fits leaves -/
def zMU (I I' : Nat → Nat → Int32) : Prop := (∀ c, c ≠ 36 → c < 48 ∨ (51 < c ∧ c ≠ 53) → I' c = I c) ∧ ∀ j, j ≠ 20 → I' 36 j = I 36 j
theorem zMU_rfl : zMU I I := ⟨fun _ _ _ => rfl, fun _ _ => rfl⟩
theorem zMU_tr {I I1 I2 : Nat → Nat → Int32} (h : zMU I I1) (h' : zMU I1 I2) : zMU I I2 := ⟨fun c h1 h2 => (h'.1 c h1 h2).trans (h.1 c h1 h2), fun j hj => (h'.2 j hj).trans (h.2 j hj)⟩
theorem eM_many (hn : n ≤ 6) (e0 : I 37 0 = qn n) : fM_manyOrders I J = some (qn (zfac n), I, J) := by
  unfold fM_manyOrders
  refine lp (σ := Int32) (R := fun o => o = some (qn (zfac n), I, J)) (Inv := fun i s => 2 ≤ i ∧ s = qn (zfac (i - 1))) (fun fu i s => fM_manyOrders_b4 fu s (qn i) I J) (if n ≤ 1 then 2 else n + 1) 100000 2 1 (by split <;> omega) (by split <;> omega) ⟨Nat.le_refl _, rfl⟩ ?_ ?_
  · rintro fu s ⟨-, hs⟩
    rw [fM_manyOrders_b4, hs, e0]
    by_cases h1 : n ≤ 1
    · rw [if_pos h1, if_pos (by rw [qn_lt (by omega) (by omega)]; omega)]
      have : zfac (2 - 1) = zfac n := by
        rcases (show n = 0 ∨ n = 1 by omega) with rfl | rfl <;> rfl
      rw [this]
    · rw [if_neg h1, if_pos (by rw [qn_lt (by omega) (by omega)]; omega)]; rfl
  · rintro fu i s hi ⟨hi2, hs⟩
    have hi3 : i ≤ n := by split at hi <;> omega
    refine Or.inr ⟨qn (zfac (i + 1 - 1)), ⟨by omega, rfl⟩, ?_⟩
    have hz : zfac (i - 1) * i = zfac (i + 1 - 1) := by
      obtain ⟨j, rfl⟩ : ∃ j, i = j + 1 := ⟨i - 1, by omega⟩
      show zfac j * (j + 1) = (j + 1) * zfac j
      exact Nat.mul_comm _ _
    rw [fM_manyOrders_b4, e0, if_neg (by rw [qn_lt (by omega) (by omega)]; omega), hs, qn_mul, hz, show qn i + 1 = qn (i + 1) from qn_add i 1]
theorem eM_fits {r T c : Nat} {wh go : Nat → Nat} {R : Nat → Int32} {I0 : Nat → Nat → Int32} (hS : zSt n L0 K P ds kp) (hM : zML n L0 K P ds (I0 37)) (hr : r < 6) (hT : T ≤ 8) (e : I0 41 r = qn (2 * T)) (eR : ∀ k, k < 40 → I0 40 (40 * r + k) = R (r * 40 + k)) (hp : zpr n T wh go R r) (hc : c < zfac n) (hf : zMU I0 I) :
    ∃ I', fM_fits (qn c) (qn r) I J = some (qn (if zQ K P (zrun n L0 ds).2 T wh go (zat' (zall n) c) = true then 1 else 0), I', J) ∧ zrow 0 (zat' (zall n) c) (I' 53) ∧ (∀ i, i < n → I' 48 i = qn (zG K P (zat' (zall n) c) (zrun n L0 ds).2 i)) ∧ zMU I0 I' := by
  have hn := hS.1
  have hok := zSt_ok hS
  obtain ⟨h5, h6, h7, h8, h9⟩ := hM
  have hfl := zfac_le n (by omega)
  have hcode := zcode_at hn hc
  have ho : zat' (zall n) c ∈ zall n := zat'_mem _ _ (by rw [zall_len hn]; exact hc)
  have hP := zall_P hn ho
  generalize zat' (zall n) c = o at hcode ho hP
  generalize hLL : (zrun n L0 ds).2 = L
  have e37 : I 37 = I0 37 := hf.1 37 (by omega) (by omega)
  obtain ⟨I1, a1, a2, a3⟩ := eM_layOrder (J := J) (I := I) hn (by rw [e37]; exact h9.1) (show c < 1000 by omega) hcode
  have f1 : I1 37 = I0 37 := (a3 37 (by omega)).trans e37
  obtain ⟨I2, b1, b2, b3⟩ := eM_sv_53 (K := K) (P := P) (J := J) (s := o) (off := 0) (L := L) (n := n) (I := I1) hP.2.1 hP.1 (fun i hi => by have := (hP.2.2 i).1 hi; omega) hn a2 (by omega) (fun i hi => by rw [f1]; exact zSt_km hS h6 i ((hP.2.2 i).1 hi)) (by rw [f1, ← hLL]; exact h9.2.1) (by rw [← hLL]; exact hok.2.2)
  have fr : zMU I0 I2 := zMU_tr hf ⟨fun c h1 h2 => (b3.1 c h1 (by omega)).trans (a3 c (by omega)), fun j hj => (b3.2 j hj).trans (by rw [a3 36 (by omega)])⟩
  have v48 : ∀ i, i < n → I2 48 i = qn (zG K P o L i) := fun i hi => (b2.1 i ((hP.2.2 i).2 hi)).2.1
  refine ⟨I2, ?_, by rw [b3.1 53 (by omega) (by omega)]; exact a2, v48, fr⟩
  unfold fM_fits
  rw [a1, qp_bd_t, f1, h9.1]
  have b1' : fM_serve_36_53 0 (qn n) I1 J = some ((), I2, J) := b1
  rw [b1', qp_bd_t]
  have y41 : I2 41 r = qn (2 * T) := by rw [fr.1 41 (by omega) (by omega)]; exact e
  have y40 : ∀ k, k < 40 → I2 40 (40 * r + k) = R (r * 40 + k) := fun k hk => by rw [fr.1 40 (by omega) (by omega)]; exact eR k hk
  refine lp (σ := Int32) (R := fun x => x = some (qn (if zQ K P L T wh go o = true then 1 else 0), I2, J)) (Inv := fun t s => (s = qn 1 ∧ ∀ t', t' < t → zG K P o L (wh t') = go t') ∨ (s = qn 0 ∧ ∃ t', t' < T ∧ ¬ zG K P o L (wh t') = go t')) (fun fu t s => fM_fits_b25 fu (qn r) s (qn (2 * t)) I2 J) T 100000 0 1 (Nat.zero_le _) (by omega) (Or.inl ⟨rfl, fun t ht => absurd ht (Nat.not_lt_zero t)⟩) ?_ ?_
  · intro fu s hs
    rw [fM_fits_b25, qp_gd_t (q_g6 hr), qn_nat (by omega), y41, show qn (2 * T) + 1 = qn (2 * T + 1) from qn_add _ 1, if_pos (by rw [qn_le (by omega) (by omega)]; omega)]
    rcases hs with ⟨s1, s2⟩ | ⟨s1, t', h1, h2⟩
    · rw [s1, qp_gd_t (show qn 1 = 0 ∨ qn 1 = 1 from Or.inr rfl), if_pos (zQ_iff.mpr s2)]
    · rw [s1, qp_gd_t (show qn 0 = 0 ∨ qn 0 = 1 from Or.inl rfl), if_neg (fun q => h2 (zQ_iff.mp q t' h1))]
  · intro fu t s ht hs
    have c0 : ¬ qn (2 * T) ≤ qn (2 * t + 1) := by rw [qn_le (by omega) (by omega)]; omega
    rcases hs with ⟨s1, s2⟩ | ⟨s1, t', h1, h2⟩
    · obtain ⟨p1, p2, p3, p4⟩ := hp t ht
      have ex : (40 : Int32) * qn r + qn (2 * t) = qn (40 * r + 2 * t) := by
        show qn 40 * qn r + qn (2 * t) = _
        rw [qn_mul, qn_add]
      have ex1 : qn (40 * r + 2 * t) + 1 = qn (40 * r + (2 * t + 1)) := qn_add _ 1
      have y0 := y40 (2 * t) (by omega)
      have y1 := y40 (2 * t + 1) (by omega)
      rw [p3] at y0
      rw [p4] at y1
      have hg3 := zG_3 (K := K) (P := P) (s := o) (L := L) (i := wh t)
      have run : fM_fits_b25 (fu + 1) (qn r) s (qn (2 * t)) I2 J = if ¬ qn (zG K P o L (wh t)) = qn (go t) then fM_fits_b25 fu (qn r) 0 (qn (2 * (t + 1))) I2 J else fM_fits_b25 fu (qn r) 1 (qn (2 * (t + 1))) I2 J := by
        rw [fM_fits_b25, qp_gd_t (q_g6 hr), qn_nat (by omega), y41, show qn (2 * t) + 1 = qn (2 * t + 1) from qn_add _ 1, if_neg c0, s1, if_neg (by decide), ex, ex1, qn_nat (by omega), qn_nat (by omega), y0, y1, qp_gd_t ⟨q_g240 (by omega), q_g6 (by omega), q_g240 (by omega)⟩, qn_nat (by omega), v48 _ p1, show qn (2 * t) + 2 = qn (2 * (t + 1)) from qn_add _ 2]
      by_cases hq : zG K P o L (wh t) = go t
      · rw [if_neg (by rw [hq]; exact fun q => q rfl)] at run
        refine Or.inr ⟨1, Or.inl ⟨rfl, fun t' ht' => ?_⟩, run⟩
        rcases (show t' < t ∨ t' = t by omega) with h | h
        · exact s2 t' h
        · rw [h]; exact hq
      · rw [if_pos (by rw [qn_eq (by omega) (by omega)]; exact hq)] at run
        exact Or.inr ⟨0, Or.inr ⟨rfl, t, ht, hq⟩, run⟩
    · refine Or.inl ?_
      rw [fM_fits_b25, qp_gd_t (q_g6 hr), qn_nat (by omega), y41, show qn (2 * t) + 1 = qn (2 * t + 1) from qn_add _ 1, if_neg c0, s1, if_pos (show qn 0 = 0 from rfl), qp_gd_t (show qn 0 = 0 ∨ qn 0 = 1 from Or.inl rfl), if_neg (fun q => h2 (zQ_iff.mp q t' h1))]
end NE

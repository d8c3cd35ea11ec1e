/-! FAULT, LINE: both -/
theorem zfv_9 {o : Option Nat} (h : ∀ p, o = some p → p < 1000) : zfv o = -9 ↔ o = none := by
  cases o with
  | none => exact ⟨fun _ => rfl, fun _ => rfl⟩
  | some p =>
    have hp := h p rfl
    constructor
    · intro e
      exfalso
      have e2 := congrArg Int32.toInt (show qn p = -9 from e)
      rw [qn_toInt (by omega)] at e2
      have : (-9 : Int32).toInt = -9 := rfl
      omega
    · intro e; cases e
theorem zpp_lt {T : Nat → Int32} {m : Nat} (hm : m ≤ 60) : ∀ (f : Nat) (ks ps : List Nat) (p q : Nat), p < 300 → (zpp T m f ks ps p).1 = some q → q < 1000
  | 0, ks, ps, p, q, hp, h => by
    have := Option.some.inj h
    omega
  | f + 1, ks, ps, p, q, hp, h => by
    unfold zpp at h
    by_cases c1 : 0 < ks.length ∧ m ≤ p
    · rw [if_pos c1] at h; cases h
    rw [if_neg c1] at h
    cases hk : zkd T m p with
    | none =>
      rw [hk] at h
      have := Option.some.inj h
      omega
    | some k =>
      rw [hk] at h
      dsimp only at h
      by_cases c2 : ks.length = 6
      · rw [if_pos c2] at h
        have := Option.some.inj h
        omega
      rw [if_neg c2] at h
      cases hg : zfig T m (p + 1) with
      | none =>
        rw [hg] at h
        have := Option.some.inj h
        omega
      | some g =>
        rw [hg] at h
        dsimp only at h
        by_cases c3 : g = 0
        · rw [if_pos c3] at h
          have := Option.some.inj h
          omega
        rw [if_neg c3] at h
        have h9 := (zfig_9 hg).1
        have hsk := zsk_le (T := T) (m := m) 61 (p + 2)
        exact zpp_lt hm f _ _ _ q (by omega) h
theorem zpar_lt {T : Nat → Int32} {m q : Nat} (hm : m ≤ 60) (h : (zpar T m).1 = some q) : q < 1000 := by
  have hsk := zsk_le (T := T) (m := m) 61 0
  unfold zpar at h
  generalize zsk T m 61 0 = p at *
  by_cases c1 : p < m ∧ T p = 113
  · rw [if_pos c1] at h
    cases ha : zfig T m (p + 1) with
    | none =>
      rw [ha] at h
      have := Option.some.inj h
      omega
    | some a =>
      rw [ha] at h
      dsimp only at h
      cases hb : zfig T m (p + 2) with
      | none =>
        rw [hb] at h
        have := Option.some.inj h
        omega
      | some b =>
        rw [hb] at h
        dsimp only at h
        by_cases c2 : 10 * a + b ≤ 20
        · rw [if_pos c2] at h
          have hsk2 := zsk_le (T := T) (m := m) 61 (p + 3)
          exact zpp_lt hm 7 [] [] _ q (by omega) h
        · rw [if_neg c2] at h
          have := Option.some.inj h
          omega
  · rw [if_neg c1] at h
    have := Option.some.inj h
    omega
theorem zpar_ok {T : Nat → Int32} {m : Nat} (h : (zpar T m).1 = none) : (zpar T m).2.1 ≤ 20 ∧ (zpar T m).2.2.1.length = (zpar T m).2.2.2.length ∧ (zpar T m).2.2.1.length ≤ 6 ∧ (∀ k, k ∈ (zpar T m).2.2.1 → k ≤ 5) ∧ ∀ g, g ∈ (zpar T m).2.2.2 → 1 ≤ g ∧ g ≤ 9 := by
  unfold zpar at h ⊢
  generalize zsk T m 61 0 = p at *
  by_cases c1 : p < m ∧ T p = 113
  · rw [if_pos c1] at h ⊢
    cases ha : zfig T m (p + 1) with
    | none => rw [ha] at h; cases h
    | some a =>
      rw [ha] at h
      dsimp only at h ⊢
      cases hb : zfig T m (p + 2) with
      | none => rw [hb] at h; cases h
      | some b =>
        rw [hb] at h
        dsimp only at h ⊢
        by_cases c2 : 10 * a + b ≤ 20
        · rw [if_pos c2]
          exact ⟨c2, zpp_ok 7 [] [] _ rfl (by decide) (fun k hk => by cases hk) (fun g hg => by cases hg)⟩
        · rw [if_neg c2] at h; cases h
  · rw [if_neg c1] at h; cases h
section SL
variable {I : Nat → Nat → Int32} {J : Nat → Nat → Int64}
theorem zR_text {t m : Nat} (hC : zC I J) (ht : t < 4) (e : I 5 t = qn m) (hm : m ≤ 60) :
    ∃ I', fR_read (qn t) I J = some (zfv (zpar (fun i => I 6 (t * 60 + i)) m).1, I', J) ∧ ((zpar (fun i => I 6 (t * 60 + i)) m).1 = none → I' 11 1 = qn (zpar (fun i => I 6 (t * 60 + i)) m).2.1 ∧ zXC (zpar (fun i => I 6 (t * 60 + i)) m).2.2.1 (zpar (fun i => I 6 (t * 60 + i)) m).2.2.2 I') ∧ ∀ c, c < 10 ∨ 13 < c → I' c = I c :=
  eR_read ht hm hC.1.2.1 e (fun i _ => rfl)
theorem sim_fault (p : Int32) : zsim (fX_fault p) (fM_fault p) := by
  intro I J h
  have hC := zR_C h
  obtain ⟨h1, ⟨h41, h40, h43, h42, h44⟩, h3, h4, h5⟩ := id hC
  rcases qn_cs 4 (by omega) p with ⟨t, ht, rfl⟩ | ⟨-, hp⟩
  case inr =>
    refine ⟨-qn 1, I, J, I, J, ?_, ?_, h⟩
    · unfold fX_fault
      rw [eX_ref4B hp, qp_bd_t, if_neg (by decide)]
    · unfold fM_fault
      rw [eM_isTextF hp]; rfl
  have g4 : (0 : Int32) ≤ qn t ∧ qn t < 4 := by
    show qn 0 ≤ qn t ∧ qn t < qn 4
    rw [qn_le (by omega) (by omega), qn_lt (by omega) (by omega)]; omega
  rcases h5 t ht with hs | ⟨m, hm, hs⟩
  · refine ⟨-qn 3, xfd 1 I, J, mfd 1 (xfd 1 I), J, ?_, ?_, zR_find h⟩
    · unfold fX_fault
      rw [eX_ref4N ht hs, qp_bd_t, if_neg (by decide)]
    · unfold fM_fault
      rw [eM_isText ht, qp_bd_t, if_pos (by decide), qp_gd_t g4, qn_nat (by omega), xfd_ne (by omega) (by omega), h43, hs, if_neg (by decide), show (1 : Int32) = qn 1 from rfl, eM_finds (by omega), qp_bd_t]
  obtain ⟨I1, a1, -, a3⟩ := zR_text (J := J) hC ht hs hm
  obtain ⟨I2, b1, -, b3⟩ := eM_faultOf (I := I1) (J := J) (T := fun i => I 6 (t * 60 + i)) ht hm (by rw [a3 43 (by omega), h43]; exact hs) (fun i hi => by rw [a3 42 (by omega), h42, Nat.mul_comm])
  have r1 : zR I1 J := zR_scr h (fun c hc => by unfold zlc zcc at hc; exact a3 c (by omega)) (by rw [a3 36 (by omega)]) (by rw [a3 36 (by omega)])
  refine ⟨zfv (zpar (fun i => I 6 (t * 60 + i)) m).1, I1, J, I2, J, ?_, ?_, zR_scr r1 (fun c hc => by unfold zlc zcc at hc; exact b3.1 c (by omega) (by omega)) (b3.2 8 (by omega)) (b3.2 9 (by omega))⟩
  · unfold fX_fault
    rw [eX_ref4 ht hs hm, qp_bd_t, if_pos (show qn 0 = 0 from rfl), a1, qp_bd_t]
  · unfold fM_fault
    rw [eM_isText ht, qp_bd_t, if_pos (by decide), qp_gd_t g4, qn_nat (by omega), a3 43 (by omega), h43, hs, if_pos (by show qn 0 ≤ qn m; rw [qn_le (by omega) (by omega)]; omega), b1, qp_bd_t]
theorem eC_take {ks ps : List Nat} {L : Nat} (hl : ks.length = ps.length) (h6 : ks.length ≤ 6) (e1 : I 11 1 = qn L) (hC : zXC ks ps I) :
    ∃ I', fC_take_15_11 I J = some ((), I', J) ∧ I' 15 0 = qn ks.length ∧ I' 15 1 = qn L ∧ (∀ i, i < ks.length → I' 16 i = qn (zat ks i) ∧ I' 17 i = qn (zat ps i)) ∧ ∀ c, c < 15 ∨ 17 < c → I' c = I c := by
  have ecl : fC_clear_15 I J = some ((), qp_up (qp_up I 15 0 0) 15 1 0, J) := rfl
  unfold fC_take_15_11
  rw [ecl, qp_bd_t]
  have e11 : (qp_up (qp_up I 15 0 0) 15 1 0) 11 = I 11 := by rw [qm_nk (by omega), qm_nk (by omega)]
  rw [e11, e1]
  refine lp (σ := Nat → Nat → Int32) (R := fun o => ∃ I', o = some ((), I', J) ∧ I' 15 0 = qn ks.length ∧ I' 15 1 = qn L ∧ (∀ i, i < ks.length → I' 16 i = qn (zat ks i) ∧ I' 17 i = qn (zat ps i)) ∧ ∀ c, c < 15 ∨ 17 < c → I' c = I c)
    (Inv := fun j I' => I' 15 0 = qn j ∧ I' 15 1 = qn L ∧ (∀ i, i < j → I' 16 i = qn (zat ks i) ∧ I' 17 i = qn (zat ps i)) ∧ ∀ c, c < 15 ∨ 17 < c → I' c = I c) (fun fu j I' => fC_take_15_11_b14 fu (qn j) I' J) ks.length 100000 0 (qp_up (qp_up (qp_up I 15 0 0) 15 1 0) 15 1 (qn L)) (Nat.zero_le _) (by omega)
    ⟨by rw [qm_nj (by omega), qm_nj (by omega), qm_eq rfl]; rfl, qm_eq rfl, fun i hi => absurd hi (Nat.not_lt_zero i), fun c hc => by rw [qm_nk (by omega), qm_nk (by omega), qm_nk (by omega)]⟩ ?_ ?_
  · rintro fu I1 ⟨s1, s2, s3, s4⟩
    exact ⟨I1, by rw [fC_take_15_11_b14, s4 11 (by omega), hC.1, if_pos (Int32.le_refl _)], s1, s2, s3, s4⟩
  · rintro fu j I1 hj ⟨s1, s2, s3, s4⟩
    have ek : fC_kindOf_11 (qn j) I1 J = some (qn (zat ks j), I1, J) := by
      unfold fC_kindOf_11
      rw [if_neg (by show ¬ qn j < qn 0; rw [qn_lt (by omega) (by omega)]; omega), if_neg (by show ¬ qn 6 ≤ qn j; rw [qn_le (by omega) (by omega)]; omega), qp_gd_t (q_g6 (by omega)), qn_nat (by omega), s4 12 (by omega), hC.2.1 j hj]
    have ep : fC_patienceOf_11 (qn j) I1 J = some (qn (zat ps j), I1, J) := by
      unfold fC_patienceOf_11
      rw [if_neg (by show ¬ qn j < qn 0; rw [qn_lt (by omega) (by omega)]; omega), if_neg (by show ¬ qn 6 ≤ qn j; rw [qn_le (by omega) (by omega)]; omega), qp_gd_t (q_g6 (by omega)), qn_nat (by omega), s4 13 (by omega), hC.2.2 j (by omega)]
    have ea : fC_add_15 (qn (zat ks j)) (qn (zat ps j)) I1 J = some ((), qp_up (qp_up (qp_up I1 16 j (qn (zat ks j))) 17 j (qn (zat ps j))) 15 0 (qn (j + 1)), J) := by
      unfold fC_add_15
      rw [s1, if_neg (by show ¬ qn j < qn 0; rw [qn_lt (by omega) (by omega)]; omega), if_neg (by show ¬ qn 6 ≤ qn j; rw [qn_le (by omega) (by omega)]; omega), if_neg (by show ¬ qn 6 ≤ qn j; rw [qn_le (by omega) (by omega)]; omega), qp_gd_t (q_g6 (by omega)), qn_nat (by omega), show qn j + 1 = qn (j + 1) from qn_add j 1]
    refine Or.inr ⟨qp_up (qp_up (qp_up I1 16 j (qn (zat ks j))) 17 j (qn (zat ps j))) 15 0 (qn (j + 1)), ⟨qm_eq rfl, by rw [qm_nj (by omega), qm_nk (by omega), qm_nk (by omega)]; exact s2, fun i hi => ?_, fun c hc => by rw [qm_nk (by omega), qm_nk (by omega), qm_nk (by omega)]; exact s4 c hc⟩, ?_⟩
    · rw [qm_nk (by omega), qm_nk (by omega), qm_nk (k := 15) (k' := 17) (by omega), qm_if, qm_if]
      by_cases e : j = i
      · rw [if_pos e, if_pos e, e]; exact ⟨rfl, rfl⟩
      · rw [if_neg e, if_neg e, qm_nk (by omega)]; exact s3 i (by omega)
    · rw [fC_take_15_11_b14, s4 11 (by omega), hC.1, if_neg (by rw [qn_le (by omega) (by omega)]; omega), ek, qp_bd_t, ep, qp_bd_t, ea, qp_bd_t, show qn j + 1 = qn (j + 1) from qn_add j 1]
theorem eX_drops {a : Int32} (h : I 15 0 = a) : ∃ I', fX_line_b58 100000 0 I J = some (a, I', J) ∧ (∀ k, k < 3 → I' 8 k = -qn 1) ∧ ∀ c, c ≠ 8 → I' c = I c := by
  refine lp (σ := Nat → Nat → Int32) (R := fun o => ∃ I', o = some (a, I', J) ∧ (∀ k, k < 3 → I' 8 k = -qn 1) ∧ ∀ c, c ≠ 8 → I' c = I c) (Inv := fun j I' => (∀ k, k < j → I' 8 k = -qn 1) ∧ ∀ c, c ≠ 8 → I' c = I c) (fun fu j I' => fX_line_b58 fu (qn j) I' J) 3 100000 0 I (Nat.zero_le _) (by omega) ⟨fun k hk => absurd hk (Nat.not_lt_zero k), fun _ _ => rfl⟩ ?_ ?_
  · rintro fu I1 ⟨s1, s2⟩
    exact ⟨I1, by rw [fX_line_b58, if_pos (by decide), s2 15 (by omega), h], s1, s2⟩
  · rintro fu j I1 hj ⟨s1, s2⟩
    refine Or.inr ⟨qp_up I1 8 j (-qn 1), ⟨fun k hk => ?_, fun c hc => (qm_nk (Ne.symm hc)).trans (s2 c hc)⟩, ?_⟩
    · rw [qm_if]
      by_cases e : j = k
      · rw [if_pos e]
      · rw [if_neg e]; exact s1 k (by omega)
    · rw [fX_line_b58, if_neg (by show ¬ qn 3 ≤ qn j; rw [qn_le (by omega) (by omega)]; omega), eS7_drop hj, qp_bd_t, show qn j + 1 = qn (j + 1) from qn_add j 1]
theorem eM_drops {a : Int32} (h : I 37 0 = a) : ∃ I', fM_line_b80 100000 0 I J = some (a, I', J) ∧ (∀ k, k < 3 → I' 39 k = qn 0) ∧ ∀ c, c ≠ 39 → I' c = I c := by
  refine lp (σ := Nat → Nat → Int32) (R := fun o => ∃ I', o = some (a, I', J) ∧ (∀ k, k < 3 → I' 39 k = qn 0) ∧ ∀ c, c ≠ 39 → I' c = I c) (Inv := fun j I' => (∀ k, k < j → I' 39 k = qn 0) ∧ ∀ c, c ≠ 39 → I' c = I c) (fun fu j I' => fM_line_b80 fu (qn j) I' J) 3 100000 0 I (Nat.zero_le _) (by omega) ⟨fun k hk => absurd hk (Nat.not_lt_zero k), fun _ _ => rfl⟩ ?_ ?_
  · rintro fu I1 ⟨s1, s2⟩
    exact ⟨I1, by rw [fM_line_b80, if_pos (by decide), s2 37 (by omega), h], s1, s2⟩
  · rintro fu j I1 hj ⟨s1, s2⟩
    refine Or.inr ⟨qp_up I1 39 j (qn 0), ⟨fun k hk => ?_, fun c hc => (qm_nk (Ne.symm hc)).trans (s2 c hc)⟩, ?_⟩
    · rw [qm_if]
      by_cases e : j = k
      · rw [if_pos e]
      · rw [if_neg e]; exact s1 k (by omega)
    · rw [fM_line_b80, if_neg (by show ¬ qn 3 ≤ qn j; rw [qn_le (by omega) (by omega)]; omega), qp_gd_t (by show qn 0 ≤ qn j ∧ qn j < qn 3; rw [qn_le (by omega) (by omega), qn_lt (by omega) (by omega)]; omega), qn_nat (by omega), show qn j + 1 = qn (j + 1) from qn_add j 1]; rfl
theorem eM_anew {ks ps : List Nat} {L : Nat} (h6 : ks.length ≤ 6) (e1 : I 46 1 = qn L) (hC : zYC ks ps I) :
    ∃ I', fM_line_b39 100000 0 I J = some (qn ks.length, I', J) ∧ zMs ks.length ([], L) (I' 37) ∧ I' 37 1 = qn L ∧ (∀ i, i < ks.length → I' 37 (2 + i) = qn (zat ks i) ∧ I' 37 (8 + i) = qn (zat ps i)) ∧ I' 37 14 = qn 0 ∧ (∀ k, k < 3 → I' 39 k = qn 0) ∧ ∀ c, c ≠ 37 → c ≠ 39 → I' c = I c := by
  refine lp (σ := Nat → Nat → Int32) (R := fun o => ∃ I', o = some (qn ks.length, I', J) ∧ zMs ks.length ([], L) (I' 37) ∧ I' 37 1 = qn L ∧ (∀ i, i < ks.length → I' 37 (2 + i) = qn (zat ks i) ∧ I' 37 (8 + i) = qn (zat ps i)) ∧ I' 37 14 = qn 0 ∧ (∀ k, k < 3 → I' 39 k = qn 0) ∧ ∀ c, c ≠ 37 → c ≠ 39 → I' c = I c)
    (Inv := fun j I' => (∀ i, i < j → I' 37 i = I 46 i) ∧ ∀ c, c ≠ 37 → I' c = I c) (fun fu j I' => fM_line_b39 fu (qn j) I' J) 14 100000 0 I (Nat.zero_le _) (by omega) ⟨fun i hi => absurd hi (Nat.not_lt_zero i), fun _ _ => rfl⟩ ?_ ?_
  · rintro fu I1 ⟨s1, s2⟩
    have k0 : (qp_up I1 37 14 0) 37 0 = qn ks.length := by rw [qm_nj (by omega), s1 0 (by omega)]; exact hC.1
    have k1 : (qp_up I1 37 14 0) 37 1 = qn L := by rw [qm_nj (by omega), s1 1 (by omega)]; exact e1
    obtain ⟨I2, b1, b2, b3⟩ := eM_begin (J := J) (I := qp_up I1 37 14 0) (n := ks.length) (L0 := L) h6 k0 k1
    obtain ⟨I3, c1, c2, c3⟩ := eM_drops (J := J) (I := I2) (a := qn ks.length) (by rw [b3.2 0 (by omega)]; exact k0)
    have e37 : I3 37 = I2 37 := c3 37 (by omega)
    refine ⟨I3, ?_, by rw [e37]; exact b2, ?_, fun i hi => ?_, ?_, c2, fun c h1 h2 => ?_⟩
    · rw [fM_line_b39, if_pos (by decide), b1, qp_bd_t, c1]
    · rw [e37, b3.2 1 (by omega)]; exact k1
    · rw [e37, b3.2 (2 + i) (by omega), b3.2 (8 + i) (by omega), qm_nj (by omega), qm_nj (by omega), s1 _ (by omega), s1 _ (by omega)]
      exact ⟨hC.2.1 i hi, hC.2.2 i hi⟩
    · rw [e37, b3.2 14 (by omega), qm_eq rfl]; rfl
    · rw [c3 c h2, b3.1 c h1, qm_nk (Ne.symm h1)]; exact s2 c h1
  · rintro fu j I1 hj ⟨s1, s2⟩
    refine Or.inr ⟨qp_up I1 37 j (I 46 j), ⟨fun i hi => ?_, fun c hc => (qm_nk (Ne.symm hc)).trans (s2 c hc)⟩, ?_⟩
    · rw [qm_if]
      by_cases e : j = i
      · rw [if_pos e, e]
      · rw [if_neg e]; exact s1 i (by omega)
    · rw [fM_line_b39, if_neg (by show ¬ qn 14 ≤ qn j; rw [qn_le (by omega) (by omega)]; omega), qp_gd_t (by show qn 0 ≤ qn j ∧ qn j < qn 75; rw [qn_le (by omega) (by omega), qn_lt (by omega) (by omega)]; omega), qn_nat (by omega), s2 46 (by omega), show qn j + 1 = qn (j + 1) from qn_add j 1]
theorem sim_line (p : Int32) : zsim (fX_line p) (fM_line p) := by
  intro I J h
  have hC := zR_C h
  obtain ⟨h1, ⟨h41, h40, h43, h42, h44⟩, h3, h4, h5⟩ := id hC
  rcases qn_cs 4 (by omega) p with ⟨t, ht, rfl⟩ | ⟨-, hp⟩
  case inr =>
    refine ⟨-qn 1, I, J, I, J, ?_, ?_, h⟩
    · unfold fX_line
      rw [eX_ref4B hp, qp_bd_t, if_neg (by decide)]
    · unfold fM_line
      rw [eM_isTextF hp]; rfl
  have g4 : (0 : Int32) ≤ qn t ∧ qn t < 4 := by
    show qn 0 ≤ qn t ∧ qn t < qn 4
    rw [qn_le (by omega) (by omega), qn_lt (by omega) (by omega)]; omega
  rcases h5 t ht with hs | ⟨m, hm, hs⟩
  · refine ⟨-qn 3, xfd 1 I, J, mfd 1 (xfd 1 I), J, ?_, ?_, zR_find h⟩
    · unfold fX_line
      rw [eX_ref4N ht hs, qp_bd_t, if_neg (by decide)]
    · unfold fM_line
      rw [eM_isText ht, qp_bd_t, if_pos (by decide), qp_gd_t g4, qn_nat (by omega), xfd_ne (by omega) (by omega), h43, hs, if_neg (by decide), show (1 : Int32) = qn 1 from rfl, eM_finds (by omega), qp_bd_t]
  obtain ⟨I1, a1, a2, a3⟩ := zR_text (J := J) hC ht hs hm
  have runM : ∀ I' : Nat → Nat → Int32, I' 43 = I 43 → I' 42 = I 42 → ∃ I2, fM_line (qn t) I' J = (if zfv (zpar (fun i => I 6 (t * 60 + i)) m).1 = -9 then fM_line_b39 100000 0 I2 J else some (-4, I2, J)) ∧ ((zpar (fun i => I 6 (t * 60 + i)) m).1 = none → I2 46 1 = qn (zpar (fun i => I 6 (t * 60 + i)) m).2.1 ∧ zYC (zpar (fun i => I 6 (t * 60 + i)) m).2.2.1 (zpar (fun i => I 6 (t * 60 + i)) m).2.2.2 I2) ∧ zYF I' I2 := by
    intro I' e43 e42
    obtain ⟨I2, b1, b2, b3⟩ := eM_faultOf (I := I') (J := J) (T := fun i => I 6 (t * 60 + i)) ht hm (by rw [e43, h43]; exact hs) (fun i hi => by rw [e42, h42, Nat.mul_comm])
    refine ⟨I2, ?_, b2, b3⟩
    unfold fM_line
    rw [eM_isText ht, qp_bd_t, if_pos (by decide), qp_gd_t g4, qn_nat (by omega), e43, h43, hs, if_pos (by show qn 0 ≤ qn m; rw [qn_le (by omega) (by omega)]; omega), b1, qp_bd_t]
  have r1 : zR I1 J := zR_scr h (fun c hc => by unfold zlc zcc at hc; exact a3 c (by omega)) (by rw [a3 36 (by omega)]) (by rw [a3 36 (by omega)])
  have h9 : zfv (zpar (fun i => I 6 (t * 60 + i)) m).1 = -9 ↔ (zpar (fun i => I 6 (t * 60 + i)) m).1 = none := zfv_9 (fun p hp => zpar_lt hm hp)
  have hok := zpar_ok (T := fun i => I 6 (t * 60 + i)) (m := m)
  have runX : fX_line (qn t) I J = if zfv (zpar (fun i => I 6 (t * 60 + i)) m).1 = -9 then (qp_bd (fC_take_15_11 I1 J) fun _u I3 J3 => qp_bd (fL_restart I3 J3) fun _u I4 J4 => fX_line_b58 100000 0 I4 J4) else some (-4, I1, J) := by
    unfold fX_line
    rw [eX_ref4 ht hs hm, qp_bd_t, if_pos (show qn 0 = 0 from rfl), a1, qp_bd_t]
  generalize zpar (fun i => I 6 (t * 60 + i)) m = z at a2 runM h9 hok runX
  by_cases hz : z.1 = none
  case neg =>
    rw [if_neg (fun q => hz (h9.mp q))] at runX
    obtain ⟨I2, b1, b2, b3⟩ := runM I1 (a3 43 (by omega)) (a3 42 (by omega))
    rw [if_neg (fun q => hz (h9.mp q))] at b1
    exact ⟨-4, I1, J, I2, J, runX, b1, zR_scr r1 (fun c hc => by unfold zlc zcc at hc; exact b3.1 c (by omega) (by omega)) (b3.2 8 (by omega)) (b3.2 9 (by omega))⟩
  rw [if_pos (h9.mpr hz)] at runX
  obtain ⟨x1, x2⟩ := a2 hz
  obtain ⟨k1, k2, k3, k4, k5⟩ := hok hz
  generalize z.2.1 = L at x1 k1 runM
  generalize z.2.2.1 = ks at x2 k2 k3 k4 runM
  generalize z.2.2.2 = ps at x2 k2 k5 runM
  obtain ⟨I3, c1, c2, c3, c4, c5⟩ := eC_take (J := J) (L := L) k2 k3 x1 x2
  obtain ⟨I4, d1, d2, d3⟩ := eL_restart (I := I3) (J := J) k3 c2 c3
  obtain ⟨I5, e1, e2, e3⟩ := eX_drops (I := I4) (J := J) (a := qn ks.length) (by rw [d3 15 (by omega)]; exact c2)
  have f : ∀ c, c < 8 ∨ (17 < c) → I5 c = I c := fun c hc => by rw [e3 c (by omega), d3 c (by omega), c5 c (by omega)]; exact a3 c (by omega)
  have f9 : I5 9 = I 9 := by rw [e3 9 (by omega), d3 9 (by omega), c5 9 (by omega), a3 9 (by omega)]
  obtain ⟨I6, b1, b2, b3⟩ := runM I5 (f 43 (by omega)) (f 42 (by omega))
  rw [if_pos (h9.mpr hz)] at b1
  obtain ⟨y1, y2⟩ := b2 hz
  obtain ⟨I7, g1, g2, g3, g4', g5, g6, g7⟩ := eM_anew (J := J) (L := L) k3 y1 y2
  have F : ∀ c, c ≠ 36 → c ≠ 37 → c ≠ 39 → c ≠ 46 → I7 c = I5 c := fun c q1 q2 q3 q4 => (g7 c q2 q3).trans (b3.1 c q1 q4)
  refine ⟨qn ks.length, I5, J, I7, J, ?_, b1.trans g1, ks.length, L, zat ks, zat ps, [], fun _ => none, ?_, ?_, ⟨?_, fun i hi => ?_, ?_⟩, ?_, ⟨g3, g4', g5, fun d hd => absurd hd (Nat.not_lt_zero d), g2⟩, ?_⟩
  · rw [runX, c1, qp_bd_t, d1, qp_bd_t, e1]
  · refine ⟨k3, k1, fun i hi => ⟨k4 _ (zat_mem ks i hi), k5 _ (zat_mem ps i (by omega))⟩, ⟨Nat.zero_le _, trivial⟩, fun k hk d hd => by cases hd⟩
  · refine zC_eq hC (fun c hc => ?_) ?_ ?_ ?_ ?_
    · unfold zcc at hc
      rw [F c (by omega) (by omega) (by omega) (by omega)]
      exact f c (by omega)
    · rw [g7 36 (by omega) (by omega), b3.2 8 (by omega), F 0 (by omega) (by omega) (by omega) (by omega), f 36 (by omega), f 0 (by omega)]; exact h3.1
    · rw [g7 36 (by omega) (by omega), b3.2 9 (by omega), F 0 (by omega) (by omega) (by omega) (by omega), f 36 (by omega), f 0 (by omega)]; exact h3.2.1
    · exact h3.2.2.1
    · exact h3.2.2.2
  · rw [F 15 (by omega) (by omega) (by omega) (by omega), e3 15 (by omega), d3 15 (by omega)]; exact c3
  · rw [F 16 (by omega) (by omega) (by omega) (by omega), F 17 (by omega) (by omega) (by omega) (by omega), e3 16 (by omega), e3 17 (by omega), d3 16 (by omega), d3 17 (by omega)]; exact c4 i hi
  · refine zXs_eq d2 (fun c hc => ?_)
    rw [F c (by omega) (by omega) (by omega) (by omega), e3 c (by omega)]
  · intro k hk
    refine ⟨fun _ => ?_, fun d hd => by cases hd⟩
    rw [F 8 (by omega) (by omega) (by omega) (by omega)]; exact e2 k hk
  · intro k hk
    exact ⟨fun _ => g6 k hk, fun d hd => by cases hd⟩
end SL

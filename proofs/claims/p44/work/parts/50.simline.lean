/-! FAULT, LINE: both -/
theorem zfv_9 {o : Option Nat} (h : ∀ p, o = some p → p < 1000) : zfv o = -9 ↔ o = none := by
  cases o with
  | none => exact ⟨fun _ => rfl, fun _ => rfl⟩
  | some p =>
    have hp := h p rfl
    constructor
    · intro e
      exfalso
      have e2 := congrArg Int32.toInt (show qn p = -9 from e)
      rw [qn_toInt (by omega)] at e2
      have : (-9 : Int32).toInt = -9 := rfl
      omega
    · intro e; cases e
theorem zpp_lt {T : Nat → Int32} {m : Nat} (hm : m ≤ 60) : ∀ (f : Nat) (ks ps : List Nat) (p q : Nat), p < 300 → (zpp T m f ks ps p).1 = some q → q < 1000
  | 0, ks, ps, p, q, hp, h => by
    have := Option.some.inj h
    omega
  | f + 1, ks, ps, p, q, hp, h => by
    unfold zpp at h
    by_cases c1 : 0 < ks.length ∧ m ≤ p
    · rw [if_pos c1] at h; cases h
    rw [if_neg c1] at h
    cases hk : zkd T m p with
    | none =>
      rw [hk] at h
      have := Option.some.inj h
      omega
    | some k =>
      rw [hk] at h
      dsimp only at h
      by_cases c2 : ks.length = 6
      · rw [if_pos c2] at h
        have := Option.some.inj h
        omega
      rw [if_neg c2] at h
      cases hg : zfig T m (p + 1) with
      | none =>
        rw [hg] at h
        have := Option.some.inj h
        omega
      | some g =>
        rw [hg] at h
        dsimp only at h
        by_cases c3 : g = 0
        · rw [if_pos c3] at h
          have := Option.some.inj h
          omega
        rw [if_neg c3] at h
        have h9 := (zfig_9 hg).1
        have hsk := zsk_le (T := T) (m := m) 61 (p + 2)
        exact zpp_lt hm f _ _ _ q (by omega) h
theorem zpar_lt {T : Nat → Int32} {m q : Nat} (hm : m ≤ 60) (h : (zpar T m).1 = some q) : q < 1000 := by
  have hsk := zsk_le (T := T) (m := m) 61 0
  unfold zpar at h
  generalize zsk T m 61 0 = p at *
  by_cases c1 : p < m ∧ T p = 113
  · rw [if_pos c1] at h
    cases ha : zfig T m (p + 1) with
    | none =>
      rw [ha] at h
      have := Option.some.inj h
      omega
    | some a =>
      rw [ha] at h
      dsimp only at h
      cases hb : zfig T m (p + 2) with
      | none =>
        rw [hb] at h
        have := Option.some.inj h
        omega
      | some b =>
        rw [hb] at h
        dsimp only at h
        by_cases c2 : 10 * a + b ≤ 20
        · rw [if_pos c2] at h
          have hsk2 := zsk_le (T := T) (m := m) 61 (p + 3)
          exact zpp_lt hm 7 [] [] _ q (by omega) h
        · rw [if_neg c2] at h
          have := Option.some.inj h
          omega
  · rw [if_neg c1] at h
    have := Option.some.inj h
    omega
theorem zpar_ok {T : Nat → Int32} {m : Nat} (h : (zpar T m).1 = none) : (zpar T m).2.1 ≤ 20 ∧ (zpar T m).2.2.1.length = (zpar T m).2.2.2.length ∧ (zpar T m).2.2.1.length ≤ 6 ∧ (∀ k, k ∈ (zpar T m).2.2.1 → k ≤ 5) ∧ ∀ g, g ∈ (zpar T m).2.2.2 → 1 ≤ g ∧ g ≤ 9 := by
  unfold zpar at h ⊢
  generalize zsk T m 61 0 = p at *
  by_cases c1 : p < m ∧ T p = 113
  · rw [if_pos c1] at h ⊢
    cases ha : zfig T m (p + 1) with
    | none => rw [ha] at h; cases h
    | some a =>
      rw [ha] at h
      dsimp only at h ⊢
      cases hb : zfig T m (p + 2) with
      | none => rw [hb] at h; cases h
      | some b =>
        rw [hb] at h
        dsimp only at h ⊢
        by_cases c2 : 10 * a + b ≤ 20
        · rw [if_pos c2]
          exact ⟨c2, zpp_ok 7 [] [] _ rfl (by decide) (fun k hk => by cases hk) (fun g hg => by cases hg)⟩
        · rw [if_neg c2] at h; cases h
  · rw [if_neg c1] at h; cases h
section SL
variable {I : Nat → Nat → Int32} {J : Nat → Nat → Int64}
theorem zR_text {t m : Nat} (hC : zC I J) (ht : t < 4) (e : I 5 t = qn m) (hm : m ≤ 60) :
    ∃ I', fR_read (qn t) I J = some (zfv (zpar (fun i => I 6 (t * 60 + i)) m).1, I', J) ∧ ((zpar (fun i => I 6 (t * 60 + i)) m).1 = none → I' 11 1 = qn (zpar (fun i => I 6 (t * 60 + i)) m).2.1 ∧ zXC (zpar (fun i => I 6 (t * 60 + i)) m).2.2.1 (zpar (fun i => I 6 (t * 60 + i)) m).2.2.2 I') ∧ ∀ c, c < 10 ∨ 13 < c → I' c = I c :=
  eR_read ht hm hC.1.2.1 e (fun i _ => rfl)
theorem eC_take {ks ps : List Nat} {L : Nat} (hl : ks.length = ps.length) (h6 : ks.length ≤ 6) (e1 : I 11 1 = qn L) (hC : zXC ks ps I) :
    ∃ I', fC_take_15_11 I J = some ((), I', J) ∧ I' 15 0 = qn ks.length ∧ I' 15 1 = qn L ∧ (∀ i, i < ks.length → I' 16 i = qn (zat ks i) ∧ I' 17 i = qn (zat ps i)) ∧ ∀ c, c < 15 ∨ 17 < c → I' c = I c := by
  have ecl : fC_clear_15 I J = some ((), qp_up (qp_up I 15 0 0) 15 1 0, J) := rfl
  unfold fC_take_15_11
  rw [ecl, qp_bd_t]
  have e11 : (qp_up (qp_up I 15 0 0) 15 1 0) 11 = I 11 := by rw [qm_nk (by omega), qm_nk (by omega)]
  rw [e11, e1]
  refine lp (σ := Nat → Nat → Int32) (R := fun o => ∃ I', o = some ((), I', J) ∧ I' 15 0 = qn ks.length ∧ I' 15 1 = qn L ∧ (∀ i, i < ks.length → I' 16 i = qn (zat ks i) ∧ I' 17 i = qn (zat ps i)) ∧ ∀ c, c < 15 ∨ 17 < c → I' c = I c)
    (Inv := fun j I' => I' 15 0 = qn j ∧ I' 15 1 = qn L ∧ (∀ i, i < j → I' 16 i = qn (zat ks i) ∧ I' 17 i = qn (zat ps i)) ∧ ∀ c, c < 15 ∨ 17 < c → I' c = I c) (fun fu j I' => fC_take_15_11_b14 fu (qn j) I' J) ks.length 100000 0 (qp_up (qp_up (qp_up I 15 0 0) 15 1 0) 15 1 (qn L)) (Nat.zero_le _) (by omega)
    ⟨by rw [qm_nj (by omega), qm_nj (by omega), qm_eq rfl]; rfl, qm_eq rfl, fun i hi => absurd hi (Nat.not_lt_zero i), fun c hc => by rw [qm_nk (by omega), qm_nk (by omega), qm_nk (by omega)]⟩ ?_ ?_
  · rintro fu I1 ⟨s1, s2, s3, s4⟩
    exact ⟨I1, by rw [fC_take_15_11_b14, s4 11 (by omega), hC.1, if_pos (Int32.le_refl _)], s1, s2, s3, s4⟩
  · rintro fu j I1 hj ⟨s1, s2, s3, s4⟩
    have ek : fC_kindOf_11 (qn j) I1 J = some (qn (zat ks j), I1, J) := by
      unfold fC_kindOf_11
      rw [if_neg (by show ¬ qn j < qn 0; rw [qn_lt (by omega) (by omega)]; omega), if_neg (by show ¬ qn 6 ≤ qn j; rw [qn_le (by omega) (by omega)]; omega), qp_gd_t (q_g6 (by omega)), qn_nat (by omega), s4 12 (by omega), hC.2.1 j hj]
    have ep : fC_patienceOf_11 (qn j) I1 J = some (qn (zat ps j), I1, J) := by
      unfold fC_patienceOf_11
      rw [if_neg (by show ¬ qn j < qn 0; rw [qn_lt (by omega) (by omega)]; omega), if_neg (by show ¬ qn 6 ≤ qn j; rw [qn_le (by omega) (by omega)]; omega), qp_gd_t (q_g6 (by omega)), qn_nat (by omega), s4 13 (by omega), hC.2.2 j (by omega)]
    have ea : fC_add_15 (qn (zat ks j)) (qn (zat ps j)) I1 J = some ((), qp_up (qp_up (qp_up I1 16 j (qn (zat ks j))) 17 j (qn (zat ps j))) 15 0 (qn (j + 1)), J) := by
      unfold fC_add_15
      rw [s1, if_neg (by show ¬ qn j < qn 0; rw [qn_lt (by omega) (by omega)]; omega), if_neg (by show ¬ qn 6 ≤ qn j; rw [qn_le (by omega) (by omega)]; omega), if_neg (by show ¬ qn 6 ≤ qn j; rw [qn_le (by omega) (by omega)]; omega), qp_gd_t (q_g6 (by omega)), qn_nat (by omega), show qn j + 1 = qn (j + 1) from qn_add j 1]
    refine Or.inr ⟨qp_up (qp_up (qp_up I1 16 j (qn (zat ks j))) 17 j (qn (zat ps j))) 15 0 (qn (j + 1)), ⟨qm_eq rfl, by rw [qm_nj (by omega), qm_nk (by omega), qm_nk (by omega)]; exact s2, fun i hi => ?_, fun c hc => by rw [qm_nk (by omega), qm_nk (by omega), qm_nk (by omega)]; exact s4 c hc⟩, ?_⟩
    · rw [qm_nk (by omega), qm_nk (by omega), qm_nk (k := 15) (k' := 17) (by omega), qm_if, qm_if]
      by_cases e : j = i
      · rw [if_pos e, if_pos e, e]; exact ⟨rfl, rfl⟩
      · rw [if_neg e, if_neg e, qm_nk (by omega)]; exact s3 i (by omega)
    · rw [fC_take_15_11_b14, s4 11 (by omega), hC.1, if_neg (by rw [qn_le (by omega) (by omega)]; omega), ek, qp_bd_t, ep, qp_bd_t, ea, qp_bd_t, show qn j + 1 = qn (j + 1) from qn_add j 1]
theorem eX_drops {a : Int32} (h : I 15 0 = a) : ∃ I', fX_line_b58 100000 0 I J = some (a, I', J) ∧ (∀ k, k < 3 → I' 8 k = -qn 1) ∧ ∀ c, c ≠ 8 → I' c = I c := by
  refine lp (σ := Nat → Nat → Int32) (R := fun o => ∃ I', o = some (a, I', J) ∧ (∀ k, k < 3 → I' 8 k = -qn 1) ∧ ∀ c, c ≠ 8 → I' c = I c) (Inv := fun j I' => (∀ k, k < j → I' 8 k = -qn 1) ∧ ∀ c, c ≠ 8 → I' c = I c) (fun fu j I' => fX_line_b58 fu (qn j) I' J) 3 100000 0 I (Nat.zero_le _) (by omega) ⟨fun k hk => absurd hk (Nat.not_lt_zero k), fun _ _ => rfl⟩ ?_ ?_
  · rintro fu I1 ⟨s1, s2⟩
    exact ⟨I1, by rw [fX_line_b58, if_pos (by decide), s2 15 (by omega), h], s1, s2⟩
  · rintro fu j I1 hj ⟨s1, s2⟩
    refine Or.inr ⟨qp_up I1 8 j (-qn 1), ⟨fun k hk => ?_, fun c hc => (qm_nk (Ne.symm hc)).trans (s2 c hc)⟩, ?_⟩
    · rw [qm_if]
      by_cases e : j = k
      · rw [if_pos e]
      · rw [if_neg e]; exact s1 k (by omega)
    · rw [fX_line_b58, if_neg (by show ¬ qn 3 ≤ qn j; rw [qn_le (by omega) (by omega)]; omega), eS7_drop hj, qp_bd_t, show qn j + 1 = qn (j + 1) from qn_add j 1]
end SL

/-! LOTS -/
def zlot (n : Nat) (st : ZR) (it : Nat) : Nat :=
  if it / 8 % 8 = 7 then 192 + it / 64 % 21 else if it / 8 % 8 = 6 then (if st.1.length = 0 then 0 else 128 + it / 64 % st.1.length)
  else if st.1.length < 12 ∧ ¬ zat (zls n st.1) (it / 64 % n) = it % n then 64 + (8 * (it % n) + it / 64 % n) else 0
def zlots (n L0 : Nat) : Nat → Nat → List Nat → List Nat
  | 0, _, ds => ds
  | k + 1, it, ds => zlots n L0 k (it * 48271 % 2147483647) (ds ++ [zlot n (zrun n L0 ds) (it * 48271 % 2147483647)])
theorem zlot_ok {n it : Nat} {st : ZR} (hn : n ≤ 6) (h1 : 1 ≤ n) (hok : zRok n st) : zvd n st (zlot n st it) := by
  have h2 := hok.2.1
  have m1 := Nat.mod_lt (it / 64) (show 0 < n by omega)
  have m2 := Nat.mod_lt it (show 0 < n by omega)
  have m3 := Nat.mod_lt (it / 64) (show 0 < 21 by omega)
  unfold zlot
  split
  · exact Or.inr (Or.inr (Or.inr ⟨by omega, by omega⟩))
  · split
    · split
      · exact Or.inl rfl
      · next hl =>
        have m4 := Nat.mod_lt (it / 64) (show 0 < st.1.length by omega)
        exact Or.inr (Or.inr (Or.inl ⟨by omega, by omega⟩))
    · split
      · next h =>
        generalize it / 64 % n = a at *
        generalize it % n = b at *
        exact Or.inr (Or.inl ⟨by omega, by omega, by omega, h.1⟩)
      · exact Or.inl rfl
section LT
variable {n L0 : Nat} {K P : Nat → Nat} {ds : List Nat} {kp : Nat → Option (List Nat)} {I : Nat → Nat → Int32} {J : Nat → Nat → Int64}
theorem eL_lot {it : Nat} (hn : n ≤ 6) (h1 : 1 ≤ n) (hit : it < 2147483648) (h : zXs n (zrun n L0 ds) ds I) (hok : zRok n (zrun n L0 ds)) (hd : ds.length < 40) :
    ∃ I', fL_actByLot (qn it) I J = some ((), I', J) ∧ zXs n (zdeed n (zrun n L0 ds) (zlot n (zrun n L0 ds) it)) (ds ++ [zlot n (zrun n L0 ds) it]) I' ∧ ∀ c', c' ≠ 14 → c' ≠ 23 → c' ≠ 24 → I' c' = I c' := by
  have hv := zlot_ok (it := it) hn h1 hok
  obtain ⟨I1, a1, a2, a3, -⟩ := eL_act (J := J) hn h hok hv hd
  refine ⟨I1, ?_, a2, a3⟩
  have hT := hok.2.1
  have hP := zls_P hok.1
  have e0 := h.1
  have e4 := h.2.2.2.1
  have m1 := Nat.mod_lt (it / 64) (show 0 < n by omega)
  have m2 := Nat.mod_lt it (show 0 < n by omega)
  have m3 := Nat.mod_lt (it / 64) (show 0 < 21 by omega)
  have d64 : it / 64 ≤ it := Nat.div_le_self _ _
  have d8 : it / 8 ≤ it := Nat.div_le_self _ _
  unfold zlot at a1
  unfold fL_actByLot fL_actByLot_b69
  by_cases t7 : it / 8 % 8 = 7
  · rw [if_pos t7] at a1
    rw [show (192 + it / 64 % 21) / 64 = 3 by omega, show (192 + it / 64 % 21) % 64 = it / 64 % 21 by omega] at a1
    simp (disch := omega) only [e0, t7, a1, qn_l0, qn_l1, qn_l2, qn_l3, qn_l4, qn_l5, qn_l6, qn_l7, qn_l8, qn_l9, qn_l10, qn_l11, qn_l12, qn_l13, qn_l14, qn_l15, qn_l16, qn_l17, qn_l18, qn_l19, qn_l20, qn_l21, qn_l22, qn_l23, qn_l24, qn_l26, qn_l27, qn_l28, qn_l31, qn_l32, qn_l33, qn_l34, qn_l36, qn_l37, qn_l38, qn_l39, qn_l40, qn_l47, qn_l48, qn_l49, qn_l50, qn_l51, qn_l54, qn_l55, qn_l56, qn_l57, qn_l60, qn_l63, qn_l64, qn_l69, qn_l70, qn_l75, qn_l99, qn_l100, qn_l103, qn_l111, qn_l112, qn_l113, qn_l115, qn_l117, qn_l120, qn_l127, qn_l128, qn_l200, qn_l225, qn_l240, qn_l255, qn_l256, qn_l300, qn_l720, qn_l1000, qn_l48271, qn_l1000000, qn_l2147483646, qn_l2147483647, qn_add, qn_mul, qn_sub, qn_addneg, qn_div, qn_mod, qn_modn, qn_lt, qn_le, qn_eq, qn_nat, qn_m1, qn_m1', qn_c1, qn_g1, qn_g1', qn_c1', qn_and, qn_or, qn_shl1, qn_shr1, qn_64, ql_32, ql_add, ql_mul, ql_sub, ql_div, ql_mod, ql_lt, ql_le, ql_eq, ql_l0, ql_l1, qp_gd_T, qp_bd_t, ↓reduceIte, qt_le, qf_le, qt_lt, qf_lt, qt_eq, qf_eq, and_self, not_true_eq_false, not_false_eq_true, true_and, and_true, or_true, true_or, or_false, false_or, and_false, false_and, Nat.reduceAdd, Nat.reduceMul, Nat.reduceSub, Nat.reduceDiv, Nat.reduceMod, Nat.reducePow, Nat.zero_add, Nat.add_zero, Nat.zero_le, Nat.mul_zero, Nat.zero_mul, qm_nk, qm_eq, qm_nj]
  · rw [if_neg t7] at a1
    by_cases t6 : it / 8 % 8 = 6
    · rw [if_pos t6] at a1
      by_cases hl : (zrun n L0 ds).1.length = 0
      · rw [if_pos hl] at a1
        rw [show 0 / 64 = 0 from rfl, show 0 % 64 = 0 from rfl] at a1
        simp (disch := omega) only [e0, e4, t7, t6, hl, a1, qn_l0, qn_l1, qn_l2, qn_l3, qn_l4, qn_l5, qn_l6, qn_l7, qn_l8, qn_l9, qn_l10, qn_l11, qn_l12, qn_l13, qn_l14, qn_l15, qn_l16, qn_l17, qn_l18, qn_l19, qn_l20, qn_l21, qn_l22, qn_l23, qn_l24, qn_l26, qn_l27, qn_l28, qn_l31, qn_l32, qn_l33, qn_l34, qn_l36, qn_l37, qn_l38, qn_l39, qn_l40, qn_l47, qn_l48, qn_l49, qn_l50, qn_l51, qn_l54, qn_l55, qn_l56, qn_l57, qn_l60, qn_l63, qn_l64, qn_l69, qn_l70, qn_l75, qn_l99, qn_l100, qn_l103, qn_l111, qn_l112, qn_l113, qn_l115, qn_l117, qn_l120, qn_l127, qn_l128, qn_l200, qn_l225, qn_l240, qn_l255, qn_l256, qn_l300, qn_l720, qn_l1000, qn_l48271, qn_l1000000, qn_l2147483646, qn_l2147483647, qn_add, qn_mul, qn_sub, qn_addneg, qn_div, qn_mod, qn_modn, qn_lt, qn_le, qn_eq, qn_nat, qn_m1, qn_m1', qn_c1, qn_g1, qn_g1', qn_c1', qn_and, qn_or, qn_shl1, qn_shr1, qn_64, ql_32, ql_add, ql_mul, ql_sub, ql_div, ql_mod, ql_lt, ql_le, ql_eq, ql_l0, ql_l1, qp_gd_T, qp_bd_t, ↓reduceIte, qt_le, qf_le, qt_lt, qf_lt, qt_eq, qf_eq, and_self, not_true_eq_false, not_false_eq_true, true_and, and_true, or_true, true_or, or_false, false_or, and_false, false_and, Nat.reduceAdd, Nat.reduceMul, Nat.reduceSub, Nat.reduceDiv, Nat.reduceMod, Nat.reducePow, Nat.zero_add, Nat.add_zero, Nat.zero_le, Nat.mul_zero, Nat.zero_mul, qm_nk, qm_eq, qm_nj]
      · rw [if_neg hl] at a1
        have m4 := Nat.mod_lt (it / 64) (show 0 < (zrun n L0 ds).1.length by omega)
        rw [show (128 + it / 64 % (zrun n L0 ds).1.length) / 64 = 2 by omega, show (128 + it / 64 % (zrun n L0 ds).1.length) % 64 = it / 64 % (zrun n L0 ds).1.length by omega] at a1
        simp (disch := omega) only [e0, e4, t7, t6, hl, a1, qn_l0, qn_l1, qn_l2, qn_l3, qn_l4, qn_l5, qn_l6, qn_l7, qn_l8, qn_l9, qn_l10, qn_l11, qn_l12, qn_l13, qn_l14, qn_l15, qn_l16, qn_l17, qn_l18, qn_l19, qn_l20, qn_l21, qn_l22, qn_l23, qn_l24, qn_l26, qn_l27, qn_l28, qn_l31, qn_l32, qn_l33, qn_l34, qn_l36, qn_l37, qn_l38, qn_l39, qn_l40, qn_l47, qn_l48, qn_l49, qn_l50, qn_l51, qn_l54, qn_l55, qn_l56, qn_l57, qn_l60, qn_l63, qn_l64, qn_l69, qn_l70, qn_l75, qn_l99, qn_l100, qn_l103, qn_l111, qn_l112, qn_l113, qn_l115, qn_l117, qn_l120, qn_l127, qn_l128, qn_l200, qn_l225, qn_l240, qn_l255, qn_l256, qn_l300, qn_l720, qn_l1000, qn_l48271, qn_l1000000, qn_l2147483646, qn_l2147483647, qn_add, qn_mul, qn_sub, qn_addneg, qn_div, qn_mod, qn_modn, qn_lt, qn_le, qn_eq, qn_nat, qn_m1, qn_m1', qn_c1, qn_g1, qn_g1', qn_c1', qn_and, qn_or, qn_shl1, qn_shr1, qn_64, ql_32, ql_add, ql_mul, ql_sub, ql_div, ql_mod, ql_lt, ql_le, ql_eq, ql_l0, ql_l1, qp_gd_T, qp_bd_t, ↓reduceIte, qt_le, qf_le, qt_lt, qf_lt, qt_eq, qf_eq, and_self, not_true_eq_false, not_false_eq_true, true_and, and_true, or_true, true_or, or_false, false_or, and_false, false_and, Nat.reduceAdd, Nat.reduceMul, Nat.reduceSub, Nat.reduceDiv, Nat.reduceMod, Nat.reducePow, Nat.zero_add, Nat.add_zero, Nat.zero_le, Nat.mul_zero, Nat.zero_mul, qm_nk, qm_eq, qm_nj]
    · rw [if_neg t6] at a1
      have t5 : it / 8 % 8 < 6 := by have := Nat.mod_lt (it / 8) (show 0 < 8 by omega); omega
      by_cases hc : (zrun n L0 ds).1.length < 12 ∧ ¬ zat (zls n (zrun n L0 ds).1) (it / 64 % n) = it % n
      · rw [if_pos hc] at a1
        have cs := eL_canSell (J := J) hn h hok m2 m1 hc.1 hc.2
        rw [show (64 + (8 * (it % n) + it / 64 % n)) / 64 = 1 by omega, show (64 + (8 * (it % n) + it / 64 % n)) % 64 = 8 * (it % n) + it / 64 % n by omega] at a1
        simp (disch := omega) only [e0, e4, t7, t6, cs, a1, qn_l0, qn_l1, qn_l2, qn_l3, qn_l4, qn_l5, qn_l6, qn_l7, qn_l8, qn_l9, qn_l10, qn_l11, qn_l12, qn_l13, qn_l14, qn_l15, qn_l16, qn_l17, qn_l18, qn_l19, qn_l20, qn_l21, qn_l22, qn_l23, qn_l24, qn_l26, qn_l27, qn_l28, qn_l31, qn_l32, qn_l33, qn_l34, qn_l36, qn_l37, qn_l38, qn_l39, qn_l40, qn_l47, qn_l48, qn_l49, qn_l50, qn_l51, qn_l54, qn_l55, qn_l56, qn_l57, qn_l60, qn_l63, qn_l64, qn_l69, qn_l70, qn_l75, qn_l99, qn_l100, qn_l103, qn_l111, qn_l112, qn_l113, qn_l115, qn_l117, qn_l120, qn_l127, qn_l128, qn_l200, qn_l225, qn_l240, qn_l255, qn_l256, qn_l300, qn_l720, qn_l1000, qn_l48271, qn_l1000000, qn_l2147483646, qn_l2147483647, qn_add, qn_mul, qn_sub, qn_addneg, qn_div, qn_mod, qn_modn, qn_lt, qn_le, qn_eq, qn_nat, qn_m1, qn_m1', qn_c1, qn_g1, qn_g1', qn_c1', qn_and, qn_or, qn_shl1, qn_shr1, qn_64, ql_32, ql_add, ql_mul, ql_sub, ql_div, ql_mod, ql_lt, ql_le, ql_eq, ql_l0, ql_l1, qp_gd_T, qp_bd_t, ↓reduceIte, qt_le, qf_le, qt_lt, qf_lt, qt_eq, qf_eq, and_self, not_true_eq_false, not_false_eq_true, true_and, and_true, or_true, true_or, or_false, false_or, and_false, false_and, Nat.reduceAdd, Nat.reduceMul, Nat.reduceSub, Nat.reduceDiv, Nat.reduceMod, Nat.reducePow, Nat.zero_add, Nat.add_zero, Nat.zero_le, Nat.mul_zero, Nat.zero_mul, qm_nk, qm_eq, qm_nj]
      · rw [if_neg hc] at a1
        have cs := eL_canSellF (J := J) hn h hok m2 m1 (by
          by_cases h12 : 12 ≤ (zrun n L0 ds).1.length
          · exact Or.inl h12
          · refine Or.inr ?_
            by_cases hz : zat (zls n (zrun n L0 ds).1) (it / 64 % n) = it % n
            · exact hz
            · exact absurd ⟨by omega, hz⟩ hc)
        rw [show 0 / 64 = 0 from rfl, show 0 % 64 = 0 from rfl] at a1
        simp (disch := omega) only [e0, e4, t7, t6, cs, a1, qn_l0, qn_l1, qn_l2, qn_l3, qn_l4, qn_l5, qn_l6, qn_l7, qn_l8, qn_l9, qn_l10, qn_l11, qn_l12, qn_l13, qn_l14, qn_l15, qn_l16, qn_l17, qn_l18, qn_l19, qn_l20, qn_l21, qn_l22, qn_l23, qn_l24, qn_l26, qn_l27, qn_l28, qn_l31, qn_l32, qn_l33, qn_l34, qn_l36, qn_l37, qn_l38, qn_l39, qn_l40, qn_l47, qn_l48, qn_l49, qn_l50, qn_l51, qn_l54, qn_l55, qn_l56, qn_l57, qn_l60, qn_l63, qn_l64, qn_l69, qn_l70, qn_l75, qn_l99, qn_l100, qn_l103, qn_l111, qn_l112, qn_l113, qn_l115, qn_l117, qn_l120, qn_l127, qn_l128, qn_l200, qn_l225, qn_l240, qn_l255, qn_l256, qn_l300, qn_l720, qn_l1000, qn_l48271, qn_l1000000, qn_l2147483646, qn_l2147483647, qn_add, qn_mul, qn_sub, qn_addneg, qn_div, qn_mod, qn_modn, qn_lt, qn_le, qn_eq, qn_nat, qn_m1, qn_m1', qn_c1, qn_g1, qn_g1', qn_c1', qn_and, qn_or, qn_shl1, qn_shr1, qn_64, ql_32, ql_add, ql_mul, ql_sub, ql_div, ql_mod, ql_lt, ql_le, ql_eq, ql_l0, ql_l1, qp_gd_T, qp_bd_t, ↓reduceIte, qt_le, qf_le, qt_lt, qf_lt, qt_eq, qf_eq, and_self, not_true_eq_false, not_false_eq_true, true_and, and_true, or_true, true_or, or_false, false_or, and_false, false_and, Nat.reduceAdd, Nat.reduceMul, Nat.reduceSub, Nat.reduceDiv, Nat.reduceMod, Nat.reducePow, Nat.zero_add, Nat.add_zero, Nat.zero_le, Nat.mul_zero, Nat.zero_mul, qm_nk, qm_eq, qm_nj]
theorem ql_l8 : (8 : Int64) = ql 8 := rfl
theorem ql_l64 : (64 : Int64) = ql 64 := rfl
theorem ql_l21 : (21 : Int64) = ql 21 := rfl
theorem ql_l48271 : (48271 : Int64) = ql 48271 := rfl
theorem ql_lM : (2147483647 : Int64) = ql 2147483647 := rfl
theorem eM_lot {it : Nat} (hn : n ≤ 6) (h1 : 1 ≤ n) (hit : it < 2147483648) (h : zMs n (zrun n L0 ds) (I 37)) (hok : zRok n (zrun n L0 ds)) : fM_deedBy (ql it) I J = some (qn (zmc (zlot n (zrun n L0 ds) it)), I, J) := by
  have hT := hok.2.1
  have hP := zls_P hok.1
  obtain ⟨e0, e55, e56, -, hr⟩ := h
  have m1 := Nat.mod_lt (it / 64) (show 0 < n by omega)
  have m2 := Nat.mod_lt it (show 0 < n by omega)
  have m3 := Nat.mod_lt (it / 64) (show 0 < 21 by omega)
  have d64 : it / 64 ≤ it := Nat.div_le_self _ _
  have d8 : it / 8 ≤ it := Nat.div_le_self _ _
  have t8 := Nat.mod_lt (it / 8) (show 0 < 8 by omega)
  have er := hr (it / 64 % n) (by rw [hP.2.1]; exact m1)
  have hz := zP_at hP m1
  by_cases t7 : it / 8 % 8 = 7
  · have ez : zmc (zlot n (zrun n L0 ds) it) = 300 + it / 64 % 21 := by
      unfold zlot zmc
      rw [if_pos t7, show (192 + it / 64 % 21) / 64 = 3 by omega, show (192 + it / 64 % 21) % 64 = it / 64 % 21 by omega]
    rw [ez]
    unfold fM_deedBy
    simp (disch := omega) only [t7, ql_l8, ql_l64, ql_l21, qn_l0, qn_l1, qn_l2, qn_l3, qn_l4, qn_l5, qn_l6, qn_l7, qn_l8, qn_l9, qn_l10, qn_l11, qn_l12, qn_l13, qn_l14, qn_l15, qn_l16, qn_l17, qn_l18, qn_l19, qn_l20, qn_l21, qn_l22, qn_l23, qn_l24, qn_l26, qn_l27, qn_l28, qn_l31, qn_l32, qn_l33, qn_l34, qn_l36, qn_l37, qn_l38, qn_l39, qn_l40, qn_l47, qn_l48, qn_l49, qn_l50, qn_l51, qn_l54, qn_l55, qn_l56, qn_l57, qn_l60, qn_l63, qn_l64, qn_l69, qn_l70, qn_l75, qn_l99, qn_l100, qn_l103, qn_l111, qn_l112, qn_l113, qn_l115, qn_l117, qn_l120, qn_l127, qn_l128, qn_l200, qn_l225, qn_l240, qn_l255, qn_l256, qn_l300, qn_l720, qn_l1000, qn_l48271, qn_l1000000, qn_l2147483646, qn_l2147483647, qn_add, qn_mul, qn_sub, qn_addneg, qn_div, qn_mod, qn_modn, qn_lt, qn_le, qn_eq, qn_nat, qn_m1, qn_m1', qn_c1, qn_g1, qn_g1', qn_c1', qn_and, qn_or, qn_shl1, qn_shr1, qn_64, ql_32, ql_add, ql_mul, ql_sub, ql_div, ql_mod, ql_lt, ql_le, ql_eq, ql_l0, ql_l1, qp_gd_T, qp_bd_t, ↓reduceIte, qt_le, qf_le, qt_lt, qf_lt, qt_eq, qf_eq, and_self, not_true_eq_false, not_false_eq_true, true_and, and_true, or_true, true_or, or_false, false_or, and_false, false_and, Nat.reduceAdd, Nat.reduceMul, Nat.reduceSub, Nat.reduceDiv, Nat.reduceMod, Nat.reducePow, Nat.zero_add, Nat.add_zero, Nat.zero_le, Nat.mul_zero, Nat.zero_mul, qm_nk, qm_eq, qm_nj]
  · by_cases t6 : it / 8 % 8 = 6
    · by_cases hl : (zrun n L0 ds).1.length = 0
      · have ez : zmc (zlot n (zrun n L0 ds) it) = 0 := by
          unfold zlot zmc
          rw [if_neg t7, if_pos t6, if_pos hl]
        rw [ez]
        unfold fM_deedBy
        simp (disch := omega) only [t7, t6, e56, hl, ql_l8, ql_l64, ql_l21, qn_l0, qn_l1, qn_l2, qn_l3, qn_l4, qn_l5, qn_l6, qn_l7, qn_l8, qn_l9, qn_l10, qn_l11, qn_l12, qn_l13, qn_l14, qn_l15, qn_l16, qn_l17, qn_l18, qn_l19, qn_l20, qn_l21, qn_l22, qn_l23, qn_l24, qn_l26, qn_l27, qn_l28, qn_l31, qn_l32, qn_l33, qn_l34, qn_l36, qn_l37, qn_l38, qn_l39, qn_l40, qn_l47, qn_l48, qn_l49, qn_l50, qn_l51, qn_l54, qn_l55, qn_l56, qn_l57, qn_l60, qn_l63, qn_l64, qn_l69, qn_l70, qn_l75, qn_l99, qn_l100, qn_l103, qn_l111, qn_l112, qn_l113, qn_l115, qn_l117, qn_l120, qn_l127, qn_l128, qn_l200, qn_l225, qn_l240, qn_l255, qn_l256, qn_l300, qn_l720, qn_l1000, qn_l48271, qn_l1000000, qn_l2147483646, qn_l2147483647, qn_add, qn_mul, qn_sub, qn_addneg, qn_div, qn_mod, qn_modn, qn_lt, qn_le, qn_eq, qn_nat, qn_m1, qn_m1', qn_c1, qn_g1, qn_g1', qn_c1', qn_and, qn_or, qn_shl1, qn_shr1, qn_64, ql_32, ql_add, ql_mul, ql_sub, ql_div, ql_mod, ql_lt, ql_le, ql_eq, ql_l0, ql_l1, qp_gd_T, qp_bd_t, ↓reduceIte, qt_le, qf_le, qt_lt, qf_lt, qt_eq, qf_eq, and_self, not_true_eq_false, not_false_eq_true, true_and, and_true, or_true, true_or, or_false, false_or, and_false, false_and, Nat.reduceAdd, Nat.reduceMul, Nat.reduceSub, Nat.reduceDiv, Nat.reduceMod, Nat.reducePow, Nat.zero_add, Nat.add_zero, Nat.zero_le, Nat.mul_zero, Nat.zero_mul, qm_nk, qm_eq, qm_nj]
      · have m4 := Nat.mod_lt (it / 64) (show 0 < (zrun n L0 ds).1.length by omega)
        have ez : zmc (zlot n (zrun n L0 ds) it) = 200 + it / 64 % (zrun n L0 ds).1.length := by
          unfold zlot zmc
          rw [if_neg t7, if_pos t6, if_neg hl, show (128 + it / 64 % (zrun n L0 ds).1.length) / 64 = 2 by omega, show (128 + it / 64 % (zrun n L0 ds).1.length) % 64 = it / 64 % (zrun n L0 ds).1.length by omega]
        rw [ez]
        unfold fM_deedBy
        simp (disch := omega) only [t7, t6, e56, hl, ql_l8, ql_l64, ql_l21, qn_l0, qn_l1, qn_l2, qn_l3, qn_l4, qn_l5, qn_l6, qn_l7, qn_l8, qn_l9, qn_l10, qn_l11, qn_l12, qn_l13, qn_l14, qn_l15, qn_l16, qn_l17, qn_l18, qn_l19, qn_l20, qn_l21, qn_l22, qn_l23, qn_l24, qn_l26, qn_l27, qn_l28, qn_l31, qn_l32, qn_l33, qn_l34, qn_l36, qn_l37, qn_l38, qn_l39, qn_l40, qn_l47, qn_l48, qn_l49, qn_l50, qn_l51, qn_l54, qn_l55, qn_l56, qn_l57, qn_l60, qn_l63, qn_l64, qn_l69, qn_l70, qn_l75, qn_l99, qn_l100, qn_l103, qn_l111, qn_l112, qn_l113, qn_l115, qn_l117, qn_l120, qn_l127, qn_l128, qn_l200, qn_l225, qn_l240, qn_l255, qn_l256, qn_l300, qn_l720, qn_l1000, qn_l48271, qn_l1000000, qn_l2147483646, qn_l2147483647, qn_add, qn_mul, qn_sub, qn_addneg, qn_div, qn_mod, qn_modn, qn_lt, qn_le, qn_eq, qn_nat, qn_m1, qn_m1', qn_c1, qn_g1, qn_g1', qn_c1', qn_and, qn_or, qn_shl1, qn_shr1, qn_64, ql_32, ql_add, ql_mul, ql_sub, ql_div, ql_mod, ql_lt, ql_le, ql_eq, ql_l0, ql_l1, qp_gd_T, qp_bd_t, ↓reduceIte, qt_le, qf_le, qt_lt, qf_lt, qt_eq, qf_eq, and_self, not_true_eq_false, not_false_eq_true, true_and, and_true, or_true, true_or, or_false, false_or, and_false, false_and, Nat.reduceAdd, Nat.reduceMul, Nat.reduceSub, Nat.reduceDiv, Nat.reduceMod, Nat.reducePow, Nat.zero_add, Nat.add_zero, Nat.zero_le, Nat.mul_zero, Nat.zero_mul, qm_nk, qm_eq, qm_nj]
    · by_cases hz2 : zat (zls n (zrun n L0 ds).1) (it / 64 % n) = it % n
      · have ez : zmc (zlot n (zrun n L0 ds) it) = 0 := by
          unfold zlot zmc
          rw [if_neg t7, if_neg t6, if_neg (fun q => q.2 hz2)]
        rw [ez]
        unfold fM_deedBy
        simp (disch := omega) only [t7, t6, e0, er, hz2, ql_l8, ql_l64, ql_l21, qn_l0, qn_l1, qn_l2, qn_l3, qn_l4, qn_l5, qn_l6, qn_l7, qn_l8, qn_l9, qn_l10, qn_l11, qn_l12, qn_l13, qn_l14, qn_l15, qn_l16, qn_l17, qn_l18, qn_l19, qn_l20, qn_l21, qn_l22, qn_l23, qn_l24, qn_l26, qn_l27, qn_l28, qn_l31, qn_l32, qn_l33, qn_l34, qn_l36, qn_l37, qn_l38, qn_l39, qn_l40, qn_l47, qn_l48, qn_l49, qn_l50, qn_l51, qn_l54, qn_l55, qn_l56, qn_l57, qn_l60, qn_l63, qn_l64, qn_l69, qn_l70, qn_l75, qn_l99, qn_l100, qn_l103, qn_l111, qn_l112, qn_l113, qn_l115, qn_l117, qn_l120, qn_l127, qn_l128, qn_l200, qn_l225, qn_l240, qn_l255, qn_l256, qn_l300, qn_l720, qn_l1000, qn_l48271, qn_l1000000, qn_l2147483646, qn_l2147483647, qn_add, qn_mul, qn_sub, qn_addneg, qn_div, qn_mod, qn_modn, qn_lt, qn_le, qn_eq, qn_nat, qn_m1, qn_m1', qn_c1, qn_g1, qn_g1', qn_c1', qn_and, qn_or, qn_shl1, qn_shr1, qn_64, ql_32, ql_add, ql_mul, ql_sub, ql_div, ql_mod, ql_lt, ql_le, ql_eq, ql_l0, ql_l1, qp_gd_T, qp_bd_t, ↓reduceIte, qt_le, qf_le, qt_lt, qf_lt, qt_eq, qf_eq, and_self, not_true_eq_false, not_false_eq_true, true_and, and_true, or_true, true_or, or_false, false_or, and_false, false_and, Nat.reduceAdd, Nat.reduceMul, Nat.reduceSub, Nat.reduceDiv, Nat.reduceMod, Nat.reducePow, Nat.zero_add, Nat.add_zero, Nat.zero_le, Nat.mul_zero, Nat.zero_mul, qm_nk, qm_eq, qm_nj]
      · by_cases h12 : (zrun n L0 ds).1.length < 12
        · have ez : zmc (zlot n (zrun n L0 ds) it) = 100 + 8 * (it % n) + it / 64 % n := by
            unfold zlot zmc
            rw [if_neg t7, if_neg t6, if_pos ⟨h12, hz2⟩, show (64 + (8 * (it % n) + it / 64 % n)) / 64 = 1 by omega, show (64 + (8 * (it % n) + it / 64 % n)) % 64 = 8 * (it % n) + it / 64 % n by omega]
            omega
          rw [ez]
          unfold fM_deedBy
          simp (disch := omega) only [t7, t6, e0, e56, er, hz2, ql_l8, ql_l64, ql_l21, qn_l0, qn_l1, qn_l2, qn_l3, qn_l4, qn_l5, qn_l6, qn_l7, qn_l8, qn_l9, qn_l10, qn_l11, qn_l12, qn_l13, qn_l14, qn_l15, qn_l16, qn_l17, qn_l18, qn_l19, qn_l20, qn_l21, qn_l22, qn_l23, qn_l24, qn_l26, qn_l27, qn_l28, qn_l31, qn_l32, qn_l33, qn_l34, qn_l36, qn_l37, qn_l38, qn_l39, qn_l40, qn_l47, qn_l48, qn_l49, qn_l50, qn_l51, qn_l54, qn_l55, qn_l56, qn_l57, qn_l60, qn_l63, qn_l64, qn_l69, qn_l70, qn_l75, qn_l99, qn_l100, qn_l103, qn_l111, qn_l112, qn_l113, qn_l115, qn_l117, qn_l120, qn_l127, qn_l128, qn_l200, qn_l225, qn_l240, qn_l255, qn_l256, qn_l300, qn_l720, qn_l1000, qn_l48271, qn_l1000000, qn_l2147483646, qn_l2147483647, qn_add, qn_mul, qn_sub, qn_addneg, qn_div, qn_mod, qn_modn, qn_lt, qn_le, qn_eq, qn_nat, qn_m1, qn_m1', qn_c1, qn_g1, qn_g1', qn_c1', qn_and, qn_or, qn_shl1, qn_shr1, qn_64, ql_32, ql_add, ql_mul, ql_sub, ql_div, ql_mod, ql_lt, ql_le, ql_eq, ql_l0, ql_l1, qp_gd_T, qp_bd_t, ↓reduceIte, qt_le, qf_le, qt_lt, qf_lt, qt_eq, qf_eq, and_self, not_true_eq_false, not_false_eq_true, true_and, and_true, or_true, true_or, or_false, false_or, and_false, false_and, Nat.reduceAdd, Nat.reduceMul, Nat.reduceSub, Nat.reduceDiv, Nat.reduceMod, Nat.reducePow, Nat.zero_add, Nat.add_zero, Nat.zero_le, Nat.mul_zero, Nat.zero_mul, qm_nk, qm_eq, qm_nj]
        · have h12' : (zrun n L0 ds).1.length = 12 := by omega
          have ez : zmc (zlot n (zrun n L0 ds) it) = 0 := by
            unfold zlot zmc
            rw [if_neg t7, if_neg t6, if_neg (fun q => h12 q.1)]
          rw [ez]
          unfold fM_deedBy
          simp (disch := omega) only [t7, t6, e0, e56, h12', er, hz2, ql_l8, ql_l64, ql_l21, qn_l0, qn_l1, qn_l2, qn_l3, qn_l4, qn_l5, qn_l6, qn_l7, qn_l8, qn_l9, qn_l10, qn_l11, qn_l12, qn_l13, qn_l14, qn_l15, qn_l16, qn_l17, qn_l18, qn_l19, qn_l20, qn_l21, qn_l22, qn_l23, qn_l24, qn_l26, qn_l27, qn_l28, qn_l31, qn_l32, qn_l33, qn_l34, qn_l36, qn_l37, qn_l38, qn_l39, qn_l40, qn_l47, qn_l48, qn_l49, qn_l50, qn_l51, qn_l54, qn_l55, qn_l56, qn_l57, qn_l60, qn_l63, qn_l64, qn_l69, qn_l70, qn_l75, qn_l99, qn_l100, qn_l103, qn_l111, qn_l112, qn_l113, qn_l115, qn_l117, qn_l120, qn_l127, qn_l128, qn_l200, qn_l225, qn_l240, qn_l255, qn_l256, qn_l300, qn_l720, qn_l1000, qn_l48271, qn_l1000000, qn_l2147483646, qn_l2147483647, qn_add, qn_mul, qn_sub, qn_addneg, qn_div, qn_mod, qn_modn, qn_lt, qn_le, qn_eq, qn_nat, qn_m1, qn_m1', qn_c1, qn_g1, qn_g1', qn_c1', qn_and, qn_or, qn_shl1, qn_shr1, qn_64, ql_32, ql_add, ql_mul, ql_sub, ql_div, ql_mod, ql_lt, ql_le, ql_eq, ql_l0, ql_l1, qp_gd_T, qp_bd_t, ↓reduceIte, qt_le, qf_le, qt_lt, qf_lt, qt_eq, qf_eq, and_self, not_true_eq_false, not_false_eq_true, true_and, and_true, or_true, true_or, or_false, false_or, and_false, false_and, Nat.reduceAdd, Nat.reduceMul, Nat.reduceSub, Nat.reduceDiv, Nat.reduceMod, Nat.reducePow, Nat.zero_add, Nat.add_zero, Nat.zero_le, Nat.mul_zero, Nat.zero_mul, qm_nk, qm_eq, qm_nj]
theorem zit (it : Nat) (h : it < 2147483647) : ql it * 48271 - ql it * 48271 / 2147483647 * 2147483647 = ql (it * 48271 % 2147483647) := by
  show ql it * ql 48271 - ql it * ql 48271 / ql 2147483647 * ql 2147483647 = _
  rw [ql_mul, ql_div (by omega) (by omega), ql_mul, ql_mod]
theorem eX_lots_b {m it : Nat} (hS : zSt n L0 K P ds kp) (h1 : 1 ≤ n) (hm : ds.length + m ≤ 40) (hit : it < 2147483647) (hX : zXL n L0 K P ds I) :
    ∃ I', fX_lots_b64 100000 (qn m) (ql it) (qn 0) I J = some (qn ((zrun n L0 (zlots n L0 m it ds)).2 - zE K P (zls n (zrun n L0 (zlots n L0 m it ds)).1) (zrun n L0 (zlots n L0 m it ds)).2), I', J) ∧ zSt n L0 K P (zlots n L0 m it ds) kp ∧ zXs n (zrun n L0 (zlots n L0 m it ds)) (zlots n L0 m it ds) I' ∧ ∀ c, c ≠ 14 → c ≠ 23 → c ≠ 24 → c < 18 ∨ 22 < c → I' c = I c := by
  have hn := hS.1
  generalize hE : zlots n L0 m it ds = dE
  refine lp (σ := Int64 × (Nat → Nat → Int32)) (R := fun o => ∃ I', o = some (qn ((zrun n L0 dE).2 - zE K P (zls n (zrun n L0 dE).1) (zrun n L0 dE).2), I', J) ∧ zSt n L0 K P dE kp ∧ zXs n (zrun n L0 dE) dE I' ∧ ∀ c, c ≠ 14 → c ≠ 23 → c ≠ 24 → c < 18 ∨ 22 < c → I' c = I c)
    (Inv := fun k q => ∃ ds1 it1, zlots n L0 (m - k) it1 ds1 = dE ∧ q.1 = ql it1 ∧ it1 < 2147483647 ∧ zSt n L0 K P ds1 kp ∧ ds1.length + (m - k) ≤ 40 ∧ zXs n (zrun n L0 ds1) ds1 q.2 ∧ ∀ c, c ≠ 14 → c ≠ 23 → c ≠ 24 → q.2 c = I c)
    (fun fu k q => fX_lots_b64 fu (qn m) q.1 (qn k) q.2 J) m 100000 0 (ql it, I) (Nat.zero_le _) (by omega) ⟨ds, it, hE, rfl, hit, hS, hm, hX.2.2, fun _ _ _ _ => rfl⟩ ?_ ?_
  · rintro fu ⟨q, I1⟩ ⟨ds1, it1, s1, s2, s3, s4, s5, s6, s7⟩
    dsimp only at s2 s6 s7 ⊢
    rw [Nat.sub_self] at s1
    have e : ds1 = dE := s1
    subst e
    have hP := zSt_P s4
    have hok := zSt_ok s4
    obtain ⟨I2, a1, a2, a3⟩ := eL_sv (I := I1) (J := J) (K := K) (P := P) hP hn (by rw [s7 16 (by omega) (by omega) (by omega), s7 17 (by omega) (by omega) (by omega)]; exact zSt_kx hS hX.2.1) s6.1 s6.2.2.1 hok.2.2
    have hE2 := zE_le (K := K) (P := P) (s := zls n (zrun n L0 ds1).1) (L := (zrun n L0 ds1).2)
    have e2 := s6.2.1
    rw [fX_lots_b64]
    unfold fV_gainOfAll
    simp (disch := omega) only [e2, a1, a2.2.1, a2.2.2.1, qn_l0, qn_l1, qn_l2, qn_l3, qn_l4, qn_l5, qn_l6, qn_l7, qn_l8, qn_l9, qn_l10, qn_l11, qn_l12, qn_l13, qn_l14, qn_l15, qn_l16, qn_l17, qn_l18, qn_l19, qn_l20, qn_l21, qn_l22, qn_l23, qn_l24, qn_l26, qn_l27, qn_l28, qn_l31, qn_l32, qn_l33, qn_l34, qn_l36, qn_l37, qn_l38, qn_l39, qn_l40, qn_l47, qn_l48, qn_l49, qn_l50, qn_l51, qn_l54, qn_l55, qn_l56, qn_l57, qn_l60, qn_l63, qn_l64, qn_l69, qn_l70, qn_l75, qn_l99, qn_l100, qn_l103, qn_l111, qn_l112, qn_l113, qn_l115, qn_l117, qn_l120, qn_l127, qn_l128, qn_l200, qn_l225, qn_l240, qn_l255, qn_l256, qn_l300, qn_l720, qn_l1000, qn_l48271, qn_l1000000, qn_l2147483646, qn_l2147483647, qn_add, qn_mul, qn_sub, qn_addneg, qn_div, qn_mod, qn_modn, qn_lt, qn_le, qn_eq, qn_nat, qn_m1, qn_m1', qn_c1, qn_g1, qn_g1', qn_c1', qn_and, qn_or, qn_shl1, qn_shr1, qn_64, ql_32, ql_add, ql_mul, ql_sub, ql_div, ql_mod, ql_lt, ql_le, ql_eq, ql_l0, ql_l1, qp_gd_T, qp_bd_t, ↓reduceIte, qt_le, qf_le, qt_lt, qf_lt, qt_eq, qf_eq, and_self, not_true_eq_false, not_false_eq_true, true_and, and_true, or_true, true_or, or_false, false_or, and_false, false_and, Nat.reduceAdd, Nat.reduceMul, Nat.reduceSub, Nat.reduceDiv, Nat.reduceMod, Nat.reducePow, Nat.zero_add, Nat.add_zero, Nat.zero_le, Nat.mul_zero, Nat.zero_mul, qm_nk, qm_eq, qm_nj]
    exact ⟨I2, rfl, s4, zXs_eq s6 (fun c hc => a3 c (by omega)), fun c h1 h2 h3 h4 => (a3 c h4).trans (s7 c h1 h2 h3)⟩
  · rintro fu k ⟨q, I1⟩ hk ⟨ds1, it1, s1, s2, s3, s4, s5, s6, s7⟩
    dsimp only at s2 s6 s7 ⊢
    have hok := zSt_ok s4
    have hit2 : it1 * 48271 % 2147483647 < 2147483647 := Nat.mod_lt _ (by omega)
    obtain ⟨I2, a1, a2, a3⟩ := eL_lot (J := J) (it := it1 * 48271 % 2147483647) hn h1 (by omega) s6 hok (by omega)
    rw [show m - k = (m - (k + 1)) + 1 by omega] at s1
    have hv := zlot_ok (it := it1 * 48271 % 2147483647) hn h1 hok
    refine Or.inr ⟨(ql (it1 * 48271 % 2147483647), I2), ⟨ds1 ++ [zlot n (zrun n L0 ds1) (it1 * 48271 % 2147483647)], _, s1, rfl, hit2, zSt_app s4 hv (by omega), by rw [List.length_append]; show ds1.length + 1 + _ ≤ 40; omega, ?_, fun c h1 h2 h3 => (a3 c h1 h2 h3).trans (s7 c h1 h2 h3)⟩, ?_⟩
    · rw [zrun_app]; exact a2
    · rw [fX_lots_b64, s2, if_neg (by rw [qn_le (by omega) (by omega)]; omega), zit it1 s3, ql_32, a1, qp_bd_t, show qn k + 1 = qn (k + 1) from qn_add k 1]
theorem eM_lots_b {m it : Nat} (hS : zSt n L0 K P ds kp) (h1 : 1 ≤ n) (hm : ds.length + m ≤ 40) (hit : it < 2147483647) (hM : zML n L0 K P ds (I 37)) :
    ∃ I', fM_lots_b61 100000 (qn m) (ql it) (qn 0) I J = some (qn ((zrun n L0 (zlots n L0 m it ds)).2 - zE K P (zls n (zrun n L0 (zlots n L0 m it ds)).1) (zrun n L0 (zlots n L0 m it ds)).2), I', J) ∧ zMs n (zrun n L0 (zlots n L0 m it ds)) (I' 37) ∧ I' 37 14 = qn (zlots n L0 m it ds).length ∧ zrd (zlots n L0 m it ds) (I' 37) ∧ (∀ j, j < 14 → I' 37 j = I 37 j) ∧ (∀ c, c ≠ 37 → c ≠ 36 → c < 48 ∨ 51 < c → I' c = I c) ∧ ∀ j, j ≠ 20 → I' 36 j = I 36 j := by
  have hn := hS.1
  generalize hE : zlots n L0 m it ds = dE
  refine lp (σ := Int64 × (Nat → Nat → Int32)) (R := fun o => ∃ I', o = some (qn ((zrun n L0 dE).2 - zE K P (zls n (zrun n L0 dE).1) (zrun n L0 dE).2), I', J) ∧ zMs n (zrun n L0 dE) (I' 37) ∧ I' 37 14 = qn dE.length ∧ zrd dE (I' 37) ∧ (∀ j, j < 14 → I' 37 j = I 37 j) ∧ (∀ c, c ≠ 37 → c ≠ 36 → c < 48 ∨ 51 < c → I' c = I c) ∧ ∀ j, j ≠ 20 → I' 36 j = I 36 j)
    (Inv := fun k q => ∃ ds1 it1, zlots n L0 (m - k) it1 ds1 = dE ∧ q.1 = ql it1 ∧ it1 < 2147483647 ∧ zSt n L0 K P ds1 kp ∧ ds1.length + (m - k) ≤ 40 ∧ zMs n (zrun n L0 ds1) (q.2 37) ∧ q.2 37 14 = qn ds1.length ∧ zrd ds1 (q.2 37) ∧ (∀ j, j < 14 → q.2 37 j = I 37 j) ∧ ∀ c, c ≠ 37 → q.2 c = I c)
    (fun fu k q => fM_lots_b61 fu (qn m) q.1 (qn k) q.2 J) m 100000 0 (ql it, I) (Nat.zero_le _) (by omega) ⟨ds, it, hE, rfl, hit, hS, hm, hM.2.2.2.2, hM.2.2.1, hM.2.2.2.1, fun _ _ => rfl, fun _ _ => rfl⟩ ?_ ?_
  · rintro fu ⟨q, I1⟩ ⟨ds1, it1, s1, s2, s3, s4, s5, s6, s7, s8, s9, s10⟩
    dsimp only at s2 s6 s7 s8 s9 s10 ⊢
    rw [Nat.sub_self] at s1
    have e : ds1 = dE := s1
    subst e
    obtain ⟨I2, a1, a2⟩ := eM_gotAll (I := I1) (J := J) s4 ⟨by rw [s9 1 (by omega)]; exact hM.1, fun i hi => by rw [s9 (2 + i) (by omega), s9 (8 + i) (by omega)]; exact hM.2.1 i hi, s7, s8, s6⟩
    have e37 : I2 37 = I1 37 := a2.1 37 (by omega) (by omega)
    rw [fM_lots_b61]
    simp (disch := omega) only [a1, qn_l0, qn_l1, qn_l2, qn_l3, qn_l4, qn_l5, qn_l6, qn_l7, qn_l8, qn_l9, qn_l10, qn_l11, qn_l12, qn_l13, qn_l14, qn_l15, qn_l16, qn_l17, qn_l18, qn_l19, qn_l20, qn_l21, qn_l22, qn_l23, qn_l24, qn_l26, qn_l27, qn_l28, qn_l31, qn_l32, qn_l33, qn_l34, qn_l36, qn_l37, qn_l38, qn_l39, qn_l40, qn_l47, qn_l48, qn_l49, qn_l50, qn_l51, qn_l54, qn_l55, qn_l56, qn_l57, qn_l60, qn_l63, qn_l64, qn_l69, qn_l70, qn_l75, qn_l99, qn_l100, qn_l103, qn_l111, qn_l112, qn_l113, qn_l115, qn_l117, qn_l120, qn_l127, qn_l128, qn_l200, qn_l225, qn_l240, qn_l255, qn_l256, qn_l300, qn_l720, qn_l1000, qn_l48271, qn_l1000000, qn_l2147483646, qn_l2147483647, qn_add, qn_mul, qn_sub, qn_addneg, qn_div, qn_mod, qn_modn, qn_lt, qn_le, qn_eq, qn_nat, qn_m1, qn_m1', qn_c1, qn_g1, qn_g1', qn_c1', qn_and, qn_or, qn_shl1, qn_shr1, qn_64, ql_32, ql_add, ql_mul, ql_sub, ql_div, ql_mod, ql_lt, ql_le, ql_eq, ql_l0, ql_l1, qp_gd_T, qp_bd_t, ↓reduceIte, qt_le, qf_le, qt_lt, qf_lt, qt_eq, qf_eq, and_self, not_true_eq_false, not_false_eq_true, true_and, and_true, or_true, true_or, or_false, false_or, and_false, false_and, Nat.reduceAdd, Nat.reduceMul, Nat.reduceSub, Nat.reduceDiv, Nat.reduceMod, Nat.reducePow, Nat.zero_add, Nat.add_zero, Nat.zero_le, Nat.mul_zero, Nat.zero_mul, qm_nk, qm_eq, qm_nj]
    rw [← e37] at s6 s7 s8 s9
    exact ⟨I2, rfl, s6, s7, s8, s9, fun c h1 h2 h3 => (a2.1 c h2 h3).trans (s10 c h1), fun j hj => by rw [a2.2 j hj, s10 36 (by omega)]⟩
  · rintro fu k ⟨q, I1⟩ hk ⟨ds1, it1, s1, s2, s3, s4, s5, s6, s7, s8, s9, s10⟩
    dsimp only at s2 s6 s7 s8 s9 s10 ⊢
    have hok := zSt_ok s4
    have hit2 : it1 * 48271 % 2147483647 < 2147483647 := Nat.mod_lt _ (by omega)
    have hv := zlot_ok (it := it1 * 48271 % 2147483647) hn h1 hok
    have e1 := eM_lot (I := I1) (J := J) (it := it1 * 48271 % 2147483647) hn h1 (by omega) s6 hok
    obtain ⟨I2, b1, b2, b3, b4, b5⟩ := eM_does (J := J) (I := I1) hn s6 s7 s8 hok hv (by omega)
    rw [show m - k = (m - (k + 1)) + 1 by omega] at s1
    refine Or.inr ⟨(ql (it1 * 48271 % 2147483647), I2), ⟨ds1 ++ [zlot n (zrun n L0 ds1) (it1 * 48271 % 2147483647)], _, s1, rfl, hit2, zSt_app s4 hv (by omega), by rw [List.length_append]; show ds1.length + 1 + _ ≤ 40; omega, ?_, b3, b4, fun j hj => (b5.2 j (by omega)).trans (s9 j hj), fun c hc => (b5.1 c hc).trans (s10 c hc)⟩, ?_⟩
    · rw [zrun_app]; exact b2
    · rw [fM_lots_b61, s2, if_neg (by rw [qn_le (by omega) (by omega)]; omega), zit it1 s3, e1, qp_bd_t, b1, qp_bd_t, show qn k + 1 = qn (k + 1) from qn_add k 1]
end LT
theorem sim_lots (p q : Int32) : zsim (fX_lots p q) (fM_lots p q) := by
  intro I J h
  obtain ⟨n, L0, K, P, ds, kp, hR⟩ := id h
  obtain ⟨hS, hC, hL⟩ := hR
  have hn := hS.1
  obtain ⟨hX, hKX, hM, hKM⟩ := id hL
  have e0 : I 15 0 = qn n := hX.2.2.1
  have e5 : I 14 5 = qn ds.length := hX.2.2.2.2.2.2.1
  have e0' : I 37 0 = qn n := hM.2.2.2.2.1
  have e14 : I 37 14 = qn ds.length := hM.2.2.1
  have hd := hS.2.2.2.1.1
  have cs : ∀ (p : Int32) (hi : Nat), hi < 2147483648 → (∃ k, 1 ≤ k ∧ k < hi ∧ p = qn k) ∨ (p < 1 ∨ qn hi ≤ p) := by
    intro p hi hh
    rcases qn_cs hi hh p with ⟨k, hk, rfl⟩ | ⟨-, h2 | h2⟩
    · by_cases hk0 : k = 0
      · exact Or.inr (Or.inl (by rw [hk0]; decide))
      · exact Or.inl ⟨k, by omega, hk, rfl⟩
    · exact Or.inr (Or.inl (Int32.lt_trans h2 (by decide)))
    · exact Or.inr (Or.inr h2)
  rcases cs p 21 (by omega) with ⟨m, hm1, hm, rfl⟩ | hp
  case inr =>
    have hin : fM_in (Int32.toInt64 p) 1 20 I J = some (qn 0, I, J) := eM_inPF (lo := 1) (hi := 21) (by omega) (by omega) rfl hp
    refine ⟨-qn 1, I, J, I, J, ?_, ?_, h⟩
    · unfold fX_lots
      by_cases h0 : p < 1
      · rw [if_pos h0]; rfl
      · rcases hp with hp | hp
        · exact absurd hp h0
        · rw [if_neg h0, if_pos (by
            rw [Int32.le_iff_toInt_le, qn_toInt (by omega)] at hp
            rw [Int32.lt_iff_toInt_lt]
            have : (20 : Int32).toInt = 20 := rfl
            omega)]; rfl
    · unfold fM_lots
      rw [hin]; rfl
  have hin1 : fM_in (Int32.toInt64 (qn m)) 1 20 I J = some (qn 1, I, J) := by rw [qn_64 (by omega)]; exact eM_inN (a := m) (b := 1) (c := 20) (by omega) (by omega) (by omega) (by omega)
  have c1 : ¬ qn m < 1 := by show ¬ qn m < qn 1; rw [qn_lt (by omega) (by omega)]; omega
  have c2 : ¬ 20 < qn m := by show ¬ qn 20 < qn m; rw [qn_lt (by omega) (by omega)]; omega
  rcases cs q 2147483647 (by omega) with ⟨sd, hs1, hs, rfl⟩ | hq
  case inr =>
    have hin : fM_in (Int32.toInt64 q) 1 2147483646 I J = some (qn 0, I, J) := eM_inPF (lo := 1) (hi := 2147483647) (by omega) (by omega) rfl hq
    refine ⟨-qn 1, I, J, I, J, ?_, ?_, h⟩
    · unfold fX_lots
      rw [if_neg c1, if_neg c2]
      by_cases h0 : q < 1
      · rw [if_pos h0]; rfl
      · rcases hq with hq | hq
        · exact absurd hq h0
        · rw [if_neg h0, if_neg (by show ¬ q < qn 2147483647; exact Int32.not_lt.mpr hq)]; rfl
    · unfold fM_lots
      rw [hin1, qp_bd_t, if_neg (by decide), hin]; rfl
  have hin2 : fM_in (Int32.toInt64 (qn sd)) 1 2147483646 I J = some (qn 1, I, J) := by rw [qn_64 (by omega)]; exact eM_inN (a := sd) (b := 1) (c := 2147483646) (by omega) (by omega) (by omega) (by omega)
  have c3 : ¬ qn sd < 1 := by show ¬ qn sd < qn 1; rw [qn_lt (by omega) (by omega)]; omega
  have c4 : qn sd < 2147483647 := by show qn sd < qn 2147483647; rw [qn_lt (by omega) (by omega)]; omega
  by_cases hn0 : n = 0
  · refine ⟨-qn 4, I, J, I, J, ?_, ?_, h⟩
    · unfold fX_lots
      rw [if_neg c1, if_neg c2, if_neg c3, if_pos c4, e0, hn0, if_neg (by decide)]; rfl
    · unfold fM_lots
      rw [hin1, qp_bd_t, if_neg (by decide), hin2, qp_bd_t, if_pos (by decide), e0', hn0, if_neg (by decide)]; rfl
  have c5 : ¬ qn n = 0 := by show ¬ qn n = qn 0; rw [qn_eq (by omega) (by omega)]; exact hn0
  by_cases h40 : ds.length + m ≤ 40
  case neg =>
    have c6 : ¬ qn ds.length + qn m ≤ 40 := by show ¬ qn ds.length + qn m ≤ qn 40; rw [qn_add, qn_le (by omega) (by omega)]; exact h40
    refine ⟨-qn 2, I, J, I, J, ?_, ?_, h⟩
    · unfold fX_lots
      rw [if_neg c1, if_neg c2, if_neg c3, if_pos c4, e0, if_pos c5, e5, if_neg c6]; rfl
    · unfold fM_lots
      rw [hin1, qp_bd_t, if_neg (by decide), hin2, qp_bd_t, if_pos (by decide), e0', if_pos c5, e14, if_neg c6]; rfl
  have c6 : qn ds.length + qn m ≤ 40 := by show qn ds.length + qn m ≤ qn 40; rw [qn_add, qn_le (by omega) (by omega)]; exact h40
  obtain ⟨I1, a1, a2, a3, a4⟩ := eX_lots_b (J := J) (m := m) (it := sd) hS (by omega) h40 hs hX
  have e37 : I1 37 = I 37 := a4 37 (by omega) (by omega) (by omega) (by omega)
  obtain ⟨I2, b1, b2, b3, b4, b5, b6, b7⟩ := eM_lots_b (I := I1) (J := J) (m := m) (it := sd) hS (by omega) h40 hs (by rw [e37]; exact hM)
  have g : ∀ c, c ≠ 14 → c ≠ 23 → c ≠ 24 → c < 18 ∨ 22 < c → c ≠ 37 → c ≠ 36 → c < 48 ∨ 51 < c → I2 c = I c := fun c h1 h2 h3 h4 h5 h6 h7 => (b6 c h5 h6 h7).trans (a4 c h1 h2 h3 h4)
  refine ⟨qn ((zrun n L0 (zlots n L0 m sd ds)).2 - zE K P (zls n (zrun n L0 (zlots n L0 m sd ds)).1) (zrun n L0 (zlots n L0 m sd ds)).2), I1, J, I2, J, ?_, ?_, n, L0, K, P, zlots n L0 m sd ds, kp, a2, ?_, ⟨?_, fun i hi => ?_, zXs_eq a3 (fun c hc => b6 c (by omega) (by omega) (by omega))⟩, ?_, ⟨?_, fun i hi => ?_, b3, b4, b2⟩, ?_⟩
  · unfold fX_lots
    rw [if_neg c1, if_neg c2, if_neg c3, if_pos c4, e0, if_pos c5, e5, if_pos c6, qn_64 (by omega)]
    exact a1
  · rw [← e37] at e0' e14
    unfold fM_lots
    rw [show fM_in (Int32.toInt64 (qn m)) 1 20 I1 J = some (qn 1, I1, J) by rw [qn_64 (by omega)]; exact eM_inN (a := m) (b := 1) (c := 20) (by omega) (by omega) (by omega) (by omega), qp_bd_t, if_neg (by decide), show fM_in (Int32.toInt64 (qn sd)) 1 2147483646 I1 J = some (qn 1, I1, J) by rw [qn_64 (by omega)]; exact eM_inN (a := sd) (b := 1) (c := 2147483646) (by omega) (by omega) (by omega) (by omega), qp_bd_t, if_pos (by decide), e0', if_pos c5, e14, if_pos c6, qn_64 (by omega)]
    exact b1
  · refine zC_eq hC (fun c hc => by unfold zcc at hc; exact g c (by omega) (by omega) (by omega) (by omega) (by omega) (by omega) (by omega)) ?_ ?_ hC.2.2.1.2.2.1 hC.2.2.1.2.2.2
    · rw [b7 8 (by omega), a4 36 (by omega) (by omega) (by omega) (by omega), g 0 (by omega) (by omega) (by omega) (by omega) (by omega) (by omega) (by omega)]; exact hC.2.2.1.1
    · rw [b7 9 (by omega), a4 36 (by omega) (by omega) (by omega) (by omega), g 0 (by omega) (by omega) (by omega) (by omega) (by omega) (by omega) (by omega)]; exact hC.2.2.1.2.1
  · rw [g 15 (by omega) (by omega) (by omega) (by omega) (by omega) (by omega) (by omega)]; exact hX.1
  · rw [g 16 (by omega) (by omega) (by omega) (by omega) (by omega) (by omega) (by omega), g 17 (by omega) (by omega) (by omega) (by omega) (by omega) (by omega) (by omega)]; exact hX.2.1 i hi
  · unfold zKX at hKX ⊢
    rw [g 8 (by omega) (by omega) (by omega) (by omega) (by omega) (by omega) (by omega), g 9 (by omega) (by omega) (by omega) (by omega) (by omega) (by omega) (by omega)]; exact hKX
  · rw [b5 1 (by omega), e37]; exact hM.1
  · rw [b5 (2 + i) (by omega), b5 (8 + i) (by omega), e37]; exact hM.2.1 i hi
  · unfold zKM at hKM ⊢
    rw [g 38 (by omega) (by omega) (by omega) (by omega) (by omega) (by omega) (by omega), g 39 (by omega) (by omega) (by omega) (by omega) (by omega) (by omega) (by omega)]; exact hKM

/-! KEPT LINES, who, sold, wants -/
section SR7
variable {I : Nat → Nat → Int32} {J : Nat → Nat → Int64}
theorem eX_ref7 {r m : Nat} (hr : r < 3) (h : I 8 r = qn m) (hm : m ≤ 60) : fX_refusalOf_0_7 (qn r) I J = some (qn 0, I, J) := by
  unfold fX_refusalOf_0_7
  simp (disch := omega) only [eS7_num hr, eS7_has1 hr h, qn_l0, qn_l1, qn_l2, qn_l3, qn_l4, qn_l5, qn_l6, qn_l7, qn_l8, qn_l9, qn_l10, qn_l11, qn_l12, qn_l13, qn_l14, qn_l15, qn_l16, qn_l17, qn_l18, qn_l19, qn_l20, qn_l21, qn_l22, qn_l23, qn_l24, qn_l26, qn_l27, qn_l28, qn_l31, qn_l32, qn_l33, qn_l34, qn_l36, qn_l37, qn_l38, qn_l39, qn_l40, qn_l47, qn_l48, qn_l49, qn_l50, qn_l51, qn_l54, qn_l55, qn_l56, qn_l57, qn_l60, qn_l63, qn_l64, qn_l69, qn_l70, qn_l75, qn_l99, qn_l100, qn_l103, qn_l111, qn_l112, qn_l113, qn_l115, qn_l117, qn_l120, qn_l127, qn_l128, qn_l200, qn_l225, qn_l240, qn_l255, qn_l256, qn_l300, qn_l720, qn_l1000, qn_l48271, qn_l1000000, qn_l2147483646, qn_l2147483647, qn_add, qn_mul, qn_sub, qn_addneg, qn_div, qn_mod, qn_modn, qn_lt, qn_le, qn_eq, qn_nat, qn_m1, qn_m1', qn_c1, qn_g1, qn_g1', qn_c1', qn_and, qn_or, qn_shl1, qn_shr1, qn_64, ql_32, ql_add, ql_mul, ql_sub, ql_div, ql_mod, ql_lt, ql_le, ql_eq, ql_l0, ql_l1, qp_gd_T, qp_bd_t, ↓reduceIte, qt_le, qf_le, qt_lt, qf_lt, qt_eq, qf_eq, and_self, not_true_eq_false, not_false_eq_true, true_and, and_true, or_true, true_or, or_false, false_or, and_false, false_and, Nat.reduceAdd, Nat.reduceMul, Nat.reduceSub, Nat.reduceDiv, Nat.reduceMod, Nat.reducePow, Nat.zero_add, Nat.add_zero, Nat.zero_le, Nat.mul_zero, Nat.zero_mul, qm_nk, qm_eq, qm_nj]
theorem eX_ref7N {r : Nat} (hr : r < 3) (h : I 8 r = -qn 1) : fX_refusalOf_0_7 (qn r) I J = some (-qn 3, xfd 1 I, J) := by
  unfold fX_refusalOf_0_7
  have e := eX_found (I := I) (J := J) (f := 1) (by omega) (by omega)
  simp (disch := omega) only [eS7_num hr, eS7_has0 hr h, e, qn_l0, qn_l1, qn_l2, qn_l3, qn_l4, qn_l5, qn_l6, qn_l7, qn_l8, qn_l9, qn_l10, qn_l11, qn_l12, qn_l13, qn_l14, qn_l15, qn_l16, qn_l17, qn_l18, qn_l19, qn_l20, qn_l21, qn_l22, qn_l23, qn_l24, qn_l26, qn_l27, qn_l28, qn_l31, qn_l32, qn_l33, qn_l34, qn_l36, qn_l37, qn_l38, qn_l39, qn_l40, qn_l47, qn_l48, qn_l49, qn_l50, qn_l51, qn_l54, qn_l55, qn_l56, qn_l57, qn_l60, qn_l63, qn_l64, qn_l69, qn_l70, qn_l75, qn_l99, qn_l100, qn_l103, qn_l111, qn_l112, qn_l113, qn_l115, qn_l117, qn_l120, qn_l127, qn_l128, qn_l200, qn_l225, qn_l240, qn_l255, qn_l256, qn_l300, qn_l720, qn_l1000, qn_l48271, qn_l1000000, qn_l2147483646, qn_l2147483647, qn_add, qn_mul, qn_sub, qn_addneg, qn_div, qn_mod, qn_modn, qn_lt, qn_le, qn_eq, qn_nat, qn_m1, qn_m1', qn_c1, qn_g1, qn_g1', qn_c1', qn_and, qn_or, qn_shl1, qn_shr1, qn_64, ql_32, ql_add, ql_mul, ql_sub, ql_div, ql_mod, ql_lt, ql_le, ql_eq, ql_l0, ql_l1, qp_gd_T, qp_bd_t, ↓reduceIte, qt_le, qf_le, qt_lt, qf_lt, qt_eq, qf_eq, and_self, not_true_eq_false, not_false_eq_true, true_and, and_true, or_true, true_or, or_false, false_or, and_false, false_and, Nat.reduceAdd, Nat.reduceMul, Nat.reduceSub, Nat.reduceDiv, Nat.reduceMod, Nat.reducePow, Nat.zero_add, Nat.add_zero, Nat.zero_le, Nat.mul_zero, Nat.zero_mul, qm_nk, qm_eq, qm_nj]
theorem eX_ref7B {p : Int32} (h : p < 0 ∨ qn 3 ≤ p) : fX_refusalOf_0_7 p I J = some (-qn 1, I, J) := by
  unfold fX_refusalOf_0_7
  simp (disch := omega) only [eS7_numF h, qn_l0, qn_l1, qn_l2, qn_l3, qn_l4, qn_l5, qn_l6, qn_l7, qn_l8, qn_l9, qn_l10, qn_l11, qn_l12, qn_l13, qn_l14, qn_l15, qn_l16, qn_l17, qn_l18, qn_l19, qn_l20, qn_l21, qn_l22, qn_l23, qn_l24, qn_l26, qn_l27, qn_l28, qn_l31, qn_l32, qn_l33, qn_l34, qn_l36, qn_l37, qn_l38, qn_l39, qn_l40, qn_l47, qn_l48, qn_l49, qn_l50, qn_l51, qn_l54, qn_l55, qn_l56, qn_l57, qn_l60, qn_l63, qn_l64, qn_l69, qn_l70, qn_l75, qn_l99, qn_l100, qn_l103, qn_l111, qn_l112, qn_l113, qn_l115, qn_l117, qn_l120, qn_l127, qn_l128, qn_l200, qn_l225, qn_l240, qn_l255, qn_l256, qn_l300, qn_l720, qn_l1000, qn_l48271, qn_l1000000, qn_l2147483646, qn_l2147483647, qn_add, qn_mul, qn_sub, qn_addneg, qn_div, qn_mod, qn_modn, qn_lt, qn_le, qn_eq, qn_nat, qn_m1, qn_m1', qn_c1, qn_g1, qn_g1', qn_c1', qn_and, qn_or, qn_shl1, qn_shr1, qn_64, ql_32, ql_add, ql_mul, ql_sub, ql_div, ql_mod, ql_lt, ql_le, ql_eq, ql_l0, ql_l1, qp_gd_T, qp_bd_t, ↓reduceIte, qt_le, qf_le, qt_lt, qf_lt, qt_eq, qf_eq, and_self, not_true_eq_false, not_false_eq_true, true_and, and_true, or_true, true_or, or_false, false_or, and_false, false_and, Nat.reduceAdd, Nat.reduceMul, Nat.reduceSub, Nat.reduceDiv, Nat.reduceMod, Nat.reducePow, Nat.zero_add, Nat.add_zero, Nat.zero_le, Nat.mul_zero, Nat.zero_mul, qm_nk, qm_eq, qm_nj]
end SR7

theorem zML_eq {n L0 : Nat} {K P : Nat → Nat} {ds : List Nat} {R R' : Nat → Int32} (h : zML n L0 K P ds R) (hn : n ≤ 6) (hok : zRok n (zrun n L0 ds)) (hd : ds.length ≤ 40) (e : ∀ j, j < 75 → R' j = R j) : zML n L0 K P ds R' := by
  obtain ⟨h1, h2, h3, h4, h5⟩ := h
  exact ⟨by rw [e 1 (by omega)]; exact h1, fun i hi => by rw [e (2 + i) (by omega), e (8 + i) (by omega)]; exact h2 i hi, by rw [e 14 (by omega)]; exact h3, fun d hd' => by rw [e (15 + d) (by omega)]; exact h4 d hd', zMs_eq h5 hok.2.1 hn hok.1 (e 0 (by omega)) (fun j _ h => e j h)⟩
section KP
variable {n L0 : Nat} {K P : Nat → Nat} {ds : List Nat} {kp : Nat → Option (List Nat)} {I : Nat → Nat → Int32} {J : Nat → Nat → Int64}
theorem eX_keep_b {k : Nat} (hk : k < 3) (h7 : I 7 0 = qn 40) (h8 : I 8 k = qn ds.length) (h5 : I 14 5 = qn ds.length) (hr : zr0 ds (I 24)) (hd : ds.length ≤ 40) :
    ∃ I', fX_keep_b47 100000 (qn k) (qn 0) I J = some (qn ds.length, I', J) ∧ (∀ c, c ≠ 9 → I' c = I c) ∧ (∀ j, j < ds.length → I' 9 (k * 40 + j) = qn (zat ds j)) ∧ ∀ x, x < k * 40 ∨ k * 40 + 40 ≤ x → I' 9 x = I 9 x := by
  refine lp (σ := Nat → Nat → Int32) (R := fun o => ∃ I', o = some (qn ds.length, I', J) ∧ (∀ c, c ≠ 9 → I' c = I c) ∧ (∀ j, j < ds.length → I' 9 (k * 40 + j) = qn (zat ds j)) ∧ ∀ x, x < k * 40 ∨ k * 40 + 40 ≤ x → I' 9 x = I 9 x)
    (Inv := fun d I' => (∀ c, c ≠ 9 → I' c = I c) ∧ (∀ j, j < d → I' 9 (k * 40 + j) = qn (zat ds j)) ∧ ∀ x, x < k * 40 ∨ k * 40 + 40 ≤ x → I' 9 x = I 9 x) (fun fu d I' => fX_keep_b47 fu (qn k) (qn d) I' J) ds.length 100000 0 I (Nat.zero_le _) (by omega) ⟨fun _ _ => rfl, fun j hj => by omega, fun _ _ => rfl⟩ ?_ ?_
  · rintro fu I1 ⟨a1, a2, a3⟩
    have e5 : I1 14 5 = qn ds.length := by rw [a1 14 (by omega)]; exact h5
    rw [fX_keep_b47]
    simp (disch := omega) only [e5, qn_l0, qn_l1, qn_l2, qn_l3, qn_l4, qn_l5, qn_l6, qn_l7, qn_l8, qn_l9, qn_l10, qn_l11, qn_l12, qn_l13, qn_l14, qn_l15, qn_l16, qn_l17, qn_l18, qn_l19, qn_l20, qn_l21, qn_l22, qn_l23, qn_l24, qn_l26, qn_l27, qn_l28, qn_l31, qn_l32, qn_l33, qn_l34, qn_l36, qn_l37, qn_l38, qn_l39, qn_l40, qn_l47, qn_l48, qn_l49, qn_l50, qn_l51, qn_l54, qn_l55, qn_l56, qn_l57, qn_l60, qn_l63, qn_l64, qn_l69, qn_l70, qn_l75, qn_l99, qn_l100, qn_l103, qn_l111, qn_l112, qn_l113, qn_l115, qn_l117, qn_l120, qn_l127, qn_l128, qn_l200, qn_l225, qn_l240, qn_l255, qn_l256, qn_l300, qn_l720, qn_l1000, qn_l48271, qn_l1000000, qn_l2147483646, qn_l2147483647, qn_add, qn_mul, qn_sub, qn_addneg, qn_div, qn_mod, qn_modn, qn_lt, qn_le, qn_eq, qn_nat, qn_m1, qn_m1', qn_c1, qn_g1, qn_g1', qn_c1', qn_and, qn_or, qn_shl1, qn_shr1, qn_64, ql_32, ql_add, ql_mul, ql_sub, ql_div, ql_mod, ql_lt, ql_le, ql_eq, ql_l0, ql_l1, qp_gd_T, qp_bd_t, ↓reduceIte, qt_le, qf_le, qt_lt, qf_lt, qt_eq, qf_eq, and_self, not_true_eq_false, not_false_eq_true, true_and, and_true, or_true, true_or, or_false, false_or, and_false, false_and, Nat.reduceAdd, Nat.reduceMul, Nat.reduceSub, Nat.reduceDiv, Nat.reduceMod, Nat.reducePow, Nat.zero_add, Nat.add_zero, Nat.zero_le, Nat.mul_zero, Nat.zero_mul, qm_nk, qm_eq, qm_nj]
    exact ⟨I1, rfl, a1, a2, a3⟩
  · rintro fu d I1 hdl ⟨a1, a2, a3⟩
    have e5 : I1 14 5 = qn ds.length := by rw [a1 14 (by omega)]; exact h5
    have ed : I1 24 d = qn (zat ds d) := by rw [a1 24 (by omega)]; exact hr d hdl
    have es := eS7_set (I := I1) (J := J) (v := qn (zat ds d)) (i := d) (by rw [a1 7 (by omega)]; exact h7) hk (by rw [a1 8 (by omega)]; exact h8) hd hdl
    refine Or.inr ⟨qp_up I1 9 (k * 40 + d) (qn (zat ds d)), ⟨fun c hc => (qm_nk (Ne.symm hc)).trans (a1 c hc), fun j hj => ?_, fun x hx => by rw [qm_nj (by omega)]; exact a3 x hx⟩, ?_⟩
    · rw [qm_if]
      by_cases e : d = j
      · rw [if_pos (by omega), e]
      · rw [if_neg (by omega)]; exact a2 j (by omega)
    · rw [fX_keep_b47]
      unfold fL_deed
      simp (disch := omega) only [e5, ed, es, qn_l0, qn_l1, qn_l2, qn_l3, qn_l4, qn_l5, qn_l6, qn_l7, qn_l8, qn_l9, qn_l10, qn_l11, qn_l12, qn_l13, qn_l14, qn_l15, qn_l16, qn_l17, qn_l18, qn_l19, qn_l20, qn_l21, qn_l22, qn_l23, qn_l24, qn_l26, qn_l27, qn_l28, qn_l31, qn_l32, qn_l33, qn_l34, qn_l36, qn_l37, qn_l38, qn_l39, qn_l40, qn_l47, qn_l48, qn_l49, qn_l50, qn_l51, qn_l54, qn_l55, qn_l56, qn_l57, qn_l60, qn_l63, qn_l64, qn_l69, qn_l70, qn_l75, qn_l99, qn_l100, qn_l103, qn_l111, qn_l112, qn_l113, qn_l115, qn_l117, qn_l120, qn_l127, qn_l128, qn_l200, qn_l225, qn_l240, qn_l255, qn_l256, qn_l300, qn_l720, qn_l1000, qn_l48271, qn_l1000000, qn_l2147483646, qn_l2147483647, qn_add, qn_mul, qn_sub, qn_addneg, qn_div, qn_mod, qn_modn, qn_lt, qn_le, qn_eq, qn_nat, qn_m1, qn_m1', qn_c1, qn_g1, qn_g1', qn_c1', qn_and, qn_or, qn_shl1, qn_shr1, qn_64, ql_32, ql_add, ql_mul, ql_sub, ql_div, ql_mod, ql_lt, ql_le, ql_eq, ql_l0, ql_l1, qp_gd_T, qp_bd_t, ↓reduceIte, qt_le, qf_le, qt_lt, qf_lt, qt_eq, qf_eq, and_self, not_true_eq_false, not_false_eq_true, true_and, and_true, or_true, true_or, or_false, false_or, and_false, false_and, Nat.reduceAdd, Nat.reduceMul, Nat.reduceSub, Nat.reduceDiv, Nat.reduceMod, Nat.reducePow, Nat.zero_add, Nat.add_zero, Nat.zero_le, Nat.mul_zero, Nat.zero_mul, qm_nk, qm_eq, qm_nj]
theorem eX_on_b {k : Nat} (hn : n ≤ 6) (hL : L0 ≤ 20) (hk : k < 3) (h7 : I 7 0 = qn 40) (h8 : I 8 k = qn ds.length) (h9 : ∀ j, j < ds.length → I 9 (k * 40 + j) = qn (zat ds j)) (hv : zval n ([], L0) ds) (hd : ds.length ≤ 40) (hx : zXs n ([], L0) [] I) :
    ∃ I', fX_on_b35 100000 (qn k) (qn ds.length) (qn 0) I J = some (qn ds.length, I', J) ∧ zXs n (zrun n L0 ds) ds I' ∧ ∀ c, c ≠ 14 → c ≠ 23 → c ≠ 24 → I' c = I c := by
  refine lp (σ := Nat → Nat → Int32) (R := fun o => ∃ I', o = some (qn ds.length, I', J) ∧ zXs n (zrun n L0 ds) ds I' ∧ ∀ c, c ≠ 14 → c ≠ 23 → c ≠ 24 → I' c = I c)
    (Inv := fun d I' => zXs n (zrun n L0 (ds.take d)) (ds.take d) I' ∧ (∀ c, c ≠ 14 → c ≠ 23 → c ≠ 24 → I' c = I c)) (fun fu d I' => fX_on_b35 fu (qn k) (qn ds.length) (qn d) I' J) ds.length 100000 0 I (Nat.zero_le _) (by omega) ⟨hx, fun _ _ _ _ => rfl⟩ ?_ ?_
  · rintro fu I1 ⟨b1, b2⟩
    rw [List.take_length] at b1
    rw [fX_on_b35]
    simp (disch := omega) only [qn_l0, qn_l1, qn_l2, qn_l3, qn_l4, qn_l5, qn_l6, qn_l7, qn_l8, qn_l9, qn_l10, qn_l11, qn_l12, qn_l13, qn_l14, qn_l15, qn_l16, qn_l17, qn_l18, qn_l19, qn_l20, qn_l21, qn_l22, qn_l23, qn_l24, qn_l26, qn_l27, qn_l28, qn_l31, qn_l32, qn_l33, qn_l34, qn_l36, qn_l37, qn_l38, qn_l39, qn_l40, qn_l47, qn_l48, qn_l49, qn_l50, qn_l51, qn_l54, qn_l55, qn_l56, qn_l57, qn_l60, qn_l63, qn_l64, qn_l69, qn_l70, qn_l75, qn_l99, qn_l100, qn_l103, qn_l111, qn_l112, qn_l113, qn_l115, qn_l117, qn_l120, qn_l127, qn_l128, qn_l200, qn_l225, qn_l240, qn_l255, qn_l256, qn_l300, qn_l720, qn_l1000, qn_l48271, qn_l1000000, qn_l2147483646, qn_l2147483647, qn_add, qn_mul, qn_sub, qn_addneg, qn_div, qn_mod, qn_modn, qn_lt, qn_le, qn_eq, qn_nat, qn_m1, qn_m1', qn_c1, qn_g1, qn_g1', qn_c1', qn_and, qn_or, qn_shl1, qn_shr1, qn_64, ql_32, ql_add, ql_mul, ql_sub, ql_div, ql_mod, ql_lt, ql_le, ql_eq, ql_l0, ql_l1, qp_gd_T, qp_bd_t, ↓reduceIte, qt_le, qf_le, qt_lt, qf_lt, qt_eq, qf_eq, and_self, not_true_eq_false, not_false_eq_true, true_and, and_true, or_true, true_or, or_false, false_or, and_false, false_and, Nat.reduceAdd, Nat.reduceMul, Nat.reduceSub, Nat.reduceDiv, Nat.reduceMod, Nat.reducePow, Nat.zero_add, Nat.add_zero, Nat.zero_le, Nat.mul_zero, Nat.zero_mul, qm_nk, qm_eq, qm_nj]
    exact ⟨I1, rfl, b1, b2⟩
  · rintro fu d I1 hdm ⟨b1, b2⟩
    have hlt : (ds.take d).length = d := by rw [List.length_take]; omega
    have e7 : I1 7 0 = qn 40 := by rw [b2 7 (by omega) (by omega) (by omega)]; exact h7
    have e8 : I1 8 k = qn ds.length := by rw [b2 8 (by omega) (by omega) (by omega)]; exact h8
    have e9 : I1 9 (k * 40 + d) = qn (zat ds d) := by rw [b2 9 (by omega) (by omega) (by omega)]; exact h9 d hdm
    have eg := eS7_get (J := J) e7 hk e8 hd hdm
    rw [e9] at eg
    have hok : zRok n (zrun n L0 (ds.take d)) := zval_ok (zR0 hL) (zval_take hv)
    have hvd : zvd n (zrun n L0 (ds.take d)) (zat ds d) := zval_at hv (by omega)
    have hc := zvd_lt hn hok hvd
    obtain ⟨I3, c1, c2, c3, c4⟩ := eL_act (J := J) hn b1 hok hvd (by omega)
    refine Or.inr ⟨I3, ⟨?_, fun c h1 h2 h3 => (c3 c h1 h2 h3).trans (b2 c h1 h2 h3)⟩, ?_⟩
    · rw [take_zat (by omega), zrun_app]; exact c2
    · rw [fX_on_b35]
      simp (disch := omega) only [eg, c1, qn_l0, qn_l1, qn_l2, qn_l3, qn_l4, qn_l5, qn_l6, qn_l7, qn_l8, qn_l9, qn_l10, qn_l11, qn_l12, qn_l13, qn_l14, qn_l15, qn_l16, qn_l17, qn_l18, qn_l19, qn_l20, qn_l21, qn_l22, qn_l23, qn_l24, qn_l26, qn_l27, qn_l28, qn_l31, qn_l32, qn_l33, qn_l34, qn_l36, qn_l37, qn_l38, qn_l39, qn_l40, qn_l47, qn_l48, qn_l49, qn_l50, qn_l51, qn_l54, qn_l55, qn_l56, qn_l57, qn_l60, qn_l63, qn_l64, qn_l69, qn_l70, qn_l75, qn_l99, qn_l100, qn_l103, qn_l111, qn_l112, qn_l113, qn_l115, qn_l117, qn_l120, qn_l127, qn_l128, qn_l200, qn_l225, qn_l240, qn_l255, qn_l256, qn_l300, qn_l720, qn_l1000, qn_l48271, qn_l1000000, qn_l2147483646, qn_l2147483647, qn_add, qn_mul, qn_sub, qn_addneg, qn_div, qn_mod, qn_modn, qn_lt, qn_le, qn_eq, qn_nat, qn_m1, qn_m1', qn_c1, qn_g1, qn_g1', qn_c1', qn_and, qn_or, qn_shl1, qn_shr1, qn_64, ql_32, ql_add, ql_mul, ql_sub, ql_div, ql_mod, ql_lt, ql_le, ql_eq, ql_l0, ql_l1, qp_gd_T, qp_bd_t, ↓reduceIte, qt_le, qf_le, qt_lt, qf_lt, qt_eq, qf_eq, and_self, not_true_eq_false, not_false_eq_true, true_and, and_true, or_true, true_or, or_false, false_or, and_false, false_and, Nat.reduceAdd, Nat.reduceMul, Nat.reduceSub, Nat.reduceDiv, Nat.reduceMod, Nat.reducePow, Nat.zero_add, Nat.add_zero, Nat.zero_le, Nat.mul_zero, Nat.zero_mul, qm_nk, qm_eq, qm_nj]
end KP
theorem q_in01 {q : Int32} (h : ¬ (q = qn 0 ∨ q = qn 1)) : q < 0 ∨ qn 2 ≤ q := by
  rcases qn_cs 2 (by omega) q with ⟨k, hk, rfl⟩ | ⟨-, h2⟩
  · have : k = 0 ∨ k = 1 := by omega
    rcases this with rfl | rfl
    · exact absurd (Or.inl rfl) h
    · exact absurd (Or.inr rfl) h
  · exact h2

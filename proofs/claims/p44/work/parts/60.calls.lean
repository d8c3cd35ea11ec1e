/-! CALLS OF THE CLASS, ONE BY ONE: what each answers over a line that is (n people, L0 loaves, kinds, patience, deeds, lines kept) -/
def xSz (I : Nat → Nat → Int32) : Prop := (I 1 0 = qn 40 ∧ I 4 0 = qn 60 ∧ I 7 0 = qn 40) ∧ (∀ r, r < 6 → I 2 r = -qn 1 ∨ ∃ m, m ≤ 40 ∧ I 2 r = qn m) ∧ ∀ t, t < 4 → I 5 t = -qn 1 ∨ ∃ m, m ≤ 60 ∧ I 5 t = qn m
def xR (n L0 : Nat) (K P : Nat → Nat) (ds : List Nat) (kp : Nat → Option (List Nat)) (I : Nat → Nat → Int32) : Prop := zSt n L0 K P ds kp ∧ xSz I ∧ zXL n L0 K P ds I ∧ zKX kp I
/-- the cells that stay where one only asks; those that are a line's -/
def xqc (c : Nat) : Prop := (1 ≤ c ∧ c < 10) ∨ (14 ≤ c ∧ c < 18) ∨ c = 23 ∨ c = 24 ∨ 36 ≤ c
def xlc (c : Nat) : Prop := c = 1 ∨ c = 2 ∨ c = 4 ∨ c = 5 ∨ c = 7 ∨ c = 8 ∨ c = 9 ∨ (14 ≤ c ∧ c < 18) ∨ c = 23 ∨ c = 24
def lq (I I' : Nat → Nat → Int32) : Prop := ∀ c, xqc c → I' c = I c
theorem lq_rfl {I : Nat → Nat → Int32} : lq I I := fun _ _ => rfl
theorem lq_tr {I I1 I2 : Nat → Nat → Int32} (h : lq I I1) (h' : lq I1 I2) : lq I I2 := fun c hc => (h' c hc).trans (h c hc)
theorem xR_eq {n L0 : Nat} {K P : Nat → Nat} {ds : List Nat} {kp : Nat → Option (List Nat)} {I I' : Nat → Nat → Int32} (h : xR n L0 K P ds kp I) (e : ∀ c, xlc c → I' c = I c) : xR n L0 K P ds kp I' := by
  unfold xlc at e
  obtain ⟨h1, ⟨⟨a1, a2, a3⟩, h3, h4⟩, ⟨h5, h6, h7⟩, h8⟩ := h
  refine ⟨h1, ⟨⟨?_, ?_, ?_⟩, ?_, ?_⟩, ⟨?_, ?_, zXs_eq h7 (fun c hc => e c (by omega))⟩, ?_⟩
  · rw [e 1 (by omega)]; exact a1
  · rw [e 4 (by omega)]; exact a2
  · rw [e 7 (by omega)]; exact a3
  · rw [e 2 (by omega)]; exact h3
  · rw [e 5 (by omega)]; exact h4
  · rw [e 15 (by omega)]; exact h5
  · rw [e 16 (by omega), e 17 (by omega)]; exact h6
  · unfold zKX at h8 ⊢
    rw [e 8 (by omega), e 9 (by omega)]; exact h8
theorem xR_lq {n L0 : Nat} {K P : Nat → Nat} {ds : List Nat} {kp : Nat → Option (List Nat)} {I I' : Nat → Nat → Int32} (h : xR n L0 K P ds kp I) (e : lq I I') : xR n L0 K P ds kp I' := xR_eq h (fun c hc => e c (by unfold xlc at hc; unfold xqc; omega))
/-- behind a call, over more cells -/
theorem lq_g {I I' : Nat → Nat → Int32} (h : ∀ c, c < 36 → xqc c → I' c = I c) : lq I (qp_g I I') := fun c hc => by
  by_cases h36 : c < 36
  · rw [qp_g_lo h36]; exact h c h36 hc
  · rw [qp_g_hi (by omega)]
theorem xR_g {n L0 : Nat} {K P : Nat → Nat} {ds : List Nat} {kp : Nat → Option (List Nat)} {I I' : Nat → Nat → Int32} (h : xR n L0 K P ds kp I') : xR n L0 K P ds kp (qp_g I I') := xR_eq h (fun c hc => qp_g_lo (by unfold xlc at hc; omega))
theorem qp_g_self {I : Nat → Nat → Int32} : qp_g I I = I := by
  funext c
  by_cases h36 : c < 36
  · exact qp_g_lo h36
  · exact qp_g_hi (by omega)
theorem xR_ok {n L0 : Nat} {K P : Nat → Nat} {ds : List Nat} {kp : Nat → Option (List Nat)} {I : Nat → Nat → Int32} (h : xR n L0 K P ds kp I) : zRok n (zrun n L0 ds) := zSt_ok h.1
theorem xR_P {n L0 : Nat} {K P : Nat → Nat} {ds : List Nat} {kp : Nat → Option (List Nat)} {I : Nat → Nat → Int32} (h : xR n L0 K P ds kp I) : zP n (zls n (zrun n L0 ds).1) := zSt_P h.1
section XC
variable {n L0 : Nat} {K P : Nat → Nat} {ds : List Nat} {kp : Nat → Option (List Nat)} {I : Nat → Nat → Int32} {J : Nat → Nat → Int64}
theorem xc_asked : fX_asked I J = some (I 0 11, I, J) := rfl
theorem xc_upper : fX_upper I J = some (J 0 12, I, J) := rfl
theorem xc_lower : fX_lower I J = some (J 0 13, I, J) := rfl
theorem xc_who {p : Nat} (h : xR n L0 K P ds kp I) (hp : p < n) : fX_who (qn p) I J = some (qn (zat (zls n (zrun n L0 ds).1) p), I, J) := by
  have hP := xR_P h
  obtain ⟨hS, hz, ⟨h1, h2, h3⟩, h4⟩ := h
  have hn := hS.1
  have ew := eD_who (I := I) (J := J) hP hn (show p ≤ 6 by omega)
  unfold fX_who
  simp (disch := omega) only [eC_has h3.1 hn hp, h3.2.1, ew, qn_l0, qn_l1, qn_l2, qn_l3, qn_l4, qn_l5, qn_l6, qn_l7, qn_l8, qn_l9, qn_l10, qn_l11, qn_l12, qn_l13, qn_l14, qn_l15, qn_l16, qn_l17, qn_l18, qn_l19, qn_l20, qn_l21, qn_l22, qn_l23, qn_l24, qn_l26, qn_l27, qn_l28, qn_l31, qn_l32, qn_l33, qn_l34, qn_l36, qn_l37, qn_l38, qn_l39, qn_l40, qn_l47, qn_l48, qn_l49, qn_l50, qn_l51, qn_l54, qn_l55, qn_l56, qn_l57, qn_l60, qn_l63, qn_l64, qn_l69, qn_l70, qn_l75, qn_l99, qn_l100, qn_l103, qn_l111, qn_l112, qn_l113, qn_l115, qn_l117, qn_l120, qn_l127, qn_l128, qn_l200, qn_l225, qn_l240, qn_l255, qn_l256, qn_l300, qn_l720, qn_l1000, qn_l48271, qn_l1000000, qn_l2147483646, qn_l2147483647, qn_add, qn_mul, qn_sub, qn_addneg, qn_div, qn_mod, qn_modn, qn_lt, qn_le, qn_eq, qn_nat, qn_m1, qn_m1', qn_c1, qn_g1, qn_g1', qn_c1', qn_and, qn_or, qn_shl1, qn_shr1, qn_64, ql_32, ql_add, ql_mul, ql_sub, ql_div, ql_mod, ql_lt, ql_le, ql_eq, ql_l0, ql_l1, qp_gd_T, qp_bd_t, ↓reduceIte, qt_le, qf_le, qt_lt, qf_lt, qt_eq, qf_eq, and_self, not_true_eq_false, not_false_eq_true, true_and, and_true, or_true, true_or, or_false, false_or, and_false, false_and, Nat.reduceAdd, Nat.reduceMul, Nat.reduceSub, Nat.reduceDiv, Nat.reduceMod, Nat.reducePow, Nat.zero_add, Nat.add_zero, Nat.zero_le, Nat.mul_zero, Nat.zero_mul, qm_nk, qm_eq, qm_nj]
theorem xc_wants {i p : Nat} (h : xR n L0 K P ds kp I) (hi : i < n) (hp : p < n) : fX_wants (qn i) (qn p) I J = some (qn (zwant (K i) (decide (p = n - 1))), I, J) := by
  obtain ⟨hS, hz, ⟨h1, h2, h3⟩, h4⟩ := h
  have hn := hS.1
  have e0 : I 15 0 = qn n := h3.1
  have hK := (hS.2.2.1 i hi).1
  have ek := (h2 i hi).1
  have w1 := eC_wantOf (I := I) (J := J) (b := decide (p = n - 1)) hK
  unfold fX_wants
  by_cases hl : p = n - 1
  · rw [decide_eq_true hl, if_pos rfl] at w1
    rw [decide_eq_true hl]
    simp (disch := omega) only [eC_has h3.1 hn hi, eC_has h3.1 hn hp, eC_kind, ek, e0, w1, qn_l0, qn_l1, qn_l2, qn_l3, qn_l4, qn_l5, qn_l6, qn_l7, qn_l8, qn_l9, qn_l10, qn_l11, qn_l12, qn_l13, qn_l14, qn_l15, qn_l16, qn_l17, qn_l18, qn_l19, qn_l20, qn_l21, qn_l22, qn_l23, qn_l24, qn_l26, qn_l27, qn_l28, qn_l31, qn_l32, qn_l33, qn_l34, qn_l36, qn_l37, qn_l38, qn_l39, qn_l40, qn_l47, qn_l48, qn_l49, qn_l50, qn_l51, qn_l54, qn_l55, qn_l56, qn_l57, qn_l60, qn_l63, qn_l64, qn_l69, qn_l70, qn_l75, qn_l99, qn_l100, qn_l103, qn_l111, qn_l112, qn_l113, qn_l115, qn_l117, qn_l120, qn_l127, qn_l128, qn_l200, qn_l225, qn_l240, qn_l255, qn_l256, qn_l300, qn_l720, qn_l1000, qn_l48271, qn_l1000000, qn_l2147483646, qn_l2147483647, qn_add, qn_mul, qn_sub, qn_addneg, qn_div, qn_mod, qn_modn, qn_lt, qn_le, qn_eq, qn_nat, qn_m1, qn_m1', qn_c1, qn_g1, qn_g1', qn_c1', qn_and, qn_or, qn_shl1, qn_shr1, qn_64, ql_32, ql_add, ql_mul, ql_sub, ql_div, ql_mod, ql_lt, ql_le, ql_eq, ql_l0, ql_l1, qp_gd_T, qp_bd_t, ↓reduceIte, qt_le, qf_le, qt_lt, qf_lt, qt_eq, qf_eq, and_self, not_true_eq_false, not_false_eq_true, true_and, and_true, or_true, true_or, or_false, false_or, and_false, false_and, Nat.reduceAdd, Nat.reduceMul, Nat.reduceSub, Nat.reduceDiv, Nat.reduceMod, Nat.reducePow, Nat.zero_add, Nat.add_zero, Nat.zero_le, Nat.mul_zero, Nat.zero_mul, qm_nk, qm_eq, qm_nj]
  · rw [decide_eq_false hl, if_neg (by decide)] at w1
    rw [decide_eq_false hl]
    simp (disch := omega) only [eC_has h3.1 hn hi, eC_has h3.1 hn hp, eC_kind, ek, e0, w1, qn_l0, qn_l1, qn_l2, qn_l3, qn_l4, qn_l5, qn_l6, qn_l7, qn_l8, qn_l9, qn_l10, qn_l11, qn_l12, qn_l13, qn_l14, qn_l15, qn_l16, qn_l17, qn_l18, qn_l19, qn_l20, qn_l21, qn_l22, qn_l23, qn_l24, qn_l26, qn_l27, qn_l28, qn_l31, qn_l32, qn_l33, qn_l34, qn_l36, qn_l37, qn_l38, qn_l39, qn_l40, qn_l47, qn_l48, qn_l49, qn_l50, qn_l51, qn_l54, qn_l55, qn_l56, qn_l57, qn_l60, qn_l63, qn_l64, qn_l69, qn_l70, qn_l75, qn_l99, qn_l100, qn_l103, qn_l111, qn_l112, qn_l113, qn_l115, qn_l117, qn_l120, qn_l127, qn_l128, qn_l200, qn_l225, qn_l240, qn_l255, qn_l256, qn_l300, qn_l720, qn_l1000, qn_l48271, qn_l1000000, qn_l2147483646, qn_l2147483647, qn_add, qn_mul, qn_sub, qn_addneg, qn_div, qn_mod, qn_modn, qn_lt, qn_le, qn_eq, qn_nat, qn_m1, qn_m1', qn_c1, qn_g1, qn_g1', qn_c1', qn_and, qn_or, qn_shl1, qn_shr1, qn_64, ql_32, ql_add, ql_mul, ql_sub, ql_div, ql_mod, ql_lt, ql_le, ql_eq, ql_l0, ql_l1, qp_gd_T, qp_bd_t, ↓reduceIte, qt_le, qf_le, qt_lt, qf_lt, qt_eq, qf_eq, and_self, not_true_eq_false, not_false_eq_true, true_and, and_true, or_true, true_or, or_false, false_or, and_false, false_and, Nat.reduceAdd, Nat.reduceMul, Nat.reduceSub, Nat.reduceDiv, Nat.reduceMod, Nat.reducePow, Nat.zero_add, Nat.add_zero, Nat.zero_le, Nat.mul_zero, Nat.zero_mul, qm_nk, qm_eq, qm_nj]
theorem xc_one {i w : Nat} (h : xR n L0 K P ds kp I) (hi : i < n) (hw : w ≤ 6) : ∃ I1, fX_one (qn i) (qn w) I J = some (qn 1, I1, J) ∧ I1 0 11 = qn (zone n K P (zls n (zrun n L0 ds).1) (zrun n L0 ds).2 i w) ∧ ∀ c, c < 36 → xqc c → I1 c = I c := by
  have hP := xR_P h
  have hok := xR_ok h
  obtain ⟨hS, hz, ⟨h1, h2, h3⟩, h4⟩ := h
  have hn := hS.1
  obtain ⟨I1, a1, a2, a3⟩ := eL_sv (J := J) hP hn (zSt_kx hS h2) h3.1 h3.2.2.1 hok.2.2
  have et := eX_trait (I := I1) (J := J) (w := w) hP hn hi (by omega) (by rw [a3 16 (by omega), a3 17 (by omega)]; exact h2 i hi) (by rw [a3 15 (by omega)]; exact h3.1) (by rw [a3 14 (by omega)]; exact h3.2.1) a2
  generalize hv : zone n K P (zls n (zrun n L0 ds).1) (zrun n L0 ds).2 i w = v at et
  refine ⟨qp_up I1 0 11 (qn v), ?_, qm_eq rfl, fun c h36 hc => by unfold xqc at hc; rw [qm_nk (by omega)]; exact a3 c (by omega)⟩
  unfold fX_one fX_tell
  simp (disch := omega) only [eC_has h3.1 hn hi, h3.2.1, a1, et, qn_l0, qn_l1, qn_l2, qn_l3, qn_l4, qn_l5, qn_l6, qn_l7, qn_l8, qn_l9, qn_l10, qn_l11, qn_l12, qn_l13, qn_l14, qn_l15, qn_l16, qn_l17, qn_l18, qn_l19, qn_l20, qn_l21, qn_l22, qn_l23, qn_l24, qn_l26, qn_l27, qn_l28, qn_l31, qn_l32, qn_l33, qn_l34, qn_l36, qn_l37, qn_l38, qn_l39, qn_l40, qn_l47, qn_l48, qn_l49, qn_l50, qn_l51, qn_l54, qn_l55, qn_l56, qn_l57, qn_l60, qn_l63, qn_l64, qn_l69, qn_l70, qn_l75, qn_l99, qn_l100, qn_l103, qn_l111, qn_l112, qn_l113, qn_l115, qn_l117, qn_l120, qn_l127, qn_l128, qn_l200, qn_l225, qn_l240, qn_l255, qn_l256, qn_l300, qn_l720, qn_l1000, qn_l48271, qn_l1000000, qn_l2147483646, qn_l2147483647, qn_add, qn_mul, qn_sub, qn_addneg, qn_div, qn_mod, qn_modn, qn_lt, qn_le, qn_eq, qn_nat, qn_m1, qn_m1', qn_c1, qn_g1, qn_g1', qn_c1', qn_and, qn_or, qn_shl1, qn_shr1, qn_64, ql_32, ql_add, ql_mul, ql_sub, ql_div, ql_mod, ql_lt, ql_le, ql_eq, ql_l0, ql_l1, qp_gd_T, qp_bd_t, ↓reduceIte, qt_le, qf_le, qt_lt, qf_lt, qt_eq, qf_eq, and_self, not_true_eq_false, not_false_eq_true, true_and, and_true, or_true, true_or, or_false, false_or, and_false, false_and, Nat.reduceAdd, Nat.reduceMul, Nat.reduceSub, Nat.reduceDiv, Nat.reduceMod, Nat.reducePow, Nat.zero_add, Nat.add_zero, Nat.zero_le, Nat.mul_zero, Nat.zero_mul, qm_nk, qm_eq, qm_nj]
theorem xc_told {i w : Nat} (h : xR n L0 K P ds kp I) (hi : i < n) (hw : w ≤ 6) : ∃ I1, fW_told (qn i) (qn w) I J = some (qn (zone n K P (zls n (zrun n L0 ds).1) (zrun n L0 ds).2 i w), I1, J) ∧ ∀ c, c < 36 → xqc c → I1 c = I c := by
  obtain ⟨I1, a1, a2, a3⟩ := xc_one (J := J) h hi hw
  refine ⟨I1, ?_, a3⟩
  unfold fW_told
  simp (disch := omega) only [a1, xc_asked, a2, qn_l0, qn_l1, qn_l2, qn_l3, qn_l4, qn_l5, qn_l6, qn_l7, qn_l8, qn_l9, qn_l10, qn_l11, qn_l12, qn_l13, qn_l14, qn_l15, qn_l16, qn_l17, qn_l18, qn_l19, qn_l20, qn_l21, qn_l22, qn_l23, qn_l24, qn_l26, qn_l27, qn_l28, qn_l31, qn_l32, qn_l33, qn_l34, qn_l36, qn_l37, qn_l38, qn_l39, qn_l40, qn_l47, qn_l48, qn_l49, qn_l50, qn_l51, qn_l54, qn_l55, qn_l56, qn_l57, qn_l60, qn_l63, qn_l64, qn_l69, qn_l70, qn_l75, qn_l99, qn_l100, qn_l103, qn_l111, qn_l112, qn_l113, qn_l115, qn_l117, qn_l120, qn_l127, qn_l128, qn_l200, qn_l225, qn_l240, qn_l255, qn_l256, qn_l300, qn_l720, qn_l1000, qn_l48271, qn_l1000000, qn_l2147483646, qn_l2147483647, qn_add, qn_mul, qn_sub, qn_addneg, qn_div, qn_mod, qn_modn, qn_lt, qn_le, qn_eq, qn_nat, qn_m1, qn_m1', qn_c1, qn_g1, qn_g1', qn_c1', qn_and, qn_or, qn_shl1, qn_shr1, qn_64, ql_32, ql_add, ql_mul, ql_sub, ql_div, ql_mod, ql_lt, ql_le, ql_eq, ql_l0, ql_l1, qp_gd_T, qp_bd_t, ↓reduceIte, qt_le, qf_le, qt_lt, qf_lt, qt_eq, qf_eq, and_self, not_true_eq_false, not_false_eq_true, true_and, and_true, or_true, true_or, or_false, false_or, and_false, false_and, Nat.reduceAdd, Nat.reduceMul, Nat.reduceSub, Nat.reduceDiv, Nat.reduceMod, Nat.reducePow, Nat.zero_add, Nat.add_zero, Nat.zero_le, Nat.mul_zero, Nat.zero_mul, qm_nk, qm_eq, qm_nj]
theorem xc_gets {i p : Nat} (h : xR n L0 K P ds kp I) (hi : i < n) (hp : p < n) : ∃ I1, fX_gets (qn i) (qn p) I J = some (qn (zG K P (zmv i p (zls n (zrun n L0 ds).1)) (zrun n L0 ds).2 i), I1, J) ∧ ∀ c, c < 36 → xqc c → I1 c = I c := by
  have hP := xR_P h
  have hok := xR_ok h
  obtain ⟨hS, hz, ⟨h1, h2, h3⟩, h4⟩ := h
  have hn := hS.1
  obtain ⟨I1, a1, a2⟩ := eL_gainAt (J := J) (K := K) (P := P) hP hn (zSt_kx hS h2) h3.1 h3.2.1 h3.2.2.1 hok.2.2 hi hp
  refine ⟨I1, ?_, fun c h36 hc => by unfold xqc at hc; exact a2 c (by omega)⟩
  unfold fX_gets
  simp (disch := omega) only [eC_has h3.1 hn hi, eC_has h3.1 hn hp, a1, qn_l0, qn_l1, qn_l2, qn_l3, qn_l4, qn_l5, qn_l6, qn_l7, qn_l8, qn_l9, qn_l10, qn_l11, qn_l12, qn_l13, qn_l14, qn_l15, qn_l16, qn_l17, qn_l18, qn_l19, qn_l20, qn_l21, qn_l22, qn_l23, qn_l24, qn_l26, qn_l27, qn_l28, qn_l31, qn_l32, qn_l33, qn_l34, qn_l36, qn_l37, qn_l38, qn_l39, qn_l40, qn_l47, qn_l48, qn_l49, qn_l50, qn_l51, qn_l54, qn_l55, qn_l56, qn_l57, qn_l60, qn_l63, qn_l64, qn_l69, qn_l70, qn_l75, qn_l99, qn_l100, qn_l103, qn_l111, qn_l112, qn_l113, qn_l115, qn_l117, qn_l120, qn_l127, qn_l128, qn_l200, qn_l225, qn_l240, qn_l255, qn_l256, qn_l300, qn_l720, qn_l1000, qn_l48271, qn_l1000000, qn_l2147483646, qn_l2147483647, qn_add, qn_mul, qn_sub, qn_addneg, qn_div, qn_mod, qn_modn, qn_lt, qn_le, qn_eq, qn_nat, qn_m1, qn_m1', qn_c1, qn_g1, qn_g1', qn_c1', qn_and, qn_or, qn_shl1, qn_shr1, qn_64, ql_32, ql_add, ql_mul, ql_sub, ql_div, ql_mod, ql_lt, ql_le, ql_eq, ql_l0, ql_l1, qp_gd_T, qp_bd_t, ↓reduceIte, qt_le, qf_le, qt_lt, qf_lt, qt_eq, qf_eq, and_self, not_true_eq_false, not_false_eq_true, true_and, and_true, or_true, true_or, or_false, false_or, and_false, false_and, Nat.reduceAdd, Nat.reduceMul, Nat.reduceSub, Nat.reduceDiv, Nat.reduceMod, Nat.reducePow, Nat.zero_add, Nat.add_zero, Nat.zero_le, Nat.mul_zero, Nat.zero_mul, qm_nk, qm_eq, qm_nj]
theorem xc_falls {k : Nat} (h : xR n L0 K P ds kp I) (hk : k < (zrun n L0 ds).1.length) : ∃ I1, fX_falls (qn k) I J = some (qn (zback n k (zrun n L0 ds).1).2.2, I1, J) ∧ ∀ c, c < 36 → xqc c → I1 c = I c := by
  have hok := xR_ok h
  obtain ⟨hS, hz, ⟨h1, h2, h3⟩, h4⟩ := h
  have hn := hS.1
  have e4 : I 14 4 = qn (zrun n L0 ds).1.length := h3.2.2.2.1
  obtain ⟨I0, w1, w2⟩ := eL_without0 (J := J) hn h3.1 e4 h3.2.2.2.2.2.1 hok.1 hok.2.1 hk
  subst w2
  refine ⟨I0, ?_, fun _ _ _ => rfl⟩
  unfold fX_falls
  simp (disch := omega) only [eL_hasT e4 hok.2.1 hk, w1, qn_l0, qn_l1, qn_l2, qn_l3, qn_l4, qn_l5, qn_l6, qn_l7, qn_l8, qn_l9, qn_l10, qn_l11, qn_l12, qn_l13, qn_l14, qn_l15, qn_l16, qn_l17, qn_l18, qn_l19, qn_l20, qn_l21, qn_l22, qn_l23, qn_l24, qn_l26, qn_l27, qn_l28, qn_l31, qn_l32, qn_l33, qn_l34, qn_l36, qn_l37, qn_l38, qn_l39, qn_l40, qn_l47, qn_l48, qn_l49, qn_l50, qn_l51, qn_l54, qn_l55, qn_l56, qn_l57, qn_l60, qn_l63, qn_l64, qn_l69, qn_l70, qn_l75, qn_l99, qn_l100, qn_l103, qn_l111, qn_l112, qn_l113, qn_l115, qn_l117, qn_l120, qn_l127, qn_l128, qn_l200, qn_l225, qn_l240, qn_l255, qn_l256, qn_l300, qn_l720, qn_l1000, qn_l48271, qn_l1000000, qn_l2147483646, qn_l2147483647, qn_add, qn_mul, qn_sub, qn_addneg, qn_div, qn_mod, qn_modn, qn_lt, qn_le, qn_eq, qn_nat, qn_m1, qn_m1', qn_c1, qn_g1, qn_g1', qn_c1', qn_and, qn_or, qn_shl1, qn_shr1, qn_64, ql_32, ql_add, ql_mul, ql_sub, ql_div, ql_mod, ql_lt, ql_le, ql_eq, ql_l0, ql_l1, qp_gd_T, qp_bd_t, ↓reduceIte, qt_le, qf_le, qt_lt, qf_lt, qt_eq, qf_eq, and_self, not_true_eq_false, not_false_eq_true, true_and, and_true, or_true, true_or, or_false, false_or, and_false, false_and, Nat.reduceAdd, Nat.reduceMul, Nat.reduceSub, Nat.reduceDiv, Nat.reduceMod, Nat.reducePow, Nat.zero_add, Nat.add_zero, Nat.zero_le, Nat.mul_zero, Nat.zero_mul, qm_nk, qm_eq, qm_nj]
theorem xc_fallsF (h : xR n L0 K P ds kp I) : fX_falls (qn (zrun n L0 ds).1.length) I J = some (-qn 1, I, J) := by
  obtain ⟨hS, hz, ⟨h1, h2, h3⟩, h4⟩ := h
  have e4 : I 14 4 = qn (zrun n L0 ds).1.length := h3.2.2.2.1
  unfold fX_falls
  simp (disch := omega) only [eL_hasTF e4 (Or.inr (Int32.le_refl _)), qn_l0, qn_l1, qn_l2, qn_l3, qn_l4, qn_l5, qn_l6, qn_l7, qn_l8, qn_l9, qn_l10, qn_l11, qn_l12, qn_l13, qn_l14, qn_l15, qn_l16, qn_l17, qn_l18, qn_l19, qn_l20, qn_l21, qn_l22, qn_l23, qn_l24, qn_l26, qn_l27, qn_l28, qn_l31, qn_l32, qn_l33, qn_l34, qn_l36, qn_l37, qn_l38, qn_l39, qn_l40, qn_l47, qn_l48, qn_l49, qn_l50, qn_l51, qn_l54, qn_l55, qn_l56, qn_l57, qn_l60, qn_l63, qn_l64, qn_l69, qn_l70, qn_l75, qn_l99, qn_l100, qn_l103, qn_l111, qn_l112, qn_l113, qn_l115, qn_l117, qn_l120, qn_l127, qn_l128, qn_l200, qn_l225, qn_l240, qn_l255, qn_l256, qn_l300, qn_l720, qn_l1000, qn_l48271, qn_l1000000, qn_l2147483646, qn_l2147483647, qn_add, qn_mul, qn_sub, qn_addneg, qn_div, qn_mod, qn_modn, qn_lt, qn_le, qn_eq, qn_nat, qn_m1, qn_m1', qn_c1, qn_g1, qn_g1', qn_c1', qn_and, qn_or, qn_shl1, qn_shr1, qn_64, ql_32, ql_add, ql_mul, ql_sub, ql_div, ql_mod, ql_lt, ql_le, ql_eq, ql_l0, ql_l1, qp_gd_T, qp_bd_t, ↓reduceIte, qt_le, qf_le, qt_lt, qf_lt, qt_eq, qf_eq, and_self, not_true_eq_false, not_false_eq_true, true_and, and_true, or_true, true_or, or_false, false_or, and_false, false_and, Nat.reduceAdd, Nat.reduceMul, Nat.reduceSub, Nat.reduceDiv, Nat.reduceMod, Nat.reducePow, Nat.zero_add, Nat.add_zero, Nat.zero_le, Nat.mul_zero, Nat.zero_mul, qm_nk, qm_eq, qm_nj]
theorem xc_best {i : Nat} (h : xR n L0 K P ds kp I) (hi : i < n) : ∃ I1, fX_best (qn i) I J = some (qn (zbp (fun p => zG K P (zmv i p (zls n (zrun n L0 ds).1)) (zrun n L0 ds).2 i) (n - 1)).1, I1, J) ∧ I1 0 11 = qn (zbp (fun p => zG K P (zmv i p (zls n (zrun n L0 ds).1)) (zrun n L0 ds).2 i) (n - 1)).2 ∧ ∀ c, c < 36 → xqc c → I1 c = I c := by
  have hP := xR_P h
  have hok := xR_ok h
  obtain ⟨hS, hz, ⟨h1, h2, h3⟩, h4⟩ := h
  have hn := hS.1
  have hk := zSt_kx hS h2
  generalize hg : (fun p => zG K P (zmv i p (zls n (zrun n L0 ds).1)) (zrun n L0 ds).2 i) = g
  have hg' : ∀ p, zG K P (zmv i p (zls n (zrun n L0 ds).1)) (zrun n L0 ds).2 i = g p := fun p => by rw [← hg]
  have hg3 : ∀ p, g p ≤ 3 := fun p => by rw [← hg']; exact zG_3
  have gx : ∀ (I1 : Nat → Nat → Int32) (p : Nat), p < n → (∀ c, c < 18 ∨ 22 < c → I1 c = I c) → ∃ I', fL_gainAt (qn i) (qn p) I1 J = some (qn (g p), I', J) ∧ ∀ c, c < 18 ∨ 22 < c → I' c = I c := by
    intro I1 p hp hf
    obtain ⟨I2, a1, a2⟩ := eL_gainAt (I := I1) (J := J) (K := K) (P := P) hP hn (by rw [hf 16 (by omega), hf 17 (by omega)]; exact hk) (by rw [hf 15 (by omega)]; exact h3.1) (by rw [hf 14 (by omega)]; exact h3.2.1) (by rw [hf 14 (by omega)]; exact h3.2.2.1) hok.2.2 hi hp
    exact ⟨I2, by rw [← hg']; exact a1, fun c hc => (a2 c hc).trans (hf c hc)⟩
  obtain ⟨I1, a1, a2⟩ := gx I 0 (by omega) (fun _ _ => rfl)
  have bx : ∃ I', fX_best_b31 100000 (qn i) (qn 0) (qn (g 0)) (qn 1) I1 J = some (qn (zbp g (n - 1)).1, qp_up I' 0 11 (qn (zbp g (n - 1)).2), J) ∧ ∀ c, c < 18 ∨ 22 < c → I' c = I c := by
    refine lp (σ := Int32 × Int32 × (Nat → Nat → Int32)) (R := fun o => ∃ I', o = some (qn (zbp g (n - 1)).1, qp_up I' 0 11 (qn (zbp g (n - 1)).2), J) ∧ ∀ c, c < 18 ∨ 22 < c → I' c = I c)
      (Inv := fun j q => q.1 = qn (zbp g (j - 1)).1 ∧ q.2.1 = qn (zbp g (j - 1)).2 ∧ ∀ c, c < 18 ∨ 22 < c → q.2.2 c = I c) (fun fu j q => fX_best_b31 fu (qn i) q.1 q.2.1 (qn j) q.2.2 J) n 100000 1 (qn 0, qn (g 0), I1) (by omega) (by omega) ⟨rfl, rfl, a2⟩ ?_ ?_
    · rintro fu ⟨q1, q2, I2⟩ ⟨s1, s2, s3⟩
      dsimp only at s1 s2 s3 ⊢
      have x0 : I2 15 0 = qn n := by rw [s3 15 (by omega)]; exact h3.1
      rw [fX_best_b31]
      unfold fX_tell
      simp (disch := omega) only [x0, s1, s2, qn_l0, qn_l1, qn_l2, qn_l3, qn_l4, qn_l5, qn_l6, qn_l7, qn_l8, qn_l9, qn_l10, qn_l11, qn_l12, qn_l13, qn_l14, qn_l15, qn_l16, qn_l17, qn_l18, qn_l19, qn_l20, qn_l21, qn_l22, qn_l23, qn_l24, qn_l26, qn_l27, qn_l28, qn_l31, qn_l32, qn_l33, qn_l34, qn_l36, qn_l37, qn_l38, qn_l39, qn_l40, qn_l47, qn_l48, qn_l49, qn_l50, qn_l51, qn_l54, qn_l55, qn_l56, qn_l57, qn_l60, qn_l63, qn_l64, qn_l69, qn_l70, qn_l75, qn_l99, qn_l100, qn_l103, qn_l111, qn_l112, qn_l113, qn_l115, qn_l117, qn_l120, qn_l127, qn_l128, qn_l200, qn_l225, qn_l240, qn_l255, qn_l256, qn_l300, qn_l720, qn_l1000, qn_l48271, qn_l1000000, qn_l2147483646, qn_l2147483647, qn_add, qn_mul, qn_sub, qn_addneg, qn_div, qn_mod, qn_modn, qn_lt, qn_le, qn_eq, qn_nat, qn_m1, qn_m1', qn_c1, qn_g1, qn_g1', qn_c1', qn_and, qn_or, qn_shl1, qn_shr1, qn_64, ql_32, ql_add, ql_mul, ql_sub, ql_div, ql_mod, ql_lt, ql_le, ql_eq, ql_l0, ql_l1, qp_gd_T, qp_bd_t, ↓reduceIte, qt_le, qf_le, qt_lt, qf_lt, qt_eq, qf_eq, and_self, not_true_eq_false, not_false_eq_true, true_and, and_true, or_true, true_or, or_false, false_or, and_false, false_and, Nat.reduceAdd, Nat.reduceMul, Nat.reduceSub, Nat.reduceDiv, Nat.reduceMod, Nat.reducePow, Nat.zero_add, Nat.add_zero, Nat.zero_le, Nat.mul_zero, Nat.zero_mul, qm_nk, qm_eq, qm_nj]
      exact ⟨I2, rfl, s3⟩
    · rintro fu j ⟨q1, q2, I2⟩ hj ⟨s1, s2, s3⟩
      dsimp only at s1 s2 s3 ⊢
      have x0 : I2 15 0 = qn n := by rw [s3 15 (by omega)]; exact h3.1
      obtain ⟨I3, c1, c2⟩ := gx I2 j hj s3
      have hb := zbp_le g hg3 (j - 1)
      have hgj := hg3 j
      by_cases hj0 : j = 0
      · subst hj0
        refine Or.inr ⟨(qn (zbp g 0).1, qn (zbp g 0).2, I3), ⟨rfl, rfl, c2⟩, ?_⟩
        rw [fX_best_b31]
        have e : zbp g (0 - 1) = (0, g 0) := rfl
        rw [e] at s1 s2
        simp (disch := omega) only [x0, c1, s1, s2, qn_l0, qn_l1, qn_l2, qn_l3, qn_l4, qn_l5, qn_l6, qn_l7, qn_l8, qn_l9, qn_l10, qn_l11, qn_l12, qn_l13, qn_l14, qn_l15, qn_l16, qn_l17, qn_l18, qn_l19, qn_l20, qn_l21, qn_l22, qn_l23, qn_l24, qn_l26, qn_l27, qn_l28, qn_l31, qn_l32, qn_l33, qn_l34, qn_l36, qn_l37, qn_l38, qn_l39, qn_l40, qn_l47, qn_l48, qn_l49, qn_l50, qn_l51, qn_l54, qn_l55, qn_l56, qn_l57, qn_l60, qn_l63, qn_l64, qn_l69, qn_l70, qn_l75, qn_l99, qn_l100, qn_l103, qn_l111, qn_l112, qn_l113, qn_l115, qn_l117, qn_l120, qn_l127, qn_l128, qn_l200, qn_l225, qn_l240, qn_l255, qn_l256, qn_l300, qn_l720, qn_l1000, qn_l48271, qn_l1000000, qn_l2147483646, qn_l2147483647, qn_add, qn_mul, qn_sub, qn_addneg, qn_div, qn_mod, qn_modn, qn_lt, qn_le, qn_eq, qn_nat, qn_m1, qn_m1', qn_c1, qn_g1, qn_g1', qn_c1', qn_and, qn_or, qn_shl1, qn_shr1, qn_64, ql_32, ql_add, ql_mul, ql_sub, ql_div, ql_mod, ql_lt, ql_le, ql_eq, ql_l0, ql_l1, qp_gd_T, qp_bd_t, ↓reduceIte, qt_le, qf_le, qt_lt, qf_lt, qt_eq, qf_eq, and_self, not_true_eq_false, not_false_eq_true, true_and, and_true, or_true, true_or, or_false, false_or, and_false, false_and, Nat.reduceAdd, Nat.reduceMul, Nat.reduceSub, Nat.reduceDiv, Nat.reduceMod, Nat.reducePow, Nat.zero_add, Nat.add_zero, Nat.zero_le, Nat.mul_zero, Nat.zero_mul, qm_nk, qm_eq, qm_nj]
        rfl
      · have ej : zbp g j = if g j ≤ (zbp g (j - 1)).2 then zbp g (j - 1) else (j, g j) := by
          obtain ⟨j', rfl⟩ : ∃ j', j = j' + 1 := ⟨j - 1, by omega⟩
          rfl
        refine Or.inr ⟨(qn (zbp g j).1, qn (zbp g j).2, I3), ⟨rfl, rfl, c2⟩, ?_⟩
        rw [fX_best_b31, ej]
        by_cases hc : g j ≤ (zbp g (j - 1)).2
        · rw [if_pos hc]
          simp (disch := omega) only [x0, c1, s1, s2, qn_l0, qn_l1, qn_l2, qn_l3, qn_l4, qn_l5, qn_l6, qn_l7, qn_l8, qn_l9, qn_l10, qn_l11, qn_l12, qn_l13, qn_l14, qn_l15, qn_l16, qn_l17, qn_l18, qn_l19, qn_l20, qn_l21, qn_l22, qn_l23, qn_l24, qn_l26, qn_l27, qn_l28, qn_l31, qn_l32, qn_l33, qn_l34, qn_l36, qn_l37, qn_l38, qn_l39, qn_l40, qn_l47, qn_l48, qn_l49, qn_l50, qn_l51, qn_l54, qn_l55, qn_l56, qn_l57, qn_l60, qn_l63, qn_l64, qn_l69, qn_l70, qn_l75, qn_l99, qn_l100, qn_l103, qn_l111, qn_l112, qn_l113, qn_l115, qn_l117, qn_l120, qn_l127, qn_l128, qn_l200, qn_l225, qn_l240, qn_l255, qn_l256, qn_l300, qn_l720, qn_l1000, qn_l48271, qn_l1000000, qn_l2147483646, qn_l2147483647, qn_add, qn_mul, qn_sub, qn_addneg, qn_div, qn_mod, qn_modn, qn_lt, qn_le, qn_eq, qn_nat, qn_m1, qn_m1', qn_c1, qn_g1, qn_g1', qn_c1', qn_and, qn_or, qn_shl1, qn_shr1, qn_64, ql_32, ql_add, ql_mul, ql_sub, ql_div, ql_mod, ql_lt, ql_le, ql_eq, ql_l0, ql_l1, qp_gd_T, qp_bd_t, ↓reduceIte, qt_le, qf_le, qt_lt, qf_lt, qt_eq, qf_eq, and_self, not_true_eq_false, not_false_eq_true, true_and, and_true, or_true, true_or, or_false, false_or, and_false, false_and, Nat.reduceAdd, Nat.reduceMul, Nat.reduceSub, Nat.reduceDiv, Nat.reduceMod, Nat.reducePow, Nat.zero_add, Nat.add_zero, Nat.zero_le, Nat.mul_zero, Nat.zero_mul, qm_nk, qm_eq, qm_nj]
        · rw [if_neg hc]
          simp (disch := omega) only [x0, c1, s1, s2, qn_l0, qn_l1, qn_l2, qn_l3, qn_l4, qn_l5, qn_l6, qn_l7, qn_l8, qn_l9, qn_l10, qn_l11, qn_l12, qn_l13, qn_l14, qn_l15, qn_l16, qn_l17, qn_l18, qn_l19, qn_l20, qn_l21, qn_l22, qn_l23, qn_l24, qn_l26, qn_l27, qn_l28, qn_l31, qn_l32, qn_l33, qn_l34, qn_l36, qn_l37, qn_l38, qn_l39, qn_l40, qn_l47, qn_l48, qn_l49, qn_l50, qn_l51, qn_l54, qn_l55, qn_l56, qn_l57, qn_l60, qn_l63, qn_l64, qn_l69, qn_l70, qn_l75, qn_l99, qn_l100, qn_l103, qn_l111, qn_l112, qn_l113, qn_l115, qn_l117, qn_l120, qn_l127, qn_l128, qn_l200, qn_l225, qn_l240, qn_l255, qn_l256, qn_l300, qn_l720, qn_l1000, qn_l48271, qn_l1000000, qn_l2147483646, qn_l2147483647, qn_add, qn_mul, qn_sub, qn_addneg, qn_div, qn_mod, qn_modn, qn_lt, qn_le, qn_eq, qn_nat, qn_m1, qn_m1', qn_c1, qn_g1, qn_g1', qn_c1', qn_and, qn_or, qn_shl1, qn_shr1, qn_64, ql_32, ql_add, ql_mul, ql_sub, ql_div, ql_mod, ql_lt, ql_le, ql_eq, ql_l0, ql_l1, qp_gd_T, qp_bd_t, ↓reduceIte, qt_le, qf_le, qt_lt, qf_lt, qt_eq, qf_eq, and_self, not_true_eq_false, not_false_eq_true, true_and, and_true, or_true, true_or, or_false, false_or, and_false, false_and, Nat.reduceAdd, Nat.reduceMul, Nat.reduceSub, Nat.reduceDiv, Nat.reduceMod, Nat.reducePow, Nat.zero_add, Nat.add_zero, Nat.zero_le, Nat.mul_zero, Nat.zero_mul, qm_nk, qm_eq, qm_nj]
  obtain ⟨I2, b1, b2⟩ := bx
  generalize hw : qn (zbp g (n - 1)).2 = w at b1
  refine ⟨qp_up I2 0 11 w, ?_, qm_eq rfl, fun c h36 hc => by unfold xqc at hc; rw [qm_nk (by omega)]; exact b2 c (by omega)⟩
  unfold fX_best
  simp (disch := omega) only [eC_has h3.1 hn hi, a1, b1, qn_l0, qn_l1, qn_l2, qn_l3, qn_l4, qn_l5, qn_l6, qn_l7, qn_l8, qn_l9, qn_l10, qn_l11, qn_l12, qn_l13, qn_l14, qn_l15, qn_l16, qn_l17, qn_l18, qn_l19, qn_l20, qn_l21, qn_l22, qn_l23, qn_l24, qn_l26, qn_l27, qn_l28, qn_l31, qn_l32, qn_l33, qn_l34, qn_l36, qn_l37, qn_l38, qn_l39, qn_l40, qn_l47, qn_l48, qn_l49, qn_l50, qn_l51, qn_l54, qn_l55, qn_l56, qn_l57, qn_l60, qn_l63, qn_l64, qn_l69, qn_l70, qn_l75, qn_l99, qn_l100, qn_l103, qn_l111, qn_l112, qn_l113, qn_l115, qn_l117, qn_l120, qn_l127, qn_l128, qn_l200, qn_l225, qn_l240, qn_l255, qn_l256, qn_l300, qn_l720, qn_l1000, qn_l48271, qn_l1000000, qn_l2147483646, qn_l2147483647, qn_add, qn_mul, qn_sub, qn_addneg, qn_div, qn_mod, qn_modn, qn_lt, qn_le, qn_eq, qn_nat, qn_m1, qn_m1', qn_c1, qn_g1, qn_g1', qn_c1', qn_and, qn_or, qn_shl1, qn_shr1, qn_64, ql_32, ql_add, ql_mul, ql_sub, ql_div, ql_mod, ql_lt, ql_le, ql_eq, ql_l0, ql_l1, qp_gd_T, qp_bd_t, ↓reduceIte, qt_le, qf_le, qt_lt, qf_lt, qt_eq, qf_eq, and_self, not_true_eq_false, not_false_eq_true, true_and, and_true, or_true, true_or, or_false, false_or, and_false, false_and, Nat.reduceAdd, Nat.reduceMul, Nat.reduceSub, Nat.reduceDiv, Nat.reduceMod, Nat.reducePow, Nat.zero_add, Nat.add_zero, Nat.zero_le, Nat.mul_zero, Nat.zero_mul, qm_nk, qm_eq, qm_nj]
/-! deeds -/
theorem xc_act {c : Nat} (h : xR n L0 K P ds kp I) (hv : zvd n (zrun n L0 ds) c) (hl : ds.length < 40) :
    ∃ I1, fL_act (qn (c / 64)) (qn (c % 64)) I J = some ((), I1, J) ∧ (∀ c, c ≠ 14 → c ≠ 23 → c ≠ 24 → I1 c = I c) ∧ xR n L0 K P (ds ++ [c]) kp I1 := by
  have hok := xR_ok h
  obtain ⟨hS, ⟨⟨b1, b2, b3⟩, b4, b5⟩, ⟨h1, h2, h3⟩, h4⟩ := h
  have hn := hS.1
  obtain ⟨I1, a1, a2, a3, a4⟩ := eL_act (J := J) hn h3 hok hv hl
  refine ⟨I1, a1, a3, zSt_app hS hv hl, ⟨⟨?_, ?_, ?_⟩, ?_, ?_⟩, ⟨?_, ?_, by rw [zrun_app]; exact a2⟩, ?_⟩
  · rw [a3 1 (by omega) (by omega) (by omega)]; exact b1
  · rw [a3 4 (by omega) (by omega) (by omega)]; exact b2
  · rw [a3 7 (by omega) (by omega) (by omega)]; exact b3
  · rw [a3 2 (by omega) (by omega) (by omega)]; exact b4
  · rw [a3 5 (by omega) (by omega) (by omega)]; exact b5
  · rw [a3 15 (by omega) (by omega) (by omega)]; exact h1
  · rw [a3 16 (by omega) (by omega) (by omega), a3 17 (by omega) (by omega) (by omega)]; exact h2
  · unfold zKX at h4 ⊢
    rw [a3 8 (by omega) (by omega) (by omega), a3 9 (by omega) (by omega) (by omega)]; exact h4
theorem xc_ticket {i p : Nat} (h : xR n L0 K P ds kp I) (hi : i < n) (hp : p < n) (h12 : (zrun n L0 ds).1.length < 12) (hne : ¬ zat (zls n (zrun n L0 ds).1) p = i) (hl : ds.length < 40) :
    ∃ I1, fX_ticket (qn i) (qn p) I J = some (qn (zrun n L0 ds).1.length, I1, J) ∧ (∀ c, c ≠ 14 → c ≠ 23 → c ≠ 24 → I1 c = I c) ∧ xR n L0 K P (ds ++ [64 + (8 * i + p)]) kp I1 := by
  have hok := xR_ok h
  have hn := h.1.1
  have hv : zvd n (zrun n L0 ds) (64 + (8 * i + p)) := Or.inr (Or.inl ⟨by omega, by omega, by omega, h12⟩)
  obtain ⟨I1, a1, a2, a3⟩ := xc_act (J := J) h hv hl
  have e1 : (64 + (8 * i + p)) / 64 = 1 := by omega
  have e2 : (64 + (8 * i + p)) % 64 = 8 * i + p := by omega
  rw [e1, e2] at a1
  refine ⟨I1, ?_, a2, a3⟩
  obtain ⟨hS, hz, ⟨h1, h2, h3⟩, h4⟩ := h
  unfold fX_ticket
  simp (disch := omega) only [eC_has h3.1 hn hi, eC_has h3.1 hn hp, eL_canSell hn h3 hok hi hp h12 hne, h3.2.2.2.2.1, h3.2.2.2.1, a1, qn_l0, qn_l1, qn_l2, qn_l3, qn_l4, qn_l5, qn_l6, qn_l7, qn_l8, qn_l9, qn_l10, qn_l11, qn_l12, qn_l13, qn_l14, qn_l15, qn_l16, qn_l17, qn_l18, qn_l19, qn_l20, qn_l21, qn_l22, qn_l23, qn_l24, qn_l26, qn_l27, qn_l28, qn_l31, qn_l32, qn_l33, qn_l34, qn_l36, qn_l37, qn_l38, qn_l39, qn_l40, qn_l47, qn_l48, qn_l49, qn_l50, qn_l51, qn_l54, qn_l55, qn_l56, qn_l57, qn_l60, qn_l63, qn_l64, qn_l69, qn_l70, qn_l75, qn_l99, qn_l100, qn_l103, qn_l111, qn_l112, qn_l113, qn_l115, qn_l117, qn_l120, qn_l127, qn_l128, qn_l200, qn_l225, qn_l240, qn_l255, qn_l256, qn_l300, qn_l720, qn_l1000, qn_l48271, qn_l1000000, qn_l2147483646, qn_l2147483647, qn_add, qn_mul, qn_sub, qn_addneg, qn_div, qn_mod, qn_modn, qn_lt, qn_le, qn_eq, qn_nat, qn_m1, qn_m1', qn_c1, qn_g1, qn_g1', qn_c1', qn_and, qn_or, qn_shl1, qn_shr1, qn_64, ql_32, ql_add, ql_mul, ql_sub, ql_div, ql_mod, ql_lt, ql_le, ql_eq, ql_l0, ql_l1, qp_gd_T, qp_bd_t, ↓reduceIte, qt_le, qf_le, qt_lt, qf_lt, qt_eq, qf_eq, and_self, not_true_eq_false, not_false_eq_true, true_and, and_true, or_true, true_or, or_false, false_or, and_false, false_and, Nat.reduceAdd, Nat.reduceMul, Nat.reduceSub, Nat.reduceDiv, Nat.reduceMod, Nat.reducePow, Nat.zero_add, Nat.add_zero, Nat.zero_le, Nat.mul_zero, Nat.zero_mul, qm_nk, qm_eq, qm_nj]
theorem xc_ticketF {i p : Nat} (h : xR n L0 K P ds kp I) (hi : i < n) (hp : p < n) (hF : 12 ≤ (zrun n L0 ds).1.length ∨ zat (zls n (zrun n L0 ds).1) p = i) : fX_ticket (qn i) (qn p) I J = some (-qn 4, I, J) := by
  have hok := xR_ok h
  obtain ⟨hS, hz, ⟨h1, h2, h3⟩, h4⟩ := h
  have hn := hS.1
  unfold fX_ticket
  simp (disch := omega) only [eC_has h3.1 hn hi, eC_has h3.1 hn hp, eL_canSellF hn h3 hok hi hp hF, qn_l0, qn_l1, qn_l2, qn_l3, qn_l4, qn_l5, qn_l6, qn_l7, qn_l8, qn_l9, qn_l10, qn_l11, qn_l12, qn_l13, qn_l14, qn_l15, qn_l16, qn_l17, qn_l18, qn_l19, qn_l20, qn_l21, qn_l22, qn_l23, qn_l24, qn_l26, qn_l27, qn_l28, qn_l31, qn_l32, qn_l33, qn_l34, qn_l36, qn_l37, qn_l38, qn_l39, qn_l40, qn_l47, qn_l48, qn_l49, qn_l50, qn_l51, qn_l54, qn_l55, qn_l56, qn_l57, qn_l60, qn_l63, qn_l64, qn_l69, qn_l70, qn_l75, qn_l99, qn_l100, qn_l103, qn_l111, qn_l112, qn_l113, qn_l115, qn_l117, qn_l120, qn_l127, qn_l128, qn_l200, qn_l225, qn_l240, qn_l255, qn_l256, qn_l300, qn_l720, qn_l1000, qn_l48271, qn_l1000000, qn_l2147483646, qn_l2147483647, qn_add, qn_mul, qn_sub, qn_addneg, qn_div, qn_mod, qn_modn, qn_lt, qn_le, qn_eq, qn_nat, qn_m1, qn_m1', qn_c1, qn_g1, qn_g1', qn_c1', qn_and, qn_or, qn_shl1, qn_shr1, qn_64, ql_32, ql_add, ql_mul, ql_sub, ql_div, ql_mod, ql_lt, ql_le, ql_eq, ql_l0, ql_l1, qp_gd_T, qp_bd_t, ↓reduceIte, qt_le, qf_le, qt_lt, qf_lt, qt_eq, qf_eq, and_self, not_true_eq_false, not_false_eq_true, true_and, and_true, or_true, true_or, or_false, false_or, and_false, false_and, Nat.reduceAdd, Nat.reduceMul, Nat.reduceSub, Nat.reduceDiv, Nat.reduceMod, Nat.reducePow, Nat.zero_add, Nat.add_zero, Nat.zero_le, Nat.mul_zero, Nat.zero_mul, qm_nk, qm_eq, qm_nj]
theorem xc_back {k : Nat} (h : xR n L0 K P ds kp I) (hk : k < (zrun n L0 ds).1.length) (hl : ds.length < 40) :
    ∃ I1, fX_back (qn k) I J = some (qn (zback n k (zrun n L0 ds).1).2.2, I1, J) ∧ (∀ c, c ≠ 14 → c ≠ 23 → c ≠ 24 → I1 c = I c) ∧ xR n L0 K P (ds ++ [128 + k]) kp I1 := by
  have hok := xR_ok h
  have hn := h.1.1
  have ht := hok.2.1
  have hv : zvd n (zrun n L0 ds) (128 + k) := Or.inr (Or.inr (Or.inl ⟨by omega, by omega⟩))
  obtain ⟨I1, a1, a2, a3⟩ := xc_act (J := J) h hv hl
  have e1 : (128 + k) / 64 = 2 := by omega
  have e2 : (128 + k) % 64 = k := by omega
  rw [e1, e2] at a1
  refine ⟨I1, ?_, a2, a3⟩
  obtain ⟨hS, hz, ⟨h1, h2, h3⟩, h4⟩ := h
  have e4 : I 14 4 = qn (zrun n L0 ds).1.length := h3.2.2.2.1
  have e5 : I 14 5 = qn ds.length := h3.2.2.2.2.1
  obtain ⟨I0, w1, w2⟩ := eL_without0 (J := J) hn h3.1 e4 h3.2.2.2.2.2.1 hok.1 ht hk
  subst w2
  unfold fX_back
  simp (disch := omega) only [eL_hasT e4 ht hk, e5, w1, a1, qn_l0, qn_l1, qn_l2, qn_l3, qn_l4, qn_l5, qn_l6, qn_l7, qn_l8, qn_l9, qn_l10, qn_l11, qn_l12, qn_l13, qn_l14, qn_l15, qn_l16, qn_l17, qn_l18, qn_l19, qn_l20, qn_l21, qn_l22, qn_l23, qn_l24, qn_l26, qn_l27, qn_l28, qn_l31, qn_l32, qn_l33, qn_l34, qn_l36, qn_l37, qn_l38, qn_l39, qn_l40, qn_l47, qn_l48, qn_l49, qn_l50, qn_l51, qn_l54, qn_l55, qn_l56, qn_l57, qn_l60, qn_l63, qn_l64, qn_l69, qn_l70, qn_l75, qn_l99, qn_l100, qn_l103, qn_l111, qn_l112, qn_l113, qn_l115, qn_l117, qn_l120, qn_l127, qn_l128, qn_l200, qn_l225, qn_l240, qn_l255, qn_l256, qn_l300, qn_l720, qn_l1000, qn_l48271, qn_l1000000, qn_l2147483646, qn_l2147483647, qn_add, qn_mul, qn_sub, qn_addneg, qn_div, qn_mod, qn_modn, qn_lt, qn_le, qn_eq, qn_nat, qn_m1, qn_m1', qn_c1, qn_g1, qn_g1', qn_c1', qn_and, qn_or, qn_shl1, qn_shr1, qn_64, ql_32, ql_add, ql_mul, ql_sub, ql_div, ql_mod, ql_lt, ql_le, ql_eq, ql_l0, ql_l1, qp_gd_T, qp_bd_t, ↓reduceIte, qt_le, qf_le, qt_lt, qf_lt, qt_eq, qf_eq, and_self, not_true_eq_false, not_false_eq_true, true_and, and_true, or_true, true_or, or_false, false_or, and_false, false_and, Nat.reduceAdd, Nat.reduceMul, Nat.reduceSub, Nat.reduceDiv, Nat.reduceMod, Nat.reducePow, Nat.zero_add, Nat.add_zero, Nat.zero_le, Nat.mul_zero, Nat.zero_mul, qm_nk, qm_eq, qm_nj]
theorem xc_loaves {l : Nat} (h : xR n L0 K P ds kp I) (hn0 : 0 < n) (hll : l ≤ 20) (hs : ¬ (zrun n L0 ds).2 = l) (hl : ds.length < 40) :
    ∃ I1, fX_loaves (qn l) I J = some (qn (zrun n L0 ds).2, I1, J) ∧ (∀ c, c ≠ 14 → c ≠ 23 → c ≠ 24 → I1 c = I c) ∧ xR n L0 K P (ds ++ [192 + l]) kp I1 := by
  have hok := xR_ok h
  have hl20 := hok.2.2
  have hv : zvd n (zrun n L0 ds) (192 + l) := Or.inr (Or.inr (Or.inr ⟨by omega, by omega⟩))
  obtain ⟨I1, a1, a2, a3⟩ := xc_act (J := J) h hv hl
  have e1 : (192 + l) / 64 = 3 := by omega
  have e2 : (192 + l) % 64 = l := by omega
  rw [e1, e2] at a1
  refine ⟨I1, ?_, a2, a3⟩
  obtain ⟨hS, hz, ⟨h1, h2, h3⟩, h4⟩ := h
  have hn := hS.1
  have e3' : I 14 3 = qn (zrun n L0 ds).2 := h3.2.2.1
  have e5 : I 14 5 = qn ds.length := h3.2.2.2.2.1
  have e0 : I 15 0 = qn n := h3.1
  have hn0' : ¬ n = 0 := by omega
  unfold fX_loaves
  simp (disch := omega) only [e0, hn0', e3', hs, e5, a1, qn_l0, qn_l1, qn_l2, qn_l3, qn_l4, qn_l5, qn_l6, qn_l7, qn_l8, qn_l9, qn_l10, qn_l11, qn_l12, qn_l13, qn_l14, qn_l15, qn_l16, qn_l17, qn_l18, qn_l19, qn_l20, qn_l21, qn_l22, qn_l23, qn_l24, qn_l26, qn_l27, qn_l28, qn_l31, qn_l32, qn_l33, qn_l34, qn_l36, qn_l37, qn_l38, qn_l39, qn_l40, qn_l47, qn_l48, qn_l49, qn_l50, qn_l51, qn_l54, qn_l55, qn_l56, qn_l57, qn_l60, qn_l63, qn_l64, qn_l69, qn_l70, qn_l75, qn_l99, qn_l100, qn_l103, qn_l111, qn_l112, qn_l113, qn_l115, qn_l117, qn_l120, qn_l127, qn_l128, qn_l200, qn_l225, qn_l240, qn_l255, qn_l256, qn_l300, qn_l720, qn_l1000, qn_l48271, qn_l1000000, qn_l2147483646, qn_l2147483647, qn_add, qn_mul, qn_sub, qn_addneg, qn_div, qn_mod, qn_modn, qn_lt, qn_le, qn_eq, qn_nat, qn_m1, qn_m1', qn_c1, qn_g1, qn_g1', qn_c1', qn_and, qn_or, qn_shl1, qn_shr1, qn_64, ql_32, ql_add, ql_mul, ql_sub, ql_div, ql_mod, ql_lt, ql_le, ql_eq, ql_l0, ql_l1, qp_gd_T, qp_bd_t, ↓reduceIte, qt_le, qf_le, qt_lt, qf_lt, qt_eq, qf_eq, and_self, not_true_eq_false, not_false_eq_true, true_and, and_true, or_true, true_or, or_false, false_or, and_false, false_and, Nat.reduceAdd, Nat.reduceMul, Nat.reduceSub, Nat.reduceDiv, Nat.reduceMod, Nat.reducePow, Nat.zero_add, Nat.add_zero, Nat.zero_le, Nat.mul_zero, Nat.zero_mul, qm_nk, qm_eq, qm_nj]
theorem xc_loavesF {l : Nat} (h : xR n L0 K P ds kp I) (hn0 : 0 < n) (hll : l ≤ 20) (hs : (zrun n L0 ds).2 = l) : fX_loaves (qn l) I J = some (-qn 4, I, J) := by
  have hok := xR_ok h
  have hl20 := hok.2.2
  obtain ⟨hS, hz, ⟨h1, h2, h3⟩, h4⟩ := h
  have hn := hS.1
  have e3' : I 14 3 = qn (zrun n L0 ds).2 := h3.2.2.1
  have e0 : I 15 0 = qn n := h3.1
  have hn0' : ¬ n = 0 := by omega
  unfold fX_loaves
  simp (disch := omega) only [e0, hn0', e3', hs, qn_l0, qn_l1, qn_l2, qn_l3, qn_l4, qn_l5, qn_l6, qn_l7, qn_l8, qn_l9, qn_l10, qn_l11, qn_l12, qn_l13, qn_l14, qn_l15, qn_l16, qn_l17, qn_l18, qn_l19, qn_l20, qn_l21, qn_l22, qn_l23, qn_l24, qn_l26, qn_l27, qn_l28, qn_l31, qn_l32, qn_l33, qn_l34, qn_l36, qn_l37, qn_l38, qn_l39, qn_l40, qn_l47, qn_l48, qn_l49, qn_l50, qn_l51, qn_l54, qn_l55, qn_l56, qn_l57, qn_l60, qn_l63, qn_l64, qn_l69, qn_l70, qn_l75, qn_l99, qn_l100, qn_l103, qn_l111, qn_l112, qn_l113, qn_l115, qn_l117, qn_l120, qn_l127, qn_l128, qn_l200, qn_l225, qn_l240, qn_l255, qn_l256, qn_l300, qn_l720, qn_l1000, qn_l48271, qn_l1000000, qn_l2147483646, qn_l2147483647, qn_add, qn_mul, qn_sub, qn_addneg, qn_div, qn_mod, qn_modn, qn_lt, qn_le, qn_eq, qn_nat, qn_m1, qn_m1', qn_c1, qn_g1, qn_g1', qn_c1', qn_and, qn_or, qn_shl1, qn_shr1, qn_64, ql_32, ql_add, ql_mul, ql_sub, ql_div, ql_mod, ql_lt, ql_le, ql_eq, ql_l0, ql_l1, qp_gd_T, qp_bd_t, ↓reduceIte, qt_le, qf_le, qt_lt, qf_lt, qt_eq, qf_eq, and_self, not_true_eq_false, not_false_eq_true, true_and, and_true, or_true, true_or, or_false, false_or, and_false, false_and, Nat.reduceAdd, Nat.reduceMul, Nat.reduceSub, Nat.reduceDiv, Nat.reduceMod, Nat.reducePow, Nat.zero_add, Nat.add_zero, Nat.zero_le, Nat.mul_zero, Nat.zero_mul, qm_nk, qm_eq, qm_nj]
theorem xR_line {ds' : List Nat} {I1 : Nat → Nat → Int32} (h : xR n L0 K P ds kp I) (hS : zSt n L0 K P ds' kp) (a2 : zXs n (zrun n L0 ds') ds' I1) (a3 : ∀ c, c ≠ 14 → c ≠ 23 → c ≠ 24 → I1 c = I c) : xR n L0 K P ds' kp I1 := by
  obtain ⟨-, ⟨⟨b1, b2, b3⟩, b4, b5⟩, ⟨h1, h2, h3⟩, h4⟩ := h
  refine ⟨hS, ⟨⟨?_, ?_, ?_⟩, ?_, ?_⟩, ⟨?_, ?_, a2⟩, ?_⟩
  · rw [a3 1 (by omega) (by omega) (by omega)]; exact b1
  · rw [a3 4 (by omega) (by omega) (by omega)]; exact b2
  · rw [a3 7 (by omega) (by omega) (by omega)]; exact b3
  · rw [a3 2 (by omega) (by omega) (by omega)]; exact b4
  · rw [a3 5 (by omega) (by omega) (by omega)]; exact b5
  · rw [a3 15 (by omega) (by omega) (by omega)]; exact h1
  · rw [a3 16 (by omega) (by omega) (by omega), a3 17 (by omega) (by omega) (by omega)]; exact h2
  · unfold zKX at h4 ⊢
    rw [a3 8 (by omega) (by omega) (by omega), a3 9 (by omega) (by omega) (by omega)]; exact h4
theorem xc_undo {m : Nat} (h : xR n L0 K P ds kp I) (hm : m ≤ ds.length) :
    ∃ I1, fX_undo (qn m) I J = some (qn (ds.length - m), I1, J) ∧ (∀ c, c ≠ 14 → c ≠ 23 → c ≠ 24 → I1 c = I c) ∧ xR n L0 K P (ds.take m) kp I1 := by
  obtain ⟨hS, hz, ⟨h1, h2, h3⟩, h4⟩ := id h
  have hn := hS.1
  have hd := hS.2.2.2.1.1
  have e5 : I 14 5 = qn ds.length := h3.2.2.2.2.1
  obtain ⟨I1, a1, a2, a3⟩ := eL_redo (J := J) hn hS.2.1 h3.1 h1 h3.2.2.2.2.2.2 hS.2.2.2.1.2 hd hm
  refine ⟨I1, ?_, a3, xR_line h (zSt_take hS) a2 a3⟩
  unfold fX_undo
  simp (disch := omega) only [e5, a1, qn_l0, qn_l1, qn_l2, qn_l3, qn_l4, qn_l5, qn_l6, qn_l7, qn_l8, qn_l9, qn_l10, qn_l11, qn_l12, qn_l13, qn_l14, qn_l15, qn_l16, qn_l17, qn_l18, qn_l19, qn_l20, qn_l21, qn_l22, qn_l23, qn_l24, qn_l26, qn_l27, qn_l28, qn_l31, qn_l32, qn_l33, qn_l34, qn_l36, qn_l37, qn_l38, qn_l39, qn_l40, qn_l47, qn_l48, qn_l49, qn_l50, qn_l51, qn_l54, qn_l55, qn_l56, qn_l57, qn_l60, qn_l63, qn_l64, qn_l69, qn_l70, qn_l75, qn_l99, qn_l100, qn_l103, qn_l111, qn_l112, qn_l113, qn_l115, qn_l117, qn_l120, qn_l127, qn_l128, qn_l200, qn_l225, qn_l240, qn_l255, qn_l256, qn_l300, qn_l720, qn_l1000, qn_l48271, qn_l1000000, qn_l2147483646, qn_l2147483647, qn_add, qn_mul, qn_sub, qn_addneg, qn_div, qn_mod, qn_modn, qn_lt, qn_le, qn_eq, qn_nat, qn_m1, qn_m1', qn_c1, qn_g1, qn_g1', qn_c1', qn_and, qn_or, qn_shl1, qn_shr1, qn_64, ql_32, ql_add, ql_mul, ql_sub, ql_div, ql_mod, ql_lt, ql_le, ql_eq, ql_l0, ql_l1, qp_gd_T, qp_bd_t, ↓reduceIte, qt_le, qf_le, qt_lt, qf_lt, qt_eq, qf_eq, and_self, not_true_eq_false, not_false_eq_true, true_and, and_true, or_true, true_or, or_false, false_or, and_false, false_and, Nat.reduceAdd, Nat.reduceMul, Nat.reduceSub, Nat.reduceDiv, Nat.reduceMod, Nat.reducePow, Nat.zero_add, Nat.add_zero, Nat.zero_le, Nat.mul_zero, Nat.zero_mul, qm_nk, qm_eq, qm_nj]
theorem xc_keep {k : Nat} (h : xR n L0 K P ds kp I) (hn0 : 0 < n) (hk : k < 3) :
    ∃ I1 kp', fX_keep (qn k) I J = some (qn ds.length, I1, J) ∧ (∀ c, c ≠ 8 → c ≠ 9 → I1 c = I c) ∧ xR n L0 K P ds kp' I1 ∧ kp' k = some ds ∧ ∀ j, j ≠ k → kp' j = kp j := by
  obtain ⟨hS, ⟨⟨b1, b2, b3⟩, b4, b5⟩, ⟨h1, h2, h3⟩, h4⟩ := h
  have hn := hS.1
  have hd := hS.2.2.2.1.1
  have e0 : I 15 0 = qn n := h3.1
  have hn0' : ¬ n = 0 := by omega
  have e5 : I 14 5 = qn ds.length := h3.2.2.2.2.1
  have hf := eS7_fresh (I := I) (J := J) (v := qn 0) b3 hk hd
  have f9 : ∀ c, c ≠ 8 → c ≠ 9 → qfill 9 (qn 0) ds.length (k * 40) (qp_up I 8 k (qn ds.length)) c = I c := fun c h1 h2 => by rw [qfill_nk _ _ _ (by omega), qm_nk (by omega)]
  obtain ⟨I1, a1, a2, a3, a4⟩ := eX_keep_b (I := qfill 9 (qn 0) ds.length (k * 40) (qp_up I 8 k (qn ds.length))) (J := J) (ds := ds) hk (by rw [f9 7 (by omega) (by omega)]; exact b3) (by rw [qfill_nk _ _ _ (by omega)]; exact qm_eq rfl) (by rw [f9 14 (by omega) (by omega)]; exact e5) (by rw [f9 24 (by omega) (by omega)]; exact h3.2.2.2.2.2.2) hd
  have g : ∀ c, c ≠ 8 → c ≠ 9 → I1 c = I c := fun c h1 h2 => (a2 c h2).trans (f9 c h1 h2)
  have hx8 : I1 8 = qp_up1 (I 8) k (qn ds.length) := by rw [a2 8 (by omega), qfill_nk _ _ _ (by omega), qm_own]
  have hx9 : ∀ x, x < k * 40 ∨ k * 40 + 40 ≤ x → I1 9 x = I 9 x := fun x hx => by
    rw [a4 x hx, qfill_own, if_neg (by omega), qm_nk (by omega)]
  obtain ⟨kp', k1, k2⟩ : ∃ kp' : Nat → Option (List Nat), kp' k = some ds ∧ ∀ j, j ≠ k → kp' j = kp j := ⟨fun j => if j = k then some ds else kp j, if_pos rfl, fun j h => if_neg h⟩
  refine ⟨I1, kp', ?_, g, ⟨⟨hS.1, hS.2.1, hS.2.2.1, hS.2.2.2.1, fun j hj d hd => ?_⟩, ⟨⟨?_, ?_, ?_⟩, ?_, ?_⟩, ⟨?_, ?_, zXs_eq h3 (fun c hc => g c (by omega) (by omega))⟩, ?_⟩, k1, k2⟩
  · unfold fX_keep
    simp (disch := omega) only [eS7_num hk, e0, hn0', e5, hf, a1, qn_l0, qn_l1, qn_l2, qn_l3, qn_l4, qn_l5, qn_l6, qn_l7, qn_l8, qn_l9, qn_l10, qn_l11, qn_l12, qn_l13, qn_l14, qn_l15, qn_l16, qn_l17, qn_l18, qn_l19, qn_l20, qn_l21, qn_l22, qn_l23, qn_l24, qn_l26, qn_l27, qn_l28, qn_l31, qn_l32, qn_l33, qn_l34, qn_l36, qn_l37, qn_l38, qn_l39, qn_l40, qn_l47, qn_l48, qn_l49, qn_l50, qn_l51, qn_l54, qn_l55, qn_l56, qn_l57, qn_l60, qn_l63, qn_l64, qn_l69, qn_l70, qn_l75, qn_l99, qn_l100, qn_l103, qn_l111, qn_l112, qn_l113, qn_l115, qn_l117, qn_l120, qn_l127, qn_l128, qn_l200, qn_l225, qn_l240, qn_l255, qn_l256, qn_l300, qn_l720, qn_l1000, qn_l48271, qn_l1000000, qn_l2147483646, qn_l2147483647, qn_add, qn_mul, qn_sub, qn_addneg, qn_div, qn_mod, qn_modn, qn_lt, qn_le, qn_eq, qn_nat, qn_m1, qn_m1', qn_c1, qn_g1, qn_g1', qn_c1', qn_and, qn_or, qn_shl1, qn_shr1, qn_64, ql_32, ql_add, ql_mul, ql_sub, ql_div, ql_mod, ql_lt, ql_le, ql_eq, ql_l0, ql_l1, qp_gd_T, qp_bd_t, ↓reduceIte, qt_le, qf_le, qt_lt, qf_lt, qt_eq, qf_eq, and_self, not_true_eq_false, not_false_eq_true, true_and, and_true, or_true, true_or, or_false, false_or, and_false, false_and, Nat.reduceAdd, Nat.reduceMul, Nat.reduceSub, Nat.reduceDiv, Nat.reduceMod, Nat.reducePow, Nat.zero_add, Nat.add_zero, Nat.zero_le, Nat.mul_zero, Nat.zero_mul, qm_nk, qm_eq, qm_nj]
  · by_cases hjk : j = k
    · rw [hjk, k1] at hd
      rw [← Option.some.inj hd]; exact hS.2.2.2.1
    · rw [k2 j hjk] at hd
      exact hS.2.2.2.2 j hj d hd
  · rw [g 1 (by omega) (by omega)]; exact b1
  · rw [g 4 (by omega) (by omega)]; exact b2
  · rw [g 7 (by omega) (by omega)]; exact b3
  · rw [g 2 (by omega) (by omega)]; exact b4
  · rw [g 5 (by omega) (by omega)]; exact b5
  · rw [g 15 (by omega) (by omega)]; exact h1
  · rw [g 16 (by omega) (by omega), g 17 (by omega) (by omega)]; exact h2
  · intro j hj
    rw [hx8]
    by_cases hjk : j = k
    · subst hjk
      refine ⟨fun q => (by rw [k1] at q; cases q), fun d hd => ?_⟩
      rw [k1] at hd
      have hd' := Option.some.inj hd
      subst hd'
      exact ⟨qp_up1_eq, a3⟩
    · refine ⟨fun q => ?_, fun d hd => ?_⟩
      · rw [k2 j hjk] at q
        rw [qp_up1_ne hjk]; exact (h4 j hj).1 q
      · rw [k2 j hjk] at hd
        rw [qp_up1_ne hjk]
        refine ⟨((h4 j hj).2 d hd).1, fun x hx => ?_⟩
        have := (hS.2.2.2.2 j hj d hd).1
        rw [hx9 _ (by omega)]; exact ((h4 j hj).2 d hd).2 x hx
theorem xc_on {k : Nat} {d : List Nat} (h : xR n L0 K P ds kp I) (hk : k < 3) (hkp : kp k = some d) :
    ∃ I1, fX_on (qn k) I J = some (qn d.length, I1, J) ∧ (∀ c, c ≠ 14 → c ≠ 23 → c ≠ 24 → I1 c = I c) ∧ xR n L0 K P d kp I1 := by
  obtain ⟨hS, ⟨⟨b1, b2, b3⟩, b4, b5⟩, ⟨h1, h2, h3⟩, h4⟩ := id h
  have hn := hS.1
  obtain ⟨e8, e9⟩ := (h4 k hk).2 d hkp
  obtain ⟨hd, hv⟩ := hS.2.2.2.2 k hk d hkp
  obtain ⟨I1, a1, a2, a3⟩ := eL_restart (J := J) hn h3.1 h1
  have f8 : I1 8 k = qn d.length := by rw [a3 8 (by omega)]; exact e8
  obtain ⟨I2, c1, c2, c3⟩ := eX_on_b (J := J) (L0 := L0) hn hS.2.1 hk (by rw [a3 7 (by omega)]; exact b3) f8 (by rw [a3 9 (by omega)]; exact e9) hv hd a2
  have g : ∀ c, c ≠ 14 → c ≠ 23 → c ≠ 24 → I2 c = I c := fun c h1 h2 h3 => (c3 c h1 h2 h3).trans (a3 c h1)
  refine ⟨I2, ?_, g, xR_line h ⟨hS.1, hS.2.1, hS.2.2.1, ⟨hd, hv⟩, hS.2.2.2.2⟩ c2 g⟩
  unfold fX_on
  simp (disch := omega) only [eX_ref7 hk e8, a1, eS7_size hk, f8, c1, qn_l0, qn_l1, qn_l2, qn_l3, qn_l4, qn_l5, qn_l6, qn_l7, qn_l8, qn_l9, qn_l10, qn_l11, qn_l12, qn_l13, qn_l14, qn_l15, qn_l16, qn_l17, qn_l18, qn_l19, qn_l20, qn_l21, qn_l22, qn_l23, qn_l24, qn_l26, qn_l27, qn_l28, qn_l31, qn_l32, qn_l33, qn_l34, qn_l36, qn_l37, qn_l38, qn_l39, qn_l40, qn_l47, qn_l48, qn_l49, qn_l50, qn_l51, qn_l54, qn_l55, qn_l56, qn_l57, qn_l60, qn_l63, qn_l64, qn_l69, qn_l70, qn_l75, qn_l99, qn_l100, qn_l103, qn_l111, qn_l112, qn_l113, qn_l115, qn_l117, qn_l120, qn_l127, qn_l128, qn_l200, qn_l225, qn_l240, qn_l255, qn_l256, qn_l300, qn_l720, qn_l1000, qn_l48271, qn_l1000000, qn_l2147483646, qn_l2147483647, qn_add, qn_mul, qn_sub, qn_addneg, qn_div, qn_mod, qn_modn, qn_lt, qn_le, qn_eq, qn_nat, qn_m1, qn_m1', qn_c1, qn_g1, qn_g1', qn_c1', qn_and, qn_or, qn_shl1, qn_shr1, qn_64, ql_32, ql_add, ql_mul, ql_sub, ql_div, ql_mod, ql_lt, ql_le, ql_eq, ql_l0, ql_l1, qp_gd_T, qp_bd_t, ↓reduceIte, qt_le, qf_le, qt_lt, qf_lt, qt_eq, qf_eq, and_self, not_true_eq_false, not_false_eq_true, true_and, and_true, or_true, true_or, or_false, false_or, and_false, false_and, Nat.reduceAdd, Nat.reduceMul, Nat.reduceSub, Nat.reduceDiv, Nat.reduceMod, Nat.reducePow, Nat.zero_add, Nat.add_zero, Nat.zero_le, Nat.mul_zero, Nat.zero_mul, qm_nk, qm_eq, qm_nj]
theorem xc_onF {k : Nat} (h : xR n L0 K P ds kp I) (hk : k < 3) (hkp : kp k = none) :
    fX_on (qn k) I J = some (-qn 3, xfd 1 I, J) := by
  obtain ⟨hS, hz, ⟨h1, h2, h3⟩, h4⟩ := id h
  have e8 := (h4 k hk).1 hkp
  unfold fX_on
  simp (disch := omega) only [eX_ref7N hk e8, q_n3, qn_l0, qn_l1, qn_l2, qn_l3, qn_l4, qn_l5, qn_l6, qn_l7, qn_l8, qn_l9, qn_l10, qn_l11, qn_l12, qn_l13, qn_l14, qn_l15, qn_l16, qn_l17, qn_l18, qn_l19, qn_l20, qn_l21, qn_l22, qn_l23, qn_l24, qn_l26, qn_l27, qn_l28, qn_l31, qn_l32, qn_l33, qn_l34, qn_l36, qn_l37, qn_l38, qn_l39, qn_l40, qn_l47, qn_l48, qn_l49, qn_l50, qn_l51, qn_l54, qn_l55, qn_l56, qn_l57, qn_l60, qn_l63, qn_l64, qn_l69, qn_l70, qn_l75, qn_l99, qn_l100, qn_l103, qn_l111, qn_l112, qn_l113, qn_l115, qn_l117, qn_l120, qn_l127, qn_l128, qn_l200, qn_l225, qn_l240, qn_l255, qn_l256, qn_l300, qn_l720, qn_l1000, qn_l48271, qn_l1000000, qn_l2147483646, qn_l2147483647, qn_add, qn_mul, qn_sub, qn_addneg, qn_div, qn_mod, qn_modn, qn_lt, qn_le, qn_eq, qn_nat, qn_m1, qn_m1', qn_c1, qn_g1, qn_g1', qn_c1', qn_and, qn_or, qn_shl1, qn_shr1, qn_64, ql_32, ql_add, ql_mul, ql_sub, ql_div, ql_mod, ql_lt, ql_le, ql_eq, ql_l0, ql_l1, qp_gd_T, qp_bd_t, ↓reduceIte, qt_le, qf_le, qt_lt, qf_lt, qt_eq, qf_eq, and_self, not_true_eq_false, not_false_eq_true, true_and, and_true, or_true, true_or, or_false, false_or, and_false, false_and, Nat.reduceAdd, Nat.reduceMul, Nat.reduceSub, Nat.reduceDiv, Nat.reduceMod, Nat.reducePow, Nat.zero_add, Nat.add_zero, Nat.zero_le, Nat.mul_zero, Nat.zero_mul, qm_nk, qm_eq, qm_nj]
end XC

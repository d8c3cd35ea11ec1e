/-! DEEDS: ticket, back, loaves, undo, keep, on -/
def zRp (n L0 : Nat) (K P : Nat → Nat) (ds : List Nat) (kp : Nat → Option (List Nat)) (I : Nat → Nat → Int32) (J : Nat → Nat → Int64) : Prop := zSt n L0 K P ds kp ∧ zC I J ∧ zLn n L0 K P ds kp I
theorem zR_mk {n L0 : Nat} {K P : Nat → Nat} {ds : List Nat} {kp : Nat → Option (List Nat)} {I : Nat → Nat → Int32} {J : Nat → Nat → Int64} (h : zRp n L0 K P ds kp I J) : zR I J := ⟨n, L0, K, P, ds, kp, h⟩
theorem zSt_ok {n L0 : Nat} {K P : Nat → Nat} {ds : List Nat} {kp : Nat → Option (List Nat)} (h : zSt n L0 K P ds kp) : zRok n (zrun n L0 ds) := zval_ok (zR0 h.2.1) h.2.2.2.1.2
theorem zSt_P {n L0 : Nat} {K P : Nat → Nat} {ds : List Nat} {kp : Nat → Option (List Nat)} (h : zSt n L0 K P ds kp) : zP n (zls n (zrun n L0 ds).1) := zls_P (zSt_ok h).1
theorem zSt_app {n L0 c : Nat} {K P : Nat → Nat} {ds : List Nat} {kp : Nat → Option (List Nat)} (h : zSt n L0 K P ds kp) (hv : zvd n (zrun n L0 ds) c) (hl : ds.length < 40) : zSt n L0 K P (ds ++ [c]) kp :=
  ⟨h.1, h.2.1, h.2.2.1, ⟨by rw [List.length_append]; exact hl, zval_app.mpr ⟨h.2.2.2.1.2, hv⟩⟩, h.2.2.2.2⟩
theorem zSt_take {n L0 m : Nat} {K P : Nat → Nat} {ds : List Nat} {kp : Nat → Option (List Nat)} (h : zSt n L0 K P ds kp) : zSt n L0 K P (ds.take m) kp :=
  ⟨h.1, h.2.1, h.2.2.1, ⟨by rw [List.length_take]; have := h.2.2.2.1.1; omega, zval_take h.2.2.2.1.2⟩, h.2.2.2.2⟩
section DD
variable {n L0 : Nat} {K P : Nat → Nat} {ds : List Nat} {kp : Nat → Option (List Nat)} {I I1 I2 : Nat → Nat → Int32} {J : Nat → Nat → Int64}
theorem zLn_line {ds' : List Nat} (h : zLn n L0 K P ds kp I) (x1 : zXs n (zrun n L0 ds') ds' I1) (x2 : ∀ c, c ≠ 14 → c ≠ 23 → c ≠ 24 → I1 c = I c) (m1 : zMs n (zrun n L0 ds') (I2 37)) (m2 : I2 37 14 = qn ds'.length) (m3 : zrd ds' (I2 37)) (m4 : ∀ c, c ≠ 37 → I2 c = I1 c) (m5 : ∀ j, j < 14 → I2 37 j = I1 37 j) (hn : n ≤ 6) : zLn n L0 K P ds' kp I2 := by
  obtain ⟨⟨h1, h2, h3⟩, h4, ⟨h5, h6, h7, h8, h9⟩, h10⟩ := h
  refine ⟨⟨?_, fun i hi => ?_, zXs_eq x1 (fun c hc => m4 c (by omega))⟩, ?_, ⟨?_, fun i hi => ?_, m2, m3, m1⟩, ?_⟩
  · rw [m4 15 (by omega), x2 15 (by omega) (by omega) (by omega)]; exact h1
  · rw [m4 16 (by omega), m4 17 (by omega), x2 16 (by omega) (by omega) (by omega), x2 17 (by omega) (by omega) (by omega)]; exact h2 i hi
  · unfold zKX at h4 ⊢
    rw [m4 8 (by omega), m4 9 (by omega), x2 8 (by omega) (by omega) (by omega), x2 9 (by omega) (by omega) (by omega)]; exact h4
  · rw [m5 1 (by omega), x2 37 (by omega) (by omega) (by omega)]; exact h5
  · rw [m5 (2 + i) (by omega), m5 (8 + i) (by omega), x2 37 (by omega) (by omega) (by omega)]; exact h6 i hi
  · unfold zKM at h10 ⊢
    rw [m4 38 (by omega), m4 39 (by omega), x2 38 (by omega) (by omega) (by omega), x2 39 (by omega) (by omega) (by omega)]; exact h10
theorem zC_line (h : zC I J) (x2 : ∀ c, c ≠ 14 → c ≠ 23 → c ≠ 24 → I1 c = I c) (m4 : ∀ c, c ≠ 37 → I2 c = I1 c) : zC I2 J := by
  have e : ∀ c, c ≠ 37 → c ≠ 14 → c ≠ 23 → c ≠ 24 → I2 c = I c := fun c h1 h2 h3 h4 => (m4 c h1).trans (x2 c h2 h3 h4)
  refine zC_eq h (fun c hc => by unfold zcc at hc; exact e c (by omega) (by omega) (by omega) (by omega)) ?_ ?_ h.2.2.1.2.2.1 h.2.2.1.2.2.2
  · rw [e 36 (by omega) (by omega) (by omega) (by omega), e 0 (by omega) (by omega) (by omega) (by omega)]; exact h.2.2.1.1
  · rw [e 36 (by omega) (by omega) (by omega) (by omega), e 0 (by omega) (by omega) (by omega) (by omega)]; exact h.2.2.1.2.1
theorem eL_canSell {i p : Nat} (hn : n ≤ 6) (h : zXs n (zrun n L0 ds) ds I) (hok : zRok n (zrun n L0 ds)) (hi : i < n) (hp : p < n) (h12 : (zrun n L0 ds).1.length < 12) (hne : ¬ zat (zls n (zrun n L0 ds).1) p = i) : fL_canSell (qn (8 * i + p)) I J = some (qn 1, I, J) := by
  obtain ⟨x0, x1, x2, x3, x4, x5, x6⟩ := h
  have hP := zls_P hok.1
  have e := eD_place (I := I) (J := J) hP hn (show i < 2147483648 by omega)
  have hx := zP_ix hP hi
  have hx2 : ¬ zix i (zls n (zrun n L0 ds).1) = p := fun q => hne ((zP_iff hP hi hp).1 q)
  have e1 : (8 * i + p) / 8 = i := by omega
  have e2 : (8 * i + p) % 8 = p := by omega
  have e3 : 8 * i + p - i * 8 = p := by omega
  unfold fL_canSell fL_placeOf
  simp (disch := omega) only [x0, x1, x3, e, e1, e2, e3, hx2, qn_l0, qn_l1, qn_l2, qn_l3, qn_l4, qn_l5, qn_l6, qn_l7, qn_l8, qn_l9, qn_l10, qn_l11, qn_l12, qn_l13, qn_l14, qn_l15, qn_l16, qn_l17, qn_l18, qn_l19, qn_l20, qn_l21, qn_l22, qn_l23, qn_l24, qn_l26, qn_l27, qn_l28, qn_l31, qn_l32, qn_l33, qn_l34, qn_l36, qn_l37, qn_l38, qn_l39, qn_l40, qn_l47, qn_l48, qn_l49, qn_l50, qn_l51, qn_l54, qn_l55, qn_l56, qn_l57, qn_l60, qn_l63, qn_l64, qn_l69, qn_l70, qn_l75, qn_l99, qn_l100, qn_l103, qn_l111, qn_l112, qn_l113, qn_l115, qn_l117, qn_l120, qn_l127, qn_l128, qn_l200, qn_l225, qn_l240, qn_l255, qn_l256, qn_l300, qn_l720, qn_l1000, qn_l48271, qn_l1000000, qn_l2147483646, qn_l2147483647, qn_add, qn_mul, qn_sub, qn_addneg, qn_div, qn_mod, qn_modn, qn_lt, qn_le, qn_eq, qn_nat, qn_m1, qn_m1', qn_c1, qn_g1, qn_g1', qn_c1', qn_and, qn_or, qn_shl1, qn_shr1, qn_64, ql_32, ql_add, ql_mul, ql_sub, ql_div, ql_mod, ql_lt, ql_le, ql_eq, ql_l0, ql_l1, qp_gd_T, qp_bd_t, ↓reduceIte, qt_le, qf_le, qt_lt, qf_lt, qt_eq, qf_eq, and_self, not_true_eq_false, not_false_eq_true, true_and, and_true, or_true, true_or, or_false, false_or, and_false, false_and, Nat.reduceAdd, Nat.reduceMul, Nat.reduceSub, Nat.reduceDiv, Nat.reduceMod, Nat.reducePow, Nat.zero_add, Nat.add_zero, Nat.zero_le, Nat.mul_zero, Nat.zero_mul, qm_nk, qm_eq, qm_nj]
theorem eL_canSellF {i p : Nat} (hn : n ≤ 6) (h : zXs n (zrun n L0 ds) ds I) (hok : zRok n (zrun n L0 ds)) (hi : i < n) (hp : p < n) (hF : 12 ≤ (zrun n L0 ds).1.length ∨ zat (zls n (zrun n L0 ds).1) p = i) : fL_canSell (qn (8 * i + p)) I J = some (qn 0, I, J) := by
  obtain ⟨x0, x1, x2, x3, x4, x5, x6⟩ := h
  have h12 := hok.2.1
  have hP := zls_P hok.1
  have e := eD_place (I := I) (J := J) hP hn (show i < 2147483648 by omega)
  have e1 : (8 * i + p) / 8 = i := by omega
  have e2 : (8 * i + p) % 8 = p := by omega
  have e3 : 8 * i + p - i * 8 = p := by omega
  unfold fL_canSell fL_placeOf
  by_cases h12 : 12 ≤ (zrun n L0 ds).1.length
  · simp (disch := omega) only [x3, qn_l0, qn_l1, qn_l2, qn_l3, qn_l4, qn_l5, qn_l6, qn_l7, qn_l8, qn_l9, qn_l10, qn_l11, qn_l12, qn_l13, qn_l14, qn_l15, qn_l16, qn_l17, qn_l18, qn_l19, qn_l20, qn_l21, qn_l22, qn_l23, qn_l24, qn_l26, qn_l27, qn_l28, qn_l31, qn_l32, qn_l33, qn_l34, qn_l36, qn_l37, qn_l38, qn_l39, qn_l40, qn_l47, qn_l48, qn_l49, qn_l50, qn_l51, qn_l54, qn_l55, qn_l56, qn_l57, qn_l60, qn_l63, qn_l64, qn_l69, qn_l70, qn_l75, qn_l99, qn_l100, qn_l103, qn_l111, qn_l112, qn_l113, qn_l115, qn_l117, qn_l120, qn_l127, qn_l128, qn_l200, qn_l225, qn_l240, qn_l255, qn_l256, qn_l300, qn_l720, qn_l1000, qn_l48271, qn_l1000000, qn_l2147483646, qn_l2147483647, qn_add, qn_mul, qn_sub, qn_addneg, qn_div, qn_mod, qn_modn, qn_lt, qn_le, qn_eq, qn_nat, qn_m1, qn_m1', qn_c1, qn_g1, qn_g1', qn_c1', qn_and, qn_or, qn_shl1, qn_shr1, qn_64, ql_32, ql_add, ql_mul, ql_sub, ql_div, ql_mod, ql_lt, ql_le, ql_eq, ql_l0, ql_l1, qp_gd_T, qp_bd_t, ↓reduceIte, qt_le, qf_le, qt_lt, qf_lt, qt_eq, qf_eq, and_self, not_true_eq_false, not_false_eq_true, true_and, and_true, or_true, true_or, or_false, false_or, and_false, false_and, Nat.reduceAdd, Nat.reduceMul, Nat.reduceSub, Nat.reduceDiv, Nat.reduceMod, Nat.reducePow, Nat.zero_add, Nat.add_zero, Nat.zero_le, Nat.mul_zero, Nat.zero_mul, qm_nk, qm_eq, qm_nj]
  · rcases hF with hF | hF
    · exact absurd hF h12
    · have hx2 : zix i (zls n (zrun n L0 ds).1) = p := (zP_iff hP hi hp).2 hF
      simp (disch := omega) only [x0, x1, x3, e, e1, e2, e3, hx2, qn_l0, qn_l1, qn_l2, qn_l3, qn_l4, qn_l5, qn_l6, qn_l7, qn_l8, qn_l9, qn_l10, qn_l11, qn_l12, qn_l13, qn_l14, qn_l15, qn_l16, qn_l17, qn_l18, qn_l19, qn_l20, qn_l21, qn_l22, qn_l23, qn_l24, qn_l26, qn_l27, qn_l28, qn_l31, qn_l32, qn_l33, qn_l34, qn_l36, qn_l37, qn_l38, qn_l39, qn_l40, qn_l47, qn_l48, qn_l49, qn_l50, qn_l51, qn_l54, qn_l55, qn_l56, qn_l57, qn_l60, qn_l63, qn_l64, qn_l69, qn_l70, qn_l75, qn_l99, qn_l100, qn_l103, qn_l111, qn_l112, qn_l113, qn_l115, qn_l117, qn_l120, qn_l127, qn_l128, qn_l200, qn_l225, qn_l240, qn_l255, qn_l256, qn_l300, qn_l720, qn_l1000, qn_l48271, qn_l1000000, qn_l2147483646, qn_l2147483647, qn_add, qn_mul, qn_sub, qn_addneg, qn_div, qn_mod, qn_modn, qn_lt, qn_le, qn_eq, qn_nat, qn_m1, qn_m1', qn_c1, qn_g1, qn_g1', qn_c1', qn_and, qn_or, qn_shl1, qn_shr1, qn_64, ql_32, ql_add, ql_mul, ql_sub, ql_div, ql_mod, ql_lt, ql_le, ql_eq, ql_l0, ql_l1, qp_gd_T, qp_bd_t, ↓reduceIte, qt_le, qf_le, qt_lt, qf_lt, qt_eq, qf_eq, and_self, not_true_eq_false, not_false_eq_true, true_and, and_true, or_true, true_or, or_false, false_or, and_false, false_and, Nat.reduceAdd, Nat.reduceMul, Nat.reduceSub, Nat.reduceDiv, Nat.reduceMod, Nat.reducePow, Nat.zero_add, Nat.add_zero, Nat.zero_le, Nat.mul_zero, Nat.zero_mul, qm_nk, qm_eq, qm_nj]
end DD
theorem eL_hasT {n k : Nat} {I : Nat → Nat → Int32} {J : Nat → Nat → Int64} (h : I 14 4 = qn n) (hn : n ≤ 12) (hk : k < n) : fL_hasTicket (qn k) I J = some (qn 1, I, J) := by
  unfold fL_hasTicket
  simp (disch := omega) only [h, qn_l0, qn_l1, qn_l2, qn_l3, qn_l4, qn_l5, qn_l6, qn_l7, qn_l8, qn_l9, qn_l10, qn_l11, qn_l12, qn_l13, qn_l14, qn_l15, qn_l16, qn_l17, qn_l18, qn_l19, qn_l20, qn_l21, qn_l22, qn_l23, qn_l24, qn_l26, qn_l27, qn_l28, qn_l31, qn_l32, qn_l33, qn_l34, qn_l36, qn_l37, qn_l38, qn_l39, qn_l40, qn_l47, qn_l48, qn_l49, qn_l50, qn_l51, qn_l54, qn_l55, qn_l56, qn_l57, qn_l60, qn_l63, qn_l64, qn_l69, qn_l70, qn_l75, qn_l99, qn_l100, qn_l103, qn_l111, qn_l112, qn_l113, qn_l115, qn_l117, qn_l120, qn_l127, qn_l128, qn_l200, qn_l225, qn_l240, qn_l255, qn_l256, qn_l300, qn_l720, qn_l1000, qn_l48271, qn_l1000000, qn_l2147483646, qn_l2147483647, qn_add, qn_mul, qn_sub, qn_addneg, qn_div, qn_mod, qn_modn, qn_lt, qn_le, qn_eq, qn_nat, qn_m1, qn_m1', qn_c1, qn_g1, qn_g1', qn_c1', qn_and, qn_or, qn_shl1, qn_shr1, qn_64, ql_32, ql_add, ql_mul, ql_sub, ql_div, ql_mod, ql_lt, ql_le, ql_eq, ql_l0, ql_l1, qp_gd_T, qp_bd_t, ↓reduceIte, qt_le, qf_le, qt_lt, qf_lt, qt_eq, qf_eq, and_self, not_true_eq_false, not_false_eq_true, true_and, and_true, or_true, true_or, or_false, false_or, and_false, false_and, Nat.reduceAdd, Nat.reduceMul, Nat.reduceSub, Nat.reduceDiv, Nat.reduceMod, Nat.reducePow, Nat.zero_add, Nat.add_zero, Nat.zero_le, Nat.mul_zero, Nat.zero_mul, qm_nk, qm_eq, qm_nj]
theorem eL_hasTF {n : Nat} {p : Int32} {I : Nat → Nat → Int32} {J : Nat → Nat → Int64} (h : I 14 4 = qn n) (hp : p < 0 ∨ qn n ≤ p) : fL_hasTicket p I J = some (qn 0, I, J) := by
  unfold fL_hasTicket
  rw [h]
  by_cases h0 : p < 0
  · rw [if_pos h0]; rfl
  · rcases hp with hp | hp
    · exact absurd hp h0
    · rw [if_neg h0, if_pos hp]; rfl

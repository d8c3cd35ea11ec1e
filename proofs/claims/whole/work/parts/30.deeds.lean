/-! DEEDS: ticket, back, loaves, undo, keep, on -/
def zRp (n L0 : Nat) (K P : Nat → Nat) (ds : List Nat) (kp : Nat → Option (List Nat)) (I : Nat → Nat → Int32) (J : Nat → Nat → Int64) : Prop := zSt n L0 K P ds kp ∧ zC I J ∧ zLn n L0 K P ds kp I
theorem zR_mk {n L0 : Nat} {K P : Nat → Nat} {ds : List Nat} {kp : Nat → Option (List Nat)} {I : Nat → Nat → Int32} {J : Nat → Nat → Int64} (h : zRp n L0 K P ds kp I J) : zR I J := ⟨n, L0, K, P, ds, kp, h⟩
theorem zSt_ok {n L0 : Nat} {K P : Nat → Nat} {ds : List Nat} {kp : Nat → Option (List Nat)} (h : zSt n L0 K P ds kp) : zRok n (zrun n L0 ds) := zval_ok (zR0 h.2.1) h.2.2.2.1.2
theorem zSt_P {n L0 : Nat} {K P : Nat → Nat} {ds : List Nat} {kp : Nat → Option (List Nat)} (h : zSt n L0 K P ds kp) : zP n (zls n (zrun n L0 ds).1) := zls_P (zSt_ok h).1
theorem zSt_app {n L0 c : Nat} {K P : Nat → Nat} {ds : List Nat} {kp : Nat → Option (List Nat)} (h : zSt n L0 K P ds kp) (hv : zvd n (zrun n L0 ds) c) (hl : ds.length < 40) : zSt n L0 K P (ds ++ [c]) kp :=
  ⟨h.1, h.2.1, h.2.2.1, ⟨by rw [List.length_append]; exact hl, zval_app.mpr ⟨h.2.2.2.1.2, hv⟩⟩, h.2.2.2.2⟩
theorem zSt_take {n L0 m : Nat} {K P : Nat → Nat} {ds : List Nat} {kp : Nat → Option (List Nat)} (h : zSt n L0 K P ds kp) : zSt n L0 K P (ds.take m) kp :=
  ⟨h.1, h.2.1, h.2.2.1, ⟨by rw [List.length_take]; have := h.2.2.2.1.1; omega, zval_take h.2.2.2.1.2⟩, h.2.2.2.2⟩
section DD
variable {n L0 : Nat} {K P : Nat → Nat} {ds : List Nat} {kp : Nat → Option (List Nat)} {I I1 I2 : Nat → Nat → Int32} {J : Nat → Nat → Int64}
theorem zLn_line {ds' : List Nat} (h : zLn n L0 K P ds kp I) (x1 : zXs n (zrun n L0 ds') ds' I1) (x2 : ∀ c, c ≠ 14 → c ≠ 23 → c ≠ 24 → I1 c = I c) (m1 : zMs n (zrun n L0 ds') (I2 37)) (m2 : I2 37 14 = qn ds'.length) (m3 : zrd ds' (I2 37)) (m4 : ∀ c, c ≠ 37 → I2 c = I1 c) (m5 : ∀ j, j < 14 → I2 37 j = I1 37 j) (hn : n ≤ 6) : zLn n L0 K P ds' kp I2 := by
  obtain ⟨⟨h1, h2, h3⟩, h4, ⟨h5, h6, h7, h8, h9⟩, h10⟩ := h
  refine ⟨⟨?_, fun i hi => ?_, zXs_eq x1 (fun c hc => m4 c (by omega))⟩, ?_, ⟨?_, fun i hi => ?_, m2, m3, m1⟩, ?_⟩
  · rw [m4 15 (by omega), x2 15 (by omega) (by omega) (by omega)]; exact h1
  · rw [m4 16 (by omega), m4 17 (by omega), x2 16 (by omega) (by omega) (by omega), x2 17 (by omega) (by omega) (by omega)]; exact h2 i hi
  · unfold zKX at h4 ⊢
    rw [m4 8 (by omega), m4 9 (by omega), x2 8 (by omega) (by omega) (by omega), x2 9 (by omega) (by omega) (by omega)]; exact h4
  · rw [m5 1 (by omega), x2 37 (by omega) (by omega) (by omega)]; exact h5
  · rw [m5 (2 + i) (by omega), m5 (8 + i) (by omega), x2 37 (by omega) (by omega) (by omega)]; exact h6 i hi
  · unfold zKM at h10 ⊢
    rw [m4 38 (by omega), m4 39 (by omega), x2 38 (by omega) (by omega) (by omega), x2 39 (by omega) (by omega) (by omega)]; exact h10
theorem zC_line (h : zC I J) (x2 : ∀ c, c ≠ 14 → c ≠ 23 → c ≠ 24 → I1 c = I c) (m4 : ∀ c, c ≠ 37 → I2 c = I1 c) : zC I2 J := by
  have e : ∀ c, c ≠ 37 → c ≠ 14 → c ≠ 23 → c ≠ 24 → I2 c = I c := fun c h1 h2 h3 h4 => (m4 c h1).trans (x2 c h2 h3 h4)
  refine zC_eq h (fun c hc => by unfold zcc at hc; exact e c (by omega) (by omega) (by omega) (by omega)) ?_ ?_ h.2.2.1.2.2.1 h.2.2.1.2.2.2
  · rw [e 36 (by omega) (by omega) (by omega) (by omega), e 0 (by omega) (by omega) (by omega) (by omega)]; exact h.2.2.1.1
  · rw [e 36 (by omega) (by omega) (by omega) (by omega), e 0 (by omega) (by omega) (by omega) (by omega)]; exact h.2.2.1.2.1
/-- one more deed on both sides -/
theorem zdo {c : Nat} (h : zRp n L0 K P ds kp I J) (hv : zvd n (zrun n L0 ds) c) (hl : ds.length < 40) :
    ∃ I1 I2, fL_act (qn (c / 64)) (qn (c % 64)) I J = some ((), I1, J) ∧ (∀ c, c ≠ 14 → c ≠ 23 → c ≠ 24 → I1 c = I c) ∧ fM_does (qn (zmc c)) I1 J = some (qn (zfall n (zrun n L0 ds) c), I2, J) ∧ zRp n L0 K P (ds ++ [c]) kp I2 J := by
  obtain ⟨hS, hC, hL⟩ := h
  have hn := hS.1
  have hok := zSt_ok hS
  obtain ⟨⟨h1, h2, h3⟩, h4, ⟨h5, h6, h7, h8, h9⟩, h10⟩ := id hL
  obtain ⟨I1, a1, a2, a3, a4⟩ := eL_act (J := J) hn h3 hok hv hl
  have e37 : I1 37 = I 37 := a3 37 (by omega) (by omega) (by omega)
  obtain ⟨I2, b1, b2, b3, b4, b5⟩ := eM_does (J := J) (I := I1) hn (by rw [e37]; exact h9) (by rw [e37]; exact h7) (by rw [e37]; exact h8) hok hv hl
  refine ⟨I1, I2, a1, a3, b1, zSt_app hS hv hl, zC_line hC a3 b5.1, zLn_line hL ?_ a3 ?_ b3 b4 b5.1 (fun j hj => b5.2 j (by omega)) hn⟩
  · rw [zrun_app]; exact a2
  · rw [zrun_app]; exact b2
theorem eL_canSell {i p : Nat} (hn : n ≤ 6) (h : zXs n (zrun n L0 ds) ds I) (hok : zRok n (zrun n L0 ds)) (hi : i < n) (hp : p < n) (h12 : (zrun n L0 ds).1.length < 12) (hne : ¬ zat (zls n (zrun n L0 ds).1) p = i) : fL_canSell (qn (8 * i + p)) I J = some (qn 1, I, J) := by
  obtain ⟨x0, x1, x2, x3, x4, x5, x6⟩ := h
  have hP := zls_P hok.1
  have e := eD_place (I := I) (J := J) hP hn (show i < 2147483648 by omega)
  have hx := zP_ix hP hi
  have hx2 : ¬ zix i (zls n (zrun n L0 ds).1) = p := fun q => hne ((zP_iff hP hi hp).1 q)
  have e1 : (8 * i + p) / 8 = i := by omega
  have e2 : (8 * i + p) % 8 = p := by omega
  have e3 : 8 * i + p - i * 8 = p := by omega
  unfold fL_canSell fL_placeOf
  simp (disch := omega) only [x0, x1, x3, e, e1, e2, e3, hx2, qn_l0, qn_l1, qn_l2, qn_l3, qn_l4, qn_l5, qn_l6, qn_l7, qn_l8, qn_l9, qn_l10, qn_l11, qn_l12, qn_l13, qn_l14, qn_l15, qn_l16, qn_l17, qn_l18, qn_l19, qn_l20, qn_l21, qn_l22, qn_l23, qn_l24, qn_l26, qn_l27, qn_l28, qn_l31, qn_l32, qn_l33, qn_l34, qn_l36, qn_l37, qn_l38, qn_l39, qn_l40, qn_l47, qn_l48, qn_l49, qn_l50, qn_l51, qn_l54, qn_l55, qn_l56, qn_l57, qn_l60, qn_l63, qn_l64, qn_l69, qn_l70, qn_l75, qn_l99, qn_l100, qn_l103, qn_l111, qn_l112, qn_l113, qn_l115, qn_l117, qn_l120, qn_l127, qn_l128, qn_l200, qn_l225, qn_l240, qn_l255, qn_l256, qn_l300, qn_l720, qn_l1000, qn_l48271, qn_l1000000, qn_l2147483646, qn_l2147483647, qn_add, qn_mul, qn_sub, qn_addneg, qn_div, qn_mod, qn_modn, qn_lt, qn_le, qn_eq, qn_nat, qn_m1, qn_m1', qn_c1, qn_g1, qn_g1', qn_c1', qn_and, qn_or, qn_shl1, qn_shr1, qn_64, ql_32, ql_add, ql_mul, ql_sub, ql_div, ql_mod, ql_lt, ql_le, ql_eq, ql_l0, ql_l1, qp_gd_T, qp_bd_t, ↓reduceIte, qt_le, qf_le, qt_lt, qf_lt, qt_eq, qf_eq, and_self, not_true_eq_false, not_false_eq_true, true_and, and_true, or_true, true_or, or_false, false_or, and_false, false_and, Nat.reduceAdd, Nat.reduceMul, Nat.reduceSub, Nat.reduceDiv, Nat.reduceMod, Nat.reducePow, Nat.zero_add, Nat.add_zero, Nat.zero_le, Nat.mul_zero, Nat.zero_mul, qm_nk, qm_eq, qm_nj]
theorem eL_canSellF {i p : Nat} (hn : n ≤ 6) (h : zXs n (zrun n L0 ds) ds I) (hok : zRok n (zrun n L0 ds)) (hi : i < n) (hp : p < n) (hF : 12 ≤ (zrun n L0 ds).1.length ∨ zat (zls n (zrun n L0 ds).1) p = i) : fL_canSell (qn (8 * i + p)) I J = some (qn 0, I, J) := by
  obtain ⟨x0, x1, x2, x3, x4, x5, x6⟩ := h
  have h12 := hok.2.1
  have hP := zls_P hok.1
  have e := eD_place (I := I) (J := J) hP hn (show i < 2147483648 by omega)
  have e1 : (8 * i + p) / 8 = i := by omega
  have e2 : (8 * i + p) % 8 = p := by omega
  have e3 : 8 * i + p - i * 8 = p := by omega
  unfold fL_canSell fL_placeOf
  by_cases h12 : 12 ≤ (zrun n L0 ds).1.length
  · simp (disch := omega) only [x3, qn_l0, qn_l1, qn_l2, qn_l3, qn_l4, qn_l5, qn_l6, qn_l7, qn_l8, qn_l9, qn_l10, qn_l11, qn_l12, qn_l13, qn_l14, qn_l15, qn_l16, qn_l17, qn_l18, qn_l19, qn_l20, qn_l21, qn_l22, qn_l23, qn_l24, qn_l26, qn_l27, qn_l28, qn_l31, qn_l32, qn_l33, qn_l34, qn_l36, qn_l37, qn_l38, qn_l39, qn_l40, qn_l47, qn_l48, qn_l49, qn_l50, qn_l51, qn_l54, qn_l55, qn_l56, qn_l57, qn_l60, qn_l63, qn_l64, qn_l69, qn_l70, qn_l75, qn_l99, qn_l100, qn_l103, qn_l111, qn_l112, qn_l113, qn_l115, qn_l117, qn_l120, qn_l127, qn_l128, qn_l200, qn_l225, qn_l240, qn_l255, qn_l256, qn_l300, qn_l720, qn_l1000, qn_l48271, qn_l1000000, qn_l2147483646, qn_l2147483647, qn_add, qn_mul, qn_sub, qn_addneg, qn_div, qn_mod, qn_modn, qn_lt, qn_le, qn_eq, qn_nat, qn_m1, qn_m1', qn_c1, qn_g1, qn_g1', qn_c1', qn_and, qn_or, qn_shl1, qn_shr1, qn_64, ql_32, ql_add, ql_mul, ql_sub, ql_div, ql_mod, ql_lt, ql_le, ql_eq, ql_l0, ql_l1, qp_gd_T, qp_bd_t, ↓reduceIte, qt_le, qf_le, qt_lt, qf_lt, qt_eq, qf_eq, and_self, not_true_eq_false, not_false_eq_true, true_and, and_true, or_true, true_or, or_false, false_or, and_false, false_and, Nat.reduceAdd, Nat.reduceMul, Nat.reduceSub, Nat.reduceDiv, Nat.reduceMod, Nat.reducePow, Nat.zero_add, Nat.add_zero, Nat.zero_le, Nat.mul_zero, Nat.zero_mul, qm_nk, qm_eq, qm_nj]
  · rcases hF with hF | hF
    · exact absurd hF h12
    · have hx2 : zix i (zls n (zrun n L0 ds).1) = p := (zP_iff hP hi hp).2 hF
      simp (disch := omega) only [x0, x1, x3, e, e1, e2, e3, hx2, qn_l0, qn_l1, qn_l2, qn_l3, qn_l4, qn_l5, qn_l6, qn_l7, qn_l8, qn_l9, qn_l10, qn_l11, qn_l12, qn_l13, qn_l14, qn_l15, qn_l16, qn_l17, qn_l18, qn_l19, qn_l20, qn_l21, qn_l22, qn_l23, qn_l24, qn_l26, qn_l27, qn_l28, qn_l31, qn_l32, qn_l33, qn_l34, qn_l36, qn_l37, qn_l38, qn_l39, qn_l40, qn_l47, qn_l48, qn_l49, qn_l50, qn_l51, qn_l54, qn_l55, qn_l56, qn_l57, qn_l60, qn_l63, qn_l64, qn_l69, qn_l70, qn_l75, qn_l99, qn_l100, qn_l103, qn_l111, qn_l112, qn_l113, qn_l115, qn_l117, qn_l120, qn_l127, qn_l128, qn_l200, qn_l225, qn_l240, qn_l255, qn_l256, qn_l300, qn_l720, qn_l1000, qn_l48271, qn_l1000000, qn_l2147483646, qn_l2147483647, qn_add, qn_mul, qn_sub, qn_addneg, qn_div, qn_mod, qn_modn, qn_lt, qn_le, qn_eq, qn_nat, qn_m1, qn_m1', qn_c1, qn_g1, qn_g1', qn_c1', qn_and, qn_or, qn_shl1, qn_shr1, qn_64, ql_32, ql_add, ql_mul, ql_sub, ql_div, ql_mod, ql_lt, ql_le, ql_eq, ql_l0, ql_l1, qp_gd_T, qp_bd_t, ↓reduceIte, qt_le, qf_le, qt_lt, qf_lt, qt_eq, qf_eq, and_self, not_true_eq_false, not_false_eq_true, true_and, and_true, or_true, true_or, or_false, false_or, and_false, false_and, Nat.reduceAdd, Nat.reduceMul, Nat.reduceSub, Nat.reduceDiv, Nat.reduceMod, Nat.reducePow, Nat.zero_add, Nat.add_zero, Nat.zero_le, Nat.mul_zero, Nat.zero_mul, qm_nk, qm_eq, qm_nj]
end DD
theorem sim_ticket (p q : Int32) : zsim (fX_ticket p q) (fM_ticket p q) := by
  intro I J h
  obtain ⟨n, L0, K, P, ds, kp, hR⟩ := id h
  have hR' : zRp n L0 K P ds kp I J := hR
  obtain ⟨hS, hC, hL⟩ := hR
  have hn := hS.1
  have hok := zSt_ok hS
  have hP := zSt_P hS
  obtain ⟨⟨h1, h2, h3⟩, h4, ⟨h5, h6, h7, h8, h9⟩, h10⟩ := id hL
  have hd := hS.2.2.2.1.1
  have ht := hok.2.1
  rcases qn_cs n (by omega) p with ⟨i, hi, rfl⟩ | ⟨-, hp⟩
  case inr =>
    refine ⟨-qn 1, I, J, I, J, ?_, ?_, h⟩
    · unfold fX_ticket
      simp (disch := omega) only [eC_hasF h3.1 hp, qn_l0, qn_l1, qn_l2, qn_l3, qn_l4, qn_l5, qn_l6, qn_l7, qn_l8, qn_l9, qn_l10, qn_l11, qn_l12, qn_l13, qn_l14, qn_l15, qn_l16, qn_l17, qn_l18, qn_l19, qn_l20, qn_l21, qn_l22, qn_l23, qn_l24, qn_l26, qn_l27, qn_l28, qn_l31, qn_l32, qn_l33, qn_l34, qn_l36, qn_l37, qn_l38, qn_l39, qn_l40, qn_l47, qn_l48, qn_l49, qn_l50, qn_l51, qn_l54, qn_l55, qn_l56, qn_l57, qn_l60, qn_l63, qn_l64, qn_l69, qn_l70, qn_l75, qn_l99, qn_l100, qn_l103, qn_l111, qn_l112, qn_l113, qn_l115, qn_l117, qn_l120, qn_l127, qn_l128, qn_l200, qn_l225, qn_l240, qn_l255, qn_l256, qn_l300, qn_l720, qn_l1000, qn_l48271, qn_l1000000, qn_l2147483646, qn_l2147483647, qn_add, qn_mul, qn_sub, qn_addneg, qn_div, qn_mod, qn_modn, qn_lt, qn_le, qn_eq, qn_nat, qn_m1, qn_m1', qn_c1, qn_g1, qn_g1', qn_c1', qn_and, qn_or, qn_shl1, qn_shr1, qn_64, ql_32, ql_add, ql_mul, ql_sub, ql_div, ql_mod, ql_lt, ql_le, ql_eq, ql_l0, ql_l1, qp_gd_T, qp_bd_t, ↓reduceIte, qt_le, qf_le, qt_lt, qf_lt, qt_eq, qf_eq, and_self, not_true_eq_false, not_false_eq_true, true_and, and_true, or_true, true_or, or_false, false_or, and_false, false_and, Nat.reduceAdd, Nat.reduceMul, Nat.reduceSub, Nat.reduceDiv, Nat.reduceMod, Nat.reducePow, Nat.zero_add, Nat.add_zero, Nat.zero_le, Nat.mul_zero, Nat.zero_mul, qm_nk, qm_eq, qm_nj]
    · unfold fM_ticket
      simp (disch := omega) only [eM_isOneF h9.1 hn hp, qn_l0, qn_l1, qn_l2, qn_l3, qn_l4, qn_l5, qn_l6, qn_l7, qn_l8, qn_l9, qn_l10, qn_l11, qn_l12, qn_l13, qn_l14, qn_l15, qn_l16, qn_l17, qn_l18, qn_l19, qn_l20, qn_l21, qn_l22, qn_l23, qn_l24, qn_l26, qn_l27, qn_l28, qn_l31, qn_l32, qn_l33, qn_l34, qn_l36, qn_l37, qn_l38, qn_l39, qn_l40, qn_l47, qn_l48, qn_l49, qn_l50, qn_l51, qn_l54, qn_l55, qn_l56, qn_l57, qn_l60, qn_l63, qn_l64, qn_l69, qn_l70, qn_l75, qn_l99, qn_l100, qn_l103, qn_l111, qn_l112, qn_l113, qn_l115, qn_l117, qn_l120, qn_l127, qn_l128, qn_l200, qn_l225, qn_l240, qn_l255, qn_l256, qn_l300, qn_l720, qn_l1000, qn_l48271, qn_l1000000, qn_l2147483646, qn_l2147483647, qn_add, qn_mul, qn_sub, qn_addneg, qn_div, qn_mod, qn_modn, qn_lt, qn_le, qn_eq, qn_nat, qn_m1, qn_m1', qn_c1, qn_g1, qn_g1', qn_c1', qn_and, qn_or, qn_shl1, qn_shr1, qn_64, ql_32, ql_add, ql_mul, ql_sub, ql_div, ql_mod, ql_lt, ql_le, ql_eq, ql_l0, ql_l1, qp_gd_T, qp_bd_t, ↓reduceIte, qt_le, qf_le, qt_lt, qf_lt, qt_eq, qf_eq, and_self, not_true_eq_false, not_false_eq_true, true_and, and_true, or_true, true_or, or_false, false_or, and_false, false_and, Nat.reduceAdd, Nat.reduceMul, Nat.reduceSub, Nat.reduceDiv, Nat.reduceMod, Nat.reducePow, Nat.zero_add, Nat.add_zero, Nat.zero_le, Nat.mul_zero, Nat.zero_mul, qm_nk, qm_eq, qm_nj]
  rcases qn_cs n (by omega) q with ⟨p, hp, rfl⟩ | ⟨-, hp⟩
  case inr =>
    refine ⟨-qn 1, I, J, I, J, ?_, ?_, h⟩
    · unfold fX_ticket
      simp (disch := omega) only [eC_has h3.1 hn hi, eC_hasF h3.1 hp, qn_l0, qn_l1, qn_l2, qn_l3, qn_l4, qn_l5, qn_l6, qn_l7, qn_l8, qn_l9, qn_l10, qn_l11, qn_l12, qn_l13, qn_l14, qn_l15, qn_l16, qn_l17, qn_l18, qn_l19, qn_l20, qn_l21, qn_l22, qn_l23, qn_l24, qn_l26, qn_l27, qn_l28, qn_l31, qn_l32, qn_l33, qn_l34, qn_l36, qn_l37, qn_l38, qn_l39, qn_l40, qn_l47, qn_l48, qn_l49, qn_l50, qn_l51, qn_l54, qn_l55, qn_l56, qn_l57, qn_l60, qn_l63, qn_l64, qn_l69, qn_l70, qn_l75, qn_l99, qn_l100, qn_l103, qn_l111, qn_l112, qn_l113, qn_l115, qn_l117, qn_l120, qn_l127, qn_l128, qn_l200, qn_l225, qn_l240, qn_l255, qn_l256, qn_l300, qn_l720, qn_l1000, qn_l48271, qn_l1000000, qn_l2147483646, qn_l2147483647, qn_add, qn_mul, qn_sub, qn_addneg, qn_div, qn_mod, qn_modn, qn_lt, qn_le, qn_eq, qn_nat, qn_m1, qn_m1', qn_c1, qn_g1, qn_g1', qn_c1', qn_and, qn_or, qn_shl1, qn_shr1, qn_64, ql_32, ql_add, ql_mul, ql_sub, ql_div, ql_mod, ql_lt, ql_le, ql_eq, ql_l0, ql_l1, qp_gd_T, qp_bd_t, ↓reduceIte, qt_le, qf_le, qt_lt, qf_lt, qt_eq, qf_eq, and_self, not_true_eq_false, not_false_eq_true, true_and, and_true, or_true, true_or, or_false, false_or, and_false, false_and, Nat.reduceAdd, Nat.reduceMul, Nat.reduceSub, Nat.reduceDiv, Nat.reduceMod, Nat.reducePow, Nat.zero_add, Nat.add_zero, Nat.zero_le, Nat.mul_zero, Nat.zero_mul, qm_nk, qm_eq, qm_nj]
    · unfold fM_ticket
      simp (disch := omega) only [eM_isOne h9.1 hn hi, eM_isOneF h9.1 hn hp, qn_l0, qn_l1, qn_l2, qn_l3, qn_l4, qn_l5, qn_l6, qn_l7, qn_l8, qn_l9, qn_l10, qn_l11, qn_l12, qn_l13, qn_l14, qn_l15, qn_l16, qn_l17, qn_l18, qn_l19, qn_l20, qn_l21, qn_l22, qn_l23, qn_l24, qn_l26, qn_l27, qn_l28, qn_l31, qn_l32, qn_l33, qn_l34, qn_l36, qn_l37, qn_l38, qn_l39, qn_l40, qn_l47, qn_l48, qn_l49, qn_l50, qn_l51, qn_l54, qn_l55, qn_l56, qn_l57, qn_l60, qn_l63, qn_l64, qn_l69, qn_l70, qn_l75, qn_l99, qn_l100, qn_l103, qn_l111, qn_l112, qn_l113, qn_l115, qn_l117, qn_l120, qn_l127, qn_l128, qn_l200, qn_l225, qn_l240, qn_l255, qn_l256, qn_l300, qn_l720, qn_l1000, qn_l48271, qn_l1000000, qn_l2147483646, qn_l2147483647, qn_add, qn_mul, qn_sub, qn_addneg, qn_div, qn_mod, qn_modn, qn_lt, qn_le, qn_eq, qn_nat, qn_m1, qn_m1', qn_c1, qn_g1, qn_g1', qn_c1', qn_and, qn_or, qn_shl1, qn_shr1, qn_64, ql_32, ql_add, ql_mul, ql_sub, ql_div, ql_mod, ql_lt, ql_le, ql_eq, ql_l0, ql_l1, qp_gd_T, qp_bd_t, ↓reduceIte, qt_le, qf_le, qt_lt, qf_lt, qt_eq, qf_eq, and_self, not_true_eq_false, not_false_eq_true, true_and, and_true, or_true, true_or, or_false, false_or, and_false, false_and, Nat.reduceAdd, Nat.reduceMul, Nat.reduceSub, Nat.reduceDiv, Nat.reduceMod, Nat.reducePow, Nat.zero_add, Nat.add_zero, Nat.zero_le, Nat.mul_zero, Nat.zero_mul, qm_nk, qm_eq, qm_nj]
  have es : I 37 (69 + p) = qn (zat (zls n (zrun n L0 ds).1) p) := h9.2.2.2.2 p (by rw [hP.2.1]; exact hp)
  have hz := zP_at hP hp
  have e56 : I 37 56 = qn (zrun n L0 ds).1.length := h9.2.2.1
  by_cases hF : 12 ≤ (zrun n L0 ds).1.length ∨ zat (zls n (zrun n L0 ds).1) p = i
  · refine ⟨-qn 4, I, J, I, J, ?_, ?_, h⟩
    · unfold fX_ticket
      simp (disch := omega) only [eC_has h3.1 hn hi, eC_has h3.1 hn hp, eL_canSellF hn h3 hok hi hp hF, qn_l0, qn_l1, qn_l2, qn_l3, qn_l4, qn_l5, qn_l6, qn_l7, qn_l8, qn_l9, qn_l10, qn_l11, qn_l12, qn_l13, qn_l14, qn_l15, qn_l16, qn_l17, qn_l18, qn_l19, qn_l20, qn_l21, qn_l22, qn_l23, qn_l24, qn_l26, qn_l27, qn_l28, qn_l31, qn_l32, qn_l33, qn_l34, qn_l36, qn_l37, qn_l38, qn_l39, qn_l40, qn_l47, qn_l48, qn_l49, qn_l50, qn_l51, qn_l54, qn_l55, qn_l56, qn_l57, qn_l60, qn_l63, qn_l64, qn_l69, qn_l70, qn_l75, qn_l99, qn_l100, qn_l103, qn_l111, qn_l112, qn_l113, qn_l115, qn_l117, qn_l120, qn_l127, qn_l128, qn_l200, qn_l225, qn_l240, qn_l255, qn_l256, qn_l300, qn_l720, qn_l1000, qn_l48271, qn_l1000000, qn_l2147483646, qn_l2147483647, qn_add, qn_mul, qn_sub, qn_addneg, qn_div, qn_mod, qn_modn, qn_lt, qn_le, qn_eq, qn_nat, qn_m1, qn_m1', qn_c1, qn_g1, qn_g1', qn_c1', qn_and, qn_or, qn_shl1, qn_shr1, qn_64, ql_32, ql_add, ql_mul, ql_sub, ql_div, ql_mod, ql_lt, ql_le, ql_eq, ql_l0, ql_l1, qp_gd_T, qp_bd_t, ↓reduceIte, qt_le, qf_le, qt_lt, qf_lt, qt_eq, qf_eq, and_self, not_true_eq_false, not_false_eq_true, true_and, and_true, or_true, true_or, or_false, false_or, and_false, false_and, Nat.reduceAdd, Nat.reduceMul, Nat.reduceSub, Nat.reduceDiv, Nat.reduceMod, Nat.reducePow, Nat.zero_add, Nat.add_zero, Nat.zero_le, Nat.mul_zero, Nat.zero_mul, qm_nk, qm_eq, qm_nj]
    · unfold fM_ticket
      by_cases hz2 : zat (zls n (zrun n L0 ds).1) p = i
      · simp (disch := omega) only [eM_isOne h9.1 hn hi, eM_isOne h9.1 hn hp, es, hz2, qn_l0, qn_l1, qn_l2, qn_l3, qn_l4, qn_l5, qn_l6, qn_l7, qn_l8, qn_l9, qn_l10, qn_l11, qn_l12, qn_l13, qn_l14, qn_l15, qn_l16, qn_l17, qn_l18, qn_l19, qn_l20, qn_l21, qn_l22, qn_l23, qn_l24, qn_l26, qn_l27, qn_l28, qn_l31, qn_l32, qn_l33, qn_l34, qn_l36, qn_l37, qn_l38, qn_l39, qn_l40, qn_l47, qn_l48, qn_l49, qn_l50, qn_l51, qn_l54, qn_l55, qn_l56, qn_l57, qn_l60, qn_l63, qn_l64, qn_l69, qn_l70, qn_l75, qn_l99, qn_l100, qn_l103, qn_l111, qn_l112, qn_l113, qn_l115, qn_l117, qn_l120, qn_l127, qn_l128, qn_l200, qn_l225, qn_l240, qn_l255, qn_l256, qn_l300, qn_l720, qn_l1000, qn_l48271, qn_l1000000, qn_l2147483646, qn_l2147483647, qn_add, qn_mul, qn_sub, qn_addneg, qn_div, qn_mod, qn_modn, qn_lt, qn_le, qn_eq, qn_nat, qn_m1, qn_m1', qn_c1, qn_g1, qn_g1', qn_c1', qn_and, qn_or, qn_shl1, qn_shr1, qn_64, ql_32, ql_add, ql_mul, ql_sub, ql_div, ql_mod, ql_lt, ql_le, ql_eq, ql_l0, ql_l1, qp_gd_T, qp_bd_t, ↓reduceIte, qt_le, qf_le, qt_lt, qf_lt, qt_eq, qf_eq, and_self, not_true_eq_false, not_false_eq_true, true_and, and_true, or_true, true_or, or_false, false_or, and_false, false_and, Nat.reduceAdd, Nat.reduceMul, Nat.reduceSub, Nat.reduceDiv, Nat.reduceMod, Nat.reducePow, Nat.zero_add, Nat.add_zero, Nat.zero_le, Nat.mul_zero, Nat.zero_mul, qm_nk, qm_eq, qm_nj]
      · have h12 : (zrun n L0 ds).1.length = 12 := by rcases hF with hF | hF; omega; exact absurd hF hz2
        simp (disch := omega) only [eM_isOne h9.1 hn hi, eM_isOne h9.1 hn hp, es, hz2, e56, h12, qn_l0, qn_l1, qn_l2, qn_l3, qn_l4, qn_l5, qn_l6, qn_l7, qn_l8, qn_l9, qn_l10, qn_l11, qn_l12, qn_l13, qn_l14, qn_l15, qn_l16, qn_l17, qn_l18, qn_l19, qn_l20, qn_l21, qn_l22, qn_l23, qn_l24, qn_l26, qn_l27, qn_l28, qn_l31, qn_l32, qn_l33, qn_l34, qn_l36, qn_l37, qn_l38, qn_l39, qn_l40, qn_l47, qn_l48, qn_l49, qn_l50, qn_l51, qn_l54, qn_l55, qn_l56, qn_l57, qn_l60, qn_l63, qn_l64, qn_l69, qn_l70, qn_l75, qn_l99, qn_l100, qn_l103, qn_l111, qn_l112, qn_l113, qn_l115, qn_l117, qn_l120, qn_l127, qn_l128, qn_l200, qn_l225, qn_l240, qn_l255, qn_l256, qn_l300, qn_l720, qn_l1000, qn_l48271, qn_l1000000, qn_l2147483646, qn_l2147483647, qn_add, qn_mul, qn_sub, qn_addneg, qn_div, qn_mod, qn_modn, qn_lt, qn_le, qn_eq, qn_nat, qn_m1, qn_m1', qn_c1, qn_g1, qn_g1', qn_c1', qn_and, qn_or, qn_shl1, qn_shr1, qn_64, ql_32, ql_add, ql_mul, ql_sub, ql_div, ql_mod, ql_lt, ql_le, ql_eq, ql_l0, ql_l1, qp_gd_T, qp_bd_t, ↓reduceIte, qt_le, qf_le, qt_lt, qf_lt, qt_eq, qf_eq, and_self, not_true_eq_false, not_false_eq_true, true_and, and_true, or_true, true_or, or_false, false_or, and_false, false_and, Nat.reduceAdd, Nat.reduceMul, Nat.reduceSub, Nat.reduceDiv, Nat.reduceMod, Nat.reducePow, Nat.zero_add, Nat.add_zero, Nat.zero_le, Nat.mul_zero, Nat.zero_mul, qm_nk, qm_eq, qm_nj]
  have h12 : (zrun n L0 ds).1.length < 12 := by
    have : ¬ 12 ≤ (zrun n L0 ds).1.length := fun q => hF (Or.inl q)
    omega
  have hne : ¬ zat (zls n (zrun n L0 ds).1) p = i := fun q => hF (Or.inr q)
  by_cases h40 : ds.length < 40
  case neg =>
    have h40 : ds.length = 40 := by omega
    refine ⟨-qn 2, I, J, I, J, ?_, ?_, h⟩
    · unfold fX_ticket
      simp (disch := omega) only [eC_has h3.1 hn hi, eC_has h3.1 hn hp, eL_canSell hn h3 hok hi hp h12 hne, h3.2.2.2.2.1, h40, qn_l0, qn_l1, qn_l2, qn_l3, qn_l4, qn_l5, qn_l6, qn_l7, qn_l8, qn_l9, qn_l10, qn_l11, qn_l12, qn_l13, qn_l14, qn_l15, qn_l16, qn_l17, qn_l18, qn_l19, qn_l20, qn_l21, qn_l22, qn_l23, qn_l24, qn_l26, qn_l27, qn_l28, qn_l31, qn_l32, qn_l33, qn_l34, qn_l36, qn_l37, qn_l38, qn_l39, qn_l40, qn_l47, qn_l48, qn_l49, qn_l50, qn_l51, qn_l54, qn_l55, qn_l56, qn_l57, qn_l60, qn_l63, qn_l64, qn_l69, qn_l70, qn_l75, qn_l99, qn_l100, qn_l103, qn_l111, qn_l112, qn_l113, qn_l115, qn_l117, qn_l120, qn_l127, qn_l128, qn_l200, qn_l225, qn_l240, qn_l255, qn_l256, qn_l300, qn_l720, qn_l1000, qn_l48271, qn_l1000000, qn_l2147483646, qn_l2147483647, qn_add, qn_mul, qn_sub, qn_addneg, qn_div, qn_mod, qn_modn, qn_lt, qn_le, qn_eq, qn_nat, qn_m1, qn_m1', qn_c1, qn_g1, qn_g1', qn_c1', qn_and, qn_or, qn_shl1, qn_shr1, qn_64, ql_32, ql_add, ql_mul, ql_sub, ql_div, ql_mod, ql_lt, ql_le, ql_eq, ql_l0, ql_l1, qp_gd_T, qp_bd_t, ↓reduceIte, qt_le, qf_le, qt_lt, qf_lt, qt_eq, qf_eq, and_self, not_true_eq_false, not_false_eq_true, true_and, and_true, or_true, true_or, or_false, false_or, and_false, false_and, Nat.reduceAdd, Nat.reduceMul, Nat.reduceSub, Nat.reduceDiv, Nat.reduceMod, Nat.reducePow, Nat.zero_add, Nat.add_zero, Nat.zero_le, Nat.mul_zero, Nat.zero_mul, qm_nk, qm_eq, qm_nj]
    · unfold fM_ticket
      simp (disch := omega) only [eM_isOne h9.1 hn hi, eM_isOne h9.1 hn hp, es, hne, e56, h7, h40, qn_l0, qn_l1, qn_l2, qn_l3, qn_l4, qn_l5, qn_l6, qn_l7, qn_l8, qn_l9, qn_l10, qn_l11, qn_l12, qn_l13, qn_l14, qn_l15, qn_l16, qn_l17, qn_l18, qn_l19, qn_l20, qn_l21, qn_l22, qn_l23, qn_l24, qn_l26, qn_l27, qn_l28, qn_l31, qn_l32, qn_l33, qn_l34, qn_l36, qn_l37, qn_l38, qn_l39, qn_l40, qn_l47, qn_l48, qn_l49, qn_l50, qn_l51, qn_l54, qn_l55, qn_l56, qn_l57, qn_l60, qn_l63, qn_l64, qn_l69, qn_l70, qn_l75, qn_l99, qn_l100, qn_l103, qn_l111, qn_l112, qn_l113, qn_l115, qn_l117, qn_l120, qn_l127, qn_l128, qn_l200, qn_l225, qn_l240, qn_l255, qn_l256, qn_l300, qn_l720, qn_l1000, qn_l48271, qn_l1000000, qn_l2147483646, qn_l2147483647, qn_add, qn_mul, qn_sub, qn_addneg, qn_div, qn_mod, qn_modn, qn_lt, qn_le, qn_eq, qn_nat, qn_m1, qn_m1', qn_c1, qn_g1, qn_g1', qn_c1', qn_and, qn_or, qn_shl1, qn_shr1, qn_64, ql_32, ql_add, ql_mul, ql_sub, ql_div, ql_mod, ql_lt, ql_le, ql_eq, ql_l0, ql_l1, qp_gd_T, qp_bd_t, ↓reduceIte, qt_le, qf_le, qt_lt, qf_lt, qt_eq, qf_eq, and_self, not_true_eq_false, not_false_eq_true, true_and, and_true, or_true, true_or, or_false, false_or, and_false, false_and, Nat.reduceAdd, Nat.reduceMul, Nat.reduceSub, Nat.reduceDiv, Nat.reduceMod, Nat.reducePow, Nat.zero_add, Nat.add_zero, Nat.zero_le, Nat.mul_zero, Nat.zero_mul, qm_nk, qm_eq, qm_nj]
  have hv : zvd n (zrun n L0 ds) (64 + (8 * i + p)) := Or.inr (Or.inl ⟨by omega, by omega, by omega, h12⟩)
  obtain ⟨I1, I2, a1, a2, b1, b2⟩ := zdo hR' hv h40
  have e1 : (64 + (8 * i + p)) / 64 = 1 := by omega
  have e2 : (64 + (8 * i + p)) % 64 = 8 * i + p := by omega
  have e3 : zmc (64 + (8 * i + p)) = 100 + 8 * i + p := by unfold zmc; rw [e1, e2]; omega
  rw [e1, e2] at a1
  rw [e3] at b1
  have e37 : I1 37 = I 37 := a2 37 (by omega) (by omega) (by omega)
  have r56 : I2 37 56 = qn ((zrun n L0 ds).1.length + 1) := by
    have := b2.2.2.2.2.1.2.2.2.2.2.2.1
    rw [this, zrun_app]
    unfold zdeed
    rw [if_pos e1]
    show qn ((zrun n L0 ds).1 ++ [(64 + (8 * i + p)) % 64]).length = _
    rw [List.length_append]; rfl
  refine ⟨qn (zrun n L0 ds).1.length, I1, J, I2, J, ?_, ?_, zR_mk b2⟩
  · unfold fX_ticket
    simp (disch := omega) only [eC_has h3.1 hn hi, eC_has h3.1 hn hp, eL_canSell hn h3 hok hi hp h12 hne, h3.2.2.2.2.1, h3.2.2.2.1, a1, qn_l0, qn_l1, qn_l2, qn_l3, qn_l4, qn_l5, qn_l6, qn_l7, qn_l8, qn_l9, qn_l10, qn_l11, qn_l12, qn_l13, qn_l14, qn_l15, qn_l16, qn_l17, qn_l18, qn_l19, qn_l20, qn_l21, qn_l22, qn_l23, qn_l24, qn_l26, qn_l27, qn_l28, qn_l31, qn_l32, qn_l33, qn_l34, qn_l36, qn_l37, qn_l38, qn_l39, qn_l40, qn_l47, qn_l48, qn_l49, qn_l50, qn_l51, qn_l54, qn_l55, qn_l56, qn_l57, qn_l60, qn_l63, qn_l64, qn_l69, qn_l70, qn_l75, qn_l99, qn_l100, qn_l103, qn_l111, qn_l112, qn_l113, qn_l115, qn_l117, qn_l120, qn_l127, qn_l128, qn_l200, qn_l225, qn_l240, qn_l255, qn_l256, qn_l300, qn_l720, qn_l1000, qn_l48271, qn_l1000000, qn_l2147483646, qn_l2147483647, qn_add, qn_mul, qn_sub, qn_addneg, qn_div, qn_mod, qn_modn, qn_lt, qn_le, qn_eq, qn_nat, qn_m1, qn_m1', qn_c1, qn_g1, qn_g1', qn_c1', qn_and, qn_or, qn_shl1, qn_shr1, qn_64, ql_32, ql_add, ql_mul, ql_sub, ql_div, ql_mod, ql_lt, ql_le, ql_eq, ql_l0, ql_l1, qp_gd_T, qp_bd_t, ↓reduceIte, qt_le, qf_le, qt_lt, qf_lt, qt_eq, qf_eq, and_self, not_true_eq_false, not_false_eq_true, true_and, and_true, or_true, true_or, or_false, false_or, and_false, false_and, Nat.reduceAdd, Nat.reduceMul, Nat.reduceSub, Nat.reduceDiv, Nat.reduceMod, Nat.reducePow, Nat.zero_add, Nat.add_zero, Nat.zero_le, Nat.mul_zero, Nat.zero_mul, qm_nk, qm_eq, qm_nj]
  · rw [← e37] at h9 es e56 h7
    unfold fM_ticket
    simp (disch := omega) only [eM_isOne h9.1 hn hi, eM_isOne h9.1 hn hp, es, hne, e56, h7, b1, r56, qn_l0, qn_l1, qn_l2, qn_l3, qn_l4, qn_l5, qn_l6, qn_l7, qn_l8, qn_l9, qn_l10, qn_l11, qn_l12, qn_l13, qn_l14, qn_l15, qn_l16, qn_l17, qn_l18, qn_l19, qn_l20, qn_l21, qn_l22, qn_l23, qn_l24, qn_l26, qn_l27, qn_l28, qn_l31, qn_l32, qn_l33, qn_l34, qn_l36, qn_l37, qn_l38, qn_l39, qn_l40, qn_l47, qn_l48, qn_l49, qn_l50, qn_l51, qn_l54, qn_l55, qn_l56, qn_l57, qn_l60, qn_l63, qn_l64, qn_l69, qn_l70, qn_l75, qn_l99, qn_l100, qn_l103, qn_l111, qn_l112, qn_l113, qn_l115, qn_l117, qn_l120, qn_l127, qn_l128, qn_l200, qn_l225, qn_l240, qn_l255, qn_l256, qn_l300, qn_l720, qn_l1000, qn_l48271, qn_l1000000, qn_l2147483646, qn_l2147483647, qn_add, qn_mul, qn_sub, qn_addneg, qn_div, qn_mod, qn_modn, qn_lt, qn_le, qn_eq, qn_nat, qn_m1, qn_m1', qn_c1, qn_g1, qn_g1', qn_c1', qn_and, qn_or, qn_shl1, qn_shr1, qn_64, ql_32, ql_add, ql_mul, ql_sub, ql_div, ql_mod, ql_lt, ql_le, ql_eq, ql_l0, ql_l1, qp_gd_T, qp_bd_t, ↓reduceIte, qt_le, qf_le, qt_lt, qf_lt, qt_eq, qf_eq, and_self, not_true_eq_false, not_false_eq_true, true_and, and_true, or_true, true_or, or_false, false_or, and_false, false_and, Nat.reduceAdd, Nat.reduceMul, Nat.reduceSub, Nat.reduceDiv, Nat.reduceMod, Nat.reducePow, Nat.zero_add, Nat.add_zero, Nat.zero_le, Nat.mul_zero, Nat.zero_mul, qm_nk, qm_eq, qm_nj]
    rw [show (zrun n L0 ds).1.length + 1 - 1 = (zrun n L0 ds).1.length by omega]
theorem eL_hasT {n k : Nat} {I : Nat → Nat → Int32} {J : Nat → Nat → Int64} (h : I 14 4 = qn n) (hn : n ≤ 12) (hk : k < n) : fL_hasTicket (qn k) I J = some (qn 1, I, J) := by
  unfold fL_hasTicket
  simp (disch := omega) only [h, qn_l0, qn_l1, qn_l2, qn_l3, qn_l4, qn_l5, qn_l6, qn_l7, qn_l8, qn_l9, qn_l10, qn_l11, qn_l12, qn_l13, qn_l14, qn_l15, qn_l16, qn_l17, qn_l18, qn_l19, qn_l20, qn_l21, qn_l22, qn_l23, qn_l24, qn_l26, qn_l27, qn_l28, qn_l31, qn_l32, qn_l33, qn_l34, qn_l36, qn_l37, qn_l38, qn_l39, qn_l40, qn_l47, qn_l48, qn_l49, qn_l50, qn_l51, qn_l54, qn_l55, qn_l56, qn_l57, qn_l60, qn_l63, qn_l64, qn_l69, qn_l70, qn_l75, qn_l99, qn_l100, qn_l103, qn_l111, qn_l112, qn_l113, qn_l115, qn_l117, qn_l120, qn_l127, qn_l128, qn_l200, qn_l225, qn_l240, qn_l255, qn_l256, qn_l300, qn_l720, qn_l1000, qn_l48271, qn_l1000000, qn_l2147483646, qn_l2147483647, qn_add, qn_mul, qn_sub, qn_addneg, qn_div, qn_mod, qn_modn, qn_lt, qn_le, qn_eq, qn_nat, qn_m1, qn_m1', qn_c1, qn_g1, qn_g1', qn_c1', qn_and, qn_or, qn_shl1, qn_shr1, qn_64, ql_32, ql_add, ql_mul, ql_sub, ql_div, ql_mod, ql_lt, ql_le, ql_eq, ql_l0, ql_l1, qp_gd_T, qp_bd_t, ↓reduceIte, qt_le, qf_le, qt_lt, qf_lt, qt_eq, qf_eq, and_self, not_true_eq_false, not_false_eq_true, true_and, and_true, or_true, true_or, or_false, false_or, and_false, false_and, Nat.reduceAdd, Nat.reduceMul, Nat.reduceSub, Nat.reduceDiv, Nat.reduceMod, Nat.reducePow, Nat.zero_add, Nat.add_zero, Nat.zero_le, Nat.mul_zero, Nat.zero_mul, qm_nk, qm_eq, qm_nj]
theorem eL_hasTF {n : Nat} {p : Int32} {I : Nat → Nat → Int32} {J : Nat → Nat → Int64} (h : I 14 4 = qn n) (hp : p < 0 ∨ qn n ≤ p) : fL_hasTicket p I J = some (qn 0, I, J) := by
  unfold fL_hasTicket
  rw [h]
  by_cases h0 : p < 0
  · rw [if_pos h0]; rfl
  · rcases hp with hp | hp
    · exact absurd hp h0
    · rw [if_neg h0, if_pos hp]; rfl
theorem sim_back (p : Int32) : zsim (fX_back p) (fM_back p) := by
  intro I J h
  obtain ⟨n, L0, K, P, ds, kp, hR⟩ := id h
  have hR' : zRp n L0 K P ds kp I J := hR
  obtain ⟨hS, hC, hL⟩ := hR
  have hn := hS.1
  have hok := zSt_ok hS
  obtain ⟨⟨h1, h2, h3⟩, h4, ⟨h5, h6, h7, h8, h9⟩, h10⟩ := id hL
  have hd := hS.2.2.2.1.1
  have ht := hok.2.1
  have e56 : I 37 56 = qn (zrun n L0 ds).1.length := h9.2.2.1
  have e4 : I 14 4 = qn (zrun n L0 ds).1.length := h3.2.2.2.1
  have e5 : I 14 5 = qn ds.length := h3.2.2.2.2.1
  rcases qn_cs (zrun n L0 ds).1.length (by omega) p with ⟨k, hk, rfl⟩ | ⟨-, hp⟩
  case inr =>
    refine ⟨-qn 1, I, J, I, J, ?_, ?_, h⟩
    · unfold fX_back
      simp (disch := omega) only [eL_hasTF e4 hp, qn_l0, qn_l1, qn_l2, qn_l3, qn_l4, qn_l5, qn_l6, qn_l7, qn_l8, qn_l9, qn_l10, qn_l11, qn_l12, qn_l13, qn_l14, qn_l15, qn_l16, qn_l17, qn_l18, qn_l19, qn_l20, qn_l21, qn_l22, qn_l23, qn_l24, qn_l26, qn_l27, qn_l28, qn_l31, qn_l32, qn_l33, qn_l34, qn_l36, qn_l37, qn_l38, qn_l39, qn_l40, qn_l47, qn_l48, qn_l49, qn_l50, qn_l51, qn_l54, qn_l55, qn_l56, qn_l57, qn_l60, qn_l63, qn_l64, qn_l69, qn_l70, qn_l75, qn_l99, qn_l100, qn_l103, qn_l111, qn_l112, qn_l113, qn_l115, qn_l117, qn_l120, qn_l127, qn_l128, qn_l200, qn_l225, qn_l240, qn_l255, qn_l256, qn_l300, qn_l720, qn_l1000, qn_l48271, qn_l1000000, qn_l2147483646, qn_l2147483647, qn_add, qn_mul, qn_sub, qn_addneg, qn_div, qn_mod, qn_modn, qn_lt, qn_le, qn_eq, qn_nat, qn_m1, qn_m1', qn_c1, qn_g1, qn_g1', qn_c1', qn_and, qn_or, qn_shl1, qn_shr1, qn_64, ql_32, ql_add, ql_mul, ql_sub, ql_div, ql_mod, ql_lt, ql_le, ql_eq, ql_l0, ql_l1, qp_gd_T, qp_bd_t, ↓reduceIte, qt_le, qf_le, qt_lt, qf_lt, qt_eq, qf_eq, and_self, not_true_eq_false, not_false_eq_true, true_and, and_true, or_true, true_or, or_false, false_or, and_false, false_and, Nat.reduceAdd, Nat.reduceMul, Nat.reduceSub, Nat.reduceDiv, Nat.reduceMod, Nat.reducePow, Nat.zero_add, Nat.add_zero, Nat.zero_le, Nat.mul_zero, Nat.zero_mul, qm_nk, qm_eq, qm_nj]
    · unfold fM_back
      simp (disch := omega) only [eM_isTicketF e56 ht hp, qn_l0, qn_l1, qn_l2, qn_l3, qn_l4, qn_l5, qn_l6, qn_l7, qn_l8, qn_l9, qn_l10, qn_l11, qn_l12, qn_l13, qn_l14, qn_l15, qn_l16, qn_l17, qn_l18, qn_l19, qn_l20, qn_l21, qn_l22, qn_l23, qn_l24, qn_l26, qn_l27, qn_l28, qn_l31, qn_l32, qn_l33, qn_l34, qn_l36, qn_l37, qn_l38, qn_l39, qn_l40, qn_l47, qn_l48, qn_l49, qn_l50, qn_l51, qn_l54, qn_l55, qn_l56, qn_l57, qn_l60, qn_l63, qn_l64, qn_l69, qn_l70, qn_l75, qn_l99, qn_l100, qn_l103, qn_l111, qn_l112, qn_l113, qn_l115, qn_l117, qn_l120, qn_l127, qn_l128, qn_l200, qn_l225, qn_l240, qn_l255, qn_l256, qn_l300, qn_l720, qn_l1000, qn_l48271, qn_l1000000, qn_l2147483646, qn_l2147483647, qn_add, qn_mul, qn_sub, qn_addneg, qn_div, qn_mod, qn_modn, qn_lt, qn_le, qn_eq, qn_nat, qn_m1, qn_m1', qn_c1, qn_g1, qn_g1', qn_c1', qn_and, qn_or, qn_shl1, qn_shr1, qn_64, ql_32, ql_add, ql_mul, ql_sub, ql_div, ql_mod, ql_lt, ql_le, ql_eq, ql_l0, ql_l1, qp_gd_T, qp_bd_t, ↓reduceIte, qt_le, qf_le, qt_lt, qf_lt, qt_eq, qf_eq, and_self, not_true_eq_false, not_false_eq_true, true_and, and_true, or_true, true_or, or_false, false_or, and_false, false_and, Nat.reduceAdd, Nat.reduceMul, Nat.reduceSub, Nat.reduceDiv, Nat.reduceMod, Nat.reducePow, Nat.zero_add, Nat.add_zero, Nat.zero_le, Nat.mul_zero, Nat.zero_mul, qm_nk, qm_eq, qm_nj]
  by_cases h40 : ds.length < 40
  case neg =>
    have h40 : ds.length = 40 := by omega
    refine ⟨-qn 2, I, J, I, J, ?_, ?_, h⟩
    · unfold fX_back
      simp (disch := omega) only [eL_hasT e4 ht hk, e5, h40, qn_l0, qn_l1, qn_l2, qn_l3, qn_l4, qn_l5, qn_l6, qn_l7, qn_l8, qn_l9, qn_l10, qn_l11, qn_l12, qn_l13, qn_l14, qn_l15, qn_l16, qn_l17, qn_l18, qn_l19, qn_l20, qn_l21, qn_l22, qn_l23, qn_l24, qn_l26, qn_l27, qn_l28, qn_l31, qn_l32, qn_l33, qn_l34, qn_l36, qn_l37, qn_l38, qn_l39, qn_l40, qn_l47, qn_l48, qn_l49, qn_l50, qn_l51, qn_l54, qn_l55, qn_l56, qn_l57, qn_l60, qn_l63, qn_l64, qn_l69, qn_l70, qn_l75, qn_l99, qn_l100, qn_l103, qn_l111, qn_l112, qn_l113, qn_l115, qn_l117, qn_l120, qn_l127, qn_l128, qn_l200, qn_l225, qn_l240, qn_l255, qn_l256, qn_l300, qn_l720, qn_l1000, qn_l48271, qn_l1000000, qn_l2147483646, qn_l2147483647, qn_add, qn_mul, qn_sub, qn_addneg, qn_div, qn_mod, qn_modn, qn_lt, qn_le, qn_eq, qn_nat, qn_m1, qn_m1', qn_c1, qn_g1, qn_g1', qn_c1', qn_and, qn_or, qn_shl1, qn_shr1, qn_64, ql_32, ql_add, ql_mul, ql_sub, ql_div, ql_mod, ql_lt, ql_le, ql_eq, ql_l0, ql_l1, qp_gd_T, qp_bd_t, ↓reduceIte, qt_le, qf_le, qt_lt, qf_lt, qt_eq, qf_eq, and_self, not_true_eq_false, not_false_eq_true, true_and, and_true, or_true, true_or, or_false, false_or, and_false, false_and, Nat.reduceAdd, Nat.reduceMul, Nat.reduceSub, Nat.reduceDiv, Nat.reduceMod, Nat.reducePow, Nat.zero_add, Nat.add_zero, Nat.zero_le, Nat.mul_zero, Nat.zero_mul, qm_nk, qm_eq, qm_nj]
    · unfold fM_back
      simp (disch := omega) only [eM_isTicket e56 ht hk, h7, h40, qn_l0, qn_l1, qn_l2, qn_l3, qn_l4, qn_l5, qn_l6, qn_l7, qn_l8, qn_l9, qn_l10, qn_l11, qn_l12, qn_l13, qn_l14, qn_l15, qn_l16, qn_l17, qn_l18, qn_l19, qn_l20, qn_l21, qn_l22, qn_l23, qn_l24, qn_l26, qn_l27, qn_l28, qn_l31, qn_l32, qn_l33, qn_l34, qn_l36, qn_l37, qn_l38, qn_l39, qn_l40, qn_l47, qn_l48, qn_l49, qn_l50, qn_l51, qn_l54, qn_l55, qn_l56, qn_l57, qn_l60, qn_l63, qn_l64, qn_l69, qn_l70, qn_l75, qn_l99, qn_l100, qn_l103, qn_l111, qn_l112, qn_l113, qn_l115, qn_l117, qn_l120, qn_l127, qn_l128, qn_l200, qn_l225, qn_l240, qn_l255, qn_l256, qn_l300, qn_l720, qn_l1000, qn_l48271, qn_l1000000, qn_l2147483646, qn_l2147483647, qn_add, qn_mul, qn_sub, qn_addneg, qn_div, qn_mod, qn_modn, qn_lt, qn_le, qn_eq, qn_nat, qn_m1, qn_m1', qn_c1, qn_g1, qn_g1', qn_c1', qn_and, qn_or, qn_shl1, qn_shr1, qn_64, ql_32, ql_add, ql_mul, ql_sub, ql_div, ql_mod, ql_lt, ql_le, ql_eq, ql_l0, ql_l1, qp_gd_T, qp_bd_t, ↓reduceIte, qt_le, qf_le, qt_lt, qf_lt, qt_eq, qf_eq, and_self, not_true_eq_false, not_false_eq_true, true_and, and_true, or_true, true_or, or_false, false_or, and_false, false_and, Nat.reduceAdd, Nat.reduceMul, Nat.reduceSub, Nat.reduceDiv, Nat.reduceMod, Nat.reducePow, Nat.zero_add, Nat.add_zero, Nat.zero_le, Nat.mul_zero, Nat.zero_mul, qm_nk, qm_eq, qm_nj]
  have hv : zvd n (zrun n L0 ds) (128 + k) := Or.inr (Or.inr (Or.inl ⟨by omega, by omega⟩))
  obtain ⟨I1, I2, a1, a2, b1, b2⟩ := zdo hR' hv h40
  have e1 : (128 + k) / 64 = 2 := by omega
  have e2 : (128 + k) % 64 = k := by omega
  have e3 : zmc (128 + k) = 200 + k := by unfold zmc; rw [e1, e2]
  have e6 : zfall n (zrun n L0 ds) (128 + k) = (zback n k (zrun n L0 ds).1).2.2 := by unfold zfall; rw [if_pos e1, e2]
  rw [e1, e2] at a1
  rw [e3, e6] at b1
  have e37 : I1 37 = I 37 := a2 37 (by omega) (by omega) (by omega)
  obtain ⟨I0, w1, w2⟩ := eL_without0 (J := J) hn h3.1 e4 h3.2.2.2.2.2.1 hok.1 ht hk
  subst w2
  refine ⟨qn (zback n k (zrun n L0 ds).1).2.2, I1, J, I2, J, ?_, ?_, zR_mk b2⟩
  · unfold fX_back
    simp (disch := omega) only [eL_hasT e4 ht hk, e5, w1, a1, qn_l0, qn_l1, qn_l2, qn_l3, qn_l4, qn_l5, qn_l6, qn_l7, qn_l8, qn_l9, qn_l10, qn_l11, qn_l12, qn_l13, qn_l14, qn_l15, qn_l16, qn_l17, qn_l18, qn_l19, qn_l20, qn_l21, qn_l22, qn_l23, qn_l24, qn_l26, qn_l27, qn_l28, qn_l31, qn_l32, qn_l33, qn_l34, qn_l36, qn_l37, qn_l38, qn_l39, qn_l40, qn_l47, qn_l48, qn_l49, qn_l50, qn_l51, qn_l54, qn_l55, qn_l56, qn_l57, qn_l60, qn_l63, qn_l64, qn_l69, qn_l70, qn_l75, qn_l99, qn_l100, qn_l103, qn_l111, qn_l112, qn_l113, qn_l115, qn_l117, qn_l120, qn_l127, qn_l128, qn_l200, qn_l225, qn_l240, qn_l255, qn_l256, qn_l300, qn_l720, qn_l1000, qn_l48271, qn_l1000000, qn_l2147483646, qn_l2147483647, qn_add, qn_mul, qn_sub, qn_addneg, qn_div, qn_mod, qn_modn, qn_lt, qn_le, qn_eq, qn_nat, qn_m1, qn_m1', qn_c1, qn_g1, qn_g1', qn_c1', qn_and, qn_or, qn_shl1, qn_shr1, qn_64, ql_32, ql_add, ql_mul, ql_sub, ql_div, ql_mod, ql_lt, ql_le, ql_eq, ql_l0, ql_l1, qp_gd_T, qp_bd_t, ↓reduceIte, qt_le, qf_le, qt_lt, qf_lt, qt_eq, qf_eq, and_self, not_true_eq_false, not_false_eq_true, true_and, and_true, or_true, true_or, or_false, false_or, and_false, false_and, Nat.reduceAdd, Nat.reduceMul, Nat.reduceSub, Nat.reduceDiv, Nat.reduceMod, Nat.reducePow, Nat.zero_add, Nat.add_zero, Nat.zero_le, Nat.mul_zero, Nat.zero_mul, qm_nk, qm_eq, qm_nj]
  · rw [← e37] at e56 h7
    unfold fM_back
    simp (disch := omega) only [eM_isTicket e56 ht hk, h7, b1, qn_l0, qn_l1, qn_l2, qn_l3, qn_l4, qn_l5, qn_l6, qn_l7, qn_l8, qn_l9, qn_l10, qn_l11, qn_l12, qn_l13, qn_l14, qn_l15, qn_l16, qn_l17, qn_l18, qn_l19, qn_l20, qn_l21, qn_l22, qn_l23, qn_l24, qn_l26, qn_l27, qn_l28, qn_l31, qn_l32, qn_l33, qn_l34, qn_l36, qn_l37, qn_l38, qn_l39, qn_l40, qn_l47, qn_l48, qn_l49, qn_l50, qn_l51, qn_l54, qn_l55, qn_l56, qn_l57, qn_l60, qn_l63, qn_l64, qn_l69, qn_l70, qn_l75, qn_l99, qn_l100, qn_l103, qn_l111, qn_l112, qn_l113, qn_l115, qn_l117, qn_l120, qn_l127, qn_l128, qn_l200, qn_l225, qn_l240, qn_l255, qn_l256, qn_l300, qn_l720, qn_l1000, qn_l48271, qn_l1000000, qn_l2147483646, qn_l2147483647, qn_add, qn_mul, qn_sub, qn_addneg, qn_div, qn_mod, qn_modn, qn_lt, qn_le, qn_eq, qn_nat, qn_m1, qn_m1', qn_c1, qn_g1, qn_g1', qn_c1', qn_and, qn_or, qn_shl1, qn_shr1, qn_64, ql_32, ql_add, ql_mul, ql_sub, ql_div, ql_mod, ql_lt, ql_le, ql_eq, ql_l0, ql_l1, qp_gd_T, qp_bd_t, ↓reduceIte, qt_le, qf_le, qt_lt, qf_lt, qt_eq, qf_eq, and_self, not_true_eq_false, not_false_eq_true, true_and, and_true, or_true, true_or, or_false, false_or, and_false, false_and, Nat.reduceAdd, Nat.reduceMul, Nat.reduceSub, Nat.reduceDiv, Nat.reduceMod, Nat.reducePow, Nat.zero_add, Nat.add_zero, Nat.zero_le, Nat.mul_zero, Nat.zero_mul, qm_nk, qm_eq, qm_nj]
theorem sim_loaves (p : Int32) : zsim (fX_loaves p) (fM_loaves p) := by
  intro I J h
  obtain ⟨n, L0, K, P, ds, kp, hR⟩ := id h
  have hR' : zRp n L0 K P ds kp I J := hR
  obtain ⟨hS, hC, hL⟩ := hR
  have hn := hS.1
  have hok := zSt_ok hS
  obtain ⟨⟨h1, h2, h3⟩, h4, ⟨h5, h6, h7, h8, h9⟩, h10⟩ := id hL
  have hd := hS.2.2.2.1.1
  have hl20 := hok.2.2
  have e55 : I 37 55 = qn (zrun n L0 ds).2 := h9.2.1
  have e3' : I 14 3 = qn (zrun n L0 ds).2 := h3.2.2.1
  have e5 : I 14 5 = qn ds.length := h3.2.2.2.2.1
  have e0 : I 15 0 = qn n := h3.1
  have e0' : I 37 0 = qn n := h9.1
  rcases qn_cs 21 (by omega) p with ⟨l, hl, rfl⟩ | ⟨-, hp⟩
  case inr =>
    have hM : fM_in (Int32.toInt64 p) (ql 0) (ql 20) I J = some (qn 0, I, J) := eM_inPF (lo := 0) (hi := 21) (by omega) (by omega) rfl hp
    refine ⟨-qn 1, I, J, I, J, ?_, ?_, h⟩
    · unfold fX_loaves
      by_cases h0 : p < 0
      · rw [if_pos h0]; rfl
      · rcases hp with hp | hp
        · exact absurd hp h0
        · have : ¬ p ≤ 20 := by
            rw [Int32.le_iff_toInt_le] at hp ⊢
            rw [qn_toInt (by omega)] at hp
            have e20 : (20 : Int32).toInt = 20 := rfl
            omega
          rw [if_neg h0, if_neg this]; rfl
    · unfold fM_loaves
      rw [show fM_in (Int32.toInt64 p) 0 20 I J = some (qn 0, I, J) from hM]
      simp (disch := omega) only [qn_l0, qn_l1, qn_l2, qn_l3, qn_l4, qn_l5, qn_l6, qn_l7, qn_l8, qn_l9, qn_l10, qn_l11, qn_l12, qn_l13, qn_l14, qn_l15, qn_l16, qn_l17, qn_l18, qn_l19, qn_l20, qn_l21, qn_l22, qn_l23, qn_l24, qn_l26, qn_l27, qn_l28, qn_l31, qn_l32, qn_l33, qn_l34, qn_l36, qn_l37, qn_l38, qn_l39, qn_l40, qn_l47, qn_l48, qn_l49, qn_l50, qn_l51, qn_l54, qn_l55, qn_l56, qn_l57, qn_l60, qn_l63, qn_l64, qn_l69, qn_l70, qn_l75, qn_l99, qn_l100, qn_l103, qn_l111, qn_l112, qn_l113, qn_l115, qn_l117, qn_l120, qn_l127, qn_l128, qn_l200, qn_l225, qn_l240, qn_l255, qn_l256, qn_l300, qn_l720, qn_l1000, qn_l48271, qn_l1000000, qn_l2147483646, qn_l2147483647, qn_add, qn_mul, qn_sub, qn_addneg, qn_div, qn_mod, qn_modn, qn_lt, qn_le, qn_eq, qn_nat, qn_m1, qn_m1', qn_c1, qn_g1, qn_g1', qn_c1', qn_and, qn_or, qn_shl1, qn_shr1, qn_64, ql_32, ql_add, ql_mul, ql_sub, ql_div, ql_mod, ql_lt, ql_le, ql_eq, ql_l0, ql_l1, qp_gd_T, qp_bd_t, ↓reduceIte, qt_le, qf_le, qt_lt, qf_lt, qt_eq, qf_eq, and_self, not_true_eq_false, not_false_eq_true, true_and, and_true, or_true, true_or, or_false, false_or, and_false, false_and, Nat.reduceAdd, Nat.reduceMul, Nat.reduceSub, Nat.reduceDiv, Nat.reduceMod, Nat.reducePow, Nat.zero_add, Nat.add_zero, Nat.zero_le, Nat.mul_zero, Nat.zero_mul, qm_nk, qm_eq, qm_nj]
  have hM : ∀ I, fM_in (Int32.toInt64 (qn l)) 0 20 I J = some (qn 1, I, J) := fun I => by rw [qn_64 (by omega)]; exact eM_inN (a := l) (b := 0) (c := 20) (by omega) (by omega) (by omega) (by omega)
  by_cases hn0 : n = 0
  · refine ⟨-qn 4, I, J, I, J, ?_, ?_, h⟩
    · unfold fX_loaves
      simp (disch := omega) only [e0, hn0, qn_l0, qn_l1, qn_l2, qn_l3, qn_l4, qn_l5, qn_l6, qn_l7, qn_l8, qn_l9, qn_l10, qn_l11, qn_l12, qn_l13, qn_l14, qn_l15, qn_l16, qn_l17, qn_l18, qn_l19, qn_l20, qn_l21, qn_l22, qn_l23, qn_l24, qn_l26, qn_l27, qn_l28, qn_l31, qn_l32, qn_l33, qn_l34, qn_l36, qn_l37, qn_l38, qn_l39, qn_l40, qn_l47, qn_l48, qn_l49, qn_l50, qn_l51, qn_l54, qn_l55, qn_l56, qn_l57, qn_l60, qn_l63, qn_l64, qn_l69, qn_l70, qn_l75, qn_l99, qn_l100, qn_l103, qn_l111, qn_l112, qn_l113, qn_l115, qn_l117, qn_l120, qn_l127, qn_l128, qn_l200, qn_l225, qn_l240, qn_l255, qn_l256, qn_l300, qn_l720, qn_l1000, qn_l48271, qn_l1000000, qn_l2147483646, qn_l2147483647, qn_add, qn_mul, qn_sub, qn_addneg, qn_div, qn_mod, qn_modn, qn_lt, qn_le, qn_eq, qn_nat, qn_m1, qn_m1', qn_c1, qn_g1, qn_g1', qn_c1', qn_and, qn_or, qn_shl1, qn_shr1, qn_64, ql_32, ql_add, ql_mul, ql_sub, ql_div, ql_mod, ql_lt, ql_le, ql_eq, ql_l0, ql_l1, qp_gd_T, qp_bd_t, ↓reduceIte, qt_le, qf_le, qt_lt, qf_lt, qt_eq, qf_eq, and_self, not_true_eq_false, not_false_eq_true, true_and, and_true, or_true, true_or, or_false, false_or, and_false, false_and, Nat.reduceAdd, Nat.reduceMul, Nat.reduceSub, Nat.reduceDiv, Nat.reduceMod, Nat.reducePow, Nat.zero_add, Nat.add_zero, Nat.zero_le, Nat.mul_zero, Nat.zero_mul, qm_nk, qm_eq, qm_nj]
    · unfold fM_loaves
      rw [hM]
      simp (disch := omega) only [e0', hn0, qn_l0, qn_l1, qn_l2, qn_l3, qn_l4, qn_l5, qn_l6, qn_l7, qn_l8, qn_l9, qn_l10, qn_l11, qn_l12, qn_l13, qn_l14, qn_l15, qn_l16, qn_l17, qn_l18, qn_l19, qn_l20, qn_l21, qn_l22, qn_l23, qn_l24, qn_l26, qn_l27, qn_l28, qn_l31, qn_l32, qn_l33, qn_l34, qn_l36, qn_l37, qn_l38, qn_l39, qn_l40, qn_l47, qn_l48, qn_l49, qn_l50, qn_l51, qn_l54, qn_l55, qn_l56, qn_l57, qn_l60, qn_l63, qn_l64, qn_l69, qn_l70, qn_l75, qn_l99, qn_l100, qn_l103, qn_l111, qn_l112, qn_l113, qn_l115, qn_l117, qn_l120, qn_l127, qn_l128, qn_l200, qn_l225, qn_l240, qn_l255, qn_l256, qn_l300, qn_l720, qn_l1000, qn_l48271, qn_l1000000, qn_l2147483646, qn_l2147483647, qn_add, qn_mul, qn_sub, qn_addneg, qn_div, qn_mod, qn_modn, qn_lt, qn_le, qn_eq, qn_nat, qn_m1, qn_m1', qn_c1, qn_g1, qn_g1', qn_c1', qn_and, qn_or, qn_shl1, qn_shr1, qn_64, ql_32, ql_add, ql_mul, ql_sub, ql_div, ql_mod, ql_lt, ql_le, ql_eq, ql_l0, ql_l1, qp_gd_T, qp_bd_t, ↓reduceIte, qt_le, qf_le, qt_lt, qf_lt, qt_eq, qf_eq, and_self, not_true_eq_false, not_false_eq_true, true_and, and_true, or_true, true_or, or_false, false_or, and_false, false_and, Nat.reduceAdd, Nat.reduceMul, Nat.reduceSub, Nat.reduceDiv, Nat.reduceMod, Nat.reducePow, Nat.zero_add, Nat.add_zero, Nat.zero_le, Nat.mul_zero, Nat.zero_mul, qm_nk, qm_eq, qm_nj]
  by_cases hs : (zrun n L0 ds).2 = l
  · refine ⟨-qn 4, I, J, I, J, ?_, ?_, h⟩
    · unfold fX_loaves
      simp (disch := omega) only [e0, hn0, e3', hs, qn_l0, qn_l1, qn_l2, qn_l3, qn_l4, qn_l5, qn_l6, qn_l7, qn_l8, qn_l9, qn_l10, qn_l11, qn_l12, qn_l13, qn_l14, qn_l15, qn_l16, qn_l17, qn_l18, qn_l19, qn_l20, qn_l21, qn_l22, qn_l23, qn_l24, qn_l26, qn_l27, qn_l28, qn_l31, qn_l32, qn_l33, qn_l34, qn_l36, qn_l37, qn_l38, qn_l39, qn_l40, qn_l47, qn_l48, qn_l49, qn_l50, qn_l51, qn_l54, qn_l55, qn_l56, qn_l57, qn_l60, qn_l63, qn_l64, qn_l69, qn_l70, qn_l75, qn_l99, qn_l100, qn_l103, qn_l111, qn_l112, qn_l113, qn_l115, qn_l117, qn_l120, qn_l127, qn_l128, qn_l200, qn_l225, qn_l240, qn_l255, qn_l256, qn_l300, qn_l720, qn_l1000, qn_l48271, qn_l1000000, qn_l2147483646, qn_l2147483647, qn_add, qn_mul, qn_sub, qn_addneg, qn_div, qn_mod, qn_modn, qn_lt, qn_le, qn_eq, qn_nat, qn_m1, qn_m1', qn_c1, qn_g1, qn_g1', qn_c1', qn_and, qn_or, qn_shl1, qn_shr1, qn_64, ql_32, ql_add, ql_mul, ql_sub, ql_div, ql_mod, ql_lt, ql_le, ql_eq, ql_l0, ql_l1, qp_gd_T, qp_bd_t, ↓reduceIte, qt_le, qf_le, qt_lt, qf_lt, qt_eq, qf_eq, and_self, not_true_eq_false, not_false_eq_true, true_and, and_true, or_true, true_or, or_false, false_or, and_false, false_and, Nat.reduceAdd, Nat.reduceMul, Nat.reduceSub, Nat.reduceDiv, Nat.reduceMod, Nat.reducePow, Nat.zero_add, Nat.add_zero, Nat.zero_le, Nat.mul_zero, Nat.zero_mul, qm_nk, qm_eq, qm_nj]
    · unfold fM_loaves
      rw [hM]
      simp (disch := omega) only [e0', hn0, e55, hs, qn_l0, qn_l1, qn_l2, qn_l3, qn_l4, qn_l5, qn_l6, qn_l7, qn_l8, qn_l9, qn_l10, qn_l11, qn_l12, qn_l13, qn_l14, qn_l15, qn_l16, qn_l17, qn_l18, qn_l19, qn_l20, qn_l21, qn_l22, qn_l23, qn_l24, qn_l26, qn_l27, qn_l28, qn_l31, qn_l32, qn_l33, qn_l34, qn_l36, qn_l37, qn_l38, qn_l39, qn_l40, qn_l47, qn_l48, qn_l49, qn_l50, qn_l51, qn_l54, qn_l55, qn_l56, qn_l57, qn_l60, qn_l63, qn_l64, qn_l69, qn_l70, qn_l75, qn_l99, qn_l100, qn_l103, qn_l111, qn_l112, qn_l113, qn_l115, qn_l117, qn_l120, qn_l127, qn_l128, qn_l200, qn_l225, qn_l240, qn_l255, qn_l256, qn_l300, qn_l720, qn_l1000, qn_l48271, qn_l1000000, qn_l2147483646, qn_l2147483647, qn_add, qn_mul, qn_sub, qn_addneg, qn_div, qn_mod, qn_modn, qn_lt, qn_le, qn_eq, qn_nat, qn_m1, qn_m1', qn_c1, qn_g1, qn_g1', qn_c1', qn_and, qn_or, qn_shl1, qn_shr1, qn_64, ql_32, ql_add, ql_mul, ql_sub, ql_div, ql_mod, ql_lt, ql_le, ql_eq, ql_l0, ql_l1, qp_gd_T, qp_bd_t, ↓reduceIte, qt_le, qf_le, qt_lt, qf_lt, qt_eq, qf_eq, and_self, not_true_eq_false, not_false_eq_true, true_and, and_true, or_true, true_or, or_false, false_or, and_false, false_and, Nat.reduceAdd, Nat.reduceMul, Nat.reduceSub, Nat.reduceDiv, Nat.reduceMod, Nat.reducePow, Nat.zero_add, Nat.add_zero, Nat.zero_le, Nat.mul_zero, Nat.zero_mul, qm_nk, qm_eq, qm_nj]
  by_cases h40 : ds.length < 40
  case neg =>
    have h40 : ds.length = 40 := by omega
    refine ⟨-qn 2, I, J, I, J, ?_, ?_, h⟩
    · unfold fX_loaves
      simp (disch := omega) only [e0, hn0, e3', hs, e5, h40, qn_l0, qn_l1, qn_l2, qn_l3, qn_l4, qn_l5, qn_l6, qn_l7, qn_l8, qn_l9, qn_l10, qn_l11, qn_l12, qn_l13, qn_l14, qn_l15, qn_l16, qn_l17, qn_l18, qn_l19, qn_l20, qn_l21, qn_l22, qn_l23, qn_l24, qn_l26, qn_l27, qn_l28, qn_l31, qn_l32, qn_l33, qn_l34, qn_l36, qn_l37, qn_l38, qn_l39, qn_l40, qn_l47, qn_l48, qn_l49, qn_l50, qn_l51, qn_l54, qn_l55, qn_l56, qn_l57, qn_l60, qn_l63, qn_l64, qn_l69, qn_l70, qn_l75, qn_l99, qn_l100, qn_l103, qn_l111, qn_l112, qn_l113, qn_l115, qn_l117, qn_l120, qn_l127, qn_l128, qn_l200, qn_l225, qn_l240, qn_l255, qn_l256, qn_l300, qn_l720, qn_l1000, qn_l48271, qn_l1000000, qn_l2147483646, qn_l2147483647, qn_add, qn_mul, qn_sub, qn_addneg, qn_div, qn_mod, qn_modn, qn_lt, qn_le, qn_eq, qn_nat, qn_m1, qn_m1', qn_c1, qn_g1, qn_g1', qn_c1', qn_and, qn_or, qn_shl1, qn_shr1, qn_64, ql_32, ql_add, ql_mul, ql_sub, ql_div, ql_mod, ql_lt, ql_le, ql_eq, ql_l0, ql_l1, qp_gd_T, qp_bd_t, ↓reduceIte, qt_le, qf_le, qt_lt, qf_lt, qt_eq, qf_eq, and_self, not_true_eq_false, not_false_eq_true, true_and, and_true, or_true, true_or, or_false, false_or, and_false, false_and, Nat.reduceAdd, Nat.reduceMul, Nat.reduceSub, Nat.reduceDiv, Nat.reduceMod, Nat.reducePow, Nat.zero_add, Nat.add_zero, Nat.zero_le, Nat.mul_zero, Nat.zero_mul, qm_nk, qm_eq, qm_nj]
    · unfold fM_loaves
      rw [hM]
      simp (disch := omega) only [e0', hn0, e55, hs, h7, h40, qn_l0, qn_l1, qn_l2, qn_l3, qn_l4, qn_l5, qn_l6, qn_l7, qn_l8, qn_l9, qn_l10, qn_l11, qn_l12, qn_l13, qn_l14, qn_l15, qn_l16, qn_l17, qn_l18, qn_l19, qn_l20, qn_l21, qn_l22, qn_l23, qn_l24, qn_l26, qn_l27, qn_l28, qn_l31, qn_l32, qn_l33, qn_l34, qn_l36, qn_l37, qn_l38, qn_l39, qn_l40, qn_l47, qn_l48, qn_l49, qn_l50, qn_l51, qn_l54, qn_l55, qn_l56, qn_l57, qn_l60, qn_l63, qn_l64, qn_l69, qn_l70, qn_l75, qn_l99, qn_l100, qn_l103, qn_l111, qn_l112, qn_l113, qn_l115, qn_l117, qn_l120, qn_l127, qn_l128, qn_l200, qn_l225, qn_l240, qn_l255, qn_l256, qn_l300, qn_l720, qn_l1000, qn_l48271, qn_l1000000, qn_l2147483646, qn_l2147483647, qn_add, qn_mul, qn_sub, qn_addneg, qn_div, qn_mod, qn_modn, qn_lt, qn_le, qn_eq, qn_nat, qn_m1, qn_m1', qn_c1, qn_g1, qn_g1', qn_c1', qn_and, qn_or, qn_shl1, qn_shr1, qn_64, ql_32, ql_add, ql_mul, ql_sub, ql_div, ql_mod, ql_lt, ql_le, ql_eq, ql_l0, ql_l1, qp_gd_T, qp_bd_t, ↓reduceIte, qt_le, qf_le, qt_lt, qf_lt, qt_eq, qf_eq, and_self, not_true_eq_false, not_false_eq_true, true_and, and_true, or_true, true_or, or_false, false_or, and_false, false_and, Nat.reduceAdd, Nat.reduceMul, Nat.reduceSub, Nat.reduceDiv, Nat.reduceMod, Nat.reducePow, Nat.zero_add, Nat.add_zero, Nat.zero_le, Nat.mul_zero, Nat.zero_mul, qm_nk, qm_eq, qm_nj]
  have hv : zvd n (zrun n L0 ds) (192 + l) := Or.inr (Or.inr (Or.inr ⟨by omega, by omega⟩))
  obtain ⟨I1, I2, a1, a2, b1, b2⟩ := zdo hR' hv h40
  have e1 : (192 + l) / 64 = 3 := by omega
  have e2 : (192 + l) % 64 = l := by omega
  have e3 : zmc (192 + l) = 300 + l := by unfold zmc; rw [e1, e2]
  rw [e1, e2] at a1
  rw [e3] at b1
  have e37 : I1 37 = I 37 := a2 37 (by omega) (by omega) (by omega)
  refine ⟨qn (zrun n L0 ds).2, I1, J, I2, J, ?_, ?_, zR_mk b2⟩
  · unfold fX_loaves
    simp (disch := omega) only [e0, hn0, e3', hs, e5, a1, qn_l0, qn_l1, qn_l2, qn_l3, qn_l4, qn_l5, qn_l6, qn_l7, qn_l8, qn_l9, qn_l10, qn_l11, qn_l12, qn_l13, qn_l14, qn_l15, qn_l16, qn_l17, qn_l18, qn_l19, qn_l20, qn_l21, qn_l22, qn_l23, qn_l24, qn_l26, qn_l27, qn_l28, qn_l31, qn_l32, qn_l33, qn_l34, qn_l36, qn_l37, qn_l38, qn_l39, qn_l40, qn_l47, qn_l48, qn_l49, qn_l50, qn_l51, qn_l54, qn_l55, qn_l56, qn_l57, qn_l60, qn_l63, qn_l64, qn_l69, qn_l70, qn_l75, qn_l99, qn_l100, qn_l103, qn_l111, qn_l112, qn_l113, qn_l115, qn_l117, qn_l120, qn_l127, qn_l128, qn_l200, qn_l225, qn_l240, qn_l255, qn_l256, qn_l300, qn_l720, qn_l1000, qn_l48271, qn_l1000000, qn_l2147483646, qn_l2147483647, qn_add, qn_mul, qn_sub, qn_addneg, qn_div, qn_mod, qn_modn, qn_lt, qn_le, qn_eq, qn_nat, qn_m1, qn_m1', qn_c1, qn_g1, qn_g1', qn_c1', qn_and, qn_or, qn_shl1, qn_shr1, qn_64, ql_32, ql_add, ql_mul, ql_sub, ql_div, ql_mod, ql_lt, ql_le, ql_eq, ql_l0, ql_l1, qp_gd_T, qp_bd_t, ↓reduceIte, qt_le, qf_le, qt_lt, qf_lt, qt_eq, qf_eq, and_self, not_true_eq_false, not_false_eq_true, true_and, and_true, or_true, true_or, or_false, false_or, and_false, false_and, Nat.reduceAdd, Nat.reduceMul, Nat.reduceSub, Nat.reduceDiv, Nat.reduceMod, Nat.reducePow, Nat.zero_add, Nat.add_zero, Nat.zero_le, Nat.mul_zero, Nat.zero_mul, qm_nk, qm_eq, qm_nj]
  · rw [← e37] at e55 h7 e0'
    unfold fM_loaves
    rw [hM]
    simp (disch := omega) only [e0', hn0, e55, hs, h7, b1, qn_l0, qn_l1, qn_l2, qn_l3, qn_l4, qn_l5, qn_l6, qn_l7, qn_l8, qn_l9, qn_l10, qn_l11, qn_l12, qn_l13, qn_l14, qn_l15, qn_l16, qn_l17, qn_l18, qn_l19, qn_l20, qn_l21, qn_l22, qn_l23, qn_l24, qn_l26, qn_l27, qn_l28, qn_l31, qn_l32, qn_l33, qn_l34, qn_l36, qn_l37, qn_l38, qn_l39, qn_l40, qn_l47, qn_l48, qn_l49, qn_l50, qn_l51, qn_l54, qn_l55, qn_l56, qn_l57, qn_l60, qn_l63, qn_l64, qn_l69, qn_l70, qn_l75, qn_l99, qn_l100, qn_l103, qn_l111, qn_l112, qn_l113, qn_l115, qn_l117, qn_l120, qn_l127, qn_l128, qn_l200, qn_l225, qn_l240, qn_l255, qn_l256, qn_l300, qn_l720, qn_l1000, qn_l48271, qn_l1000000, qn_l2147483646, qn_l2147483647, qn_add, qn_mul, qn_sub, qn_addneg, qn_div, qn_mod, qn_modn, qn_lt, qn_le, qn_eq, qn_nat, qn_m1, qn_m1', qn_c1, qn_g1, qn_g1', qn_c1', qn_and, qn_or, qn_shl1, qn_shr1, qn_64, ql_32, ql_add, ql_mul, ql_sub, ql_div, ql_mod, ql_lt, ql_le, ql_eq, ql_l0, ql_l1, qp_gd_T, qp_bd_t, ↓reduceIte, qt_le, qf_le, qt_lt, qf_lt, qt_eq, qf_eq, and_self, not_true_eq_false, not_false_eq_true, true_and, and_true, or_true, true_or, or_false, false_or, and_false, false_and, Nat.reduceAdd, Nat.reduceMul, Nat.reduceSub, Nat.reduceDiv, Nat.reduceMod, Nat.reducePow, Nat.zero_add, Nat.add_zero, Nat.zero_le, Nat.mul_zero, Nat.zero_mul, qm_nk, qm_eq, qm_nj]
theorem sim_undo (p : Int32) : zsim (fX_undo p) (fM_undo p) := by
  intro I J h
  obtain ⟨n, L0, K, P, ds, kp, hR⟩ := id h
  obtain ⟨hS, hC, hL⟩ := hR
  have hn := hS.1
  have hok := zSt_ok hS
  obtain ⟨⟨h1, h2, h3⟩, h4, ⟨h5, h6, h7, h8, h9⟩, h10⟩ := id hL
  have hd := hS.2.2.2.1.1
  have e5 : I 14 5 = qn ds.length := h3.2.2.2.2.1
  rcases qn_cs (ds.length + 1) (by omega) p with ⟨m, hm, rfl⟩ | ⟨-, hp⟩
  case inr =>
    have hM : fM_in (Int32.toInt64 p) 0 (Int32.toInt64 (qn ds.length)) I J = some (qn 0, I, J) := eM_inPF (lo := 0) (hi := ds.length + 1) (by omega) (by omega) (by rw [Int32.toInt_toInt64, qn_toInt (by omega)]; omega) hp
    refine ⟨-qn 1, I, J, I, J, ?_, ?_, h⟩
    · unfold fX_undo
      by_cases h0 : p < 0
      · rw [if_pos h0]; rfl
      · rcases hp with hp | hp
        · exact absurd hp h0
        · have : ¬ p ≤ qn ds.length := by
            rw [Int32.le_iff_toInt_le] at hp ⊢
            rw [qn_toInt (by omega)] at hp ⊢
            omega
          rw [if_neg h0, e5, if_neg this]; rfl
    · unfold fM_undo
      rw [h7, hM]
      simp (disch := omega) only [qn_l0, qn_l1, qn_l2, qn_l3, qn_l4, qn_l5, qn_l6, qn_l7, qn_l8, qn_l9, qn_l10, qn_l11, qn_l12, qn_l13, qn_l14, qn_l15, qn_l16, qn_l17, qn_l18, qn_l19, qn_l20, qn_l21, qn_l22, qn_l23, qn_l24, qn_l26, qn_l27, qn_l28, qn_l31, qn_l32, qn_l33, qn_l34, qn_l36, qn_l37, qn_l38, qn_l39, qn_l40, qn_l47, qn_l48, qn_l49, qn_l50, qn_l51, qn_l54, qn_l55, qn_l56, qn_l57, qn_l60, qn_l63, qn_l64, qn_l69, qn_l70, qn_l75, qn_l99, qn_l100, qn_l103, qn_l111, qn_l112, qn_l113, qn_l115, qn_l117, qn_l120, qn_l127, qn_l128, qn_l200, qn_l225, qn_l240, qn_l255, qn_l256, qn_l300, qn_l720, qn_l1000, qn_l48271, qn_l1000000, qn_l2147483646, qn_l2147483647, qn_add, qn_mul, qn_sub, qn_addneg, qn_div, qn_mod, qn_modn, qn_lt, qn_le, qn_eq, qn_nat, qn_m1, qn_m1', qn_c1, qn_g1, qn_g1', qn_c1', qn_and, qn_or, qn_shl1, qn_shr1, qn_64, ql_32, ql_add, ql_mul, ql_sub, ql_div, ql_mod, ql_lt, ql_le, ql_eq, ql_l0, ql_l1, qp_gd_T, qp_bd_t, ↓reduceIte, qt_le, qf_le, qt_lt, qf_lt, qt_eq, qf_eq, and_self, not_true_eq_false, not_false_eq_true, true_and, and_true, or_true, true_or, or_false, false_or, and_false, false_and, Nat.reduceAdd, Nat.reduceMul, Nat.reduceSub, Nat.reduceDiv, Nat.reduceMod, Nat.reducePow, Nat.zero_add, Nat.add_zero, Nat.zero_le, Nat.mul_zero, Nat.zero_mul, qm_nk, qm_eq, qm_nj]
  obtain ⟨I1, a1, a2, a3⟩ := eL_redo (J := J) hn hS.2.1 h3.1 h1 h3.2.2.2.2.2.2 hS.2.2.2.1.2 hd (show m ≤ ds.length by omega)
  have e37 : I1 37 = I 37 := a3 37 (by omega) (by omega) (by omega)
  obtain ⟨I2, b1, b2, b3⟩ := eM_begin (J := J) (I := I1) (n := n) (L0 := L0) hn (by rw [e37]; exact h9.1) (by rw [e37]; exact h5)
  obtain ⟨I3, c1, c2, c3, c4, c5⟩ := eM_undo_b (J := J) (I := I2) (m := m) (a2 := qn (ds.length - m)) (ds := ds) hn hS.2.1 b2 (fun d hd => by rw [b3.2 (15 + d) (by omega), e37]; exact h8 d hd) hS.2.2.2.1.2 hd (by omega)
  have f : ∀ c, c ≠ 37 → I3 c = I1 c := fun c hc => (c4 c hc).trans (b3.1 c hc)
  have hlt : (ds.take m).length = m := by rw [List.length_take]; omega
  refine ⟨qn (ds.length - m), I1, J, I3, J, ?_, ?_, zR_mk ⟨zSt_take (m := m) hS, zC_line hC a3 f, zLn_line (ds' := ds.take m) hL a2 a3 c2 (by rw [hlt]; exact c3) (fun d hd => ?_) f (fun j hj => ?_) hn⟩⟩
  · unfold fX_undo
    simp (disch := omega) only [e5, a1, qn_l0, qn_l1, qn_l2, qn_l3, qn_l4, qn_l5, qn_l6, qn_l7, qn_l8, qn_l9, qn_l10, qn_l11, qn_l12, qn_l13, qn_l14, qn_l15, qn_l16, qn_l17, qn_l18, qn_l19, qn_l20, qn_l21, qn_l22, qn_l23, qn_l24, qn_l26, qn_l27, qn_l28, qn_l31, qn_l32, qn_l33, qn_l34, qn_l36, qn_l37, qn_l38, qn_l39, qn_l40, qn_l47, qn_l48, qn_l49, qn_l50, qn_l51, qn_l54, qn_l55, qn_l56, qn_l57, qn_l60, qn_l63, qn_l64, qn_l69, qn_l70, qn_l75, qn_l99, qn_l100, qn_l103, qn_l111, qn_l112, qn_l113, qn_l115, qn_l117, qn_l120, qn_l127, qn_l128, qn_l200, qn_l225, qn_l240, qn_l255, qn_l256, qn_l300, qn_l720, qn_l1000, qn_l48271, qn_l1000000, qn_l2147483646, qn_l2147483647, qn_add, qn_mul, qn_sub, qn_addneg, qn_div, qn_mod, qn_modn, qn_lt, qn_le, qn_eq, qn_nat, qn_m1, qn_m1', qn_c1, qn_g1, qn_g1', qn_c1', qn_and, qn_or, qn_shl1, qn_shr1, qn_64, ql_32, ql_add, ql_mul, ql_sub, ql_div, ql_mod, ql_lt, ql_le, ql_eq, ql_l0, ql_l1, qp_gd_T, qp_bd_t, ↓reduceIte, qt_le, qf_le, qt_lt, qf_lt, qt_eq, qf_eq, and_self, not_true_eq_false, not_false_eq_true, true_and, and_true, or_true, true_or, or_false, false_or, and_false, false_and, Nat.reduceAdd, Nat.reduceMul, Nat.reduceSub, Nat.reduceDiv, Nat.reduceMod, Nat.reducePow, Nat.zero_add, Nat.add_zero, Nat.zero_le, Nat.mul_zero, Nat.zero_mul, qm_nk, qm_eq, qm_nj]
  · unfold fM_undo
    have e14 : I1 37 14 = qn ds.length := by rw [e37]; exact h7
    simp (disch := omega) only [e14, eM_inN, b1, c1, qn_l0, qn_l1, qn_l2, qn_l3, qn_l4, qn_l5, qn_l6, qn_l7, qn_l8, qn_l9, qn_l10, qn_l11, qn_l12, qn_l13, qn_l14, qn_l15, qn_l16, qn_l17, qn_l18, qn_l19, qn_l20, qn_l21, qn_l22, qn_l23, qn_l24, qn_l26, qn_l27, qn_l28, qn_l31, qn_l32, qn_l33, qn_l34, qn_l36, qn_l37, qn_l38, qn_l39, qn_l40, qn_l47, qn_l48, qn_l49, qn_l50, qn_l51, qn_l54, qn_l55, qn_l56, qn_l57, qn_l60, qn_l63, qn_l64, qn_l69, qn_l70, qn_l75, qn_l99, qn_l100, qn_l103, qn_l111, qn_l112, qn_l113, qn_l115, qn_l117, qn_l120, qn_l127, qn_l128, qn_l200, qn_l225, qn_l240, qn_l255, qn_l256, qn_l300, qn_l720, qn_l1000, qn_l48271, qn_l1000000, qn_l2147483646, qn_l2147483647, qn_add, qn_mul, qn_sub, qn_addneg, qn_div, qn_mod, qn_modn, qn_lt, qn_le, qn_eq, qn_nat, qn_m1, qn_m1', qn_c1, qn_g1, qn_g1', qn_c1', qn_and, qn_or, qn_shl1, qn_shr1, qn_64, ql_32, ql_add, ql_mul, ql_sub, ql_div, ql_mod, ql_lt, ql_le, ql_eq, ql_l0, ql_l1, qp_gd_T, qp_bd_t, ↓reduceIte, qt_le, qf_le, qt_lt, qf_lt, qt_eq, qf_eq, and_self, not_true_eq_false, not_false_eq_true, true_and, and_true, or_true, true_or, or_false, false_or, and_false, false_and, Nat.reduceAdd, Nat.reduceMul, Nat.reduceSub, Nat.reduceDiv, Nat.reduceMod, Nat.reducePow, Nat.zero_add, Nat.add_zero, Nat.zero_le, Nat.mul_zero, Nat.zero_mul, qm_nk, qm_eq, qm_nj]
  · rw [hlt] at hd
    rw [c5 (15 + d) (by omega) (by omega), b3.2 (15 + d) (by omega), e37, zat_take hd]; exact h8 d (by omega)
  · rw [c5 j (by omega) (by omega), b3.2 j (by omega)]

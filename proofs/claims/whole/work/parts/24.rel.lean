/-! THE MODEL'S DEEDS; WHAT HOLDS BETWEEN CLASS AND MODEL -/
/-- a deed as the model numbers it -/
def zmc (c : Nat) : Nat := 100 * (c / 64) + c % 64
def zMs (n : Nat) (st : ZR) (R : Nat → Int32) : Prop := R 0 = qn n ∧ R 55 = qn st.2 ∧ R 56 = qn st.1.length ∧ zrow 57 st.1 R ∧ zrow 69 (zls n st.1) R
def zrd (ds : List Nat) (R : Nat → Int32) : Prop := ∀ d, d < ds.length → R (15 + d) = qn (zmc (zat ds d))
def zfall (n : Nat) (st : ZR) (c : Nat) : Nat := if c / 64 = 2 then (zback n (c % 64) st.1).2.2 else 0
theorem zMs_eq {n : Nat} {st : ZR} {R R' : Nat → Int32} (h : zMs n st R) (hl : st.1.length ≤ 12) (hn : n ≤ 6) (hT : zT n st.1) (e0 : R' 0 = R 0) (e : ∀ j, 55 ≤ j → j < 75 → R' j = R j) : zMs n st R' := by
  obtain ⟨x0, x1, x2, x3, x4⟩ := h
  have hlz : (zls n st.1).length = n := (zls_P hT).2.1
  exact ⟨by rw [e0]; exact x0, by rw [e 55 (by omega) (by omega)]; exact x1, by rw [e 56 (by omega) (by omega)]; exact x2, fun p hp => by rw [e (57 + p) (by omega) (by omega)]; exact x3 p hp, fun p hp => by rw [e (69 + p) (by omega) (by omega)]; exact x4 p hp⟩
section MD
variable {I : Nat → Nat → Int32} {J : Nat → Nat → Int64}
theorem eM_goDeed {n c : Nat} {st : ZR} (hn : n ≤ 6) (h : zMs n st (I 37)) (hok : zRok n st) (hv : zvd n st c) :
    ∃ I', fM_goDeed_37 (qn (zmc c)) I J = some (qn (zfall n st c), I', J) ∧ zMs n (zdeed n st c) (I' 37) ∧ zfr 37 55 75 I I' := by
  have hlz : (zls n st.1).length = n := (zls_P hok.1).2.1
  obtain ⟨x0, x1, x2, x3, x4⟩ := id h
  obtain ⟨o1, o2, o3⟩ := id hok
  unfold fM_goDeed_37 zfall zdeed
  rcases hv with hv | ⟨hv, v1, v2, v3⟩ | ⟨hv, v1⟩ | ⟨hv, v1⟩
  · subst hv
    rw [show zmc 0 = 0 from rfl]
    simp (disch := omega) only [qn_l0, qn_l1, qn_l2, qn_l3, qn_l4, qn_l5, qn_l6, qn_l7, qn_l8, qn_l9, qn_l10, qn_l11, qn_l12, qn_l13, qn_l14, qn_l15, qn_l16, qn_l17, qn_l18, qn_l19, qn_l20, qn_l21, qn_l22, qn_l23, qn_l24, qn_l26, qn_l27, qn_l28, qn_l31, qn_l32, qn_l33, qn_l34, qn_l36, qn_l37, qn_l38, qn_l39, qn_l40, qn_l47, qn_l48, qn_l49, qn_l50, qn_l51, qn_l54, qn_l55, qn_l56, qn_l57, qn_l60, qn_l63, qn_l64, qn_l69, qn_l70, qn_l75, qn_l99, qn_l100, qn_l103, qn_l111, qn_l112, qn_l113, qn_l115, qn_l117, qn_l120, qn_l127, qn_l128, qn_l200, qn_l225, qn_l240, qn_l255, qn_l256, qn_l300, qn_l720, qn_l1000, qn_l48271, qn_l1000000, qn_l2147483646, qn_l2147483647, qn_add, qn_mul, qn_sub, qn_addneg, qn_div, qn_mod, qn_modn, qn_lt, qn_le, qn_eq, qn_nat, qn_m1, qn_m1', qn_c1, qn_g1, qn_g1', qn_c1', qn_and, qn_or, qn_shl1, qn_shr1, qn_64, ql_32, ql_add, ql_mul, ql_sub, ql_div, ql_mod, ql_lt, ql_le, ql_eq, ql_l0, ql_l1, qp_gd_T, qp_bd_t, ↓reduceIte, qt_le, qf_le, qt_lt, qf_lt, qt_eq, qf_eq, and_self, not_true_eq_false, not_false_eq_true, true_and, and_true, or_true, true_or, or_false, false_or, and_false, false_and, Nat.reduceAdd, Nat.reduceMul, Nat.reduceSub, Nat.reduceDiv, Nat.reduceMod, Nat.reducePow, Nat.zero_add, Nat.add_zero, Nat.zero_le, Nat.mul_zero, Nat.zero_mul, qm_nk, qm_eq, qm_nj]
    exact ⟨I, rfl, h, zfr_rfl⟩
  · have e : zmc c = 100 + c % 64 := by unfold zmc; rw [hv]
    have e2 : 100 + c % 64 - 100 = c % 64 := by omega
    obtain ⟨I1, a1, a2, a3⟩ := eM_goTo_37 (J := J) (off := 69) (s := zls n st.1) (i := c % 64 / 8) (p := c % 64 % 8) (I := qp_up (qp_up I 37 (57 + st.1.length) (qn (c % 64))) 37 56 (qn (st.1.length + 1))) (zls_P o1) hn (fun p hp => by rw [qm_nj (by omega), qm_nj (by omega)]; exact x4 p hp) (by omega) v1 v2
    rw [e, hv]
    simp (disch := omega) only [e2, x0, x2, a1, qn_l0, qn_l1, qn_l2, qn_l3, qn_l4, qn_l5, qn_l6, qn_l7, qn_l8, qn_l9, qn_l10, qn_l11, qn_l12, qn_l13, qn_l14, qn_l15, qn_l16, qn_l17, qn_l18, qn_l19, qn_l20, qn_l21, qn_l22, qn_l23, qn_l24, qn_l26, qn_l27, qn_l28, qn_l31, qn_l32, qn_l33, qn_l34, qn_l36, qn_l37, qn_l38, qn_l39, qn_l40, qn_l47, qn_l48, qn_l49, qn_l50, qn_l51, qn_l54, qn_l55, qn_l56, qn_l57, qn_l60, qn_l63, qn_l64, qn_l69, qn_l70, qn_l75, qn_l99, qn_l100, qn_l103, qn_l111, qn_l112, qn_l113, qn_l115, qn_l117, qn_l120, qn_l127, qn_l128, qn_l200, qn_l225, qn_l240, qn_l255, qn_l256, qn_l300, qn_l720, qn_l1000, qn_l48271, qn_l1000000, qn_l2147483646, qn_l2147483647, qn_add, qn_mul, qn_sub, qn_addneg, qn_div, qn_mod, qn_modn, qn_lt, qn_le, qn_eq, qn_nat, qn_m1, qn_m1', qn_c1, qn_g1, qn_g1', qn_c1', qn_and, qn_or, qn_shl1, qn_shr1, qn_64, ql_32, ql_add, ql_mul, ql_sub, ql_div, ql_mod, ql_lt, ql_le, ql_eq, ql_l0, ql_l1, qp_gd_T, qp_bd_t, ↓reduceIte, qt_le, qf_le, qt_lt, qf_lt, qt_eq, qf_eq, and_self, not_true_eq_false, not_false_eq_true, true_and, and_true, or_true, true_or, or_false, false_or, and_false, false_and, Nat.reduceAdd, Nat.reduceMul, Nat.reduceSub, Nat.reduceDiv, Nat.reduceMod, Nat.reducePow, Nat.zero_add, Nat.add_zero, Nat.zero_le, Nat.mul_zero, Nat.zero_mul, qm_nk, qm_eq, qm_nj]
    have hlen : (st.1 ++ [c % 64]).length = st.1.length + 1 := by rw [List.length_append]; rfl
    refine ⟨I1, rfl, ⟨?_, ?_, ?_, ?_, ?_⟩, zfr_tr (zfr_tr (zfr_up (by omega) (by omega)) (zfr_up (by omega) (by omega))) (zfr_wd a3 (by omega) (by omega))⟩
    · rw [a3.2 0 (by omega)]; simp (disch := omega) only [x0, qm_nk, qm_eq, qm_nj]
    · rw [a3.2 55 (by omega)]; simp (disch := omega) only [x1, qm_nk, qm_eq, qm_nj]
    · rw [a3.2 56 (by omega), hlen]; exact qm_eq rfl
    · intro p hp
      have hp' : p < st.1.length + 1 := by rw [← hlen]; exact hp
      rw [a3.2 (57 + p) (by omega), zat_app (by omega), qm_nj (by omega), qm_if]
      by_cases e : p = st.1.length
      · rw [if_pos (by omega), if_pos e]
      · rw [if_neg (by omega), if_neg e]; exact x3 p (by omega)
    · rw [zls_app]; exact a2
  · have e : zmc c = 200 + c % 64 := by unfold zmc; rw [hv]
    have e2 : 200 + c % 64 - 200 = c % 64 := by omega
    obtain ⟨I1, a1, a2, a3, a4, a5⟩ := eM_goBack_37 (J := J) (k := c % 64) hn x0 x2 x3 o1 o2 v1
    rw [e, hv]
    simp (disch := omega) only [e2, a1, qn_l0, qn_l1, qn_l2, qn_l3, qn_l4, qn_l5, qn_l6, qn_l7, qn_l8, qn_l9, qn_l10, qn_l11, qn_l12, qn_l13, qn_l14, qn_l15, qn_l16, qn_l17, qn_l18, qn_l19, qn_l20, qn_l21, qn_l22, qn_l23, qn_l24, qn_l26, qn_l27, qn_l28, qn_l31, qn_l32, qn_l33, qn_l34, qn_l36, qn_l37, qn_l38, qn_l39, qn_l40, qn_l47, qn_l48, qn_l49, qn_l50, qn_l51, qn_l54, qn_l55, qn_l56, qn_l57, qn_l60, qn_l63, qn_l64, qn_l69, qn_l70, qn_l75, qn_l99, qn_l100, qn_l103, qn_l111, qn_l112, qn_l113, qn_l115, qn_l117, qn_l120, qn_l127, qn_l128, qn_l200, qn_l225, qn_l240, qn_l255, qn_l256, qn_l300, qn_l720, qn_l1000, qn_l48271, qn_l1000000, qn_l2147483646, qn_l2147483647, qn_add, qn_mul, qn_sub, qn_addneg, qn_div, qn_mod, qn_modn, qn_lt, qn_le, qn_eq, qn_nat, qn_m1, qn_m1', qn_c1, qn_g1, qn_g1', qn_c1', qn_and, qn_or, qn_shl1, qn_shr1, qn_64, ql_32, ql_add, ql_mul, ql_sub, ql_div, ql_mod, ql_lt, ql_le, ql_eq, ql_l0, ql_l1, qp_gd_T, qp_bd_t, ↓reduceIte, qt_le, qf_le, qt_lt, qf_lt, qt_eq, qf_eq, and_self, not_true_eq_false, not_false_eq_true, true_and, and_true, or_true, true_or, or_false, false_or, and_false, false_and, Nat.reduceAdd, Nat.reduceMul, Nat.reduceSub, Nat.reduceDiv, Nat.reduceMod, Nat.reducePow, Nat.zero_add, Nat.add_zero, Nat.zero_le, Nat.mul_zero, Nat.zero_mul, qm_nk, qm_eq, qm_nj]
    refine ⟨I1, rfl, ⟨?_, ?_, a2, a3, ?_⟩, zfr_wd a5 (by omega) (by omega)⟩
    · rw [a5.2 0 (by omega)]; exact x0
    · rw [a5.2 55 (by omega)]; exact x1
    · rw [← (zback_ok o1).2]; exact a4
  · have e : zmc c = 300 + c % 64 := by unfold zmc; rw [hv]
    have e2 : 300 + c % 64 - 300 = c % 64 := by omega
    rw [e, hv]
    simp (disch := omega) only [e2, qn_l0, qn_l1, qn_l2, qn_l3, qn_l4, qn_l5, qn_l6, qn_l7, qn_l8, qn_l9, qn_l10, qn_l11, qn_l12, qn_l13, qn_l14, qn_l15, qn_l16, qn_l17, qn_l18, qn_l19, qn_l20, qn_l21, qn_l22, qn_l23, qn_l24, qn_l26, qn_l27, qn_l28, qn_l31, qn_l32, qn_l33, qn_l34, qn_l36, qn_l37, qn_l38, qn_l39, qn_l40, qn_l47, qn_l48, qn_l49, qn_l50, qn_l51, qn_l54, qn_l55, qn_l56, qn_l57, qn_l60, qn_l63, qn_l64, qn_l69, qn_l70, qn_l75, qn_l99, qn_l100, qn_l103, qn_l111, qn_l112, qn_l113, qn_l115, qn_l117, qn_l120, qn_l127, qn_l128, qn_l200, qn_l225, qn_l240, qn_l255, qn_l256, qn_l300, qn_l720, qn_l1000, qn_l48271, qn_l1000000, qn_l2147483646, qn_l2147483647, qn_add, qn_mul, qn_sub, qn_addneg, qn_div, qn_mod, qn_modn, qn_lt, qn_le, qn_eq, qn_nat, qn_m1, qn_m1', qn_c1, qn_g1, qn_g1', qn_c1', qn_and, qn_or, qn_shl1, qn_shr1, qn_64, ql_32, ql_add, ql_mul, ql_sub, ql_div, ql_mod, ql_lt, ql_le, ql_eq, ql_l0, ql_l1, qp_gd_T, qp_bd_t, ↓reduceIte, qt_le, qf_le, qt_lt, qf_lt, qt_eq, qf_eq, and_self, not_true_eq_false, not_false_eq_true, true_and, and_true, or_true, true_or, or_false, false_or, and_false, false_and, Nat.reduceAdd, Nat.reduceMul, Nat.reduceSub, Nat.reduceDiv, Nat.reduceMod, Nat.reducePow, Nat.zero_add, Nat.add_zero, Nat.zero_le, Nat.mul_zero, Nat.zero_mul, qm_nk, qm_eq, qm_nj]
    exact ⟨_, rfl, ⟨by simp (disch := omega) only [x0, qm_nk, qm_eq, qm_nj], by simp (disch := omega) only [qm_nk, qm_eq, qm_nj], by simp (disch := omega) only [x2, qm_nk, qm_eq, qm_nj], fun p hp => by rw [qm_nj (by omega)]; exact x3 p hp, fun p hp => by rw [qm_nj (by omega)]; exact x4 p hp⟩, zfr_up (by omega) (by omega)⟩
theorem eM_does {n c : Nat} {st : ZR} {ds : List Nat} (hn : n ≤ 6) (h : zMs n st (I 37)) (h14 : I 37 14 = qn ds.length) (hr : zrd ds (I 37)) (hok : zRok n st) (hv : zvd n st c) (hd : ds.length < 40) :
    ∃ I', fM_does (qn (zmc c)) I J = some (qn (zfall n st c), I', J) ∧ zMs n (zdeed n st c) (I' 37) ∧ I' 37 14 = qn (ds ++ [c]).length ∧ zrd (ds ++ [c]) (I' 37) ∧ zfr 37 14 75 I I' := by
  have hlz : (zls n st.1).length = n := (zls_P hok.1).2.1
  have o2 := hok.2.1
  have hlen : (ds ++ [c]).length = ds.length + 1 := by rw [List.length_append]; rfl
  obtain ⟨I1, a1, a2, a3⟩ := eM_goDeed (J := J) (I := qp_up (qp_up I 37 (15 + ds.length) (qn (zmc c))) 37 14 (qn (ds.length + 1))) hn (zMs_eq h hok.2.1 hn hok.1 (by simp (disch := omega) only [qm_nk, qm_eq, qm_nj]) (fun j h1 h2 => by simp (disch := omega) only [qm_nk, qm_eq, qm_nj])) hok hv
  unfold fM_does
  simp (disch := omega) only [h14, a1, qn_l0, qn_l1, qn_l2, qn_l3, qn_l4, qn_l5, qn_l6, qn_l7, qn_l8, qn_l9, qn_l10, qn_l11, qn_l12, qn_l13, qn_l14, qn_l15, qn_l16, qn_l17, qn_l18, qn_l19, qn_l20, qn_l21, qn_l22, qn_l23, qn_l24, qn_l26, qn_l27, qn_l28, qn_l31, qn_l32, qn_l33, qn_l34, qn_l36, qn_l37, qn_l38, qn_l39, qn_l40, qn_l47, qn_l48, qn_l49, qn_l50, qn_l51, qn_l54, qn_l55, qn_l56, qn_l57, qn_l60, qn_l63, qn_l64, qn_l69, qn_l70, qn_l75, qn_l99, qn_l100, qn_l103, qn_l111, qn_l112, qn_l113, qn_l115, qn_l117, qn_l120, qn_l127, qn_l128, qn_l200, qn_l225, qn_l240, qn_l255, qn_l256, qn_l300, qn_l720, qn_l1000, qn_l48271, qn_l1000000, qn_l2147483646, qn_l2147483647, qn_add, qn_mul, qn_sub, qn_addneg, qn_div, qn_mod, qn_modn, qn_lt, qn_le, qn_eq, qn_nat, qn_m1, qn_m1', qn_c1, qn_g1, qn_g1', qn_c1', qn_and, qn_or, qn_shl1, qn_shr1, qn_64, ql_32, ql_add, ql_mul, ql_sub, ql_div, ql_mod, ql_lt, ql_le, ql_eq, ql_l0, ql_l1, qp_gd_T, qp_bd_t, ↓reduceIte, qt_le, qf_le, qt_lt, qf_lt, qt_eq, qf_eq, and_self, not_true_eq_false, not_false_eq_true, true_and, and_true, or_true, true_or, or_false, false_or, and_false, false_and, Nat.reduceAdd, Nat.reduceMul, Nat.reduceSub, Nat.reduceDiv, Nat.reduceMod, Nat.reducePow, Nat.zero_add, Nat.add_zero, Nat.zero_le, Nat.mul_zero, Nat.zero_mul, qm_nk, qm_eq, qm_nj]
  refine ⟨I1, rfl, a2, ?_, fun d hd => ?_, zfr_tr (zfr_tr (zfr_up (by omega) (by omega)) (zfr_up (by omega) (by omega))) (zfr_wd a3 (by omega) (by omega))⟩
  · rw [a3.2 14 (by omega), hlen]; exact qm_eq rfl
  · rw [hlen] at hd
    rw [a3.2 (15 + d) (by omega), zat_app (by omega), qm_nj (by omega), qm_if]
    by_cases e : d = ds.length
    · rw [if_pos (by omega), if_pos e]
    · rw [if_neg (by omega), if_neg e]; exact hr d (by omega)
theorem eM_begin {n L0 : Nat} (hn : n ≤ 6) (h0 : I 37 0 = qn n) (h1 : I 37 1 = qn L0) :
    ∃ I', fM_begin_37 I J = some ((), I', J) ∧ zMs n ([], L0) (I' 37) ∧ zfr 37 55 75 I I' := by
  unfold fM_begin_37
  simp (disch := omega) only [h1, qn_l0, qn_l1, qn_l2, qn_l3, qn_l4, qn_l5, qn_l6, qn_l7, qn_l8, qn_l9, qn_l10, qn_l11, qn_l12, qn_l13, qn_l14, qn_l15, qn_l16, qn_l17, qn_l18, qn_l19, qn_l20, qn_l21, qn_l22, qn_l23, qn_l24, qn_l26, qn_l27, qn_l28, qn_l31, qn_l32, qn_l33, qn_l34, qn_l36, qn_l37, qn_l38, qn_l39, qn_l40, qn_l47, qn_l48, qn_l49, qn_l50, qn_l51, qn_l54, qn_l55, qn_l56, qn_l57, qn_l60, qn_l63, qn_l64, qn_l69, qn_l70, qn_l75, qn_l99, qn_l100, qn_l103, qn_l111, qn_l112, qn_l113, qn_l115, qn_l117, qn_l120, qn_l127, qn_l128, qn_l200, qn_l225, qn_l240, qn_l255, qn_l256, qn_l300, qn_l720, qn_l1000, qn_l48271, qn_l1000000, qn_l2147483646, qn_l2147483647, qn_add, qn_mul, qn_sub, qn_addneg, qn_div, qn_mod, qn_modn, qn_lt, qn_le, qn_eq, qn_nat, qn_m1, qn_m1', qn_c1, qn_g1, qn_g1', qn_c1', qn_and, qn_or, qn_shl1, qn_shr1, qn_64, ql_32, ql_add, ql_mul, ql_sub, ql_div, ql_mod, ql_lt, ql_le, ql_eq, ql_l0, ql_l1, qp_gd_T, qp_bd_t, ↓reduceIte, qt_le, qf_le, qt_lt, qf_lt, qt_eq, qf_eq, and_self, not_true_eq_false, not_false_eq_true, true_and, and_true, or_true, true_or, or_false, false_or, and_false, false_and, Nat.reduceAdd, Nat.reduceMul, Nat.reduceSub, Nat.reduceDiv, Nat.reduceMod, Nat.reducePow, Nat.zero_add, Nat.add_zero, Nat.zero_le, Nat.mul_zero, Nat.zero_mul, qm_nk, qm_eq, qm_nj]
  refine lp (σ := Nat → Nat → Int32) (R := fun o => ∃ I', o = some ((), I', J) ∧ zMs n ([], L0) (I' 37) ∧ zfr 37 55 75 I I')
    (Inv := fun a I' => zfr 37 55 75 I I' ∧ I' 37 55 = qn L0 ∧ I' 37 56 = qn 0 ∧ ∀ j, j < a → I' 37 (69 + j) = qn j) (fun fu a I' => fM_begin_37_b14 fu (qn a) I' J) 6 100000 0 (qp_up (qp_up I 37 55 (qn L0)) 37 56 (qn 0)) (Nat.zero_le _) (by omega)
    ⟨zfr_tr (zfr_up (by omega) (by omega)) (zfr_up (by omega) (by omega)), by simp (disch := omega) only [qm_nk, qm_eq, qm_nj], by simp (disch := omega) only [qm_nk, qm_eq, qm_nj], fun j hj => by omega⟩ ?_ ?_
  · rintro fu I1 ⟨g1, g2, g3, g4⟩
    rw [fM_begin_37_b14]
    simp (disch := omega) only [qn_l0, qn_l1, qn_l2, qn_l3, qn_l4, qn_l5, qn_l6, qn_l7, qn_l8, qn_l9, qn_l10, qn_l11, qn_l12, qn_l13, qn_l14, qn_l15, qn_l16, qn_l17, qn_l18, qn_l19, qn_l20, qn_l21, qn_l22, qn_l23, qn_l24, qn_l26, qn_l27, qn_l28, qn_l31, qn_l32, qn_l33, qn_l34, qn_l36, qn_l37, qn_l38, qn_l39, qn_l40, qn_l47, qn_l48, qn_l49, qn_l50, qn_l51, qn_l54, qn_l55, qn_l56, qn_l57, qn_l60, qn_l63, qn_l64, qn_l69, qn_l70, qn_l75, qn_l99, qn_l100, qn_l103, qn_l111, qn_l112, qn_l113, qn_l115, qn_l117, qn_l120, qn_l127, qn_l128, qn_l200, qn_l225, qn_l240, qn_l255, qn_l256, qn_l300, qn_l720, qn_l1000, qn_l48271, qn_l1000000, qn_l2147483646, qn_l2147483647, qn_add, qn_mul, qn_sub, qn_addneg, qn_div, qn_mod, qn_modn, qn_lt, qn_le, qn_eq, qn_nat, qn_m1, qn_m1', qn_c1, qn_g1, qn_g1', qn_c1', qn_and, qn_or, qn_shl1, qn_shr1, qn_64, ql_32, ql_add, ql_mul, ql_sub, ql_div, ql_mod, ql_lt, ql_le, ql_eq, ql_l0, ql_l1, qp_gd_T, qp_bd_t, ↓reduceIte, qt_le, qf_le, qt_lt, qf_lt, qt_eq, qf_eq, and_self, not_true_eq_false, not_false_eq_true, true_and, and_true, or_true, true_or, or_false, false_or, and_false, false_and, Nat.reduceAdd, Nat.reduceMul, Nat.reduceSub, Nat.reduceDiv, Nat.reduceMod, Nat.reducePow, Nat.zero_add, Nat.add_zero, Nat.zero_le, Nat.mul_zero, Nat.zero_mul, qm_nk, qm_eq, qm_nj]
    refine ⟨I1, rfl, ⟨by rw [g1.2 0 (by omega)]; exact h0, g2, g3, fun p hp => absurd hp (Nat.not_lt_zero p), fun p hp => ?_⟩, g1⟩
    have hp0 : p < (zid n).length := hp
    have hp' : p < n := by rw [(zid_P n).2.1] at hp0; exact hp0
    show I1 37 (69 + p) = qn (zat (zid n) p)
    rw [zid_at hp']; exact g4 p (by omega)
  · rintro fu a I1 ha ⟨g1, g2, g3, g4⟩
    refine Or.inr ⟨qp_up I1 37 (69 + a) (qn a), ⟨zfr_tr g1 (zfr_up (by omega) (by omega)), by rw [qm_nj (by omega)]; exact g2, by rw [qm_nj (by omega)]; exact g3, fun j hj => ?_⟩, ?_⟩
    · rw [qm_if]
      by_cases e : 69 + a = 69 + j
      · rw [if_pos e, show a = j by omega]
      · rw [if_neg e]; exact g4 j (by omega)
    · rw [fM_begin_37_b14]
      simp (disch := omega) only [qn_l0, qn_l1, qn_l2, qn_l3, qn_l4, qn_l5, qn_l6, qn_l7, qn_l8, qn_l9, qn_l10, qn_l11, qn_l12, qn_l13, qn_l14, qn_l15, qn_l16, qn_l17, qn_l18, qn_l19, qn_l20, qn_l21, qn_l22, qn_l23, qn_l24, qn_l26, qn_l27, qn_l28, qn_l31, qn_l32, qn_l33, qn_l34, qn_l36, qn_l37, qn_l38, qn_l39, qn_l40, qn_l47, qn_l48, qn_l49, qn_l50, qn_l51, qn_l54, qn_l55, qn_l56, qn_l57, qn_l60, qn_l63, qn_l64, qn_l69, qn_l70, qn_l75, qn_l99, qn_l100, qn_l103, qn_l111, qn_l112, qn_l113, qn_l115, qn_l117, qn_l120, qn_l127, qn_l128, qn_l200, qn_l225, qn_l240, qn_l255, qn_l256, qn_l300, qn_l720, qn_l1000, qn_l48271, qn_l1000000, qn_l2147483646, qn_l2147483647, qn_add, qn_mul, qn_sub, qn_addneg, qn_div, qn_mod, qn_modn, qn_lt, qn_le, qn_eq, qn_nat, qn_m1, qn_m1', qn_c1, qn_g1, qn_g1', qn_c1', qn_and, qn_or, qn_shl1, qn_shr1, qn_64, ql_32, ql_add, ql_mul, ql_sub, ql_div, ql_mod, ql_lt, ql_le, ql_eq, ql_l0, ql_l1, qp_gd_T, qp_bd_t, ↓reduceIte, qt_le, qf_le, qt_lt, qf_lt, qt_eq, qf_eq, and_self, not_true_eq_false, not_false_eq_true, true_and, and_true, or_true, true_or, or_false, false_or, and_false, false_and, Nat.reduceAdd, Nat.reduceMul, Nat.reduceSub, Nat.reduceDiv, Nat.reduceMod, Nat.reducePow, Nat.zero_add, Nat.add_zero, Nat.zero_le, Nat.mul_zero, Nat.zero_mul, qm_nk, qm_eq, qm_nj]
/-- the first m deeds anew -/
theorem eM_undo_b {n L0 m : Nat} {a2 : Int32} {ds : List Nat} (hn : n ≤ 6) (hL : L0 ≤ 20) (h : zMs n ([], L0) (I 37)) (hr : zrd ds (I 37)) (hv : zval n ([], L0) ds) (hd : ds.length ≤ 40) (hm : m ≤ ds.length) :
    ∃ I', fM_undo_b38 100000 (qn m) a2 (qn 0) I J = some (a2, I', J) ∧ zMs n (zrun n L0 (ds.take m)) (I' 37) ∧ I' 37 14 = qn m ∧ (∀ c, c ≠ 37 → I' c = I c) ∧ ∀ j, j < 55 → j ≠ 14 → I' 37 j = I 37 j := by
  refine lp (σ := Nat → Nat → Int32) (R := fun o => ∃ I', o = some (a2, I', J) ∧ zMs n (zrun n L0 (ds.take m)) (I' 37) ∧ I' 37 14 = qn m ∧ (∀ c, c ≠ 37 → I' c = I c) ∧ ∀ j, j < 55 → j ≠ 14 → I' 37 j = I 37 j)
    (Inv := fun d I' => zMs n (zrun n L0 (ds.take d)) (I' 37) ∧ zfr 37 55 75 I I') (fun fu d I' => fM_undo_b38 fu (qn m) a2 (qn d) I' J) m 100000 0 I (Nat.zero_le _) (by omega) ⟨h, zfr_rfl⟩ ?_ ?_
  · rintro fu I1 ⟨g1, g2⟩
    have hok : zRok n (zrun n L0 (ds.take m)) := zval_ok (zR0 hL) (zval_take hv)
    rw [fM_undo_b38]
    simp (disch := omega) only [qn_l0, qn_l1, qn_l2, qn_l3, qn_l4, qn_l5, qn_l6, qn_l7, qn_l8, qn_l9, qn_l10, qn_l11, qn_l12, qn_l13, qn_l14, qn_l15, qn_l16, qn_l17, qn_l18, qn_l19, qn_l20, qn_l21, qn_l22, qn_l23, qn_l24, qn_l26, qn_l27, qn_l28, qn_l31, qn_l32, qn_l33, qn_l34, qn_l36, qn_l37, qn_l38, qn_l39, qn_l40, qn_l47, qn_l48, qn_l49, qn_l50, qn_l51, qn_l54, qn_l55, qn_l56, qn_l57, qn_l60, qn_l63, qn_l64, qn_l69, qn_l70, qn_l75, qn_l99, qn_l100, qn_l103, qn_l111, qn_l112, qn_l113, qn_l115, qn_l117, qn_l120, qn_l127, qn_l128, qn_l200, qn_l225, qn_l240, qn_l255, qn_l256, qn_l300, qn_l720, qn_l1000, qn_l48271, qn_l1000000, qn_l2147483646, qn_l2147483647, qn_add, qn_mul, qn_sub, qn_addneg, qn_div, qn_mod, qn_modn, qn_lt, qn_le, qn_eq, qn_nat, qn_m1, qn_m1', qn_c1, qn_g1, qn_g1', qn_c1', qn_and, qn_or, qn_shl1, qn_shr1, qn_64, ql_32, ql_add, ql_mul, ql_sub, ql_div, ql_mod, ql_lt, ql_le, ql_eq, ql_l0, ql_l1, qp_gd_T, qp_bd_t, ↓reduceIte, qt_le, qf_le, qt_lt, qf_lt, qt_eq, qf_eq, and_self, not_true_eq_false, not_false_eq_true, true_and, and_true, or_true, true_or, or_false, false_or, and_false, false_and, Nat.reduceAdd, Nat.reduceMul, Nat.reduceSub, Nat.reduceDiv, Nat.reduceMod, Nat.reducePow, Nat.zero_add, Nat.add_zero, Nat.zero_le, Nat.mul_zero, Nat.zero_mul, qm_nk, qm_eq, qm_nj]
    exact ⟨_, rfl, zMs_eq g1 hok.2.1 hn hok.1 (by simp (disch := omega) only [qm_nk, qm_eq, qm_nj]) (fun j h1 h2 => by simp (disch := omega) only [qm_nk, qm_eq, qm_nj]), by simp (disch := omega) only [qm_nk, qm_eq, qm_nj], fun c hc => by rw [qm_nk (by omega)]; exact g2.1 c hc, fun j h1 h2 => by rw [qm_nj (by omega)]; exact g2.2 j (by omega)⟩
  · rintro fu d I1 hdm ⟨g1, g2⟩
    have hok : zRok n (zrun n L0 (ds.take d)) := zval_ok (zR0 hL) (zval_take hv)
    have hvd : zvd n (zrun n L0 (ds.take d)) (zat ds d) := zval_at hv (by omega)
    have ed : I1 37 (15 + d) = qn (zmc (zat ds d)) := by rw [g2.2 (15 + d) (by omega)]; exact hr d (by omega)
    obtain ⟨I2, a1, b2, b3⟩ := eM_goDeed (J := J) hn g1 hok hvd
    refine Or.inr ⟨I2, ⟨?_, zfr_tr g2 b3⟩, ?_⟩
    · rw [take_zat (by omega), zrun_app]; exact b2
    · rw [fM_undo_b38]
      simp (disch := omega) only [ed, a1, qn_l0, qn_l1, qn_l2, qn_l3, qn_l4, qn_l5, qn_l6, qn_l7, qn_l8, qn_l9, qn_l10, qn_l11, qn_l12, qn_l13, qn_l14, qn_l15, qn_l16, qn_l17, qn_l18, qn_l19, qn_l20, qn_l21, qn_l22, qn_l23, qn_l24, qn_l26, qn_l27, qn_l28, qn_l31, qn_l32, qn_l33, qn_l34, qn_l36, qn_l37, qn_l38, qn_l39, qn_l40, qn_l47, qn_l48, qn_l49, qn_l50, qn_l51, qn_l54, qn_l55, qn_l56, qn_l57, qn_l60, qn_l63, qn_l64, qn_l69, qn_l70, qn_l75, qn_l99, qn_l100, qn_l103, qn_l111, qn_l112, qn_l113, qn_l115, qn_l117, qn_l120, qn_l127, qn_l128, qn_l200, qn_l225, qn_l240, qn_l255, qn_l256, qn_l300, qn_l720, qn_l1000, qn_l48271, qn_l1000000, qn_l2147483646, qn_l2147483647, qn_add, qn_mul, qn_sub, qn_addneg, qn_div, qn_mod, qn_modn, qn_lt, qn_le, qn_eq, qn_nat, qn_m1, qn_m1', qn_c1, qn_g1, qn_g1', qn_c1', qn_and, qn_or, qn_shl1, qn_shr1, qn_64, ql_32, ql_add, ql_mul, ql_sub, ql_div, ql_mod, ql_lt, ql_le, ql_eq, ql_l0, ql_l1, qp_gd_T, qp_bd_t, ↓reduceIte, qt_le, qf_le, qt_lt, qf_lt, qt_eq, qf_eq, and_self, not_true_eq_false, not_false_eq_true, true_and, and_true, or_true, true_or, or_false, false_or, and_false, false_and, Nat.reduceAdd, Nat.reduceMul, Nat.reduceSub, Nat.reduceDiv, Nat.reduceMod, Nat.reducePow, Nat.zero_add, Nat.add_zero, Nat.zero_le, Nat.mul_zero, Nat.zero_mul, qm_nk, qm_eq, qm_nj]
end MD
/-! the line on both sides; kept ones -/
def zSt (n L0 : Nat) (K P : Nat → Nat) (ds : List Nat) (kp : Nat → Option (List Nat)) : Prop :=
  n ≤ 6 ∧ L0 ≤ 20 ∧ (∀ i, i < n → K i ≤ 5 ∧ 1 ≤ P i ∧ P i ≤ 9) ∧ (ds.length ≤ 40 ∧ zval n ([], L0) ds) ∧ ∀ k, k < 3 → ∀ d, kp k = some d → d.length ≤ 40 ∧ zval n ([], L0) d
def zXL (n L0 : Nat) (K P : Nat → Nat) (ds : List Nat) (I : Nat → Nat → Int32) : Prop := I 15 1 = qn L0 ∧ (∀ i, i < n → I 16 i = qn (K i) ∧ I 17 i = qn (P i)) ∧ zXs n (zrun n L0 ds) ds I
def zML (n L0 : Nat) (K P : Nat → Nat) (ds : List Nat) (R : Nat → Int32) : Prop := R 1 = qn L0 ∧ (∀ i, i < n → R (2 + i) = qn (K i) ∧ R (8 + i) = qn (P i)) ∧ R 14 = qn ds.length ∧ zrd ds R ∧ zMs n (zrun n L0 ds) R
def zKX (kp : Nat → Option (List Nat)) (I : Nat → Nat → Int32) : Prop := ∀ k, k < 3 → (kp k = none → I 8 k = -qn 1) ∧ ∀ d, kp k = some d → I 8 k = qn d.length ∧ ∀ j, j < d.length → I 9 (k * 40 + j) = qn (zat d j)
def zKM (n L0 : Nat) (K P : Nat → Nat) (kp : Nat → Option (List Nat)) (I : Nat → Nat → Int32) : Prop := ∀ k, k < 3 → (kp k = none → I 39 k = qn 0) ∧ ∀ d, kp k = some d → I 39 k = qn 1 ∧ zML n L0 K P d (fun j => I 38 (75 * k + j))
def zLn (n L0 : Nat) (K P : Nat → Nat) (ds : List Nat) (kp : Nat → Option (List Nat)) (I : Nat → Nat → Int32) : Prop :=
  zXL n L0 K P ds I ∧ zKX kp I ∧ zML n L0 K P ds (I 37) ∧ zKM n L0 K P kp I
/-- what is common -/
def zC (I : Nat → Nat → Int32) (J : Nat → Nat → Int64) : Prop :=
  (I 1 0 = qn 40 ∧ I 4 0 = qn 60 ∧ I 7 0 = qn 40) ∧ (I 41 = I 2 ∧ I 40 = I 3 ∧ I 43 = I 5 ∧ I 42 = I 6 ∧ I 44 = I 35) ∧ (I 36 8 = I 0 10 ∧ I 36 9 = I 0 11 ∧ J 36 10 = J 0 12 ∧ J 36 11 = J 0 13) ∧
  (∀ r, r < 6 → I 2 r = -qn 1 ∨ ∃ m, m ≤ 40 ∧ I 2 r = qn m) ∧ ∀ t, t < 4 → I 5 t = -qn 1 ∨ ∃ m, m ≤ 60 ∧ I 5 t = qn m
def zR (I : Nat → Nat → Int32) (J : Nat → Nat → Int64) : Prop := ∃ n L0 K P ds kp, zSt n L0 K P ds kp ∧ zC I J ∧ zLn n L0 K P ds kp I
def zsim {α : Type} (f g : (Nat → Nat → Int32) → (Nat → Nat → Int64) → Option (α × (Nat → Nat → Int32) × (Nat → Nat → Int64))) : Prop :=
  ∀ (I : Nat → Nat → Int32) (J : Nat → Nat → Int64), zR I J → ∃ v I1 J1 I2 J2, f I J = some (v, I1, J1) ∧ g I1 J1 = some (v, I2, J2) ∧ zR I2 J2
/-- the cells of the line -/
def zlc (c : Nat) : Prop := c = 8 ∨ c = 9 ∨ (14 ≤ c ∧ c < 18) ∨ c = 23 ∨ c = 24 ∨ (37 ≤ c ∧ c < 40)
theorem zXs_eq {n : Nat} {st : ZR} {ds : List Nat} {I I' : Nat → Nat → Int32} (h : zXs n st ds I) (e : ∀ c, c = 14 ∨ c = 15 ∨ c = 23 ∨ c = 24 → I' c = I c) : zXs n st ds I' := by
  unfold zXs at h ⊢
  rw [e 14 (by omega), e 15 (by omega), e 23 (by omega), e 24 (by omega)]; exact h
theorem zLn_eq {n L0 : Nat} {K P : Nat → Nat} {ds : List Nat} {kp : Nat → Option (List Nat)} {I I' : Nat → Nat → Int32} (h : zLn n L0 K P ds kp I) (e : ∀ c, zlc c → I' c = I c) : zLn n L0 K P ds kp I' := by
  unfold zlc at e
  obtain ⟨h1, h2, h3, h4⟩ := h
  refine ⟨?_, ?_, by rw [e 37 (by omega)]; exact h3, ?_⟩
  · unfold zXL at h1 ⊢
    rw [e 15 (by omega), e 16 (by omega), e 17 (by omega)]
    exact ⟨h1.1, h1.2.1, zXs_eq h1.2.2 (fun c hc => e c (by omega))⟩
  · unfold zKX at h2 ⊢
    rw [e 8 (by omega), e 9 (by omega)]; exact h2
  · unfold zKM at h4 ⊢
    rw [e 38 (by omega), e 39 (by omega)]; exact h4
/-- the relation stays where the line's cells do and what is common is -/
theorem zR_of {I I' : Nat → Nat → Int32} {J J' : Nat → Nat → Int64} (h : zR I J) (e : ∀ c, zlc c → I' c = I c) (hc : zC I' J') : zR I' J' := by
  obtain ⟨n, L0, K, P, ds, kp, h1, h2, h3⟩ := h
  exact ⟨n, L0, K, P, ds, kp, h1, hc, zLn_eq h3 e⟩
/-- the cells of what is common, but the two objects -/
def zcc (c : Nat) : Prop := (1 ≤ c ∧ c < 8) ∨ c = 35 ∨ (40 ≤ c ∧ c < 45)
theorem zC_eq {I I' : Nat → Nat → Int32} {J J' : Nat → Nat → Int64} (h : zC I J) (e : ∀ c, zcc c → I' c = I c) (e1 : I' 36 8 = I' 0 10) (e2 : I' 36 9 = I' 0 11) (e3 : J' 36 10 = J' 0 12) (e4 : J' 36 11 = J' 0 13) : zC I' J' := by
  unfold zcc at e
  obtain ⟨h1, h2, h3, h4, h5⟩ := h
  refine ⟨?_, ?_, ⟨e1, e2, e3, e4⟩, ?_, ?_⟩
  · rw [e 1 (by omega), e 4 (by omega), e 7 (by omega)]; exact h1
  · rw [e 41 (by omega), e 40 (by omega), e 43 (by omega), e 42 (by omega), e 44 (by omega), e 2 (by omega), e 3 (by omega), e 5 (by omega), e 6 (by omega), e 35 (by omega)]; exact h2
  · rw [e 2 (by omega)]; exact h4
  · rw [e 5 (by omega)]; exact h5

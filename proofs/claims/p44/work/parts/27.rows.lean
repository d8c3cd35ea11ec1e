/-! ROWS AND TEXTS: class and model alike -/
theorem q64_lt {a b : Int64} : a < b ↔ a.toInt < b.toInt := Int64.lt_iff_toInt_lt
theorem q64_le {a b : Int64} : a ≤ b ↔ a.toInt ≤ b.toInt := Int64.le_iff_toInt_le
section SR
variable {I : Nat → Nat → Int32} {J : Nat → Nat → Int64}
theorem q32_lo {p : Int32} {lo : Nat} (hlo : lo < 2147483648) (h : p < qn lo) : Int32.toInt64 p < ql lo := by
  rw [q64_lt, Int32.toInt_toInt64, ql_toInt (by omega)]
  rw [Int32.lt_iff_toInt_lt, qn_toInt hlo] at h; exact h
theorem q32_hi {p : Int32} {hi : Nat} (hhi : hi < 2147483648) (h : qn hi ≤ p) {c : Int64} (hc : c.toInt = (hi : Int) - 1) : c < Int32.toInt64 p := by
  rw [q64_lt, Int32.toInt_toInt64, hc]
  rw [Int32.le_iff_toInt_le, qn_toInt hhi] at h; omega
theorem q_m1 {m : Nat} (hm : m < 2147483648) : (Int32.toInt64 (qn m - qn 1)).toInt = (m : Int) - 1 := by
  rw [Int32.toInt_toInt64]
  by_cases h : m = 0
  · subst h; rfl
  · rw [qn_sub (by omega), qn_toInt (by omega)]; omega
theorem eC_has {n i : Nat} (h : I 15 0 = qn n) (hn : n ≤ 6) (hi : i < n) : fC_has_15 (qn i) I J = some (qn 1, I, J) := by
  unfold fC_has_15
  simp (disch := omega) only [h, qn_l0, qn_l1, qn_l2, qn_l3, qn_l4, qn_l5, qn_l6, qn_l7, qn_l8, qn_l9, qn_l10, qn_l11, qn_l12, qn_l13, qn_l14, qn_l15, qn_l16, qn_l17, qn_l18, qn_l19, qn_l20, qn_l21, qn_l22, qn_l23, qn_l24, qn_l26, qn_l27, qn_l28, qn_l31, qn_l32, qn_l33, qn_l34, qn_l36, qn_l37, qn_l38, qn_l39, qn_l40, qn_l47, qn_l48, qn_l49, qn_l50, qn_l51, qn_l54, qn_l55, qn_l56, qn_l57, qn_l60, qn_l63, qn_l64, qn_l69, qn_l70, qn_l75, qn_l99, qn_l100, qn_l103, qn_l111, qn_l112, qn_l113, qn_l115, qn_l117, qn_l120, qn_l127, qn_l128, qn_l200, qn_l225, qn_l240, qn_l255, qn_l256, qn_l300, qn_l720, qn_l1000, qn_l48271, qn_l1000000, qn_l2147483646, qn_l2147483647, qn_add, qn_mul, qn_sub, qn_addneg, qn_div, qn_mod, qn_modn, qn_lt, qn_le, qn_eq, qn_nat, qn_m1, qn_m1', qn_c1, qn_g1, qn_g1', qn_c1', qn_and, qn_or, qn_shl1, qn_shr1, qn_64, ql_32, ql_add, ql_mul, ql_sub, ql_div, ql_mod, ql_lt, ql_le, ql_eq, ql_l0, ql_l1, qp_gd_T, qp_bd_t, ↓reduceIte, qt_le, qf_le, qt_lt, qf_lt, qt_eq, qf_eq, and_self, not_true_eq_false, not_false_eq_true, true_and, and_true, or_true, true_or, or_false, false_or, and_false, false_and, Nat.reduceAdd, Nat.reduceMul, Nat.reduceSub, Nat.reduceDiv, Nat.reduceMod, Nat.reducePow, Nat.zero_add, Nat.add_zero, Nat.zero_le, Nat.mul_zero, Nat.zero_mul, qm_nk, qm_eq, qm_nj]
theorem eC_hasF {n : Nat} {p : Int32} (h : I 15 0 = qn n) (hp : p < 0 ∨ qn n ≤ p) : fC_has_15 p I J = some (qn 0, I, J) := by
  unfold fC_has_15
  rw [h]
  by_cases h0 : p < 0
  · rw [if_pos h0]; rfl
  · rcases hp with hp | hp
    · exact absurd hp h0
    · rw [if_neg h0, if_pos hp]; rfl
/-! findings -/
def xfd (f : Nat) (I : Nat → Nat → Int32) : Nat → Nat → Int32 := qp_up (qp_up I 0 10 (qn f)) 35 f (I 35 f + qn 1)
def mfd (f : Nat) (I : Nat → Nat → Int32) : Nat → Nat → Int32 := qp_up (qp_up I 36 8 (qn f)) 44 f (I 44 f + qn 1)
theorem xfd_ne {f c : Nat} (h0 : c ≠ 0) (h35 : c ≠ 35) : xfd f I c = I c := by unfold xfd; rw [qm_nk (by omega), qm_nk (by omega)]
theorem mfd_ne {f c : Nat} (h0 : c ≠ 36) (h35 : c ≠ 44) : mfd f I c = I c := by unfold mfd; rw [qm_nk (by omega), qm_nk (by omega)]
theorem eX_found {f : Nat} (h1 : 1 ≤ f) (h5 : f ≤ 5) : fX_found (qn f) I J = some (-qn 3, xfd f I, J) := by
  unfold fX_found xfd
  simp (disch := omega) only [qn_l0, qn_l1, qn_l2, qn_l3, qn_l4, qn_l5, qn_l6, qn_l7, qn_l8, qn_l9, qn_l10, qn_l11, qn_l12, qn_l13, qn_l14, qn_l15, qn_l16, qn_l17, qn_l18, qn_l19, qn_l20, qn_l21, qn_l22, qn_l23, qn_l24, qn_l26, qn_l27, qn_l28, qn_l31, qn_l32, qn_l33, qn_l34, qn_l36, qn_l37, qn_l38, qn_l39, qn_l40, qn_l47, qn_l48, qn_l49, qn_l50, qn_l51, qn_l54, qn_l55, qn_l56, qn_l57, qn_l60, qn_l63, qn_l64, qn_l69, qn_l70, qn_l75, qn_l99, qn_l100, qn_l103, qn_l111, qn_l112, qn_l113, qn_l115, qn_l117, qn_l120, qn_l127, qn_l128, qn_l200, qn_l225, qn_l240, qn_l255, qn_l256, qn_l300, qn_l720, qn_l1000, qn_l48271, qn_l1000000, qn_l2147483646, qn_l2147483647, qn_add, qn_mul, qn_sub, qn_addneg, qn_div, qn_mod, qn_modn, qn_lt, qn_le, qn_eq, qn_nat, qn_m1, qn_m1', qn_c1, qn_g1, qn_g1', qn_c1', qn_and, qn_or, qn_shl1, qn_shr1, qn_64, ql_32, ql_add, ql_mul, ql_sub, ql_div, ql_mod, ql_lt, ql_le, ql_eq, ql_l0, ql_l1, qp_gd_T, qp_bd_t, ↓reduceIte, qt_le, qf_le, qt_lt, qf_lt, qt_eq, qf_eq, and_self, not_true_eq_false, not_false_eq_true, true_and, and_true, or_true, true_or, or_false, false_or, and_false, false_and, Nat.reduceAdd, Nat.reduceMul, Nat.reduceSub, Nat.reduceDiv, Nat.reduceMod, Nat.reducePow, Nat.zero_add, Nat.add_zero, Nat.zero_le, Nat.mul_zero, Nat.zero_mul, qm_nk, qm_eq, qm_nj]
theorem zC_find {f : Nat} (h : zC I J) : zC (mfd f (xfd f I)) J := by
  obtain ⟨h1, ⟨g1, g2, g3, g4, g5⟩, ⟨e1, e2, e3, e4⟩, h4, h5⟩ := h
  have x44 : xfd f I 44 = I 44 := xfd_ne (by omega) (by omega)
  refine ⟨?_, ⟨?_, ?_, ?_, ?_, ?_⟩, ⟨?_, ?_, e3, e4⟩, ?_, ?_⟩
  · rw [mfd_ne (by omega) (by omega), mfd_ne (by omega) (by omega), mfd_ne (by omega) (by omega), xfd_ne (by omega) (by omega), xfd_ne (by omega) (by omega), xfd_ne (by omega) (by omega)]; exact h1
  · rw [mfd_ne (by omega) (by omega), mfd_ne (by omega) (by omega), xfd_ne (by omega) (by omega), xfd_ne (by omega) (by omega)]; exact g1
  · rw [mfd_ne (by omega) (by omega), mfd_ne (by omega) (by omega), xfd_ne (by omega) (by omega), xfd_ne (by omega) (by omega)]; exact g2
  · rw [mfd_ne (by omega) (by omega), mfd_ne (by omega) (by omega), xfd_ne (by omega) (by omega), xfd_ne (by omega) (by omega)]; exact g3
  · rw [mfd_ne (by omega) (by omega), mfd_ne (by omega) (by omega), xfd_ne (by omega) (by omega), xfd_ne (by omega) (by omega)]; exact g4
  · rw [mfd_ne (c := 35) (by omega) (by omega)]
    unfold mfd
    rw [qm_own, x44, qm_nk (by omega), x44]
    unfold xfd
    rw [qm_own, qm_nk (by omega), g5]
  · rw [mfd_ne (c := 0) (by omega) (by omega)]
    unfold mfd xfd
    simp (disch := omega) only [qm_nk, qm_eq, qm_nj]
  · rw [mfd_ne (c := 0) (by omega) (by omega)]
    unfold mfd xfd
    simp (disch := omega) only [qm_nk, qm_eq, qm_nj]
    exact e2
  · rw [mfd_ne (by omega) (by omega), xfd_ne (by omega) (by omega)]; exact h4
  · rw [mfd_ne (by omega) (by omega), xfd_ne (by omega) (by omega)]; exact h5
theorem zR_find {f : Nat} (h : zR I J) : zR (mfd f (xfd f I)) J := by
  obtain ⟨n, L0, K, P, ds, kp, h1, h2, h3⟩ := id h
  exact zR_of h (fun c hc => by unfold zlc at hc; rw [mfd_ne (by omega) (by omega), xfd_ne (by omega) (by omega)]) (zC_find h2)
theorem zR_C (h : zR I J) : zC I J := by
  obtain ⟨n, L0, K, P, ds, kp, h1, h2, h3⟩ := h
  exact h2
/-- told by asked() on both sides -/
theorem zR_tell {I' : Nat → Nat → Int32} (h : zR I J) (e : ∀ c, zlc c ∨ zcc c → I' c = I c) (e1 : I' 36 8 = I 36 8) (e2 : I' 0 10 = I 0 10) (e3 : I' 36 9 = I' 0 11) : zR I' J := by
  have hc := zR_C h
  exact zR_of h (fun c hc => e c (Or.inl hc)) (zC_eq hc (fun c hc => e c (Or.inr hc)) (by rw [e1, e2]; exact hc.2.2.1.1) e3 hc.2.2.1.2.2.1 hc.2.2.1.2.2.2)
end SR

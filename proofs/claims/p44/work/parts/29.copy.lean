/-! COPY, MEAN, PUT -/
theorem eJ_max {I : Nat → Nat → Int32} {J : Nat → Nat → Int64} {a b : Nat} (ha : a < 2147483648) (hb : b < 2147483648) : fJ_max (qn a) (qn b) I J = some (qn (max a b), I, J) := by
  unfold fJ_max
  simp (disch := omega) only [qn_l0, qn_l1, qn_l2, qn_l3, qn_l4, qn_l5, qn_l6, qn_l7, qn_l8, qn_l9, qn_l10, qn_l11, qn_l12, qn_l13, qn_l14, qn_l15, qn_l16, qn_l17, qn_l18, qn_l19, qn_l20, qn_l21, qn_l22, qn_l23, qn_l24, qn_l26, qn_l27, qn_l28, qn_l31, qn_l32, qn_l33, qn_l34, qn_l36, qn_l37, qn_l38, qn_l39, qn_l40, qn_l47, qn_l48, qn_l49, qn_l50, qn_l51, qn_l54, qn_l55, qn_l56, qn_l57, qn_l60, qn_l63, qn_l64, qn_l69, qn_l70, qn_l75, qn_l99, qn_l100, qn_l103, qn_l111, qn_l112, qn_l113, qn_l115, qn_l117, qn_l120, qn_l127, qn_l128, qn_l200, qn_l225, qn_l240, qn_l255, qn_l256, qn_l300, qn_l720, qn_l1000, qn_l48271, qn_l1000000, qn_l2147483646, qn_l2147483647, qn_add, qn_mul, qn_sub, qn_addneg, qn_div, qn_mod, qn_modn, qn_lt, qn_le, qn_eq, qn_nat, qn_m1, qn_m1', qn_c1, qn_g1, qn_g1', qn_c1', qn_and, qn_or, qn_shl1, qn_shr1, qn_64, ql_32, ql_add, ql_mul, ql_sub, ql_div, ql_mod, ql_lt, ql_le, ql_eq, ql_l0, ql_l1, qp_gd_T, qp_bd_t, ↓reduceIte, qt_le, qf_le, qt_lt, qf_lt, qt_eq, qf_eq, and_self, not_true_eq_false, not_false_eq_true, true_and, and_true, or_true, true_or, or_false, false_or, and_false, false_and, Nat.reduceAdd, Nat.reduceMul, Nat.reduceSub, Nat.reduceDiv, Nat.reduceMod, Nat.reducePow, Nat.zero_add, Nat.add_zero, Nat.zero_le, Nat.mul_zero, Nat.zero_mul, qm_nk, qm_eq, qm_nj]
  by_cases h : a < b
  · rw [if_pos h, Nat.max_eq_right (by omega)]
  · rw [if_neg h, Nat.max_eq_left (by omega)]
section SC
variable {I : Nat → Nat → Int32} {J : Nat → Nat → Int64}
theorem q_subI {m n : Nat} (hm : m ≤ 40) (hn : n < 2147483648) : (qn m - qn n).toInt = (m : Int) - n := by
  rw [Int32.toInt_sub, qn_toInt (by omega), qn_toInt hn]
  exact Int.bmod_eq_of_le (by omega) (by omega)
/-- the sum of a row's places -/
def zsum (R : Nat → Int32) : Nat → Nat → Int64 → Int64
  | 0, _, a => a
  | k + 1, b, a => zsum R k (b + 1) (a + Int32.toInt64 (R b))
/-- a number cut to a byte -/
theorem q_byte (v : Int32) : (Int32.toInt8 v).toInt32 = if v &&& 255 ≤ 127 then v &&& 255 else (v &&& 255) - 256 := by
  have hw : (v &&& 255).toInt = v.toInt % 256 := by
    have e : (v &&& 255).toBitVec = v.toBitVec &&& 255#32 := Int32.toBitVec_and _ _
    have e1 : (v.toBitVec &&& 255#32).toNat = v.toBitVec.toNat % 256 := by
      rw [BitVec.toNat_and]; exact Nat.and_two_pow_sub_one_eq_mod _ 8
    have e2 : (v &&& 255).toInt = ((v.toBitVec.toNat % 256 : Nat) : Int) := by
      show (v &&& 255).toBitVec.toInt = _
      rw [e, BitVec.toInt_eq_toNat_cond, e1, if_pos (by omega)]
    rw [e2]
    show _ = v.toBitVec.toInt % 256
    rw [BitVec.toInt_eq_toNat_cond]
    split <;> omega
  have hl : ((Int32.toInt8 v).toInt32).toInt = v.toInt.bmod 256 := by
    rw [Int8.toInt_toInt32, Int32.toInt_toInt8]
  have hb : v.toInt.bmod 256 = if v.toInt % 256 < 128 then v.toInt % 256 else v.toInt % 256 - 256 := by
    rw [Int.bmod_def]; rfl
  apply Int32.toInt_inj.1
  rw [hl, hb]
  by_cases h : v &&& 255 ≤ 127
  · rw [if_pos h, hw]
    rw [Int32.le_iff_toInt_le, hw] at h
    rw [if_pos (by have : (127 : Int32).toInt = 127 := rfl; omega)]
  · rw [if_neg h, Int32.toInt_sub, hw]
    rw [Int32.le_iff_toInt_le, hw] at h
    have e127 : (127 : Int32).toInt = 127 := rfl
    have e256 : (256 : Int32).toInt = 256 := rfl
    rw [if_neg (by omega), e256, Int.bmod_eq_of_le (by omega) (by omega)]
end SC

/-! RATIOS; SETS, SURE -/
theorem q_and1 (x : Nat) : x &&& 1 = x % 2 := Nat.and_one_is_mod x
section GC
variable {I : Nat → Nat → Int32} {J : Nat → Nat → Int64}
theorem gcd_st (a b : Nat) : Nat.gcd a b = Nat.gcd b (a % b) := by
  rw [Nat.gcd_comm a b, Nat.gcd_rec b a, Nat.gcd_comm]
theorem ql_md {a b : Nat} (ha : a < 4611686018427387904) (hb : b < 4611686018427387904) : ql a - ql a / ql b * ql b = ql (a % b) := by
  rw [ql_div (by omega) (by omega), ql_mul, ql_mod]
theorem ql_c0 {b : Nat} (hb : b < 4611686018427387904) : (lg_cmp (ql b) 0 = 0) = (b = 0) := propext (by
  rw [lg_cmp_eq]
  show ql b = ql 0 ↔ _
  rw [ql_eq (by omega) (by omega)])
theorem ql_ne0 {b : Nat} (hb : b < 4611686018427387904) (h : b ≠ 0) : ¬ ql b = 0 := by
  show ¬ ql b = ql 0
  rw [ql_eq (by omega) (by omega)]; exact h
theorem eX_gcd_b : ∀ (k a b st fuel : Nat), b < 2 ^ k → st + 2 * k ≤ 200 → a < 4611686018427387904 → b < 4611686018427387904 → 2 * k < fuel → fX_greatestDivisor_b9 fuel (ql a) (ql b) (qn st) I J = some (ql (Nat.gcd a b), I, J)
  | 0, a, b, st, fuel, hb, hs, ha, hb2, hf => by
    obtain ⟨f, rfl⟩ : ∃ f, fuel = f + 1 := ⟨fuel - 1, by omega⟩
    have hb0 : b = 0 := by have : 2 ^ 0 = 1 := rfl; omega
    subst hb0
    rw [fX_greatestDivisor_b9, Nat.gcd_zero_right]
    by_cases h : (200 : Int32) ≤ qn st
    · rw [if_pos h]
    · rw [if_neg h, if_pos (by rw [ql_c0 (by omega)])]
  | k + 1, a, b, st, fuel, hb, hs, ha, hb2, hf => by
    obtain ⟨f, rfl⟩ : ∃ f, fuel = f + 1 := ⟨fuel - 1, by omega⟩
    have hs1 : ¬ (200 : Int32) ≤ qn st := by show ¬ qn 200 ≤ qn st; rw [qn_le (by omega) (by omega)]; omega
    rw [fX_greatestDivisor_b9, if_neg hs1]
    by_cases hb0 : b = 0
    · subst hb0
      rw [if_pos (by rw [ql_c0 (by omega)]), Nat.gcd_zero_right]
    · have hm := Nat.mod_lt a (show 0 < b by omega)
      rw [if_neg (by rw [ql_c0 (by omega)]; exact hb0), qp_gd_t (ql_ne0 hb2 hb0), ql_md ha hb2, show qn st + 1 = qn (st + 1) from qn_add st 1, gcd_st a b]
      by_cases hr : a % b < 2 ^ k
      · exact eX_gcd_b k b (a % b) (st + 1) f hr (by omega) hb2 (by omega) (by omega)
      · obtain ⟨g, rfl⟩ : ∃ g, f = g + 1 := ⟨f - 1, by omega⟩
        have hp : 0 < 2 ^ k := Nat.pow_pos (by decide)
        rw [Nat.pow_succ] at hb
        have hr0 : a % b ≠ 0 := by omega
        have hs2 : ¬ (200 : Int32) ≤ qn (st + 1) := by show ¬ qn 200 ≤ qn (st + 1); rw [qn_le (by omega) (by omega)]; omega
        rw [fX_greatestDivisor_b9, if_neg hs2, if_neg (by rw [ql_c0 (by omega)]; exact hr0), qp_gd_t (ql_ne0 (by omega) hr0), ql_md hb2 (by omega), show qn (st + 1) + 1 = qn (st + 1 + 1) from qn_add (st + 1) 1, gcd_st b (a % b)]
        have h2 : b % (a % b) = b - a % b := by
          rw [Nat.mod_eq_sub_mod (by omega)]
          exact Nat.mod_eq_of_lt (by omega)
        exact eX_gcd_b k (a % b) (b % (a % b)) (st + 1 + 1) g (by rw [h2]; omega) (by omega) (by omega) (by rw [h2]; omega) (by omega)
theorem eX_gcd {a b : Nat} (ha : a < 4611686018427387904) (hb : b < 4294967296) : fX_greatestDivisor (ql a) (ql b) I J = some (ql (Nat.gcd a b), I, J) := by
  unfold fX_greatestDivisor
  exact eX_gcd_b 32 a b 0 100000 (by omega) (by omega) ha (by omega) (by omega)
theorem eM_gcd_b {U V : Int64} : ∀ (k a b fuel : Nat), b < 2 ^ k → a < 4611686018427387904 → b < 4611686018427387904 → 0 < a → 2 * k < fuel → fM_fraction_b6 fuel U V (ql a) (ql b) I J = some ((), I, qp_up (qp_up J 36 10 (U / ql (Nat.gcd a b))) 36 11 (V / ql (Nat.gcd a b)))
  | 0, a, b, fuel, hb, ha, hb2, h0, hf => by
    obtain ⟨f, rfl⟩ : ∃ f, fuel = f + 1 := ⟨fuel - 1, by omega⟩
    have hb0 : b = 0 := by have : 2 ^ 0 = 1 := rfl; omega
    subst hb0
    rw [fM_fraction_b6, Nat.gcd_zero_right, if_pos (by rw [ql_c0 (by omega)]), qp_gd_t (ql_ne0 ha (by omega))]
  | k + 1, a, b, fuel, hb, ha, hb2, h0, hf => by
    obtain ⟨f, rfl⟩ : ∃ f, fuel = f + 1 := ⟨fuel - 1, by omega⟩
    rw [fM_fraction_b6]
    by_cases hb0 : b = 0
    · subst hb0
      rw [if_pos (by rw [ql_c0 (by omega)]), Nat.gcd_zero_right, qp_gd_t (ql_ne0 ha (by omega))]
    · have hm := Nat.mod_lt a (show 0 < b by omega)
      rw [if_neg (by rw [ql_c0 (by omega)]; exact hb0), qp_gd_t (ql_ne0 hb2 hb0), ql_md ha hb2, gcd_st a b]
      by_cases hr : a % b < 2 ^ k
      · exact eM_gcd_b k b (a % b) f hr hb2 (by omega) (by omega) (by omega)
      · obtain ⟨g, rfl⟩ : ∃ g, f = g + 1 := ⟨f - 1, by omega⟩
        have hp : 0 < 2 ^ k := Nat.pow_pos (by decide)
        rw [Nat.pow_succ] at hb
        have hr0 : a % b ≠ 0 := by omega
        rw [fM_fraction_b6, if_neg (by rw [ql_c0 (by omega)]; exact hr0), qp_gd_t (ql_ne0 (by omega) hr0), ql_md hb2 (by omega), gcd_st b (a % b)]
        have h2 : b % (a % b) = b - a % b := by
          rw [Nat.mod_eq_sub_mod (by omega)]
          exact Nat.mod_eq_of_lt (by omega)
        exact eM_gcd_b k (a % b) (b % (a % b)) g (by rw [h2]; omega) (by omega) (by rw [h2]; omega) (by omega) (by omega)
theorem gcd_pos {a b : Nat} (h : 0 < b) : 0 < Nat.gcd a b := Nat.gcd_pos_of_pos_right a h
theorem eX_ratio {a b : Nat} (ha : a < 4611686018427387904) (hb : b < 4294967296) (h0 : 0 < b) : fX_tellRatio (ql a) (ql b) I J = some (qn 1, I, qp_up (qp_up J 0 12 (ql a / ql (Nat.gcd a b))) 0 13 (ql b / ql (Nat.gcd a b))) := by
  have hg := gcd_pos (a := a) h0
  have hg2 : Nat.gcd a b ≤ b := Nat.le_of_dvd h0 (Nat.gcd_dvd_right a b)
  unfold fX_tellRatio
  rw [eX_gcd ha hb, qp_bd_t, if_neg (by rw [lg_cmp_le]; show ¬ ql _ ≤ ql 0; rw [ql_le (by omega) (by omega)]; omega), qp_gd_t (ql_ne0 (by omega) (by omega))]; rfl
theorem eX_ratio1 {a : Nat} (ha : a < 4611686018427387904) : fX_tellRatio (ql a) (ql 1) I J = some (qn 1, I, qp_up (qp_up J 0 12 (ql a)) 0 13 (ql 1)) := by
  rw [eX_ratio ha (by omega) (by omega), Nat.gcd_one_right, ql_div (by omega) (by omega), ql_div (by omega) (by omega), Nat.div_one]
end GC
/-- what a set (its bits) wants together -/
def zws (K : Nat → Nat) (s : List Nat) (set i : Nat) : Nat := if set / 2 ^ i % 2 = 1 then zwn K s i else 0
theorem zws_le {K : Nat → Nat} {s : List Nat} {set i : Nat} : zws K s set i ≤ 3 := by
  unfold zws
  split
  · exact zwn_le
  · exact Nat.zero_le _
theorem zsl_app {f : Nat → Nat} {x : Nat} : ∀ {l : List Nat}, zsl f (l ++ [x]) = zsl f l + f x
  | [] => by show f x + 0 = 0 + f x; omega
  | y :: t => by
    show f y + zsl f (t ++ [x]) = f y + zsl f t + f x
    rw [zsl_app]; omega
theorem zsl_le {f : Nat → Nat} {b : Nat} : ∀ {l : List Nat}, (∀ i, f i ≤ b) → zsl f l ≤ l.length * b
  | [], _ => Nat.zero_le _
  | x :: t, h => by
    have h1 := h x
    have h2 := zsl_le (l := t) h
    show f x + zsl f t ≤ (t.length + 1) * b
    rw [Nat.add_mul, Nat.one_mul]; omega
section SE
variable {n L0 : Nat} {K P : Nat → Nat} {ds : List Nat} {kp : Nat → Option (List Nat)} {I : Nat → Nat → Int32} {J : Nat → Nat → Int64}
theorem eV_wantAll {s : List Nat} {L set : Nat} (hP : zP n s) (hn : n ≤ 6) (e0 : I 15 0 = qn n) (hv : zXV K P s L I) (hs : set < 64) : fV_wantOfAll (qn set) I J = some (qn (zsm (zws K s set) n), I, J) := by
  unfold fV_wantOfAll
  refine lp (σ := Int32) (R := fun o => o = some (qn (zsm (zws K s set) n), I, J)) (Inv := fun i a => a = qn (zsm (zws K s set) i)) (fun fu i a => fV_wantOfAll_b4 fu (qn set) a (qn i) I J) n 100000 0 0 (Nat.zero_le _) (by omega) rfl ?_ ?_
  · intro fu a ha
    rw [fV_wantOfAll_b4]
    simp (disch := omega) only [e0, ha, qn_l0, qn_l1, qn_l2, qn_l3, qn_l4, qn_l5, qn_l6, qn_l7, qn_l8, qn_l9, qn_l10, qn_l11, qn_l12, qn_l13, qn_l14, qn_l15, qn_l16, qn_l17, qn_l18, qn_l19, qn_l20, qn_l21, qn_l22, qn_l23, qn_l24, qn_l26, qn_l27, qn_l28, qn_l31, qn_l32, qn_l33, qn_l34, qn_l36, qn_l37, qn_l38, qn_l39, qn_l40, qn_l47, qn_l48, qn_l49, qn_l50, qn_l51, qn_l54, qn_l55, qn_l56, qn_l57, qn_l60, qn_l63, qn_l64, qn_l69, qn_l70, qn_l75, qn_l99, qn_l100, qn_l103, qn_l111, qn_l112, qn_l113, qn_l115, qn_l117, qn_l120, qn_l127, qn_l128, qn_l200, qn_l225, qn_l240, qn_l255, qn_l256, qn_l300, qn_l720, qn_l1000, qn_l48271, qn_l1000000, qn_l2147483646, qn_l2147483647, qn_add, qn_mul, qn_sub, qn_addneg, qn_div, qn_mod, qn_modn, qn_lt, qn_le, qn_eq, qn_nat, qn_m1, qn_m1', qn_c1, qn_g1, qn_g1', qn_c1', qn_and, qn_or, qn_shl1, qn_shr1, qn_64, ql_32, ql_add, ql_mul, ql_sub, ql_div, ql_mod, ql_lt, ql_le, ql_eq, ql_l0, ql_l1, qp_gd_T, qp_bd_t, ↓reduceIte, qt_le, qf_le, qt_lt, qf_lt, qt_eq, qf_eq, and_self, not_true_eq_false, not_false_eq_true, true_and, and_true, or_true, true_or, or_false, false_or, and_false, false_and, Nat.reduceAdd, Nat.reduceMul, Nat.reduceSub, Nat.reduceDiv, Nat.reduceMod, Nat.reducePow, Nat.zero_add, Nat.add_zero, Nat.zero_le, Nat.mul_zero, Nat.zero_mul, qm_nk, qm_eq, qm_nj]
  · intro fu i a hi ha
    refine Or.inr ⟨_, rfl, ?_⟩
    have v1 := (hv.1 i ((hP.2.2 i).2 hi)).1
    have hb := Nat.mod_lt (set / 2 ^ i) (show 0 < 2 by omega)
    rw [fV_wantOfAll_b4]
    unfold zsm zws
    by_cases hbit : set / 2 ^ i % 2 = 1
    · rw [if_pos hbit]
      simp (disch := omega) only [e0, q_and1, hbit, eV_wantOf, v1, ha, qn_l0, qn_l1, qn_l2, qn_l3, qn_l4, qn_l5, qn_l6, qn_l7, qn_l8, qn_l9, qn_l10, qn_l11, qn_l12, qn_l13, qn_l14, qn_l15, qn_l16, qn_l17, qn_l18, qn_l19, qn_l20, qn_l21, qn_l22, qn_l23, qn_l24, qn_l26, qn_l27, qn_l28, qn_l31, qn_l32, qn_l33, qn_l34, qn_l36, qn_l37, qn_l38, qn_l39, qn_l40, qn_l47, qn_l48, qn_l49, qn_l50, qn_l51, qn_l54, qn_l55, qn_l56, qn_l57, qn_l60, qn_l63, qn_l64, qn_l69, qn_l70, qn_l75, qn_l99, qn_l100, qn_l103, qn_l111, qn_l112, qn_l113, qn_l115, qn_l117, qn_l120, qn_l127, qn_l128, qn_l200, qn_l225, qn_l240, qn_l255, qn_l256, qn_l300, qn_l720, qn_l1000, qn_l48271, qn_l1000000, qn_l2147483646, qn_l2147483647, qn_add, qn_mul, qn_sub, qn_addneg, qn_div, qn_mod, qn_modn, qn_lt, qn_le, qn_eq, qn_nat, qn_m1, qn_m1', qn_c1, qn_g1, qn_g1', qn_c1', qn_and, qn_or, qn_shl1, qn_shr1, qn_64, ql_32, ql_add, ql_mul, ql_sub, ql_div, ql_mod, ql_lt, ql_le, ql_eq, ql_l0, ql_l1, qp_gd_T, qp_bd_t, ↓reduceIte, qt_le, qf_le, qt_lt, qf_lt, qt_eq, qf_eq, and_self, not_true_eq_false, not_false_eq_true, true_and, and_true, or_true, true_or, or_false, false_or, and_false, false_and, Nat.reduceAdd, Nat.reduceMul, Nat.reduceSub, Nat.reduceDiv, Nat.reduceMod, Nat.reducePow, Nat.zero_add, Nat.add_zero, Nat.zero_le, Nat.mul_zero, Nat.zero_mul, qm_nk, qm_eq, qm_nj]
      rfl
    · rw [if_neg hbit]
      simp (disch := omega) only [e0, q_and1, hbit, ha, qn_l0, qn_l1, qn_l2, qn_l3, qn_l4, qn_l5, qn_l6, qn_l7, qn_l8, qn_l9, qn_l10, qn_l11, qn_l12, qn_l13, qn_l14, qn_l15, qn_l16, qn_l17, qn_l18, qn_l19, qn_l20, qn_l21, qn_l22, qn_l23, qn_l24, qn_l26, qn_l27, qn_l28, qn_l31, qn_l32, qn_l33, qn_l34, qn_l36, qn_l37, qn_l38, qn_l39, qn_l40, qn_l47, qn_l48, qn_l49, qn_l50, qn_l51, qn_l54, qn_l55, qn_l56, qn_l57, qn_l60, qn_l63, qn_l64, qn_l69, qn_l70, qn_l75, qn_l99, qn_l100, qn_l103, qn_l111, qn_l112, qn_l113, qn_l115, qn_l117, qn_l120, qn_l127, qn_l128, qn_l200, qn_l225, qn_l240, qn_l255, qn_l256, qn_l300, qn_l720, qn_l1000, qn_l48271, qn_l1000000, qn_l2147483646, qn_l2147483647, qn_add, qn_mul, qn_sub, qn_addneg, qn_div, qn_mod, qn_modn, qn_lt, qn_le, qn_eq, qn_nat, qn_m1, qn_m1', qn_c1, qn_g1, qn_g1', qn_c1', qn_and, qn_or, qn_shl1, qn_shr1, qn_64, ql_32, ql_add, ql_mul, ql_sub, ql_div, ql_mod, ql_lt, ql_le, ql_eq, ql_l0, ql_l1, qp_gd_T, qp_bd_t, ↓reduceIte, qt_le, qf_le, qt_lt, qf_lt, qt_eq, qf_eq, and_self, not_true_eq_false, not_false_eq_true, true_and, and_true, or_true, true_or, or_false, false_or, and_false, false_and, Nat.reduceAdd, Nat.reduceMul, Nat.reduceSub, Nat.reduceDiv, Nat.reduceMod, Nat.reducePow, Nat.zero_add, Nat.add_zero, Nat.zero_le, Nat.mul_zero, Nat.zero_mul, qm_nk, qm_eq, qm_nj]
      rfl
theorem eM_has {set i : Nat} (hs : set < 64) (hi : i < 6) : fM_has (qn set) (qn i) I J = some (qn (set / 2 ^ i % 2), I, J) := by
  have hb := Nat.mod_lt (set / 2 ^ i) (show 0 < 2 by omega)
  unfold fM_has
  by_cases hbit : set / 2 ^ i % 2 = 1
  · simp (disch := omega) only [q_and1, hbit, qn_l0, qn_l1, qn_l2, qn_l3, qn_l4, qn_l5, qn_l6, qn_l7, qn_l8, qn_l9, qn_l10, qn_l11, qn_l12, qn_l13, qn_l14, qn_l15, qn_l16, qn_l17, qn_l18, qn_l19, qn_l20, qn_l21, qn_l22, qn_l23, qn_l24, qn_l26, qn_l27, qn_l28, qn_l31, qn_l32, qn_l33, qn_l34, qn_l36, qn_l37, qn_l38, qn_l39, qn_l40, qn_l47, qn_l48, qn_l49, qn_l50, qn_l51, qn_l54, qn_l55, qn_l56, qn_l57, qn_l60, qn_l63, qn_l64, qn_l69, qn_l70, qn_l75, qn_l99, qn_l100, qn_l103, qn_l111, qn_l112, qn_l113, qn_l115, qn_l117, qn_l120, qn_l127, qn_l128, qn_l200, qn_l225, qn_l240, qn_l255, qn_l256, qn_l300, qn_l720, qn_l1000, qn_l48271, qn_l1000000, qn_l2147483646, qn_l2147483647, qn_add, qn_mul, qn_sub, qn_addneg, qn_div, qn_mod, qn_modn, qn_lt, qn_le, qn_eq, qn_nat, qn_m1, qn_m1', qn_c1, qn_g1, qn_g1', qn_c1', qn_and, qn_or, qn_shl1, qn_shr1, qn_64, ql_32, ql_add, ql_mul, ql_sub, ql_div, ql_mod, ql_lt, ql_le, ql_eq, ql_l0, ql_l1, qp_gd_T, qp_bd_t, ↓reduceIte, qt_le, qf_le, qt_lt, qf_lt, qt_eq, qf_eq, and_self, not_true_eq_false, not_false_eq_true, true_and, and_true, or_true, true_or, or_false, false_or, and_false, false_and, Nat.reduceAdd, Nat.reduceMul, Nat.reduceSub, Nat.reduceDiv, Nat.reduceMod, Nat.reducePow, Nat.zero_add, Nat.add_zero, Nat.zero_le, Nat.mul_zero, Nat.zero_mul, qm_nk, qm_eq, qm_nj]
  · have h0 : set / 2 ^ i % 2 = 0 := by omega
    simp (disch := omega) only [q_and1, h0, qn_l0, qn_l1, qn_l2, qn_l3, qn_l4, qn_l5, qn_l6, qn_l7, qn_l8, qn_l9, qn_l10, qn_l11, qn_l12, qn_l13, qn_l14, qn_l15, qn_l16, qn_l17, qn_l18, qn_l19, qn_l20, qn_l21, qn_l22, qn_l23, qn_l24, qn_l26, qn_l27, qn_l28, qn_l31, qn_l32, qn_l33, qn_l34, qn_l36, qn_l37, qn_l38, qn_l39, qn_l40, qn_l47, qn_l48, qn_l49, qn_l50, qn_l51, qn_l54, qn_l55, qn_l56, qn_l57, qn_l60, qn_l63, qn_l64, qn_l69, qn_l70, qn_l75, qn_l99, qn_l100, qn_l103, qn_l111, qn_l112, qn_l113, qn_l115, qn_l117, qn_l120, qn_l127, qn_l128, qn_l200, qn_l225, qn_l240, qn_l255, qn_l256, qn_l300, qn_l720, qn_l1000, qn_l48271, qn_l1000000, qn_l2147483646, qn_l2147483647, qn_add, qn_mul, qn_sub, qn_addneg, qn_div, qn_mod, qn_modn, qn_lt, qn_le, qn_eq, qn_nat, qn_m1, qn_m1', qn_c1, qn_g1, qn_g1', qn_c1', qn_and, qn_or, qn_shl1, qn_shr1, qn_64, ql_32, ql_add, ql_mul, ql_sub, ql_div, ql_mod, ql_lt, ql_le, ql_eq, ql_l0, ql_l1, qp_gd_T, qp_bd_t, ↓reduceIte, qt_le, qf_le, qt_lt, qf_lt, qt_eq, qf_eq, and_self, not_true_eq_false, not_false_eq_true, true_and, and_true, or_true, true_or, or_false, false_or, and_false, false_and, Nat.reduceAdd, Nat.reduceMul, Nat.reduceSub, Nat.reduceDiv, Nat.reduceMod, Nat.reducePow, Nat.zero_add, Nat.add_zero, Nat.zero_le, Nat.mul_zero, Nat.zero_mul, qm_nk, qm_eq, qm_nj]
theorem eM_wantedBy {s : List Nat} {set : Nat} (hP : zP n s) (hn : n ≤ 6) (e0 : I 37 0 = qn n) (hr : zrow 69 s (I 37)) (hk : ∀ i, i < n → K i ≤ 5 ∧ I 37 (2 + i) = qn (K i)) (hs : set < 64) : fM_wantedBy (qn set) I J = some (qn (zsm (zws K s set) n), I, J) := by
  have hl := hP.2.1
  unfold fM_wantedBy
  rw [← zsl_sm n s hP.1 hP.2.2]
  refine lp (σ := Int32) (R := fun o => o = some (qn (zsl (zws K s set) s), I, J)) (Inv := fun p a => a = qn (zsl (zws K s set) (s.take p))) (fun fu p a => fM_wantedBy_b4 fu (qn set) a (qn p) I J) n 100000 0 0 (Nat.zero_le _) (by omega) rfl ?_ ?_
  · intro fu a ha
    rw [← hl, List.take_length] at ha
    rw [fM_wantedBy_b4]
    simp (disch := omega) only [e0, ha, qn_l0, qn_l1, qn_l2, qn_l3, qn_l4, qn_l5, qn_l6, qn_l7, qn_l8, qn_l9, qn_l10, qn_l11, qn_l12, qn_l13, qn_l14, qn_l15, qn_l16, qn_l17, qn_l18, qn_l19, qn_l20, qn_l21, qn_l22, qn_l23, qn_l24, qn_l26, qn_l27, qn_l28, qn_l31, qn_l32, qn_l33, qn_l34, qn_l36, qn_l37, qn_l38, qn_l39, qn_l40, qn_l47, qn_l48, qn_l49, qn_l50, qn_l51, qn_l54, qn_l55, qn_l56, qn_l57, qn_l60, qn_l63, qn_l64, qn_l69, qn_l70, qn_l75, qn_l99, qn_l100, qn_l103, qn_l111, qn_l112, qn_l113, qn_l115, qn_l117, qn_l120, qn_l127, qn_l128, qn_l200, qn_l225, qn_l240, qn_l255, qn_l256, qn_l300, qn_l720, qn_l1000, qn_l48271, qn_l1000000, qn_l2147483646, qn_l2147483647, qn_add, qn_mul, qn_sub, qn_addneg, qn_div, qn_mod, qn_modn, qn_lt, qn_le, qn_eq, qn_nat, qn_m1, qn_m1', qn_c1, qn_g1, qn_g1', qn_c1', qn_and, qn_or, qn_shl1, qn_shr1, qn_64, ql_32, ql_add, ql_mul, ql_sub, ql_div, ql_mod, ql_lt, ql_le, ql_eq, ql_l0, ql_l1, qp_gd_T, qp_bd_t, ↓reduceIte, qt_le, qf_le, qt_lt, qf_lt, qt_eq, qf_eq, and_self, not_true_eq_false, not_false_eq_true, true_and, and_true, or_true, true_or, or_false, false_or, and_false, false_and, Nat.reduceAdd, Nat.reduceMul, Nat.reduceSub, Nat.reduceDiv, Nat.reduceMod, Nat.reducePow, Nat.zero_add, Nat.add_zero, Nat.zero_le, Nat.mul_zero, Nat.zero_mul, qm_nk, qm_eq, qm_nj]
  · intro fu p a hp ha
    refine Or.inr ⟨_, rfl, ?_⟩
    have er := hr p (by omega)
    have hz := zP_at hP hp
    obtain ⟨k5, ek⟩ := hk _ hz
    have eh := eM_has (I := I) (J := J) (i := zat s p) hs (by omega)
    have hb := Nat.mod_lt (set / 2 ^ zat s p) (show 0 < 2 by omega)
    have ew := eM_wantsAs (I := I) (J := J) (b := decide (p + 1 = n)) k5
    have ex : zwn K s (zat s p) = zwant (K (zat s p)) (decide (p + 1 = n)) := by unfold zwn; rw [zP_ixat hP hp, hl]
    have hsum := zsl_le (f := zws K s set) (l := s.take p) (fun i => zws_le)
    rw [List.length_take] at hsum
    rw [fM_wantedBy_b4, take_zat (by omega), zsl_app]
    unfold zws
    by_cases hbit : set / 2 ^ zat s p % 2 = 1
    · rw [if_pos hbit, ex]
      rw [hbit] at eh
      by_cases hl2 : p + 1 = n
      · have hp2 : p = n - 1 := by omega
        rw [decide_eq_true hl2, if_pos rfl] at ew
        simp (disch := omega) only [e0, er, eh, ek, ew, hl2, decide_true, ha, qn_l0, qn_l1, qn_l2, qn_l3, qn_l4, qn_l5, qn_l6, qn_l7, qn_l8, qn_l9, qn_l10, qn_l11, qn_l12, qn_l13, qn_l14, qn_l15, qn_l16, qn_l17, qn_l18, qn_l19, qn_l20, qn_l21, qn_l22, qn_l23, qn_l24, qn_l26, qn_l27, qn_l28, qn_l31, qn_l32, qn_l33, qn_l34, qn_l36, qn_l37, qn_l38, qn_l39, qn_l40, qn_l47, qn_l48, qn_l49, qn_l50, qn_l51, qn_l54, qn_l55, qn_l56, qn_l57, qn_l60, qn_l63, qn_l64, qn_l69, qn_l70, qn_l75, qn_l99, qn_l100, qn_l103, qn_l111, qn_l112, qn_l113, qn_l115, qn_l117, qn_l120, qn_l127, qn_l128, qn_l200, qn_l225, qn_l240, qn_l255, qn_l256, qn_l300, qn_l720, qn_l1000, qn_l48271, qn_l1000000, qn_l2147483646, qn_l2147483647, qn_add, qn_mul, qn_sub, qn_addneg, qn_div, qn_mod, qn_modn, qn_lt, qn_le, qn_eq, qn_nat, qn_m1, qn_m1', qn_c1, qn_g1, qn_g1', qn_c1', qn_and, qn_or, qn_shl1, qn_shr1, qn_64, ql_32, ql_add, ql_mul, ql_sub, ql_div, ql_mod, ql_lt, ql_le, ql_eq, ql_l0, ql_l1, qp_gd_T, qp_bd_t, ↓reduceIte, qt_le, qf_le, qt_lt, qf_lt, qt_eq, qf_eq, and_self, not_true_eq_false, not_false_eq_true, true_and, and_true, or_true, true_or, or_false, false_or, and_false, false_and, Nat.reduceAdd, Nat.reduceMul, Nat.reduceSub, Nat.reduceDiv, Nat.reduceMod, Nat.reducePow, Nat.zero_add, Nat.add_zero, Nat.zero_le, Nat.mul_zero, Nat.zero_mul, qm_nk, qm_eq, qm_nj]
        rfl
      · rw [decide_eq_false hl2, if_neg (by decide)] at ew
        simp (disch := omega) only [e0, er, eh, ek, ew, hl2, decide_false, ha, qn_l0, qn_l1, qn_l2, qn_l3, qn_l4, qn_l5, qn_l6, qn_l7, qn_l8, qn_l9, qn_l10, qn_l11, qn_l12, qn_l13, qn_l14, qn_l15, qn_l16, qn_l17, qn_l18, qn_l19, qn_l20, qn_l21, qn_l22, qn_l23, qn_l24, qn_l26, qn_l27, qn_l28, qn_l31, qn_l32, qn_l33, qn_l34, qn_l36, qn_l37, qn_l38, qn_l39, qn_l40, qn_l47, qn_l48, qn_l49, qn_l50, qn_l51, qn_l54, qn_l55, qn_l56, qn_l57, qn_l60, qn_l63, qn_l64, qn_l69, qn_l70, qn_l75, qn_l99, qn_l100, qn_l103, qn_l111, qn_l112, qn_l113, qn_l115, qn_l117, qn_l120, qn_l127, qn_l128, qn_l200, qn_l225, qn_l240, qn_l255, qn_l256, qn_l300, qn_l720, qn_l1000, qn_l48271, qn_l1000000, qn_l2147483646, qn_l2147483647, qn_add, qn_mul, qn_sub, qn_addneg, qn_div, qn_mod, qn_modn, qn_lt, qn_le, qn_eq, qn_nat, qn_m1, qn_m1', qn_c1, qn_g1, qn_g1', qn_c1', qn_and, qn_or, qn_shl1, qn_shr1, qn_64, ql_32, ql_add, ql_mul, ql_sub, ql_div, ql_mod, ql_lt, ql_le, ql_eq, ql_l0, ql_l1, qp_gd_T, qp_bd_t, ↓reduceIte, qt_le, qf_le, qt_lt, qf_lt, qt_eq, qf_eq, and_self, not_true_eq_false, not_false_eq_true, true_and, and_true, or_true, true_or, or_false, false_or, and_false, false_and, Nat.reduceAdd, Nat.reduceMul, Nat.reduceSub, Nat.reduceDiv, Nat.reduceMod, Nat.reducePow, Nat.zero_add, Nat.add_zero, Nat.zero_le, Nat.mul_zero, Nat.zero_mul, qm_nk, qm_eq, qm_nj]
        rfl
    · rw [if_neg hbit]
      have h0 : set / 2 ^ zat s p % 2 = 0 := by omega
      rw [h0] at eh
      simp (disch := omega) only [e0, er, eh, ha, qn_l0, qn_l1, qn_l2, qn_l3, qn_l4, qn_l5, qn_l6, qn_l7, qn_l8, qn_l9, qn_l10, qn_l11, qn_l12, qn_l13, qn_l14, qn_l15, qn_l16, qn_l17, qn_l18, qn_l19, qn_l20, qn_l21, qn_l22, qn_l23, qn_l24, qn_l26, qn_l27, qn_l28, qn_l31, qn_l32, qn_l33, qn_l34, qn_l36, qn_l37, qn_l38, qn_l39, qn_l40, qn_l47, qn_l48, qn_l49, qn_l50, qn_l51, qn_l54, qn_l55, qn_l56, qn_l57, qn_l60, qn_l63, qn_l64, qn_l69, qn_l70, qn_l75, qn_l99, qn_l100, qn_l103, qn_l111, qn_l112, qn_l113, qn_l115, qn_l117, qn_l120, qn_l127, qn_l128, qn_l200, qn_l225, qn_l240, qn_l255, qn_l256, qn_l300, qn_l720, qn_l1000, qn_l48271, qn_l1000000, qn_l2147483646, qn_l2147483647, qn_add, qn_mul, qn_sub, qn_addneg, qn_div, qn_mod, qn_modn, qn_lt, qn_le, qn_eq, qn_nat, qn_m1, qn_m1', qn_c1, qn_g1, qn_g1', qn_c1', qn_and, qn_or, qn_shl1, qn_shr1, qn_64, ql_32, ql_add, ql_mul, ql_sub, ql_div, ql_mod, ql_lt, ql_le, ql_eq, ql_l0, ql_l1, qp_gd_T, qp_bd_t, ↓reduceIte, qt_le, qf_le, qt_lt, qf_lt, qt_eq, qf_eq, and_self, not_true_eq_false, not_false_eq_true, true_and, and_true, or_true, true_or, or_false, false_or, and_false, false_and, Nat.reduceAdd, Nat.reduceMul, Nat.reduceSub, Nat.reduceDiv, Nat.reduceMod, Nat.reducePow, Nat.zero_add, Nat.add_zero, Nat.zero_le, Nat.mul_zero, Nat.zero_mul, qm_nk, qm_eq, qm_nj]
      rfl
end SE
/-- the first one, or NONE -/
def zfs (c : Nat → Bool) : Nat → Int32
  | 0 => -qn 9
  | j + 1 => if c j = true ∧ zcnt c j = 0 then qn j else zfs c j
def zie (c : Nat → Bool) (all : Nat) : Nat → Nat
  | 0 => all
  | j + 1 => if c j = true then zie c all j &&& j else zie c all j
def zis (c : Nat → Bool) : Nat → Nat
  | 0 => 0
  | j + 1 => if c j = true then zis c j ||| j else zis c j
theorem zfs_T {c : Nat → Bool} {j : Nat} (h : c j = true) (h0 : zcnt c j = 0) : zfs c (j + 1) = qn j := by
  show (if _ then _ else _) = _
  rw [if_pos ⟨h, h0⟩]
theorem zfs_N {c : Nat → Bool} {j : Nat} (h0 : ¬ zcnt c j = 0) : zfs c (j + 1) = zfs c j := by
  show (if _ then _ else _) = _
  rw [if_neg (fun q => h0 q.2)]
theorem zfs_F {c : Nat → Bool} {j : Nat} (h : c j = false) : zfs c (j + 1) = zfs c j := by
  show (if _ then _ else _) = _
  rw [if_neg (fun q => by rw [h] at q; exact absurd q.1 (by decide))]
theorem zie_T {c : Nat → Bool} {a j : Nat} (h : c j = true) : zie c a (j + 1) = zie c a j &&& j := by
  show (if _ then _ else _) = _
  rw [if_pos h]
theorem zie_F {c : Nat → Bool} {a j : Nat} (h : c j = false) : zie c a (j + 1) = zie c a j := by
  show (if _ then _ else _) = _
  rw [if_neg (by rw [h]; decide)]
theorem zis_T {c : Nat → Bool} {j : Nat} (h : c j = true) : zis c (j + 1) = zis c j ||| j := by
  show (if _ then _ else _) = _
  rw [if_pos h]
theorem zis_F {c : Nat → Bool} {j : Nat} (h : c j = false) : zis c (j + 1) = zis c j := by
  show (if _ then _ else _) = _
  rw [if_neg (by rw [h]; decide)]
theorem p2_le {n : Nat} (hn : n ≤ 6) : 2 ^ n ≤ 64 := (Nat.pow_le_pow_right (by decide) hn : 2 ^ n ≤ 2 ^ 6)
theorem q_p2 {n : Nat} (hn : n ≤ 6) : (1 : Int32) <<< (qn n &&& 31) = qn (2 ^ n) := by
  show qn 1 <<< (qn n &&& qn 31) = _
  rw [qn_shl (by omega), Nat.one_mul]
theorem q_20 (p : Int32) (h : p < 0 ∨ qn 21 ≤ p) : (p < 0) ∨ (¬ p < 0 ∧ ¬ p ≤ 20) := by
  by_cases h0 : p < 0
  · exact Or.inl h0
  · rcases h with h | h
    · exact absurd h h0
    · refine Or.inr ⟨h0, ?_⟩
      rw [Int32.le_iff_toInt_le] at h ⊢
      rw [qn_toInt (by omega)] at h
      have e20 : (20 : Int32).toInt = 20 := rfl
      omega
theorem sim_sets (p : Int32) : zsim (fX_sets p) (fM_sets p) := by
  intro I J h
  obtain ⟨n, L0, K, P, ds, kp, hR⟩ := id h
  obtain ⟨hS, hC, hL⟩ := hR
  have hn := hS.1
  have hP := zSt_P hS
  have hok := zSt_ok hS
  obtain ⟨⟨h1, h2, h3⟩, h4, hM, h10⟩ := id hL
  have e0 : I 15 0 = qn n := h3.1
  have e0' : I 37 0 = qn n := hM.2.2.2.2.1
  rcases qn_cs 21 (by omega) p with ⟨v, hv, rfl⟩ | ⟨-, hp⟩
  case inr =>
    have hin : fM_in (Int32.toInt64 p) 0 20 I J = some (qn 0, I, J) := eM_inPF (lo := 0) (hi := 21) (by omega) (by omega) rfl hp
    refine ⟨-qn 1, I, J, I, J, ?_, ?_, h⟩
    · unfold fX_sets
      rcases q_20 p hp with h0 | ⟨h0, h1⟩
      · rw [if_pos h0]; rfl
      · rw [if_neg h0, if_neg h1]; rfl
    · unfold fM_sets
      rw [hin]; rfl
  have hin : ∀ I, fM_in (Int32.toInt64 (qn v)) 0 20 I J = some (qn 1, I, J) := fun I => by rw [qn_64 (by omega)]; exact eM_inN (a := v) (b := 0) (c := 20) (by omega) (by omega) (by omega) (by omega)
  have c1 : ¬ qn v < 0 := by show ¬ qn v < qn 0; rw [qn_lt (by omega) (by omega)]; omega
  have c2 : qn v ≤ 20 := by show qn v ≤ qn 20; rw [qn_le (by omega) (by omega)]; omega
  by_cases hn0 : n = 0
  · refine ⟨-qn 4, I, J, I, J, ?_, ?_, h⟩
    · unfold fX_sets
      rw [if_neg c1, if_pos c2, e0, hn0, if_neg (by decide)]; rfl
    · unfold fM_sets
      rw [hin, qp_bd_t, if_pos (by decide), e0', hn0, if_neg (by decide)]; rfl
  have c3 : ¬ qn n = 0 := by show ¬ qn n = qn 0; rw [qn_eq (by omega) (by omega)]; exact hn0
  obtain ⟨I1, a1, a2, a3⟩ := eL_sv (J := J) hP hn (zSt_kx hS h2) h3.1 h3.2.2.1 hok.2.2
  have x0 : I1 15 0 = qn n := by rw [a3 15 (by omega)]; exact e0
  have h64 := p2_le hn
  generalize hs : zls n (zrun n L0 ds).1 = s at *
  generalize hc : (fun set => decide (zsm (zws K s set) n = v)) = c
  have hcT : ∀ set, zsm (zws K s set) n = v → c set = true := fun set q => by rw [← hc]; exact decide_eq_true q
  have hcF : ∀ set, ¬ zsm (zws K s set) n = v → c set = false := fun set q => by rw [← hc]; exact decide_eq_false q
  have hb18 : ∀ set, zsm (zws K s set) n ≤ 18 := fun set => by have := zsm_le (f := zws K s set) (n := n) (b := 3) (fun i _ => zws_le); omega
  have bx : fX_sets_b50 100000 (qn v) (-qn 9) (qn 0) (qn 0) I1 J = some (qn 1, qp_up I1 0 11 (zfs c (2 ^ n)), qp_up (qp_up J 0 12 (ql (zcnt c (2 ^ n)))) 0 13 (ql 1)) := by
    refine lp (σ := Int32 × Int32) (R := fun o => o = some (qn 1, qp_up I1 0 11 (zfs c (2 ^ n)), qp_up (qp_up J 0 12 (ql (zcnt c (2 ^ n)))) 0 13 (ql 1))) (Inv := fun j q => q.1 = zfs c j ∧ q.2 = qn (zcnt c j)) (fun fu j q => fX_sets_b50 fu (qn v) q.1 q.2 (qn j) I1 J) (2 ^ n) 100000 0 (-qn 9, qn 0) (Nat.zero_le _) (by omega) ⟨rfl, rfl⟩ ?_ ?_
    · rintro fu ⟨q1, q2⟩ ⟨s1, s2⟩
      dsimp only at s1 s2 ⊢
      have hcl := zcnt_le c (2 ^ n)
      have er := eX_ratio1 (I := qp_up I1 0 11 (zfs c (2 ^ n))) (J := J) (a := zcnt c (2 ^ n)) (by omega)
      rw [fX_sets_b50, x0, q_p2 hn, if_pos (Int32.le_refl _), s1, s2, qn_64 (by omega)]
      unfold fX_tell
      rw [qp_bd_t, show (1 : Int64) = ql 1 from rfl, er, qp_bd_t]
    · rintro fu j ⟨q1, q2⟩ hj ⟨s1, s2⟩
      dsimp only at s1 s2 ⊢
      have hcl := zcnt_le c j
      have hb := hb18 j
      have ew := eV_wantAll (I := I1) (J := J) (set := j) hP hn x0 a2 (by omega)
      have ej : qn j + 1 = qn (j + 1) := qn_add j 1
      have ec : qn (zcnt c j) + 1 = qn (zcnt c j + 1) := qn_add _ 1
      refine Or.inr ⟨(zfs c (j + 1), qn (zcnt c (j + 1))), ⟨rfl, rfl⟩, ?_⟩
      rw [fX_sets_b50, x0, q_p2 hn, if_neg (by rw [qn_le (by omega) (by omega)]; omega), ew, qp_bd_t, ej, s1, s2]
      by_cases hq : zsm (zws K s j) n = v
      · rw [if_neg (by rw [hq]; exact fun q => q rfl), zcnt_T (hcT j hq)]
        by_cases h0 : zcnt c j = 0
        · rw [if_neg (by rw [h0]; exact fun q => q rfl), ec, zfs_T (hcT j hq) h0]
        · rw [if_pos (by show ¬ qn _ = qn 0; rw [qn_eq (by omega) (by omega)]; exact h0), ec, zfs_N h0]
      · rw [if_pos (by rw [qn_eq (by omega) (by omega)]; exact hq), zcnt_F (hcF j hq), zfs_F (hcF j hq)]
  generalize hw : zfs c (2 ^ n) = w at bx
  generalize hm : zcnt c (2 ^ n) = m at bx
  have hcl := zcnt_le c (2 ^ n)
  have f37 : qp_up I1 0 11 w 37 = I 37 := by rw [qm_nk (by omega), a3 37 (by omega)]
  have bm : fM_sets_b34 100000 (qn v) (qn 0) (-qn 9) (qn 0) (qp_up I1 0 11 w) (qp_up (qp_up J 0 12 (ql m)) 0 13 (ql 1)) = some (qn 1, qp_up (qp_up I1 0 11 w) 36 9 w, qp_up (qp_up (qp_up (qp_up J 0 12 (ql m)) 0 13 (ql 1)) 36 10 (ql m)) 36 11 (ql 1)) := by
    refine lp (σ := Int32 × Int32) (R := fun o => o = some (qn 1, qp_up (qp_up I1 0 11 w) 36 9 w, qp_up (qp_up (qp_up (qp_up J 0 12 (ql m)) 0 13 (ql 1)) 36 10 (ql m)) 36 11 (ql 1))) (Inv := fun j q => q.1 = qn (zcnt c j) ∧ q.2 = zfs c j) (fun fu j q => fM_sets_b34 fu (qn v) q.1 q.2 (qn j) (qp_up I1 0 11 w) (qp_up (qp_up J 0 12 (ql m)) 0 13 (ql 1))) (2 ^ n) 100000 0 (qn 0, -qn 9) (Nat.zero_le _) (by omega) ⟨rfl, rfl⟩ ?_ ?_
    · rintro fu ⟨q1, q2⟩ ⟨s1, s2⟩
      dsimp only at s1 s2 ⊢
      rw [fM_sets_b34, f37, e0', q_p2 hn, if_pos (Int32.le_refl _), s1, s2, qn_64 (by omega), hm, hw]
      rfl
    · rintro fu j ⟨q1, q2⟩ hj ⟨s1, s2⟩
      dsimp only at s1 s2 ⊢
      have hcl := zcnt_le c j
      have hb := hb18 j
      have ew := eM_wantedBy (I := qp_up I1 0 11 w) (J := qp_up (qp_up J 0 12 (ql m)) 0 13 (ql 1)) (set := j) (K := K) (s := s) hP hn (by rw [f37]; exact e0') (by rw [f37]; exact hs ▸ hM.2.2.2.2.2.2.2.2) (fun i hi => by rw [f37]; exact ⟨(hS.2.2.1 i hi).1, (hM.2.1 i hi).1⟩) (by omega)
      have ej : qn j + 1 = qn (j + 1) := qn_add j 1
      have ec : qn (zcnt c j) + 1 = qn (zcnt c j + 1) := qn_add _ 1
      refine Or.inr ⟨(qn (zcnt c (j + 1)), zfs c (j + 1)), ⟨rfl, rfl⟩, ?_⟩
      rw [fM_sets_b34, f37, e0', q_p2 hn, if_neg (by rw [qn_le (by omega) (by omega)]; omega), ew, qp_bd_t, ej, s1, s2]
      by_cases hq : zsm (zws K s j) n = v
      · rw [if_neg (by rw [hq]; exact fun q => q rfl), zcnt_T (hcT j hq)]
        by_cases h0 : zcnt c j = 0
        · rw [if_neg (by rw [h0]; exact fun q => q rfl), ec, zfs_T (hcT j hq) h0]
        · rw [if_pos (by show ¬ qn _ = qn 0; rw [qn_eq (by omega) (by omega)]; exact h0), ec, zfs_N h0]
      · rw [if_pos (by rw [qn_eq (by omega) (by omega)]; exact hq), zcnt_F (hcF j hq), zfs_F (hcF j hq)]
  refine ⟨qn 1, qp_up I1 0 11 w, qp_up (qp_up J 0 12 (ql m)) 0 13 (ql 1), qp_up (qp_up I1 0 11 w) 36 9 w, qp_up (qp_up (qp_up (qp_up J 0 12 (ql m)) 0 13 (ql 1)) 36 10 (ql m)) 36 11 (ql 1), ?_, ?_, ?_⟩
  · unfold fX_sets
    rw [if_neg c1, if_pos c2, e0, if_pos c3, h3.2.1, hs, a1, qp_bd_t]
    exact bx
  · unfold fM_sets
    rw [show fM_in (Int32.toInt64 (qn v)) 0 20 (qp_up I1 0 11 w) (qp_up (qp_up J 0 12 (ql m)) 0 13 (ql 1)) = some (qn 1, qp_up I1 0 11 w, qp_up (qp_up J 0 12 (ql m)) 0 13 (ql 1)) by rw [qn_64 (by omega)]; exact eM_inN (a := v) (b := 0) (c := 20) (by omega) (by omega) (by omega) (by omega), qp_bd_t, if_pos (by decide), f37, e0', if_pos c3]
    exact bm
  · refine zR_of h (fun c hc => by unfold zlc at hc; rw [qm_nk (by omega), qm_nk (by omega)]; exact a3 c (by omega)) (zC_eq hC (fun c hc => by unfold zcc at hc; rw [qm_nk (by omega), qm_nk (by omega)]; exact a3 c (by omega)) ?_ ?_ ?_ ?_)
    · rw [qm_nj (by omega), qm_nk (by omega), qm_nk (k := 36) (by omega), qm_nj (by omega), a3 36 (by omega), a3 0 (by omega)]; exact hC.2.2.1.1
    · rw [qm_eq rfl, qm_nk (by omega), qm_eq rfl]
    · rw [qm_nj (by omega), qm_eq rfl, qm_nk (by omega), qm_nk (by omega), qm_nj (by omega), qm_eq rfl]
    · rw [qm_eq rfl, qm_nk (by omega), qm_nk (by omega), qm_eq rfl]
theorem sim_sure (p : Int32) : zsim (fX_sure p) (fM_sure p) := by
  intro I J h
  obtain ⟨n, L0, K, P, ds, kp, hR⟩ := id h
  obtain ⟨hS, hC, hL⟩ := hR
  have hn := hS.1
  have hP := zSt_P hS
  have hok := zSt_ok hS
  obtain ⟨⟨h1, h2, h3⟩, h4, hM, h10⟩ := id hL
  have e0 : I 15 0 = qn n := h3.1
  have e0' : I 37 0 = qn n := hM.2.2.2.2.1
  rcases qn_cs 21 (by omega) p with ⟨v, hv, rfl⟩ | ⟨-, hp⟩
  case inr =>
    have hin : fM_in (Int32.toInt64 p) 0 20 I J = some (qn 0, I, J) := eM_inPF (lo := 0) (hi := 21) (by omega) (by omega) rfl hp
    refine ⟨-qn 1, I, J, I, J, ?_, ?_, h⟩
    · unfold fX_sure
      rcases q_20 p hp with h0 | ⟨h0, h1⟩
      · rw [if_pos h0]; rfl
      · rw [if_neg h0, if_neg h1]; rfl
    · unfold fM_sure
      rw [hin]; rfl
  have hin : ∀ I, fM_in (Int32.toInt64 (qn v)) 0 20 I J = some (qn 1, I, J) := fun I => by rw [qn_64 (by omega)]; exact eM_inN (a := v) (b := 0) (c := 20) (by omega) (by omega) (by omega) (by omega)
  have c1 : ¬ qn v < 0 := by show ¬ qn v < qn 0; rw [qn_lt (by omega) (by omega)]; omega
  have c2 : qn v ≤ 20 := by show qn v ≤ qn 20; rw [qn_le (by omega) (by omega)]; omega
  by_cases hn0 : n = 0
  · refine ⟨-qn 4, I, J, I, J, ?_, ?_, h⟩
    · unfold fX_sure
      rw [if_neg c1, if_pos c2, e0, hn0, if_neg (by decide)]; rfl
    · unfold fM_sure
      rw [hin, qp_bd_t, if_pos (by decide), e0', hn0, if_neg (by decide)]; rfl
  have c3 : ¬ qn n = 0 := by show ¬ qn n = qn 0; rw [qn_eq (by omega) (by omega)]; exact hn0
  obtain ⟨I1, a1, a2, a3⟩ := eL_sv (J := J) hP hn (zSt_kx hS h2) h3.1 h3.2.2.1 hok.2.2
  have x0 : I1 15 0 = qn n := by rw [a3 15 (by omega)]; exact e0
  have h64 := p2_le hn
  have h2p : 0 < 2 ^ n := Nat.pow_pos (by decide)
  have eall : ((1 : Int32) <<< (qn n &&& 31)) - 1 = qn (2 ^ n - 1) := by
    rw [q_p2 hn]
    show qn (2 ^ n) - qn 1 = _
    rw [qn_sub (by omega)]
  generalize hs : zls n (zrun n L0 ds).1 = s at *
  generalize hc : (fun set => decide (zsm (zws K s set) n = v)) = c
  have hcT : ∀ set, zsm (zws K s set) n = v → c set = true := fun set q => by rw [← hc]; exact decide_eq_true q
  have hcF : ∀ set, ¬ zsm (zws K s set) n = v → c set = false := fun set q => by rw [← hc]; exact decide_eq_false q
  have hb18 : ∀ set, zsm (zws K s set) n ≤ 18 := fun set => by have := zsm_le (f := zws K s set) (n := n) (b := 3) (fun i _ => zws_le); omega
  have hcl := zcnt_le c (2 ^ n)
  have bx : fX_sure_b68 100000 (qn v) (qn (2 ^ n - 1)) (qn 0) (qn (2 ^ n - 1)) (qn 0) (qn 0) I1 J = if zcnt c (2 ^ n) = 0 then some (-qn 3, xfd 4 I1, J) else some (qn (zie c (2 ^ n - 1) (2 ^ n)), qp_up I1 0 11 (qn (2 ^ n - 1) &&& (qn (zis c (2 ^ n)) ^^^ (-1))), J) := by
    refine lp (σ := Int32 × Int32 × Int32) (R := fun o => o = if zcnt c (2 ^ n) = 0 then some (-qn 3, xfd 4 I1, J) else some (qn (zie c (2 ^ n - 1) (2 ^ n)), qp_up I1 0 11 (qn (2 ^ n - 1) &&& (qn (zis c (2 ^ n)) ^^^ (-1))), J)) (Inv := fun j q => q.1 = qn (zcnt c j) ∧ q.2.1 = qn (zie c (2 ^ n - 1) j) ∧ q.2.2 = qn (zis c j)) (fun fu j q => fX_sure_b68 fu (qn v) (qn (2 ^ n - 1)) q.1 q.2.1 q.2.2 (qn j) I1 J) (2 ^ n) 100000 0 (qn 0, qn (2 ^ n - 1), qn 0) (Nat.zero_le _) (by omega) ⟨rfl, rfl, rfl⟩ ?_ ?_
    · rintro fu ⟨q1, q2, q3⟩ ⟨s1, s2, s3⟩
      dsimp only at s1 s2 s3 ⊢
      rw [fX_sure_b68, if_pos (by rw [qn_lt (by omega) (by omega)]; omega), s1, s2, s3]
      by_cases h0 : zcnt c (2 ^ n) = 0
      · rw [h0, if_neg (by exact fun q => q rfl), if_pos rfl, show (4 : Int32) = qn 4 from rfl, eX_found (by omega) (by omega), qp_bd_t]
      · rw [if_pos (by show ¬ qn _ = qn 0; rw [qn_eq (by omega) (by omega)]; exact h0), if_neg h0]; rfl
    · rintro fu j ⟨q1, q2, q3⟩ hj ⟨s1, s2, s3⟩
      dsimp only at s1 s2 s3 ⊢
      have hcl := zcnt_le c j
      have hb := hb18 j
      have ew := eV_wantAll (I := I1) (J := J) (set := j) hP hn x0 a2 (by omega)
      have ej : qn j + 1 = qn (j + 1) := qn_add j 1
      have ec : qn (zcnt c j) + 1 = qn (zcnt c j + 1) := qn_add _ 1
      refine Or.inr ⟨(qn (zcnt c (j + 1)), qn (zie c (2 ^ n - 1) (j + 1)), qn (zis c (j + 1))), ⟨rfl, rfl, rfl⟩, ?_⟩
      rw [fX_sure_b68, if_neg (by rw [qn_lt (by omega) (by omega)]; omega), ew, qp_bd_t, ej, s1, s2, s3]
      by_cases hq : zsm (zws K s j) n = v
      · rw [if_neg (by rw [hq]; exact fun q => q rfl), zcnt_T (hcT j hq), zie_T (hcT j hq), zis_T (hcT j hq), ec, qn_and, qn_or]
      · rw [if_pos (by rw [qn_eq (by omega) (by omega)]; exact hq), zcnt_F (hcF j hq), zie_F (hcF j hq), zis_F (hcF j hq)]
  have bm : ∀ I2 : Nat → Nat → Int32, I2 37 = I 37 → fM_sure_b48 100000 (qn v) (qn (2 ^ n - 1)) (qn (2 ^ n - 1)) (qn 0) (qn 0) (qn 0) I2 J = if zcnt c (2 ^ n) = 0 then some (-qn 3, mfd 4 I2, J) else some (qn (zie c (2 ^ n - 1) (2 ^ n)), qp_up I2 36 9 (qn (2 ^ n - 1) &&& (qn (zis c (2 ^ n)) ^^^ (-1))), J) := by
    intro I2 f37
    refine lp (σ := Int32 × Int32 × Int32) (R := fun o => o = if zcnt c (2 ^ n) = 0 then some (-qn 3, mfd 4 I2, J) else some (qn (zie c (2 ^ n - 1) (2 ^ n)), qp_up I2 36 9 (qn (2 ^ n - 1) &&& (qn (zis c (2 ^ n)) ^^^ (-1))), J)) (Inv := fun j q => q.1 = qn (zie c (2 ^ n - 1) j) ∧ q.2.1 = qn (zis c j) ∧ q.2.2 = qn (if zcnt c j = 0 then 0 else 1)) (fun fu j q => fM_sure_b48 fu (qn v) (qn (2 ^ n - 1)) q.1 q.2.1 q.2.2 (qn j) I2 J) (2 ^ n) 100000 0 (qn (2 ^ n - 1), qn 0, qn 0) (Nat.zero_le _) (by omega) ⟨rfl, rfl, rfl⟩ ?_ ?_
    · rintro fu ⟨q1, q2, q3⟩ ⟨s1, s2, s3⟩
      dsimp only at s1 s2 s3 ⊢
      rw [fM_sure_b48, if_pos (by rw [qn_lt (by omega) (by omega)]; omega), s1, s2, s3]
      by_cases h0 : zcnt c (2 ^ n) = 0
      · rw [if_pos h0, if_neg (by exact fun q => q rfl), if_pos h0, show (4 : Int32) = qn 4 from rfl, eM_finds (by omega), qp_bd_t]
      · rw [if_neg h0, if_pos (by decide), if_neg h0]; rfl
    · rintro fu j ⟨q1, q2, q3⟩ hj ⟨s1, s2, s3⟩
      dsimp only at s1 s2 s3 ⊢
      have hb := hb18 j
      have ew := eM_wantedBy (I := I2) (J := J) (set := j) (K := K) (s := s) hP hn (by rw [f37]; exact e0') (by rw [f37]; exact hs ▸ hM.2.2.2.2.2.2.2.2) (fun i hi => by rw [f37]; exact ⟨(hS.2.2.1 i hi).1, (hM.2.1 i hi).1⟩) (by omega)
      have ej : qn j + 1 = qn (j + 1) := qn_add j 1
      refine Or.inr ⟨(qn (zie c (2 ^ n - 1) (j + 1)), qn (zis c (j + 1)), qn (if zcnt c (j + 1) = 0 then 0 else 1)), ⟨rfl, rfl, rfl⟩, ?_⟩
      rw [fM_sure_b48, if_neg (by rw [qn_lt (by omega) (by omega)]; omega), ew, qp_bd_t, ej, s1, s2, s3]
      by_cases hq : zsm (zws K s j) n = v
      · rw [if_neg (by rw [hq]; exact fun q => q rfl), zcnt_T (hcT j hq), zie_T (hcT j hq), zis_T (hcT j hq), qn_and, qn_or, if_neg (by omega)]; rfl
      · rw [if_pos (by rw [qn_eq (by omega) (by omega)]; exact hq), zcnt_F (hcF j hq), zie_F (hcF j hq), zis_F (hcF j hq)]
  have xrun : fX_sure (qn v) I J = fX_sure_b68 100000 (qn v) (qn (2 ^ n - 1)) (qn 0) (qn (2 ^ n - 1)) (qn 0) (qn 0) I1 J := by
    unfold fX_sure
    rw [if_neg c1, if_pos c2, e0, if_pos c3, h3.2.1, hs, a1, qp_bd_t, x0, eall]; rfl
  have mrun : ∀ I2 : Nat → Nat → Int32, I2 37 = I 37 → fM_sure (qn v) I2 J = fM_sure_b48 100000 (qn v) (qn (2 ^ n - 1)) (qn (2 ^ n - 1)) (qn 0) (qn 0) (qn 0) I2 J := by
    intro I2 f37
    unfold fM_sure
    rw [hin, qp_bd_t, if_pos (by decide), f37, e0', if_pos c3, eall]; rfl
  have hsc : ∀ c, zlc c ∨ zcc c → I1 c = I c := fun c hc => a3 c (by unfold zlc zcc at hc; omega)
  by_cases h0 : zcnt c (2 ^ n) = 0
  · rw [if_pos h0] at bx
    have f37 : xfd 4 I1 37 = I 37 := by rw [xfd_ne (by omega) (by omega), a3 37 (by omega)]
    refine ⟨-qn 3, xfd 4 I1, J, mfd 4 (xfd 4 I1), J, xrun.trans bx, ?_, ?_⟩
    · rw [mrun _ f37, bm _ f37, if_pos h0]
    · exact zR_find (zR_scr h (fun c hc => a3 c (by unfold zlc zcc at hc; omega)) (by rw [a3 36 (by omega)]) (by rw [a3 36 (by omega)]))
  · rw [if_neg h0] at bx
    generalize qn (2 ^ n - 1) &&& (qn (zis c (2 ^ n)) ^^^ (-1)) = w at bx bm
    have f37 : qp_up I1 0 11 w 37 = I 37 := by rw [qm_nk (by omega), a3 37 (by omega)]
    refine ⟨qn (zie c (2 ^ n - 1) (2 ^ n)), qp_up I1 0 11 w, J, qp_up (qp_up I1 0 11 w) 36 9 w, J, xrun.trans bx, ?_, ?_⟩
    · rw [mrun _ f37, bm _ f37, if_neg h0]
    · exact zR_asks (zR_scr h (fun c hc => a3 c (by unfold zlc zcc at hc; omega)) (by rw [a3 36 (by omega)]) (by rw [a3 36 (by omega)]))

/-! RATIOS; SETS, SURE -/
theorem q_and1 (x : Nat) : x &&& 1 = x % 2 := Nat.and_one_is_mod x
section GC
variable {I : Nat → Nat → Int32} {J : Nat → Nat → Int64}
theorem gcd_st (a b : Nat) : Nat.gcd a b = Nat.gcd b (a % b) := by
  rw [Nat.gcd_comm a b, Nat.gcd_rec b a, Nat.gcd_comm]
theorem ql_md {a b : Nat} (ha : a < 4611686018427387904) (hb : b < 4611686018427387904) : ql a - ql a / ql b * ql b = ql (a % b) := by
  rw [ql_div (by omega) (by omega), ql_mul, ql_mod]
theorem ql_c0 {b : Nat} (hb : b < 4611686018427387904) : (lg_cmp (ql b) 0 = 0) = (b = 0) := propext (by
  rw [lg_cmp_eq]
  show ql b = ql 0 ↔ _
  rw [ql_eq (by omega) (by omega)])
theorem ql_ne0 {b : Nat} (hb : b < 4611686018427387904) (h : b ≠ 0) : ¬ ql b = 0 := by
  show ¬ ql b = ql 0
  rw [ql_eq (by omega) (by omega)]; exact h
theorem eX_gcd_b : ∀ (k a b st fuel : Nat), b < 2 ^ k → st + 2 * k ≤ 200 → a < 4611686018427387904 → b < 4611686018427387904 → 2 * k < fuel → fX_greatestDivisor_b9 fuel (ql a) (ql b) (qn st) I J = some (ql (Nat.gcd a b), I, J)
  | 0, a, b, st, fuel, hb, hs, ha, hb2, hf => by
    obtain ⟨f, rfl⟩ : ∃ f, fuel = f + 1 := ⟨fuel - 1, by omega⟩
    have hb0 : b = 0 := by have : 2 ^ 0 = 1 := rfl; omega
    subst hb0
    rw [fX_greatestDivisor_b9, Nat.gcd_zero_right]
    by_cases h : (200 : Int32) ≤ qn st
    · rw [if_pos h]
    · rw [if_neg h, if_pos (by rw [ql_c0 (by omega)])]
  | k + 1, a, b, st, fuel, hb, hs, ha, hb2, hf => by
    obtain ⟨f, rfl⟩ : ∃ f, fuel = f + 1 := ⟨fuel - 1, by omega⟩
    have hs1 : ¬ (200 : Int32) ≤ qn st := by show ¬ qn 200 ≤ qn st; rw [qn_le (by omega) (by omega)]; omega
    rw [fX_greatestDivisor_b9, if_neg hs1]
    by_cases hb0 : b = 0
    · subst hb0
      rw [if_pos (by rw [ql_c0 (by omega)]), Nat.gcd_zero_right]
    · have hm := Nat.mod_lt a (show 0 < b by omega)
      rw [if_neg (by rw [ql_c0 (by omega)]; exact hb0), qp_gd_t (ql_ne0 hb2 hb0), ql_md ha hb2, show qn st + 1 = qn (st + 1) from qn_add st 1, gcd_st a b]
      by_cases hr : a % b < 2 ^ k
      · exact eX_gcd_b k b (a % b) (st + 1) f hr (by omega) hb2 (by omega) (by omega)
      · obtain ⟨g, rfl⟩ : ∃ g, f = g + 1 := ⟨f - 1, by omega⟩
        have hp : 0 < 2 ^ k := Nat.pow_pos (by decide)
        rw [Nat.pow_succ] at hb
        have hr0 : a % b ≠ 0 := by omega
        have hs2 : ¬ (200 : Int32) ≤ qn (st + 1) := by show ¬ qn 200 ≤ qn (st + 1); rw [qn_le (by omega) (by omega)]; omega
        rw [fX_greatestDivisor_b9, if_neg hs2, if_neg (by rw [ql_c0 (by omega)]; exact hr0), qp_gd_t (ql_ne0 (by omega) hr0), ql_md hb2 (by omega), show qn (st + 1) + 1 = qn (st + 1 + 1) from qn_add (st + 1) 1, gcd_st b (a % b)]
        have h2 : b % (a % b) = b - a % b := by
          rw [Nat.mod_eq_sub_mod (by omega)]
          exact Nat.mod_eq_of_lt (by omega)
        exact eX_gcd_b k (a % b) (b % (a % b)) (st + 1 + 1) g (by rw [h2]; omega) (by omega) (by omega) (by rw [h2]; omega) (by omega)
theorem eX_gcd {a b : Nat} (ha : a < 4611686018427387904) (hb : b < 4294967296) : fX_greatestDivisor (ql a) (ql b) I J = some (ql (Nat.gcd a b), I, J) := by
  unfold fX_greatestDivisor
  exact eX_gcd_b 32 a b 0 100000 (by omega) (by omega) ha (by omega) (by omega)
theorem gcd_pos {a b : Nat} (h : 0 < b) : 0 < Nat.gcd a b := Nat.gcd_pos_of_pos_right a h
theorem eX_ratio {a b : Nat} (ha : a < 4611686018427387904) (hb : b < 4294967296) (h0 : 0 < b) : fX_tellRatio (ql a) (ql b) I J = some (qn 1, I, qp_up (qp_up J 0 12 (ql a / ql (Nat.gcd a b))) 0 13 (ql b / ql (Nat.gcd a b))) := by
  have hg := gcd_pos (a := a) h0
  have hg2 : Nat.gcd a b ≤ b := Nat.le_of_dvd h0 (Nat.gcd_dvd_right a b)
  unfold fX_tellRatio
  rw [eX_gcd ha hb, qp_bd_t, if_neg (by rw [lg_cmp_le]; show ¬ ql _ ≤ ql 0; rw [ql_le (by omega) (by omega)]; omega), qp_gd_t (ql_ne0 (by omega) (by omega))]; rfl
theorem eX_ratio1 {a : Nat} (ha : a < 4611686018427387904) : fX_tellRatio (ql a) (ql 1) I J = some (qn 1, I, qp_up (qp_up J 0 12 (ql a)) 0 13 (ql 1)) := by
  rw [eX_ratio ha (by omega) (by omega), Nat.gcd_one_right, ql_div (by omega) (by omega), ql_div (by omega) (by omega), Nat.div_one]
end GC
/-- what a set (its bits) wants together -/
def zws (K : Nat → Nat) (s : List Nat) (set i : Nat) : Nat := if set / 2 ^ i % 2 = 1 then zwn K s i else 0
theorem zws_le {K : Nat → Nat} {s : List Nat} {set i : Nat} : zws K s set i ≤ 3 := by
  unfold zws
  split
  · exact zwn_le
  · exact Nat.zero_le _
theorem zsl_app {f : Nat → Nat} {x : Nat} : ∀ {l : List Nat}, zsl f (l ++ [x]) = zsl f l + f x
  | [] => by show f x + 0 = 0 + f x; omega
  | y :: t => by
    show f y + zsl f (t ++ [x]) = f y + zsl f t + f x
    rw [zsl_app]; omega
theorem zsl_le {f : Nat → Nat} {b : Nat} : ∀ {l : List Nat}, (∀ i, f i ≤ b) → zsl f l ≤ l.length * b
  | [], _ => Nat.zero_le _
  | x :: t, h => by
    have h1 := h x
    have h2 := zsl_le (l := t) h
    show f x + zsl f t ≤ (t.length + 1) * b
    rw [Nat.add_mul, Nat.one_mul]; omega
section SE
variable {n L0 : Nat} {K P : Nat → Nat} {ds : List Nat} {kp : Nat → Option (List Nat)} {I : Nat → Nat → Int32} {J : Nat → Nat → Int64}
theorem eV_wantAll {s : List Nat} {L set : Nat} (hP : zP n s) (hn : n ≤ 6) (e0 : I 15 0 = qn n) (hv : zXV K P s L I) (hs : set < 64) : fV_wantOfAll (qn set) I J = some (qn (zsm (zws K s set) n), I, J) := by
  unfold fV_wantOfAll
  refine lp (σ := Int32) (R := fun o => o = some (qn (zsm (zws K s set) n), I, J)) (Inv := fun i a => a = qn (zsm (zws K s set) i)) (fun fu i a => fV_wantOfAll_b4 fu (qn set) a (qn i) I J) n 100000 0 0 (Nat.zero_le _) (by omega) rfl ?_ ?_
  · intro fu a ha
    rw [fV_wantOfAll_b4]
    simp (disch := omega) only [e0, ha, qn_l0, qn_l1, qn_l2, qn_l3, qn_l4, qn_l5, qn_l6, qn_l7, qn_l8, qn_l9, qn_l10, qn_l11, qn_l12, qn_l13, qn_l14, qn_l15, qn_l16, qn_l17, qn_l18, qn_l19, qn_l20, qn_l21, qn_l22, qn_l23, qn_l24, qn_l26, qn_l27, qn_l28, qn_l31, qn_l32, qn_l33, qn_l34, qn_l36, qn_l37, qn_l38, qn_l39, qn_l40, qn_l47, qn_l48, qn_l49, qn_l50, qn_l51, qn_l54, qn_l55, qn_l56, qn_l57, qn_l60, qn_l63, qn_l64, qn_l69, qn_l70, qn_l75, qn_l99, qn_l100, qn_l103, qn_l111, qn_l112, qn_l113, qn_l115, qn_l117, qn_l120, qn_l127, qn_l128, qn_l200, qn_l225, qn_l240, qn_l255, qn_l256, qn_l300, qn_l720, qn_l1000, qn_l48271, qn_l1000000, qn_l2147483646, qn_l2147483647, qn_add, qn_mul, qn_sub, qn_addneg, qn_div, qn_mod, qn_modn, qn_lt, qn_le, qn_eq, qn_nat, qn_m1, qn_m1', qn_c1, qn_g1, qn_g1', qn_c1', qn_and, qn_or, qn_shl1, qn_shr1, qn_64, ql_32, ql_add, ql_mul, ql_sub, ql_div, ql_mod, ql_lt, ql_le, ql_eq, ql_l0, ql_l1, qp_gd_T, qp_bd_t, ↓reduceIte, qt_le, qf_le, qt_lt, qf_lt, qt_eq, qf_eq, and_self, not_true_eq_false, not_false_eq_true, true_and, and_true, or_true, true_or, or_false, false_or, and_false, false_and, Nat.reduceAdd, Nat.reduceMul, Nat.reduceSub, Nat.reduceDiv, Nat.reduceMod, Nat.reducePow, Nat.zero_add, Nat.add_zero, Nat.zero_le, Nat.mul_zero, Nat.zero_mul, qm_nk, qm_eq, qm_nj]
  · intro fu i a hi ha
    refine Or.inr ⟨_, rfl, ?_⟩
    have v1 := (hv.1 i ((hP.2.2 i).2 hi)).1
    have hb := Nat.mod_lt (set / 2 ^ i) (show 0 < 2 by omega)
    rw [fV_wantOfAll_b4]
    unfold zsm zws
    by_cases hbit : set / 2 ^ i % 2 = 1
    · rw [if_pos hbit]
      simp (disch := omega) only [e0, q_and1, hbit, eV_wantOf, v1, ha, qn_l0, qn_l1, qn_l2, qn_l3, qn_l4, qn_l5, qn_l6, qn_l7, qn_l8, qn_l9, qn_l10, qn_l11, qn_l12, qn_l13, qn_l14, qn_l15, qn_l16, qn_l17, qn_l18, qn_l19, qn_l20, qn_l21, qn_l22, qn_l23, qn_l24, qn_l26, qn_l27, qn_l28, qn_l31, qn_l32, qn_l33, qn_l34, qn_l36, qn_l37, qn_l38, qn_l39, qn_l40, qn_l47, qn_l48, qn_l49, qn_l50, qn_l51, qn_l54, qn_l55, qn_l56, qn_l57, qn_l60, qn_l63, qn_l64, qn_l69, qn_l70, qn_l75, qn_l99, qn_l100, qn_l103, qn_l111, qn_l112, qn_l113, qn_l115, qn_l117, qn_l120, qn_l127, qn_l128, qn_l200, qn_l225, qn_l240, qn_l255, qn_l256, qn_l300, qn_l720, qn_l1000, qn_l48271, qn_l1000000, qn_l2147483646, qn_l2147483647, qn_add, qn_mul, qn_sub, qn_addneg, qn_div, qn_mod, qn_modn, qn_lt, qn_le, qn_eq, qn_nat, qn_m1, qn_m1', qn_c1, qn_g1, qn_g1', qn_c1', qn_and, qn_or, qn_shl1, qn_shr1, qn_64, ql_32, ql_add, ql_mul, ql_sub, ql_div, ql_mod, ql_lt, ql_le, ql_eq, ql_l0, ql_l1, qp_gd_T, qp_bd_t, ↓reduceIte, qt_le, qf_le, qt_lt, qf_lt, qt_eq, qf_eq, and_self, not_true_eq_false, not_false_eq_true, true_and, and_true, or_true, true_or, or_false, false_or, and_false, false_and, Nat.reduceAdd, Nat.reduceMul, Nat.reduceSub, Nat.reduceDiv, Nat.reduceMod, Nat.reducePow, Nat.zero_add, Nat.add_zero, Nat.zero_le, Nat.mul_zero, Nat.zero_mul, qm_nk, qm_eq, qm_nj]
      rfl
    · rw [if_neg hbit]
      simp (disch := omega) only [e0, q_and1, hbit, ha, qn_l0, qn_l1, qn_l2, qn_l3, qn_l4, qn_l5, qn_l6, qn_l7, qn_l8, qn_l9, qn_l10, qn_l11, qn_l12, qn_l13, qn_l14, qn_l15, qn_l16, qn_l17, qn_l18, qn_l19, qn_l20, qn_l21, qn_l22, qn_l23, qn_l24, qn_l26, qn_l27, qn_l28, qn_l31, qn_l32, qn_l33, qn_l34, qn_l36, qn_l37, qn_l38, qn_l39, qn_l40, qn_l47, qn_l48, qn_l49, qn_l50, qn_l51, qn_l54, qn_l55, qn_l56, qn_l57, qn_l60, qn_l63, qn_l64, qn_l69, qn_l70, qn_l75, qn_l99, qn_l100, qn_l103, qn_l111, qn_l112, qn_l113, qn_l115, qn_l117, qn_l120, qn_l127, qn_l128, qn_l200, qn_l225, qn_l240, qn_l255, qn_l256, qn_l300, qn_l720, qn_l1000, qn_l48271, qn_l1000000, qn_l2147483646, qn_l2147483647, qn_add, qn_mul, qn_sub, qn_addneg, qn_div, qn_mod, qn_modn, qn_lt, qn_le, qn_eq, qn_nat, qn_m1, qn_m1', qn_c1, qn_g1, qn_g1', qn_c1', qn_and, qn_or, qn_shl1, qn_shr1, qn_64, ql_32, ql_add, ql_mul, ql_sub, ql_div, ql_mod, ql_lt, ql_le, ql_eq, ql_l0, ql_l1, qp_gd_T, qp_bd_t, ↓reduceIte, qt_le, qf_le, qt_lt, qf_lt, qt_eq, qf_eq, and_self, not_true_eq_false, not_false_eq_true, true_and, and_true, or_true, true_or, or_false, false_or, and_false, false_and, Nat.reduceAdd, Nat.reduceMul, Nat.reduceSub, Nat.reduceDiv, Nat.reduceMod, Nat.reducePow, Nat.zero_add, Nat.add_zero, Nat.zero_le, Nat.mul_zero, Nat.zero_mul, qm_nk, qm_eq, qm_nj]
      rfl
end SE
/-- the first one, or NONE -/
def zfs (c : Nat → Bool) : Nat → Int32
  | 0 => -qn 9
  | j + 1 => if c j = true ∧ zcnt c j = 0 then qn j else zfs c j
def zie (c : Nat → Bool) (all : Nat) : Nat → Nat
  | 0 => all
  | j + 1 => if c j = true then zie c all j &&& j else zie c all j
def zis (c : Nat → Bool) : Nat → Nat
  | 0 => 0
  | j + 1 => if c j = true then zis c j ||| j else zis c j
theorem zfs_T {c : Nat → Bool} {j : Nat} (h : c j = true) (h0 : zcnt c j = 0) : zfs c (j + 1) = qn j := by
  show (if _ then _ else _) = _
  rw [if_pos ⟨h, h0⟩]
theorem zfs_N {c : Nat → Bool} {j : Nat} (h0 : ¬ zcnt c j = 0) : zfs c (j + 1) = zfs c j := by
  show (if _ then _ else _) = _
  rw [if_neg (fun q => h0 q.2)]
theorem zfs_F {c : Nat → Bool} {j : Nat} (h : c j = false) : zfs c (j + 1) = zfs c j := by
  show (if _ then _ else _) = _
  rw [if_neg (fun q => by rw [h] at q; exact absurd q.1 (by decide))]
theorem zie_T {c : Nat → Bool} {a j : Nat} (h : c j = true) : zie c a (j + 1) = zie c a j &&& j := by
  show (if _ then _ else _) = _
  rw [if_pos h]
theorem zie_F {c : Nat → Bool} {a j : Nat} (h : c j = false) : zie c a (j + 1) = zie c a j := by
  show (if _ then _ else _) = _
  rw [if_neg (by rw [h]; decide)]
theorem zis_T {c : Nat → Bool} {j : Nat} (h : c j = true) : zis c (j + 1) = zis c j ||| j := by
  show (if _ then _ else _) = _
  rw [if_pos h]
theorem zis_F {c : Nat → Bool} {j : Nat} (h : c j = false) : zis c (j + 1) = zis c j := by
  show (if _ then _ else _) = _
  rw [if_neg (by rw [h]; decide)]
theorem p2_le {n : Nat} (hn : n ≤ 6) : 2 ^ n ≤ 64 := (Nat.pow_le_pow_right (by decide) hn : 2 ^ n ≤ 2 ^ 6)
theorem q_p2 {n : Nat} (hn : n ≤ 6) : (1 : Int32) <<< (qn n &&& 31) = qn (2 ^ n) := by
  show qn 1 <<< (qn n &&& qn 31) = _
  rw [qn_shl (by omega), Nat.one_mul]
theorem q_20 (p : Int32) (h : p < 0 ∨ qn 21 ≤ p) : (p < 0) ∨ (¬ p < 0 ∧ ¬ p ≤ 20) := by
  by_cases h0 : p < 0
  · exact Or.inl h0
  · rcases h with h | h
    · exact absurd h h0
    · refine Or.inr ⟨h0, ?_⟩
      rw [Int32.le_iff_toInt_le] at h ⊢
      rw [qn_toInt (by omega)] at h
      have e20 : (20 : Int32).toInt = 20 := rfl
      omega

/-! LOTS -/
def zlot (n : Nat) (st : ZR) (it : Nat) : Nat :=
  if it / 8 % 8 = 7 then 192 + it / 64 % 21 else if it / 8 % 8 = 6 then (if st.1.length = 0 then 0 else 128 + it / 64 % st.1.length)
  else if st.1.length < 12 ∧ ¬ zat (zls n st.1) (it / 64 % n) = it % n then 64 + (8 * (it % n) + it / 64 % n) else 0
def zlots (n L0 : Nat) : Nat → Nat → List Nat → List Nat
  | 0, _, ds => ds
  | k + 1, it, ds => zlots n L0 k (it * 48271 % 2147483647) (ds ++ [zlot n (zrun n L0 ds) (it * 48271 % 2147483647)])
theorem zlot_ok {n it : Nat} {st : ZR} (hn : n ≤ 6) (h1 : 1 ≤ n) (hok : zRok n st) : zvd n st (zlot n st it) := by
  have h2 := hok.2.1
  have m1 := Nat.mod_lt (it / 64) (show 0 < n by omega)
  have m2 := Nat.mod_lt it (show 0 < n by omega)
  have m3 := Nat.mod_lt (it / 64) (show 0 < 21 by omega)
  unfold zlot
  split
  · exact Or.inr (Or.inr (Or.inr ⟨by omega, by omega⟩))
  · split
    · split
      · exact Or.inl rfl
      · next hl =>
        have m4 := Nat.mod_lt (it / 64) (show 0 < st.1.length by omega)
        exact Or.inr (Or.inr (Or.inl ⟨by omega, by omega⟩))
    · split
      · next h =>
        generalize it / 64 % n = a at *
        generalize it % n = b at *
        exact Or.inr (Or.inl ⟨by omega, by omega, by omega, h.1⟩)
      · exact Or.inl rfl
section LT
variable {n L0 : Nat} {K P : Nat → Nat} {ds : List Nat} {kp : Nat → Option (List Nat)} {I : Nat → Nat → Int32} {J : Nat → Nat → Int64}
theorem eL_lot {it : Nat} (hn : n ≤ 6) (h1 : 1 ≤ n) (hit : it < 2147483648) (h : zXs n (zrun n L0 ds) ds I) (hok : zRok n (zrun n L0 ds)) (hd : ds.length < 40) :
    ∃ I', fL_actByLot (qn it) I J = some ((), I', J) ∧ zXs n (zdeed n (zrun n L0 ds) (zlot n (zrun n L0 ds) it)) (ds ++ [zlot n (zrun n L0 ds) it]) I' ∧ ∀ c', c' ≠ 14 → c' ≠ 23 → c' ≠ 24 → I' c' = I c' := by
  have hv := zlot_ok (it := it) hn h1 hok
  obtain ⟨I1, a1, a2, a3, -⟩ := eL_act (J := J) hn h hok hv hd
  refine ⟨I1, ?_, a2, a3⟩
  have hT := hok.2.1
  have hP := zls_P hok.1
  have e0 := h.1
  have e4 := h.2.2.2.1
  have m1 := Nat.mod_lt (it / 64) (show 0 < n by omega)
  have m2 := Nat.mod_lt it (show 0 < n by omega)
  have m3 := Nat.mod_lt (it / 64) (show 0 < 21 by omega)
  have d64 : it / 64 ≤ it := Nat.div_le_self _ _
  have d8 : it / 8 ≤ it := Nat.div_le_self _ _
  unfold zlot at a1
  unfold fL_actByLot fL_actByLot_b69
  by_cases t7 : it / 8 % 8 = 7
  · rw [if_pos t7] at a1
    rw [show (192 + it / 64 % 21) / 64 = 3 by omega, show (192 + it / 64 % 21) % 64 = it / 64 % 21 by omega] at a1
    simp (disch := omega) only [e0, t7, a1, qn_l0, qn_l1, qn_l2, qn_l3, qn_l4, qn_l5, qn_l6, qn_l7, qn_l8, qn_l9, qn_l10, qn_l11, qn_l12, qn_l13, qn_l14, qn_l15, qn_l16, qn_l17, qn_l18, qn_l19, qn_l20, qn_l21, qn_l22, qn_l23, qn_l24, qn_l26, qn_l27, qn_l28, qn_l31, qn_l32, qn_l33, qn_l34, qn_l36, qn_l37, qn_l38, qn_l39, qn_l40, qn_l47, qn_l48, qn_l49, qn_l50, qn_l51, qn_l54, qn_l55, qn_l56, qn_l57, qn_l60, qn_l63, qn_l64, qn_l69, qn_l70, qn_l75, qn_l99, qn_l100, qn_l103, qn_l111, qn_l112, qn_l113, qn_l115, qn_l117, qn_l120, qn_l127, qn_l128, qn_l200, qn_l225, qn_l240, qn_l255, qn_l256, qn_l300, qn_l720, qn_l1000, qn_l48271, qn_l1000000, qn_l2147483646, qn_l2147483647, qn_add, qn_mul, qn_sub, qn_addneg, qn_div, qn_mod, qn_modn, qn_lt, qn_le, qn_eq, qn_nat, qn_m1, qn_m1', qn_c1, qn_g1, qn_g1', qn_c1', qn_and, qn_or, qn_shl1, qn_shr1, qn_64, ql_32, ql_add, ql_mul, ql_sub, ql_div, ql_mod, ql_lt, ql_le, ql_eq, ql_l0, ql_l1, qp_gd_T, qp_bd_t, ↓reduceIte, qt_le, qf_le, qt_lt, qf_lt, qt_eq, qf_eq, and_self, not_true_eq_false, not_false_eq_true, true_and, and_true, or_true, true_or, or_false, false_or, and_false, false_and, Nat.reduceAdd, Nat.reduceMul, Nat.reduceSub, Nat.reduceDiv, Nat.reduceMod, Nat.reducePow, Nat.zero_add, Nat.add_zero, Nat.zero_le, Nat.mul_zero, Nat.zero_mul, qm_nk, qm_eq, qm_nj]
  · rw [if_neg t7] at a1
    by_cases t6 : it / 8 % 8 = 6
    · rw [if_pos t6] at a1
      by_cases hl : (zrun n L0 ds).1.length = 0
      · rw [if_pos hl] at a1
        rw [show 0 / 64 = 0 from rfl, show 0 % 64 = 0 from rfl] at a1
        simp (disch := omega) only [e0, e4, t7, t6, hl, a1, qn_l0, qn_l1, qn_l2, qn_l3, qn_l4, qn_l5, qn_l6, qn_l7, qn_l8, qn_l9, qn_l10, qn_l11, qn_l12, qn_l13, qn_l14, qn_l15, qn_l16, qn_l17, qn_l18, qn_l19, qn_l20, qn_l21, qn_l22, qn_l23, qn_l24, qn_l26, qn_l27, qn_l28, qn_l31, qn_l32, qn_l33, qn_l34, qn_l36, qn_l37, qn_l38, qn_l39, qn_l40, qn_l47, qn_l48, qn_l49, qn_l50, qn_l51, qn_l54, qn_l55, qn_l56, qn_l57, qn_l60, qn_l63, qn_l64, qn_l69, qn_l70, qn_l75, qn_l99, qn_l100, qn_l103, qn_l111, qn_l112, qn_l113, qn_l115, qn_l117, qn_l120, qn_l127, qn_l128, qn_l200, qn_l225, qn_l240, qn_l255, qn_l256, qn_l300, qn_l720, qn_l1000, qn_l48271, qn_l1000000, qn_l2147483646, qn_l2147483647, qn_add, qn_mul, qn_sub, qn_addneg, qn_div, qn_mod, qn_modn, qn_lt, qn_le, qn_eq, qn_nat, qn_m1, qn_m1', qn_c1, qn_g1, qn_g1', qn_c1', qn_and, qn_or, qn_shl1, qn_shr1, qn_64, ql_32, ql_add, ql_mul, ql_sub, ql_div, ql_mod, ql_lt, ql_le, ql_eq, ql_l0, ql_l1, qp_gd_T, qp_bd_t, ↓reduceIte, qt_le, qf_le, qt_lt, qf_lt, qt_eq, qf_eq, and_self, not_true_eq_false, not_false_eq_true, true_and, and_true, or_true, true_or, or_false, false_or, and_false, false_and, Nat.reduceAdd, Nat.reduceMul, Nat.reduceSub, Nat.reduceDiv, Nat.reduceMod, Nat.reducePow, Nat.zero_add, Nat.add_zero, Nat.zero_le, Nat.mul_zero, Nat.zero_mul, qm_nk, qm_eq, qm_nj]
      · rw [if_neg hl] at a1
        have m4 := Nat.mod_lt (it / 64) (show 0 < (zrun n L0 ds).1.length by omega)
        rw [show (128 + it / 64 % (zrun n L0 ds).1.length) / 64 = 2 by omega, show (128 + it / 64 % (zrun n L0 ds).1.length) % 64 = it / 64 % (zrun n L0 ds).1.length by omega] at a1
        simp (disch := omega) only [e0, e4, t7, t6, hl, a1, qn_l0, qn_l1, qn_l2, qn_l3, qn_l4, qn_l5, qn_l6, qn_l7, qn_l8, qn_l9, qn_l10, qn_l11, qn_l12, qn_l13, qn_l14, qn_l15, qn_l16, qn_l17, qn_l18, qn_l19, qn_l20, qn_l21, qn_l22, qn_l23, qn_l24, qn_l26, qn_l27, qn_l28, qn_l31, qn_l32, qn_l33, qn_l34, qn_l36, qn_l37, qn_l38, qn_l39, qn_l40, qn_l47, qn_l48, qn_l49, qn_l50, qn_l51, qn_l54, qn_l55, qn_l56, qn_l57, qn_l60, qn_l63, qn_l64, qn_l69, qn_l70, qn_l75, qn_l99, qn_l100, qn_l103, qn_l111, qn_l112, qn_l113, qn_l115, qn_l117, qn_l120, qn_l127, qn_l128, qn_l200, qn_l225, qn_l240, qn_l255, qn_l256, qn_l300, qn_l720, qn_l1000, qn_l48271, qn_l1000000, qn_l2147483646, qn_l2147483647, qn_add, qn_mul, qn_sub, qn_addneg, qn_div, qn_mod, qn_modn, qn_lt, qn_le, qn_eq, qn_nat, qn_m1, qn_m1', qn_c1, qn_g1, qn_g1', qn_c1', qn_and, qn_or, qn_shl1, qn_shr1, qn_64, ql_32, ql_add, ql_mul, ql_sub, ql_div, ql_mod, ql_lt, ql_le, ql_eq, ql_l0, ql_l1, qp_gd_T, qp_bd_t, ↓reduceIte, qt_le, qf_le, qt_lt, qf_lt, qt_eq, qf_eq, and_self, not_true_eq_false, not_false_eq_true, true_and, and_true, or_true, true_or, or_false, false_or, and_false, false_and, Nat.reduceAdd, Nat.reduceMul, Nat.reduceSub, Nat.reduceDiv, Nat.reduceMod, Nat.reducePow, Nat.zero_add, Nat.add_zero, Nat.zero_le, Nat.mul_zero, Nat.zero_mul, qm_nk, qm_eq, qm_nj]
    · rw [if_neg t6] at a1
      have t5 : it / 8 % 8 < 6 := by have := Nat.mod_lt (it / 8) (show 0 < 8 by omega); omega
      by_cases hc : (zrun n L0 ds).1.length < 12 ∧ ¬ zat (zls n (zrun n L0 ds).1) (it / 64 % n) = it % n
      · rw [if_pos hc] at a1
        have cs := eL_canSell (J := J) hn h hok m2 m1 hc.1 hc.2
        rw [show (64 + (8 * (it % n) + it / 64 % n)) / 64 = 1 by omega, show (64 + (8 * (it % n) + it / 64 % n)) % 64 = 8 * (it % n) + it / 64 % n by omega] at a1
        simp (disch := omega) only [e0, e4, t7, t6, cs, a1, qn_l0, qn_l1, qn_l2, qn_l3, qn_l4, qn_l5, qn_l6, qn_l7, qn_l8, qn_l9, qn_l10, qn_l11, qn_l12, qn_l13, qn_l14, qn_l15, qn_l16, qn_l17, qn_l18, qn_l19, qn_l20, qn_l21, qn_l22, qn_l23, qn_l24, qn_l26, qn_l27, qn_l28, qn_l31, qn_l32, qn_l33, qn_l34, qn_l36, qn_l37, qn_l38, qn_l39, qn_l40, qn_l47, qn_l48, qn_l49, qn_l50, qn_l51, qn_l54, qn_l55, qn_l56, qn_l57, qn_l60, qn_l63, qn_l64, qn_l69, qn_l70, qn_l75, qn_l99, qn_l100, qn_l103, qn_l111, qn_l112, qn_l113, qn_l115, qn_l117, qn_l120, qn_l127, qn_l128, qn_l200, qn_l225, qn_l240, qn_l255, qn_l256, qn_l300, qn_l720, qn_l1000, qn_l48271, qn_l1000000, qn_l2147483646, qn_l2147483647, qn_add, qn_mul, qn_sub, qn_addneg, qn_div, qn_mod, qn_modn, qn_lt, qn_le, qn_eq, qn_nat, qn_m1, qn_m1', qn_c1, qn_g1, qn_g1', qn_c1', qn_and, qn_or, qn_shl1, qn_shr1, qn_64, ql_32, ql_add, ql_mul, ql_sub, ql_div, ql_mod, ql_lt, ql_le, ql_eq, ql_l0, ql_l1, qp_gd_T, qp_bd_t, ↓reduceIte, qt_le, qf_le, qt_lt, qf_lt, qt_eq, qf_eq, and_self, not_true_eq_false, not_false_eq_true, true_and, and_true, or_true, true_or, or_false, false_or, and_false, false_and, Nat.reduceAdd, Nat.reduceMul, Nat.reduceSub, Nat.reduceDiv, Nat.reduceMod, Nat.reducePow, Nat.zero_add, Nat.add_zero, Nat.zero_le, Nat.mul_zero, Nat.zero_mul, qm_nk, qm_eq, qm_nj]
      · rw [if_neg hc] at a1
        have cs := eL_canSellF (J := J) hn h hok m2 m1 (by
          by_cases h12 : 12 ≤ (zrun n L0 ds).1.length
          · exact Or.inl h12
          · refine Or.inr ?_
            by_cases hz : zat (zls n (zrun n L0 ds).1) (it / 64 % n) = it % n
            · exact hz
            · exact absurd ⟨by omega, hz⟩ hc)
        rw [show 0 / 64 = 0 from rfl, show 0 % 64 = 0 from rfl] at a1
        simp (disch := omega) only [e0, e4, t7, t6, cs, a1, qn_l0, qn_l1, qn_l2, qn_l3, qn_l4, qn_l5, qn_l6, qn_l7, qn_l8, qn_l9, qn_l10, qn_l11, qn_l12, qn_l13, qn_l14, qn_l15, qn_l16, qn_l17, qn_l18, qn_l19, qn_l20, qn_l21, qn_l22, qn_l23, qn_l24, qn_l26, qn_l27, qn_l28, qn_l31, qn_l32, qn_l33, qn_l34, qn_l36, qn_l37, qn_l38, qn_l39, qn_l40, qn_l47, qn_l48, qn_l49, qn_l50, qn_l51, qn_l54, qn_l55, qn_l56, qn_l57, qn_l60, qn_l63, qn_l64, qn_l69, qn_l70, qn_l75, qn_l99, qn_l100, qn_l103, qn_l111, qn_l112, qn_l113, qn_l115, qn_l117, qn_l120, qn_l127, qn_l128, qn_l200, qn_l225, qn_l240, qn_l255, qn_l256, qn_l300, qn_l720, qn_l1000, qn_l48271, qn_l1000000, qn_l2147483646, qn_l2147483647, qn_add, qn_mul, qn_sub, qn_addneg, qn_div, qn_mod, qn_modn, qn_lt, qn_le, qn_eq, qn_nat, qn_m1, qn_m1', qn_c1, qn_g1, qn_g1', qn_c1', qn_and, qn_or, qn_shl1, qn_shr1, qn_64, ql_32, ql_add, ql_mul, ql_sub, ql_div, ql_mod, ql_lt, ql_le, ql_eq, ql_l0, ql_l1, qp_gd_T, qp_bd_t, ↓reduceIte, qt_le, qf_le, qt_lt, qf_lt, qt_eq, qf_eq, and_self, not_true_eq_false, not_false_eq_true, true_and, and_true, or_true, true_or, or_false, false_or, and_false, false_and, Nat.reduceAdd, Nat.reduceMul, Nat.reduceSub, Nat.reduceDiv, Nat.reduceMod, Nat.reducePow, Nat.zero_add, Nat.add_zero, Nat.zero_le, Nat.mul_zero, Nat.zero_mul, qm_nk, qm_eq, qm_nj]
theorem ql_l8 : (8 : Int64) = ql 8 := rfl
theorem ql_l64 : (64 : Int64) = ql 64 := rfl
theorem ql_l21 : (21 : Int64) = ql 21 := rfl
theorem ql_l48271 : (48271 : Int64) = ql 48271 := rfl
theorem ql_lM : (2147483647 : Int64) = ql 2147483647 := rfl
theorem zit (it : Nat) (h : it < 2147483647) : ql it * 48271 - ql it * 48271 / 2147483647 * 2147483647 = ql (it * 48271 % 2147483647) := by
  show ql it * ql 48271 - ql it * ql 48271 / ql 2147483647 * ql 2147483647 = _
  rw [ql_mul, ql_div (by omega) (by omega), ql_mul, ql_mod]
theorem eX_lots_b {m it : Nat} (hS : zSt n L0 K P ds kp) (h1 : 1 ≤ n) (hm : ds.length + m ≤ 40) (hit : it < 2147483647) (hX : zXL n L0 K P ds I) :
    ∃ I', fX_lots_b64 100000 (qn m) (ql it) (qn 0) I J = some (qn ((zrun n L0 (zlots n L0 m it ds)).2 - zE K P (zls n (zrun n L0 (zlots n L0 m it ds)).1) (zrun n L0 (zlots n L0 m it ds)).2), I', J) ∧ zSt n L0 K P (zlots n L0 m it ds) kp ∧ zXs n (zrun n L0 (zlots n L0 m it ds)) (zlots n L0 m it ds) I' ∧ ∀ c, c ≠ 14 → c ≠ 23 → c ≠ 24 → c < 18 ∨ 22 < c → I' c = I c := by
  have hn := hS.1
  generalize hE : zlots n L0 m it ds = dE
  refine lp (σ := Int64 × (Nat → Nat → Int32)) (R := fun o => ∃ I', o = some (qn ((zrun n L0 dE).2 - zE K P (zls n (zrun n L0 dE).1) (zrun n L0 dE).2), I', J) ∧ zSt n L0 K P dE kp ∧ zXs n (zrun n L0 dE) dE I' ∧ ∀ c, c ≠ 14 → c ≠ 23 → c ≠ 24 → c < 18 ∨ 22 < c → I' c = I c)
    (Inv := fun k q => ∃ ds1 it1, zlots n L0 (m - k) it1 ds1 = dE ∧ q.1 = ql it1 ∧ it1 < 2147483647 ∧ zSt n L0 K P ds1 kp ∧ ds1.length + (m - k) ≤ 40 ∧ zXs n (zrun n L0 ds1) ds1 q.2 ∧ ∀ c, c ≠ 14 → c ≠ 23 → c ≠ 24 → q.2 c = I c)
    (fun fu k q => fX_lots_b64 fu (qn m) q.1 (qn k) q.2 J) m 100000 0 (ql it, I) (Nat.zero_le _) (by omega) ⟨ds, it, hE, rfl, hit, hS, hm, hX.2.2, fun _ _ _ _ => rfl⟩ ?_ ?_
  · rintro fu ⟨q, I1⟩ ⟨ds1, it1, s1, s2, s3, s4, s5, s6, s7⟩
    dsimp only at s2 s6 s7 ⊢
    rw [Nat.sub_self] at s1
    have e : ds1 = dE := s1
    subst e
    have hP := zSt_P s4
    have hok := zSt_ok s4
    obtain ⟨I2, a1, a2, a3⟩ := eL_sv (I := I1) (J := J) (K := K) (P := P) hP hn (by rw [s7 16 (by omega) (by omega) (by omega), s7 17 (by omega) (by omega) (by omega)]; exact zSt_kx hS hX.2.1) s6.1 s6.2.2.1 hok.2.2
    have hE2 := zE_le (K := K) (P := P) (s := zls n (zrun n L0 ds1).1) (L := (zrun n L0 ds1).2)
    have e2 := s6.2.1
    rw [fX_lots_b64]
    unfold fV_gainOfAll
    simp (disch := omega) only [e2, a1, a2.2.1, a2.2.2.1, qn_l0, qn_l1, qn_l2, qn_l3, qn_l4, qn_l5, qn_l6, qn_l7, qn_l8, qn_l9, qn_l10, qn_l11, qn_l12, qn_l13, qn_l14, qn_l15, qn_l16, qn_l17, qn_l18, qn_l19, qn_l20, qn_l21, qn_l22, qn_l23, qn_l24, qn_l26, qn_l27, qn_l28, qn_l31, qn_l32, qn_l33, qn_l34, qn_l36, qn_l37, qn_l38, qn_l39, qn_l40, qn_l47, qn_l48, qn_l49, qn_l50, qn_l51, qn_l54, qn_l55, qn_l56, qn_l57, qn_l60, qn_l63, qn_l64, qn_l69, qn_l70, qn_l75, qn_l99, qn_l100, qn_l103, qn_l111, qn_l112, qn_l113, qn_l115, qn_l117, qn_l120, qn_l127, qn_l128, qn_l200, qn_l225, qn_l240, qn_l255, qn_l256, qn_l300, qn_l720, qn_l1000, qn_l48271, qn_l1000000, qn_l2147483646, qn_l2147483647, qn_add, qn_mul, qn_sub, qn_addneg, qn_div, qn_mod, qn_modn, qn_lt, qn_le, qn_eq, qn_nat, qn_m1, qn_m1', qn_c1, qn_g1, qn_g1', qn_c1', qn_and, qn_or, qn_shl1, qn_shr1, qn_64, ql_32, ql_add, ql_mul, ql_sub, ql_div, ql_mod, ql_lt, ql_le, ql_eq, ql_l0, ql_l1, qp_gd_T, qp_bd_t, ↓reduceIte, qt_le, qf_le, qt_lt, qf_lt, qt_eq, qf_eq, and_self, not_true_eq_false, not_false_eq_true, true_and, and_true, or_true, true_or, or_false, false_or, and_false, false_and, Nat.reduceAdd, Nat.reduceMul, Nat.reduceSub, Nat.reduceDiv, Nat.reduceMod, Nat.reducePow, Nat.zero_add, Nat.add_zero, Nat.zero_le, Nat.mul_zero, Nat.zero_mul, qm_nk, qm_eq, qm_nj]
    exact ⟨I2, rfl, s4, zXs_eq s6 (fun c hc => a3 c (by omega)), fun c h1 h2 h3 h4 => (a3 c h4).trans (s7 c h1 h2 h3)⟩
  · rintro fu k ⟨q, I1⟩ hk ⟨ds1, it1, s1, s2, s3, s4, s5, s6, s7⟩
    dsimp only at s2 s6 s7 ⊢
    have hok := zSt_ok s4
    have hit2 : it1 * 48271 % 2147483647 < 2147483647 := Nat.mod_lt _ (by omega)
    obtain ⟨I2, a1, a2, a3⟩ := eL_lot (J := J) (it := it1 * 48271 % 2147483647) hn h1 (by omega) s6 hok (by omega)
    rw [show m - k = (m - (k + 1)) + 1 by omega] at s1
    have hv := zlot_ok (it := it1 * 48271 % 2147483647) hn h1 hok
    refine Or.inr ⟨(ql (it1 * 48271 % 2147483647), I2), ⟨ds1 ++ [zlot n (zrun n L0 ds1) (it1 * 48271 % 2147483647)], _, s1, rfl, hit2, zSt_app s4 hv (by omega), by rw [List.length_append]; show ds1.length + 1 + _ ≤ 40; omega, ?_, fun c h1 h2 h3 => (a3 c h1 h2 h3).trans (s7 c h1 h2 h3)⟩, ?_⟩
    · rw [zrun_app]; exact a2
    · rw [fX_lots_b64, s2, if_neg (by rw [qn_le (by omega) (by omega)]; omega), zit it1 s3, ql_32, a1, qp_bd_t, show qn k + 1 = qn (k + 1) from qn_add k 1]
end LT

/-! CALLS: row, at, lay, text, put, lines, can, next, wish, line -/
section XE
variable {n L0 : Nat} {K P : Nat → Nat} {ds : List Nat} {kp : Nat → Option (List Nat)} {I : Nat → Nat → Int32} {J : Nat → Nat → Int64}
theorem xSz_eq {I' : Nat → Nat → Int32} (h : xSz I) (e : ∀ c, c = 1 ∨ c = 2 ∨ c = 4 ∨ c = 5 ∨ c = 7 → I' c = I c) : xSz I' := by
  unfold xSz at h ⊢
  rw [e 1 (by omega), e 2 (by omega), e 4 (by omega), e 5 (by omega), e 7 (by omega)]; exact h
theorem xc_row {r m : Nat} (h : xR n L0 K P ds kp I) (hr : r < 6) (hm : m ≤ 40) : ∃ I1, fX_row (qn r) (qn m) I J = some (qn m, I1, J) ∧ I1 2 = qp_up1 (I 2) r (qn m) ∧ (∀ c, c ≠ 2 → c ≠ 3 → I1 c = I c) ∧ xR n L0 K P ds kp I1 := by
  obtain ⟨hS, ⟨⟨c1, c4, c7⟩, hs2, hs5⟩, hX, hK⟩ := id h
  have e1 := eS1_fresh (v := qn 0) (J := J) c1 hr hm
  have g : ∀ c, c ≠ 2 → c ≠ 3 → qfill 3 (qn 0) m (r * 40) (qp_up I 2 r (qn m)) c = I c := fun c h2 h3 => by rw [qfill_nk _ _ _ (by omega), qm_nk (by omega)]
  have g2 : qfill 3 (qn 0) m (r * 40) (qp_up I 2 r (qn m)) 2 = qp_up1 (I 2) r (qn m) := by rw [qfill_nk _ _ _ (by omega), qm_own]
  refine ⟨_, ?_, g2, g, hS, ⟨⟨?_, ?_, ?_⟩, ?_, ?_⟩, ⟨?_, ?_, zXs_eq hX.2.2 (fun c hc => g c (by omega) (by omega))⟩, ?_⟩
  · unfold fX_row fX_anew_0_1
    simp (disch := omega) only [eS1_num hr, c1, e1, qn_l0, qn_l1, qn_l2, qn_l3, qn_l4, qn_l5, qn_l6, qn_l7, qn_l8, qn_l9, qn_l10, qn_l11, qn_l12, qn_l13, qn_l14, qn_l15, qn_l16, qn_l17, qn_l18, qn_l19, qn_l20, qn_l21, qn_l22, qn_l23, qn_l24, qn_l26, qn_l27, qn_l28, qn_l31, qn_l32, qn_l33, qn_l34, qn_l36, qn_l37, qn_l38, qn_l39, qn_l40, qn_l47, qn_l48, qn_l49, qn_l50, qn_l51, qn_l54, qn_l55, qn_l56, qn_l57, qn_l60, qn_l63, qn_l64, qn_l69, qn_l70, qn_l75, qn_l99, qn_l100, qn_l103, qn_l111, qn_l112, qn_l113, qn_l115, qn_l117, qn_l120, qn_l127, qn_l128, qn_l200, qn_l225, qn_l240, qn_l255, qn_l256, qn_l300, qn_l720, qn_l1000, qn_l48271, qn_l1000000, qn_l2147483646, qn_l2147483647, qn_add, qn_mul, qn_sub, qn_addneg, qn_div, qn_mod, qn_modn, qn_lt, qn_le, qn_eq, qn_nat, qn_m1, qn_m1', qn_c1, qn_g1, qn_g1', qn_c1', qn_and, qn_or, qn_shl1, qn_shr1, qn_64, ql_32, ql_add, ql_mul, ql_sub, ql_div, ql_mod, ql_lt, ql_le, ql_eq, ql_l0, ql_l1, qp_gd_T, qp_bd_t, ↓reduceIte, qt_le, qf_le, qt_lt, qf_lt, qt_eq, qf_eq, and_self, not_true_eq_false, not_false_eq_true, true_and, and_true, or_true, true_or, or_false, false_or, and_false, false_and, Nat.reduceAdd, Nat.reduceMul, Nat.reduceSub, Nat.reduceDiv, Nat.reduceMod, Nat.reducePow, Nat.zero_add, Nat.add_zero, Nat.zero_le, Nat.mul_zero, Nat.zero_mul, qm_nk, qm_eq, qm_nj]
  · rw [g 1 (by omega) (by omega)]; exact c1
  · rw [g 4 (by omega) (by omega)]; exact c4
  · rw [g 7 (by omega) (by omega)]; exact c7
  · intro r' hr'
    rw [g2, qp_up1_if]
    by_cases e : r = r'
    · rw [if_pos e]; exact Or.inr ⟨m, hm, rfl⟩
    · rw [if_neg e]; exact hs2 r' hr'
  · rw [g 5 (by omega) (by omega)]; exact hs5
  · rw [g 15 (by omega) (by omega)]; exact hX.1
  · rw [g 16 (by omega) (by omega), g 17 (by omega) (by omega)]; exact hX.2.1
  · unfold zKX at hK ⊢
    rw [g 8 (by omega) (by omega), g 9 (by omega) (by omega)]; exact hK
theorem xc_at {r m i : Nat} (h : xSz I) (hr : r < 6) (hz : I 2 r = qn m) (hm : m ≤ 40) (hi : i < m) : fX_at (qn r) (qn i) I J = some (qn 1, qp_up I 0 11 (I 3 (r * 40 + i)), J) := by
  obtain ⟨⟨c1, c4, c7⟩, hs2, hs5⟩ := h
  unfold fX_at fX_tell
  simp (disch := omega) only [eX_refp1 hr hz hm hi, eS1_get c1 hr hz hm hi, qn_l0, qn_l1, qn_l2, qn_l3, qn_l4, qn_l5, qn_l6, qn_l7, qn_l8, qn_l9, qn_l10, qn_l11, qn_l12, qn_l13, qn_l14, qn_l15, qn_l16, qn_l17, qn_l18, qn_l19, qn_l20, qn_l21, qn_l22, qn_l23, qn_l24, qn_l26, qn_l27, qn_l28, qn_l31, qn_l32, qn_l33, qn_l34, qn_l36, qn_l37, qn_l38, qn_l39, qn_l40, qn_l47, qn_l48, qn_l49, qn_l50, qn_l51, qn_l54, qn_l55, qn_l56, qn_l57, qn_l60, qn_l63, qn_l64, qn_l69, qn_l70, qn_l75, qn_l99, qn_l100, qn_l103, qn_l111, qn_l112, qn_l113, qn_l115, qn_l117, qn_l120, qn_l127, qn_l128, qn_l200, qn_l225, qn_l240, qn_l255, qn_l256, qn_l300, qn_l720, qn_l1000, qn_l48271, qn_l1000000, qn_l2147483646, qn_l2147483647, qn_add, qn_mul, qn_sub, qn_addneg, qn_div, qn_mod, qn_modn, qn_lt, qn_le, qn_eq, qn_nat, qn_m1, qn_m1', qn_c1, qn_g1, qn_g1', qn_c1', qn_and, qn_or, qn_shl1, qn_shr1, qn_64, ql_32, ql_add, ql_mul, ql_sub, ql_div, ql_mod, ql_lt, ql_le, ql_eq, ql_l0, ql_l1, qp_gd_T, qp_bd_t, ↓reduceIte, qt_le, qf_le, qt_lt, qf_lt, qt_eq, qf_eq, and_self, not_true_eq_false, not_false_eq_true, true_and, and_true, or_true, true_or, or_false, false_or, and_false, false_and, Nat.reduceAdd, Nat.reduceMul, Nat.reduceSub, Nat.reduceDiv, Nat.reduceMod, Nat.reducePow, Nat.zero_add, Nat.add_zero, Nat.zero_le, Nat.mul_zero, Nat.zero_mul, qm_nk, qm_eq, qm_nj]
theorem xc_lay {r m i : Nat} {v : Int32} (h : xSz I) (hr : r < 6) (hz : I 2 r = qn m) (hm : m ≤ 40) (hi : i < m) : fX_lay (qn r) (qn i) v I J = some (qn 1, qp_up (qp_up I 3 (r * 40 + i) v) 0 11 (I 3 (r * 40 + i)), J) := by
  obtain ⟨⟨c1, c4, c7⟩, hs2, hs5⟩ := h
  unfold fX_lay fX_tell
  simp (disch := omega) only [eX_refp1 hr hz hm hi, eS1_get c1 hr hz hm hi, eS1_set c1 hr hz hm hi, qn_l0, qn_l1, qn_l2, qn_l3, qn_l4, qn_l5, qn_l6, qn_l7, qn_l8, qn_l9, qn_l10, qn_l11, qn_l12, qn_l13, qn_l14, qn_l15, qn_l16, qn_l17, qn_l18, qn_l19, qn_l20, qn_l21, qn_l22, qn_l23, qn_l24, qn_l26, qn_l27, qn_l28, qn_l31, qn_l32, qn_l33, qn_l34, qn_l36, qn_l37, qn_l38, qn_l39, qn_l40, qn_l47, qn_l48, qn_l49, qn_l50, qn_l51, qn_l54, qn_l55, qn_l56, qn_l57, qn_l60, qn_l63, qn_l64, qn_l69, qn_l70, qn_l75, qn_l99, qn_l100, qn_l103, qn_l111, qn_l112, qn_l113, qn_l115, qn_l117, qn_l120, qn_l127, qn_l128, qn_l200, qn_l225, qn_l240, qn_l255, qn_l256, qn_l300, qn_l720, qn_l1000, qn_l48271, qn_l1000000, qn_l2147483646, qn_l2147483647, qn_add, qn_mul, qn_sub, qn_addneg, qn_div, qn_mod, qn_modn, qn_lt, qn_le, qn_eq, qn_nat, qn_m1, qn_m1', qn_c1, qn_g1, qn_g1', qn_c1', qn_and, qn_or, qn_shl1, qn_shr1, qn_64, ql_32, ql_add, ql_mul, ql_sub, ql_div, ql_mod, ql_lt, ql_le, ql_eq, ql_l0, ql_l1, qp_gd_T, qp_bd_t, ↓reduceIte, qt_le, qf_le, qt_lt, qf_lt, qt_eq, qf_eq, and_self, not_true_eq_false, not_false_eq_true, true_and, and_true, or_true, true_or, or_false, false_or, and_false, false_and, Nat.reduceAdd, Nat.reduceMul, Nat.reduceSub, Nat.reduceDiv, Nat.reduceMod, Nat.reducePow, Nat.zero_add, Nat.add_zero, Nat.zero_le, Nat.mul_zero, Nat.zero_mul, qm_nk, qm_eq, qm_nj]
theorem xc_text {t m : Nat} (h : xSz I) (ht : t < 4) (hm : m ≤ 60) : ∃ I1, fX_text (qn t) (qn m) I J = some (qn m, I1, J) ∧ I1 5 t = qn m ∧ (∀ j, j < m → I1 6 (t * 60 + j) = qn 32) ∧ (∀ c, c ≠ 5 → c ≠ 6 → I1 c = I c) ∧ xSz I1 := by
  obtain ⟨⟨c1, c4, c7⟩, hs2, hs5⟩ := h
  have e1 := eS4_fresh (v := qn 32) (J := J) c4 ht hm
  have g : ∀ c, c ≠ 5 → c ≠ 6 → qfill 6 (qn 32) m (t * 60) (qp_up I 5 t (qn m)) c = I c := fun c h2 h3 => by rw [qfill_nk _ _ _ (by omega), qm_nk (by omega)]
  have g2 : qfill 6 (qn 32) m (t * 60) (qp_up I 5 t (qn m)) 5 = qp_up1 (I 5) t (qn m) := by rw [qfill_nk _ _ _ (by omega), qm_own]
  refine ⟨_, ?_, by rw [g2]; exact qp_up1_eq, fun j hj => by rw [qfill_own, if_pos (by omega)], g, ⟨?_, ?_, ?_⟩, ?_, ?_⟩
  · unfold fX_text fX_anew_0_4
    simp (disch := omega) only [eS4_num ht, c4, e1, qn_l0, qn_l1, qn_l2, qn_l3, qn_l4, qn_l5, qn_l6, qn_l7, qn_l8, qn_l9, qn_l10, qn_l11, qn_l12, qn_l13, qn_l14, qn_l15, qn_l16, qn_l17, qn_l18, qn_l19, qn_l20, qn_l21, qn_l22, qn_l23, qn_l24, qn_l26, qn_l27, qn_l28, qn_l31, qn_l32, qn_l33, qn_l34, qn_l36, qn_l37, qn_l38, qn_l39, qn_l40, qn_l47, qn_l48, qn_l49, qn_l50, qn_l51, qn_l54, qn_l55, qn_l56, qn_l57, qn_l60, qn_l63, qn_l64, qn_l69, qn_l70, qn_l75, qn_l99, qn_l100, qn_l103, qn_l111, qn_l112, qn_l113, qn_l115, qn_l117, qn_l120, qn_l127, qn_l128, qn_l200, qn_l225, qn_l240, qn_l255, qn_l256, qn_l300, qn_l720, qn_l1000, qn_l48271, qn_l1000000, qn_l2147483646, qn_l2147483647, qn_add, qn_mul, qn_sub, qn_addneg, qn_div, qn_mod, qn_modn, qn_lt, qn_le, qn_eq, qn_nat, qn_m1, qn_m1', qn_c1, qn_g1, qn_g1', qn_c1', qn_and, qn_or, qn_shl1, qn_shr1, qn_64, ql_32, ql_add, ql_mul, ql_sub, ql_div, ql_mod, ql_lt, ql_le, ql_eq, ql_l0, ql_l1, qp_gd_T, qp_bd_t, ↓reduceIte, qt_le, qf_le, qt_lt, qf_lt, qt_eq, qf_eq, and_self, not_true_eq_false, not_false_eq_true, true_and, and_true, or_true, true_or, or_false, false_or, and_false, false_and, Nat.reduceAdd, Nat.reduceMul, Nat.reduceSub, Nat.reduceDiv, Nat.reduceMod, Nat.reducePow, Nat.zero_add, Nat.add_zero, Nat.zero_le, Nat.mul_zero, Nat.zero_mul, qm_nk, qm_eq, qm_nj]
  · rw [g 1 (by omega) (by omega)]; exact c1
  · rw [g 4 (by omega) (by omega)]; exact c4
  · rw [g 7 (by omega) (by omega)]; exact c7
  · rw [g 2 (by omega) (by omega)]; exact hs2
  · intro r' hr'
    rw [g2, qp_up1_if]
    by_cases e : t = r'
    · rw [if_pos e]; exact Or.inr ⟨m, hm, rfl⟩
    · rw [if_neg e]; exact hs5 r' hr'
theorem xc_put {t m i c : Nat} (h : xSz I) (ht : t < 4) (hz : I 5 t = qn m) (hm : m ≤ 60) (hi : i < m) (hc : c < 128) : fX_put (qn t) (qn i) (qn c) I J = some (I 6 (t * 60 + i) + qn 1000, qp_up I 6 (t * 60 + i) (qn c), J) := by
  obtain ⟨⟨c1, c4, c7⟩, hs2, hs5⟩ := h
  have hb : (Int32.toInt8 (qn c)).toInt32 = qn c := by
    have hall : ∀ c, c < 128 → (Int32.toInt8 (qn c)).toInt32 = qn c := by decide +kernel
    exact hall c hc
  unfold fX_put
  simp (disch := omega) only [eX_refp4 ht hz hm hi, eS4_get c4 ht hz hm hi, eS4_set c4 ht hz hm hi, hb, qn_l0, qn_l1, qn_l2, qn_l3, qn_l4, qn_l5, qn_l6, qn_l7, qn_l8, qn_l9, qn_l10, qn_l11, qn_l12, qn_l13, qn_l14, qn_l15, qn_l16, qn_l17, qn_l18, qn_l19, qn_l20, qn_l21, qn_l22, qn_l23, qn_l24, qn_l26, qn_l27, qn_l28, qn_l31, qn_l32, qn_l33, qn_l34, qn_l36, qn_l37, qn_l38, qn_l39, qn_l40, qn_l47, qn_l48, qn_l49, qn_l50, qn_l51, qn_l54, qn_l55, qn_l56, qn_l57, qn_l60, qn_l63, qn_l64, qn_l69, qn_l70, qn_l75, qn_l99, qn_l100, qn_l103, qn_l111, qn_l112, qn_l113, qn_l115, qn_l117, qn_l120, qn_l127, qn_l128, qn_l200, qn_l225, qn_l240, qn_l255, qn_l256, qn_l300, qn_l720, qn_l1000, qn_l48271, qn_l1000000, qn_l2147483646, qn_l2147483647, qn_add, qn_mul, qn_sub, qn_addneg, qn_div, qn_mod, qn_modn, qn_lt, qn_le, qn_eq, qn_nat, qn_m1, qn_m1', qn_c1, qn_g1, qn_g1', qn_c1', qn_and, qn_or, qn_shl1, qn_shr1, qn_64, ql_32, ql_add, ql_mul, ql_sub, ql_div, ql_mod, ql_lt, ql_le, ql_eq, ql_l0, ql_l1, qp_gd_T, qp_bd_t, ↓reduceIte, qt_le, qf_le, qt_lt, qf_lt, qt_eq, qf_eq, and_self, not_true_eq_false, not_false_eq_true, true_and, and_true, or_true, true_or, or_false, false_or, and_false, false_and, Nat.reduceAdd, Nat.reduceMul, Nat.reduceSub, Nat.reduceDiv, Nat.reduceMod, Nat.reducePow, Nat.zero_add, Nat.add_zero, Nat.zero_le, Nat.mul_zero, Nat.zero_mul, qm_nk, qm_eq, qm_nj]
theorem xSz_lay {r i : Nat} {v : Int32} (h : xSz I) : xSz (qp_up I 3 (r * 40 + i) v) := xSz_eq h (fun c hc => qm_nk (by omega))
theorem xSz_put {t i : Nat} {v : Int32} (h : xSz I) : xSz (qp_up I 6 (t * 60 + i) v) := xSz_eq h (fun c hc => qm_nk (by omega))
/-! which lines there can have been -/
theorem xc_refP {r T : Nat} {wh go : Nat → Nat} (h : xR n L0 K P ds kp I) (hr : r < 6) (hT : T ≤ 8) (e : I 2 r = qn (2 * T)) (hp : zpr n T wh go (I 3) r) : fX_refusalOfPairs (qn r) I J = some (qn 0, I, J) := by
  obtain ⟨hS, ⟨⟨c1, c4, c7⟩, hs2, hs5⟩, hX, hK⟩ := h
  have hn := hS.1
  have e0 : I 15 0 = qn n := hX.2.2.1
  have ex1 := eX_ref1 (I := I) (J := J) hr e (by omega)
  have c16 : qn (2 * T) ≤ 16 := by show qn (2 * T) ≤ qn 16; rw [qn_le (by omega) (by omega)]; omega
  have bx := (eX_refP_b (I := I) (J := J) (T := T) c1 hn e0 hr hT e).1 (fun k hk => by
    obtain ⟨a1, a2, a3, a4⟩ := hp (k / 2) (by omega)
    by_cases h2 : k % 2 = 0
    · rw [zgd_0 h2]
      exact ⟨wh (k / 2), a1, by rw [← a3]; congr 1; omega⟩
    · rw [zgd_1 (by omega)]
      exact ⟨go (k / 2), a2, by rw [← a4]; congr 1; omega⟩)
  unfold fX_refusalOfPairs
  rw [ex1, qp_bd_t, if_pos (show qn 0 = 0 from rfl), eS1_size hr, qp_bd_t, e, q_m2 (by omega), show 2 * T % 2 = 0 by omega, if_neg (by exact fun q => q rfl), if_pos c16, bx]
/-- the lines by which those got what the pairs tell -/
def xF (n : Nat) (K P : Nat → Nat) (L T : Nat) (wh go : Nat → Nat) : List (List Nat) := (zall n).filter (zQ K P L T wh go)
theorem xF_le {n : Nat} {K P : Nat → Nat} {L T : Nat} {wh go : Nat → Nat} (hn : n ≤ 6) : (xF n K P L T wh go).length ≤ 720 := by
  have := zfil_le (Q := zQ K P L T wh go) (c := zfac n) hn
  rw [zfil_all hn] at this; exact this
theorem xc_lines {r T : Nat} {wh go : Nat → Nat} (h : xR n L0 K P ds kp I) (hn0 : 0 < n) (hr : r < 6) (hT : T ≤ 8) (e : I 2 r = qn (2 * T)) (hp : zpr n T wh go (I 3) r) :
    ∃ I1, fX_lines (qn r) I J = some (qn 1, I1, qp_up (qp_up J 0 12 (ql (xF n K P (zrun n L0 ds).2 T wh go).length)) 0 13 (ql 1)) ∧ ∀ c, c < 36 → xqc c → I1 c = I c := by
  have ex := xc_refP (J := J) h hr hT e hp
  have hok := xR_ok h
  obtain ⟨hS, ⟨⟨c1, c4, c7⟩, hs2, hs5⟩, ⟨h1, h2, h3⟩, hK⟩ := h
  have hn := hS.1
  have e0 : I 15 0 = qn n := h3.1
  have c3 : ¬ qn n = 0 := by show ¬ qn n = qn 0; rw [qn_eq (by omega) (by omega)]; omega
  obtain ⟨I1, a1, a2, a3⟩ := eX_tally (J := J) (K := K) (P := P) (L := (zrun n L0 ds).2) c1 hn (zSt_kx hS h2) e0 h3.2.2.1 hok.2.2 hr hT e hp
  have hF720 := xF_le (K := K) (P := P) (L := (zrun n L0 ds).2) (T := T) (wh := wh) (go := go) hn
  have er := eX_ratio1 (I := I1) (J := J) (a := (xF n K P (zrun n L0 ds).2 T wh go).length) (by omega)
  refine ⟨I1, ?_, fun c h36 hc => by unfold xqc at hc; exact a3 c (by omega)⟩
  unfold fX_lines fX_lines_b29
  rw [e0, if_pos c3, ex, qp_bd_t]
  unfold fX_lines_b34
  rw [if_pos (show qn 0 = 0 from rfl), a1, qp_bd_t, a2.1]
  show qp_bd (fX_tellRatio (Int32.toInt64 (qn (xF n K P (zrun n L0 ds).2 T wh go).length)) 1 I1 J) _ = _
  rw [qn_64 (by omega), show (1 : Int64) = ql 1 from rfl, er, qp_bd_t]
theorem xc_can {r T i : Nat} {wh go : Nat → Nat} (h : xR n L0 K P ds kp I) (hi : i < n) (hr : r < 6) (hT : T ≤ 8) (e : I 2 r = qn (2 * T)) (hp : zpr n T wh go (I 3) r) :
    ∃ I1, fX_can (qn r) (qn i) I J = some (qn (zg2 (xF n K P (zrun n L0 ds).2 T wh go) i), I1, J) ∧ ∀ c, c < 36 → xqc c → I1 c = I c := by
  have ex := xc_refP (J := J) h hr hT e hp
  have hok := xR_ok h
  obtain ⟨hS, ⟨⟨c1, c4, c7⟩, hs2, hs5⟩, ⟨h1, h2, h3⟩, hK⟩ := h
  have hn := hS.1
  have e0 : I 15 0 = qn n := h3.1
  obtain ⟨I1, a1, a2, a3⟩ := eX_tally (J := J) (K := K) (P := P) (L := (zrun n L0 ds).2) c1 hn (zSt_kx hS h2) e0 h3.2.2.1 hok.2.2 hr hT e hp
  refine ⟨I1, ?_, fun c h36 hc => by unfold xqc at hc; exact a3 c (by omega)⟩
  unfold fX_can
  rw [eC_has e0 hn hi, qp_bd_t, if_neg (by decide), ex, qp_bd_t]
  unfold fX_can_b23
  rw [if_pos (show qn 0 = 0 from rfl), a1, qp_bd_t]
  unfold fO_whoCan
  rw [if_neg (by show ¬ qn i < qn 0; rw [qn_lt (by omega) (by omega)]; omega), if_neg (by show ¬ qn 6 ≤ qn i; rw [qn_le (by omega) (by omega)]; omega), qp_gd_t (q_g6 (by omega)), qn_nat (by omega), qp_bd_t, a2.2.1 i hi]
  rfl
theorem xc_next {r T : Nat} {wh go : Nat → Nat} (h : xR n L0 K P ds kp I) (hn0 : 0 < n) (hr : r < 6) (hT : T ≤ 8) (e : I 2 r = qn (2 * T)) (hp : zpr n T wh go (I 3) r) (hF0 : 0 < (xF n K P (zrun n L0 ds).2 T wh go).length) :
    ∃ I1 a, fX_next (qn r) I J = some (qn a, I1, J) ∧ a < n ∧ I1 0 11 = qn (zmx (zg3 K P (zrun n L0 ds).2 (xF n K P (zrun n L0 ds).2 T wh go) a) 4) ∧ ∀ c, c < 36 → xqc c → I1 c = I c := by
  have ex := xc_refP (J := J) h hr hT e hp
  have hok := xR_ok h
  obtain ⟨hS, ⟨⟨c1, c4, c7⟩, hs2, hs5⟩, ⟨h1, h2, h3⟩, hK⟩ := h
  have hn := hS.1
  have e0 : I 15 0 = qn n := h3.1
  have c3 : ¬ qn n = 0 := by show ¬ qn n = qn 0; rw [qn_eq (by omega) (by omega)]; omega
  obtain ⟨I1, a1, a2, a3⟩ := eX_tally (J := J) (K := K) (P := P) (L := (zrun n L0 ds).2) c1 hn (zSt_kx hS h2) e0 h3.2.2.1 hok.2.2 hr hT e hp
  have hF720 := xF_le (K := K) (P := P) (L := (zrun n L0 ds).2) (T := T) (wh := wh) (go := go) hn
  change zTy n K P (zrun n L0 ds).2 (xF n K P (zrun n L0 ds).2 T wh go) I1 at a2
  generalize xF n K P (zrun n L0 ds).2 T wh go = F at *
  have run : fX_next (qn r) I J = if ¬ I1 29 0 = 0 then fX_next_b64 100000 0 1 I1 J else some (-9, I1, J) := by
    unfold fX_next fX_next_b29
    rw [e0, if_pos c3, ex, qp_bd_t]
    unfold fX_next_b34
    rw [if_pos (show qn 0 = 0 from rfl), a1, qp_bd_t]
  obtain ⟨g, hg⟩ : ∃ g : Nat → Nat, ∀ i, g i = zmx (zg3 K P (zrun n L0 ds).2 F i) 4 := ⟨fun i => zmx (zg3 K P (zrun n L0 ds).2 F i) 4, fun _ => rfl⟩
  have ebx := eX_next_b (J := J) (I := I1) (g := g) hn (by omega) (by rw [a3 15 (by omega)]; exact e0) a2 hF720 hg
  rw [a2.1, if_pos (by show ¬ qn F.length = qn 0; rw [qn_eq (by omega) (by omega)]; omega), ebx] at run
  exact ⟨_, zmn g n, run, zmn_lt n hn0, by rw [← hg]; exact qm_eq rfl, fun c h36 hc => by unfold xqc at hc; rw [qm_nk (by omega)]; exact a3 c (by omega)⟩
/-! the fewest tickets -/
theorem xc_wish {a b d r : Nat} (h : xR n L0 K P ds kp I) (ha : a < n) (hb : b < n) (hd : d < n) (hab : ¬ a = b) (hr : r < 6) :
    (∃ k w I1, zfw n (zls n (zrun n L0 ds).1) (zQf K P (zrun n L0 ds).2 a b d) k w ∧ fX_wish (qn a) (qn b) (qn d) (qn r) I J = some (qn k, I1, J) ∧ I1 2 = qp_up1 (I 2) r (qn k) ∧ (∀ j, j < k → I1 3 (r * 40 + j) = qn (zat w j)) ∧ (∀ c, c < 36 → xqc c → c ≠ 2 → c ≠ 3 → I1 c = I c) ∧ xR n L0 K P ds kp I1) ∨
    ((∀ j, j ≤ 3 → (zqW n j).find? (fun w => zQf K P (zrun n L0 ds).2 a b d (zqe (zls n (zrun n L0 ds).1) w)) = none) ∧ ∃ I1, fX_wish (qn a) (qn b) (qn d) (qn r) I J = some (-9, I1, J) ∧ ∀ c, c < 36 → xqc c → I1 c = I c) := by
  have hP := xR_P h
  have hok := xR_ok h
  obtain ⟨hS, ⟨⟨c1, c4, c7⟩, hs2, hs5⟩, ⟨h1, h2, h3⟩, hK⟩ := id h
  have hn := hS.1
  have e0 : I 15 0 = qn n := h3.1
  have cab : ¬ qn a = qn b := by rw [qn_eq (by omega) (by omega)]; exact hab
  have goX : ∀ p4, fX_wish (qn a) (qn b) (qn d) p4 I J = qp_bd (fS_isNumber_1 p4 I J) fun v4 I4 J4 => if ¬ v4 = 0 then (qp_bd (fH_fewest (qn a) (qn b) (qn d) I4 J4) fun v5 I5 J5 => if ¬ v5 = (-9) then (qp_bd (fS_fresh_1 p4 v5 0 I5 J5) fun _u I6 J6 => fX_wish_b92 100000 p4 v5 0 I6 J6) else some ((-9), I5, J5)) else some ((-1), I4, J4) := by
    intro p4
    unfold fX_wish
    rw [eC_has e0 hn ha, qp_bd_t, if_neg (by decide), eC_has e0 hn hb, qp_bd_t, if_neg (by decide), eC_has e0 hn hd, qp_bd_t, if_neg (by decide), if_neg cab]
  have hX : zXk n K P (zrun n L0 ds).2 I := ⟨zSt_kx hS h2, e0, h3.2.2.1, hok.2.2⟩
  rcases eH_fewest (J := J) (a := a) (b := b) (c := d) hP hn hX h3.2.1 ha hb hd with ⟨k, w, I1, f1, f2, f3, f4⟩ | ⟨hno, I1, f2, f4⟩
  case inr =>
    refine Or.inr ⟨hno, I1, ?_, fun c h36 hc => by unfold xqc at hc; exact f4 c (by omega)⟩
    rw [goX, eS1_num hr, qp_bd_t, if_pos (by decide), f2, qp_bd_t, if_neg (by exact fun q => q rfl)]
  have hk3 := f1.1
  have hw := zqW_ok k w (List.mem_of_find?_eq_some f1.2.1)
  obtain ⟨I2, t1, t2, t3, t4⟩ := eX_tellWay (I := I1) (J := J) (r := r) (k := k) (w := w) (by rw [f4 1 (by omega)]; exact c1) hr hk3 hw.1 (fun t ht => zqx_64 hn (hw.2 t ht)) f3
  have q9 : ∀ k, k ≤ 3 → ¬ qn k = -9 := by
    intro k hk
    rcases (show k = 0 ∨ k = 1 ∨ k = 2 ∨ k = 3 by omega) with rfl | rfl | rfl | rfl <;> decide
  have g : ∀ c, c < 36 → xqc c → c ≠ 2 → c ≠ 3 → I2 c = I c := fun c h36 hc h2 h3 => by unfold xqc at hc; rw [t4 c h2 h3]; exact f4 c (by omega)
  have g2 : I2 2 = qp_up1 (I 2) r (qn k) := by rw [t2, f4 2 (by omega)]
  refine Or.inl ⟨k, w, I2, f1, ?_, g2, fun j hj => ?_, g, hS, ⟨⟨?_, ?_, ?_⟩, ?_, ?_⟩, ⟨?_, ?_, zXs_eq h3 (fun c hc => g c (by omega) (by unfold xqc; omega) (by omega) (by omega))⟩, ?_⟩
  · rw [goX, eS1_num hr, qp_bd_t, if_pos (by decide), f2, qp_bd_t, if_pos (q9 k hk3)]
    exact t1
  · rw [t3]
    dsimp only
    rw [if_pos (by omega), show r * 40 + j - r * 40 = j by omega]
  · rw [g 1 (by omega) (by unfold xqc; omega) (by omega) (by omega)]; exact c1
  · rw [g 4 (by omega) (by unfold xqc; omega) (by omega) (by omega)]; exact c4
  · rw [g 7 (by omega) (by unfold xqc; omega) (by omega) (by omega)]; exact c7
  · intro r' hr'
    rw [g2, qp_up1_if]
    by_cases e : r = r'
    · rw [if_pos e]; exact Or.inr ⟨k, by omega, rfl⟩
    · rw [if_neg e]; exact hs2 r' hr'
  · rw [g 5 (by omega) (by unfold xqc; omega) (by omega) (by omega)]; exact hs5
  · rw [g 15 (by omega) (by unfold xqc; omega) (by omega) (by omega)]; exact h1
  · rw [g 16 (by omega) (by unfold xqc; omega) (by omega) (by omega), g 17 (by omega) (by unfold xqc; omega) (by omega) (by omega)]; exact h2
  · unfold zKX at hK ⊢
    rw [g 8 (by omega) (by unfold xqc; omega) (by omega) (by omega), g 9 (by omega) (by unfold xqc; omega) (by omega) (by omega)]; exact hK
/-! a line read anew -/
theorem xc_line {t m L : Nat} {ks ps : List Nat} (h : xSz I) (ht : t < 4) (hs : I 5 t = qn m) (hm : m ≤ 60) (hz : zpar (fun i => I 6 (t * 60 + i)) m = (none, L, ks, ps)) :
    ∃ I1, fX_line (qn t) I J = some (qn ks.length, I1, J) ∧ (∀ c, c < 8 ∨ 17 < c → I1 c = I c) ∧ I1 9 = I 9 ∧ xR ks.length L (zat ks) (zat ps) [] (fun _ => none) I1 := by
  obtain ⟨⟨c1, c4, c7⟩, hs2, hs5⟩ := h
  obtain ⟨I1, a1, a2, a3⟩ := eR_read (J := J) (T := fun i => I 6 (t * 60 + i)) ht hm c4 hs (fun i _ => rfl)
  have hok := zpar_ok (T := fun i => I 6 (t * 60 + i)) (m := m)
  rw [hz] at a1 a2 hok
  obtain ⟨x1, x2⟩ := a2 rfl
  obtain ⟨k1, k2, k3, k4, k5⟩ := hok rfl
  dsimp only at x1 x2 k1 k2 k3 k4 k5
  obtain ⟨I3, d1, d2, d3, d4, d5⟩ := eC_take (J := J) (L := L) k2 k3 x1 x2
  obtain ⟨I4, b1, b2, b3⟩ := eL_restart (I := I3) (J := J) k3 d2 d3
  obtain ⟨I5, e1, e2, e3⟩ := eX_drops (I := I4) (J := J) (a := qn ks.length) (by rw [b3 15 (by omega)]; exact d2)
  have f : ∀ c, c < 8 ∨ 17 < c → I5 c = I c := fun c hc => by rw [e3 c (by omega), b3 c (by omega), d5 c (by omega)]; exact a3 c (by omega)
  refine ⟨I5, ?_, f, ?_, ⟨k3, k1, fun i hi => ⟨k4 _ (zat_mem ks i hi), k5 _ (zat_mem ps i (by omega))⟩, ⟨Nat.zero_le _, trivial⟩, fun k hk d hd => by cases hd⟩, ⟨⟨?_, ?_, ?_⟩, ?_, ?_⟩, ⟨?_, fun i hi => ?_, ?_⟩, ?_⟩
  · unfold fX_line
    rw [eX_ref4 ht hs hm, qp_bd_t, if_pos (show qn 0 = 0 from rfl), a1, qp_bd_t, if_pos (by rfl), d1, qp_bd_t, b1, qp_bd_t, e1]
  · rw [e3 9 (by omega), b3 9 (by omega), d5 9 (by omega), a3 9 (by omega)]
  · rw [f 1 (by omega)]; exact c1
  · rw [f 4 (by omega)]; exact c4
  · rw [f 7 (by omega)]; exact c7
  · rw [f 2 (by omega)]; exact hs2
  · rw [f 5 (by omega)]; exact hs5
  · rw [e3 15 (by omega), b3 15 (by omega)]; exact d3
  · rw [e3 16 (by omega), e3 17 (by omega), b3 16 (by omega), b3 17 (by omega)]; exact d4 i hi
  · exact zXs_eq b2 (fun c hc => e3 c (by omega))
  · exact fun k hk => ⟨fun _ => e2 k hk, fun d hd => by cases hd⟩
end XE

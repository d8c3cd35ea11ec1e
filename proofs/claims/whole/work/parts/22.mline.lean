/-! THE MODEL'S LINE: rows of places, moves, tickets given back -/
def zrow (off : Nat) (s : List Nat) (R : Nat → Int32) : Prop := ∀ p, p < s.length → R (off + p) = qn (zat s p)
/-- only some places of one cell are other ones -/
def zfr (c lo hi : Nat) (I I' : Nat → Nat → Int32) : Prop := (∀ c', c' ≠ c → I' c' = I c') ∧ (∀ j, j < lo ∨ hi ≤ j → I' c j = I c j)
theorem zfr_rfl {c lo hi : Nat} {I : Nat → Nat → Int32} : zfr c lo hi I I := ⟨fun _ _ => rfl, fun _ _ => rfl⟩
theorem zfr_tr {c lo hi : Nat} {I I1 I2 : Nat → Nat → Int32} (h : zfr c lo hi I I1) (h' : zfr c lo hi I1 I2) : zfr c lo hi I I2 := ⟨fun c' hc => (h'.1 c' hc).trans (h.1 c' hc), fun j hj => (h'.2 j hj).trans (h.2 j hj)⟩
theorem zfr_wd {c lo hi lo' hi' : Nat} {I I' : Nat → Nat → Int32} (h : zfr c lo hi I I') (h1 : lo' ≤ lo) (h2 : hi ≤ hi') : zfr c lo' hi' I I' := ⟨h.1, fun j hj => h.2 j (by omega)⟩
theorem zfr_up {c lo hi j : Nat} {I : Nat → Nat → Int32} {v : Int32} (h1 : lo ≤ j) (h2 : j < hi) : zfr c lo hi I (qp_up I c j v) := ⟨fun c' hc => qm_nk (Ne.symm hc), fun j' hj => qm_nj (by omega)⟩
theorem zrow_fr {c lo hi off : Nat} {s : List Nat} {I I' : Nat → Nat → Int32} (h : zfr c lo hi I I') (hr : zrow off s (I c)) (ho : off + s.length ≤ lo ∨ hi ≤ off) : zrow off s (I' c) := fun p hp => by rw [h.2 _ (by omega)]; exact hr p hp
section MR37
variable {J : Nat → Nat → Int64}
theorem eM_placeIn_37 {n i off : Nat} {s : List Nat} {I : Nat → Nat → Int32} (hP : zP n s) (hn : n ≤ 6) (hr : zrow off s (I 37)) (ho : off + n ≤ 75) (hi : i < 2147483648) : fM_placeIn_37 (qn off) (qn n) (qn i) I J = some (qn (zix i s), I, J) := by
  have hl := hP.2.1
  unfold fM_placeIn_37
  refine lp (σ := Unit) (R := fun o => o = some (qn (zix i s), I, J)) (Inv := fun p _ => zix i s = p + zix i (s.drop p)) (fun f p _ => fM_placeIn_37_b3 f (qn off) (qn n) (qn i) (qn p) I J) n 100000 0 () (Nat.zero_le _) (by omega) (by rw [Nat.zero_add]; rfl) ?_ ?_
  · intro f _ h
    rw [List.drop_of_length_le (by omega)] at h
    (try dsimp only)
    rw [fM_placeIn_37_b3]
    simp (disch := omega) only [qn_l0, qn_l1, qn_l2, qn_l3, qn_l4, qn_l5, qn_l6, qn_l7, qn_l8, qn_l9, qn_l10, qn_l11, qn_l12, qn_l13, qn_l14, qn_l15, qn_l16, qn_l17, qn_l18, qn_l19, qn_l20, qn_l21, qn_l22, qn_l23, qn_l24, qn_l26, qn_l27, qn_l28, qn_l31, qn_l32, qn_l33, qn_l34, qn_l36, qn_l37, qn_l38, qn_l39, qn_l40, qn_l47, qn_l48, qn_l49, qn_l50, qn_l51, qn_l54, qn_l55, qn_l56, qn_l57, qn_l60, qn_l63, qn_l64, qn_l69, qn_l70, qn_l75, qn_l99, qn_l100, qn_l103, qn_l111, qn_l112, qn_l113, qn_l115, qn_l117, qn_l120, qn_l127, qn_l128, qn_l200, qn_l225, qn_l240, qn_l255, qn_l256, qn_l300, qn_l720, qn_l1000, qn_l48271, qn_l1000000, qn_l2147483646, qn_l2147483647, qn_add, qn_mul, qn_sub, qn_addneg, qn_div, qn_mod, qn_modn, qn_lt, qn_le, qn_eq, qn_nat, qn_m1, qn_m1', qn_c1, qn_g1, qn_g1', qn_c1', qn_and, qn_or, qn_shl1, qn_shr1, qn_64, ql_32, ql_add, ql_mul, ql_sub, ql_div, ql_mod, ql_lt, ql_le, ql_eq, ql_l0, ql_l1, qp_gd_T, qp_bd_t, ↓reduceIte, qt_le, qf_le, qt_lt, qf_lt, qt_eq, qf_eq, and_self, not_true_eq_false, not_false_eq_true, true_and, and_true, or_true, true_or, or_false, false_or, and_false, false_and, Nat.reduceAdd, Nat.reduceMul, Nat.reduceSub, Nat.reduceDiv, Nat.reduceMod, Nat.reducePow, Nat.zero_add, Nat.add_zero, Nat.zero_le, Nat.mul_zero, Nat.zero_mul, qm_nk, qm_eq, qm_nj]
    rw [h]; rfl
  · intro f p _ hp h
    (try dsimp only)
    rw [zat_drop s p (by omega), show zix i (zat s p :: s.drop (p + 1)) = if zat s p = i then 0 else zix i (s.drop (p + 1)) + 1 from rfl] at h
    have ez := hr p (by omega)
    have hz := zP_at hP hp
    rw [fM_placeIn_37_b3]
    by_cases hx : zat s p = i
    · refine Or.inl ?_
      rw [if_pos hx] at h
      simp (disch := omega) only [ez, hx, qn_l0, qn_l1, qn_l2, qn_l3, qn_l4, qn_l5, qn_l6, qn_l7, qn_l8, qn_l9, qn_l10, qn_l11, qn_l12, qn_l13, qn_l14, qn_l15, qn_l16, qn_l17, qn_l18, qn_l19, qn_l20, qn_l21, qn_l22, qn_l23, qn_l24, qn_l26, qn_l27, qn_l28, qn_l31, qn_l32, qn_l33, qn_l34, qn_l36, qn_l37, qn_l38, qn_l39, qn_l40, qn_l47, qn_l48, qn_l49, qn_l50, qn_l51, qn_l54, qn_l55, qn_l56, qn_l57, qn_l60, qn_l63, qn_l64, qn_l69, qn_l70, qn_l75, qn_l99, qn_l100, qn_l103, qn_l111, qn_l112, qn_l113, qn_l115, qn_l117, qn_l120, qn_l127, qn_l128, qn_l200, qn_l225, qn_l240, qn_l255, qn_l256, qn_l300, qn_l720, qn_l1000, qn_l48271, qn_l1000000, qn_l2147483646, qn_l2147483647, qn_add, qn_mul, qn_sub, qn_addneg, qn_div, qn_mod, qn_modn, qn_lt, qn_le, qn_eq, qn_nat, qn_m1, qn_m1', qn_c1, qn_g1, qn_g1', qn_c1', qn_and, qn_or, qn_shl1, qn_shr1, qn_64, ql_32, ql_add, ql_mul, ql_sub, ql_div, ql_mod, ql_lt, ql_le, ql_eq, ql_l0, ql_l1, qp_gd_T, qp_bd_t, ↓reduceIte, qt_le, qf_le, qt_lt, qf_lt, qt_eq, qf_eq, and_self, not_true_eq_false, not_false_eq_true, true_and, and_true, or_true, true_or, or_false, false_or, and_false, false_and, Nat.reduceAdd, Nat.reduceMul, Nat.reduceSub, Nat.reduceDiv, Nat.reduceMod, Nat.reducePow, Nat.zero_add, Nat.add_zero, Nat.zero_le, Nat.mul_zero, Nat.zero_mul, qm_nk, qm_eq, qm_nj]
      rw [h, Nat.add_zero]
    · refine Or.inr ⟨(), ?_, ?_⟩
      · rw [if_neg hx] at h
        rw [h]; omega
      · simp (disch := omega) only [ez, hx, qn_l0, qn_l1, qn_l2, qn_l3, qn_l4, qn_l5, qn_l6, qn_l7, qn_l8, qn_l9, qn_l10, qn_l11, qn_l12, qn_l13, qn_l14, qn_l15, qn_l16, qn_l17, qn_l18, qn_l19, qn_l20, qn_l21, qn_l22, qn_l23, qn_l24, qn_l26, qn_l27, qn_l28, qn_l31, qn_l32, qn_l33, qn_l34, qn_l36, qn_l37, qn_l38, qn_l39, qn_l40, qn_l47, qn_l48, qn_l49, qn_l50, qn_l51, qn_l54, qn_l55, qn_l56, qn_l57, qn_l60, qn_l63, qn_l64, qn_l69, qn_l70, qn_l75, qn_l99, qn_l100, qn_l103, qn_l111, qn_l112, qn_l113, qn_l115, qn_l117, qn_l120, qn_l127, qn_l128, qn_l200, qn_l225, qn_l240, qn_l255, qn_l256, qn_l300, qn_l720, qn_l1000, qn_l48271, qn_l1000000, qn_l2147483646, qn_l2147483647, qn_add, qn_mul, qn_sub, qn_addneg, qn_div, qn_mod, qn_modn, qn_lt, qn_le, qn_eq, qn_nat, qn_m1, qn_m1', qn_c1, qn_g1, qn_g1', qn_c1', qn_and, qn_or, qn_shl1, qn_shr1, qn_64, ql_32, ql_add, ql_mul, ql_sub, ql_div, ql_mod, ql_lt, ql_le, ql_eq, ql_l0, ql_l1, qp_gd_T, qp_bd_t, ↓reduceIte, qt_le, qf_le, qt_lt, qf_lt, qt_eq, qf_eq, and_self, not_true_eq_false, not_false_eq_true, true_and, and_true, or_true, true_or, or_false, false_or, and_false, false_and, Nat.reduceAdd, Nat.reduceMul, Nat.reduceSub, Nat.reduceDiv, Nat.reduceMod, Nat.reducePow, Nat.zero_add, Nat.add_zero, Nat.zero_le, Nat.mul_zero, Nat.zero_mul, qm_nk, qm_eq, qm_nj]
theorem eM_goTo_37 {n i p off : Nat} {s : List Nat} {I : Nat → Nat → Int32} (hP : zP n s) (hn : n ≤ 6) (hr : zrow off s (I 37)) (ho : off + n ≤ 75) (hi : i < n) (hp : p < n) :
    ∃ I', fM_goTo_37 (qn off) (qn n) (qn i) (qn p) I J = some ((), I', J) ∧ zrow off (zmv i p s) (I' 37) ∧ zfr 37 off (off + n) I I' := by
  have hl := hP.2.1
  have him := (hP.2.2 i).2 hi
  have hf := zP_ix hP hi
  have hz : ∀ j, zat (zmv i p s) j = if j = p then i else if zix i s ≤ j ∧ j < p then zat s (j + 1) else if p < j ∧ j ≤ zix i s then zat s (j - 1) else zat s j := fun j => zat_mv him (by omega)
  have hlm : (zmv i p s).length = n := (zmv_P hP hi).2.1
  unfold fM_goTo_37
  rw [eM_placeIn_37 hP hn hr ho (by omega), qp_bd_t]
  generalize zix i s = f at hf hz
  by_cases hfp : f ≤ p
  · refine lp (σ := Nat → Nat → Int32) (R := fun o => ∃ I', o = some ((), I', J) ∧ zrow off (zmv i p s) (I' 37) ∧ zfr 37 off (off + n) I I')
      (Inv := fun a I' => f ≤ a ∧ (∀ c, c ≠ 37 → I' c = I c) ∧ ∀ j, I' 37 j = if off + f ≤ j ∧ j < off + a then I 37 (j + 1) else I 37 j)
      (fun fu a I' => fM_goTo_37_b9 fu (qn off) (qn i) (qn p) (qn a) I' J) p 100000 f I hfp (by omega) ⟨Nat.le_refl _, fun c _ => rfl, fun j => by rw [if_neg (by omega)]⟩ ?_ ?_
    · intro fu I' ⟨h0, h1, h2⟩
      (try dsimp only)
      rw [fM_goTo_37_b9]
      simp (disch := omega) only [qn_l0, qn_l1, qn_l2, qn_l3, qn_l4, qn_l5, qn_l6, qn_l7, qn_l8, qn_l9, qn_l10, qn_l11, qn_l12, qn_l13, qn_l14, qn_l15, qn_l16, qn_l17, qn_l18, qn_l19, qn_l20, qn_l21, qn_l22, qn_l23, qn_l24, qn_l26, qn_l27, qn_l28, qn_l31, qn_l32, qn_l33, qn_l34, qn_l36, qn_l37, qn_l38, qn_l39, qn_l40, qn_l47, qn_l48, qn_l49, qn_l50, qn_l51, qn_l54, qn_l55, qn_l56, qn_l57, qn_l60, qn_l63, qn_l64, qn_l69, qn_l70, qn_l75, qn_l99, qn_l100, qn_l103, qn_l111, qn_l112, qn_l113, qn_l115, qn_l117, qn_l120, qn_l127, qn_l128, qn_l200, qn_l225, qn_l240, qn_l255, qn_l256, qn_l300, qn_l720, qn_l1000, qn_l48271, qn_l1000000, qn_l2147483646, qn_l2147483647, qn_add, qn_mul, qn_sub, qn_addneg, qn_div, qn_mod, qn_modn, qn_lt, qn_le, qn_eq, qn_nat, qn_m1, qn_m1', qn_c1, qn_g1, qn_g1', qn_c1', qn_and, qn_or, qn_shl1, qn_shr1, qn_64, ql_32, ql_add, ql_mul, ql_sub, ql_div, ql_mod, ql_lt, ql_le, ql_eq, ql_l0, ql_l1, qp_gd_T, qp_bd_t, ↓reduceIte, qt_le, qf_le, qt_lt, qf_lt, qt_eq, qf_eq, and_self, not_true_eq_false, not_false_eq_true, true_and, and_true, or_true, true_or, or_false, false_or, and_false, false_and, Nat.reduceAdd, Nat.reduceMul, Nat.reduceSub, Nat.reduceDiv, Nat.reduceMod, Nat.reducePow, Nat.zero_add, Nat.add_zero, Nat.zero_le, Nat.mul_zero, Nat.zero_mul, qm_nk, qm_eq, qm_nj]
      rw [show (100000 : Nat) = 99999 + 1 from rfl, fM_goTo_37_b36]
      simp (disch := omega) only [qn_l0, qn_l1, qn_l2, qn_l3, qn_l4, qn_l5, qn_l6, qn_l7, qn_l8, qn_l9, qn_l10, qn_l11, qn_l12, qn_l13, qn_l14, qn_l15, qn_l16, qn_l17, qn_l18, qn_l19, qn_l20, qn_l21, qn_l22, qn_l23, qn_l24, qn_l26, qn_l27, qn_l28, qn_l31, qn_l32, qn_l33, qn_l34, qn_l36, qn_l37, qn_l38, qn_l39, qn_l40, qn_l47, qn_l48, qn_l49, qn_l50, qn_l51, qn_l54, qn_l55, qn_l56, qn_l57, qn_l60, qn_l63, qn_l64, qn_l69, qn_l70, qn_l75, qn_l99, qn_l100, qn_l103, qn_l111, qn_l112, qn_l113, qn_l115, qn_l117, qn_l120, qn_l127, qn_l128, qn_l200, qn_l225, qn_l240, qn_l255, qn_l256, qn_l300, qn_l720, qn_l1000, qn_l48271, qn_l1000000, qn_l2147483646, qn_l2147483647, qn_add, qn_mul, qn_sub, qn_addneg, qn_div, qn_mod, qn_modn, qn_lt, qn_le, qn_eq, qn_nat, qn_m1, qn_m1', qn_c1, qn_g1, qn_g1', qn_c1', qn_and, qn_or, qn_shl1, qn_shr1, qn_64, ql_32, ql_add, ql_mul, ql_sub, ql_div, ql_mod, ql_lt, ql_le, ql_eq, ql_l0, ql_l1, qp_gd_T, qp_bd_t, ↓reduceIte, qt_le, qf_le, qt_lt, qf_lt, qt_eq, qf_eq, and_self, not_true_eq_false, not_false_eq_true, true_and, and_true, or_true, true_or, or_false, false_or, and_false, false_and, Nat.reduceAdd, Nat.reduceMul, Nat.reduceSub, Nat.reduceDiv, Nat.reduceMod, Nat.reducePow, Nat.zero_add, Nat.add_zero, Nat.zero_le, Nat.mul_zero, Nat.zero_mul, qm_nk, qm_eq, qm_nj]
      refine ⟨_, rfl, ?_, ?_⟩
      · intro j hj
        rw [hlm] at hj
        rw [hz, qm_if, h2]
        by_cases e1 : j = p
        · rw [if_pos (by omega), if_pos e1]
        · rw [if_neg (by omega), if_neg e1]
          by_cases e2 : f ≤ j ∧ j < p
          · rw [if_pos (by omega), if_pos e2, Nat.add_assoc]; exact hr (j + 1) (by omega)
          · rw [if_neg (by omega), if_neg e2, if_neg (by omega)]; exact hr j (by omega)
      · exact ⟨fun c hc => (qm_nk (Ne.symm hc)).trans (h1 c hc), fun j hj => by rw [qm_nj (by omega), h2, if_neg (by omega)]⟩
    · intro fu a I' ha ⟨h0, h1, h2⟩
      (try dsimp only)
      refine Or.inr ⟨qp_up I' 37 (off + a) (I' 37 (off + a + 1)), ⟨by omega, fun c hc => (qm_nk (Ne.symm hc)).trans (h1 c hc), fun j => ?_⟩, ?_⟩
      · rw [qm_if, h2, h2]
        by_cases e1 : off + a = j
        · rw [if_pos e1, if_neg (by omega), if_pos (by omega), ← e1]
        · rw [if_neg e1]
          by_cases e2 : off + f ≤ j ∧ j < off + a
          · rw [if_pos e2, if_pos (by omega)]
          · rw [if_neg e2, if_neg (by omega)]
      · rw [fM_goTo_37_b9]
        simp (disch := omega) only [qn_l0, qn_l1, qn_l2, qn_l3, qn_l4, qn_l5, qn_l6, qn_l7, qn_l8, qn_l9, qn_l10, qn_l11, qn_l12, qn_l13, qn_l14, qn_l15, qn_l16, qn_l17, qn_l18, qn_l19, qn_l20, qn_l21, qn_l22, qn_l23, qn_l24, qn_l26, qn_l27, qn_l28, qn_l31, qn_l32, qn_l33, qn_l34, qn_l36, qn_l37, qn_l38, qn_l39, qn_l40, qn_l47, qn_l48, qn_l49, qn_l50, qn_l51, qn_l54, qn_l55, qn_l56, qn_l57, qn_l60, qn_l63, qn_l64, qn_l69, qn_l70, qn_l75, qn_l99, qn_l100, qn_l103, qn_l111, qn_l112, qn_l113, qn_l115, qn_l117, qn_l120, qn_l127, qn_l128, qn_l200, qn_l225, qn_l240, qn_l255, qn_l256, qn_l300, qn_l720, qn_l1000, qn_l48271, qn_l1000000, qn_l2147483646, qn_l2147483647, qn_add, qn_mul, qn_sub, qn_addneg, qn_div, qn_mod, qn_modn, qn_lt, qn_le, qn_eq, qn_nat, qn_m1, qn_m1', qn_c1, qn_g1, qn_g1', qn_c1', qn_and, qn_or, qn_shl1, qn_shr1, qn_64, ql_32, ql_add, ql_mul, ql_sub, ql_div, ql_mod, ql_lt, ql_le, ql_eq, ql_l0, ql_l1, qp_gd_T, qp_bd_t, ↓reduceIte, qt_le, qf_le, qt_lt, qf_lt, qt_eq, qf_eq, and_self, not_true_eq_false, not_false_eq_true, true_and, and_true, or_true, true_or, or_false, false_or, and_false, false_and, Nat.reduceAdd, Nat.reduceMul, Nat.reduceSub, Nat.reduceDiv, Nat.reduceMod, Nat.reducePow, Nat.zero_add, Nat.add_zero, Nat.zero_le, Nat.mul_zero, Nat.zero_mul, qm_nk, qm_eq, qm_nj]
  · rw [show (100000 : Nat) = 99999 + 1 from rfl, fM_goTo_37_b9]
    simp (disch := omega) only [qn_l0, qn_l1, qn_l2, qn_l3, qn_l4, qn_l5, qn_l6, qn_l7, qn_l8, qn_l9, qn_l10, qn_l11, qn_l12, qn_l13, qn_l14, qn_l15, qn_l16, qn_l17, qn_l18, qn_l19, qn_l20, qn_l21, qn_l22, qn_l23, qn_l24, qn_l26, qn_l27, qn_l28, qn_l31, qn_l32, qn_l33, qn_l34, qn_l36, qn_l37, qn_l38, qn_l39, qn_l40, qn_l47, qn_l48, qn_l49, qn_l50, qn_l51, qn_l54, qn_l55, qn_l56, qn_l57, qn_l60, qn_l63, qn_l64, qn_l69, qn_l70, qn_l75, qn_l99, qn_l100, qn_l103, qn_l111, qn_l112, qn_l113, qn_l115, qn_l117, qn_l120, qn_l127, qn_l128, qn_l200, qn_l225, qn_l240, qn_l255, qn_l256, qn_l300, qn_l720, qn_l1000, qn_l48271, qn_l1000000, qn_l2147483646, qn_l2147483647, qn_add, qn_mul, qn_sub, qn_addneg, qn_div, qn_mod, qn_modn, qn_lt, qn_le, qn_eq, qn_nat, qn_m1, qn_m1', qn_c1, qn_g1, qn_g1', qn_c1', qn_and, qn_or, qn_shl1, qn_shr1, qn_64, ql_32, ql_add, ql_mul, ql_sub, ql_div, ql_mod, ql_lt, ql_le, ql_eq, ql_l0, ql_l1, qp_gd_T, qp_bd_t, ↓reduceIte, qt_le, qf_le, qt_lt, qf_lt, qt_eq, qf_eq, and_self, not_true_eq_false, not_false_eq_true, true_and, and_true, or_true, true_or, or_false, false_or, and_false, false_and, Nat.reduceAdd, Nat.reduceMul, Nat.reduceSub, Nat.reduceDiv, Nat.reduceMod, Nat.reducePow, Nat.zero_add, Nat.add_zero, Nat.zero_le, Nat.mul_zero, Nat.zero_mul, qm_nk, qm_eq, qm_nj]
    have key := lp (σ := Nat → Nat → Int32) (R := fun o => ∃ I', o = some ((), I', J) ∧ zrow off (zmv i p s) (I' 37) ∧ zfr 37 off (off + n) I I')
      (Inv := fun t I' => (∀ c, c ≠ 37 → I' c = I c) ∧ ∀ j, I' 37 j = if off + (f - t) < j ∧ j ≤ off + f then I 37 (j - 1) else I 37 j)
      (fun fu t I' => fM_goTo_37_b36 fu (qn off) (qn i) (qn p) (qn (f - t)) I' J) (f - p) 100000 0 I (Nat.zero_le _) (by omega) ⟨fun c _ => rfl, fun j => by rw [if_neg (by omega)]⟩ (by
        intro fu I' ⟨h1, h2⟩
        (try dsimp only)
        rw [fM_goTo_37_b36, show f - (f - p) = p by omega]
        rw [show f - (f - p) = p by omega] at h2
        simp (disch := omega) only [qn_l0, qn_l1, qn_l2, qn_l3, qn_l4, qn_l5, qn_l6, qn_l7, qn_l8, qn_l9, qn_l10, qn_l11, qn_l12, qn_l13, qn_l14, qn_l15, qn_l16, qn_l17, qn_l18, qn_l19, qn_l20, qn_l21, qn_l22, qn_l23, qn_l24, qn_l26, qn_l27, qn_l28, qn_l31, qn_l32, qn_l33, qn_l34, qn_l36, qn_l37, qn_l38, qn_l39, qn_l40, qn_l47, qn_l48, qn_l49, qn_l50, qn_l51, qn_l54, qn_l55, qn_l56, qn_l57, qn_l60, qn_l63, qn_l64, qn_l69, qn_l70, qn_l75, qn_l99, qn_l100, qn_l103, qn_l111, qn_l112, qn_l113, qn_l115, qn_l117, qn_l120, qn_l127, qn_l128, qn_l200, qn_l225, qn_l240, qn_l255, qn_l256, qn_l300, qn_l720, qn_l1000, qn_l48271, qn_l1000000, qn_l2147483646, qn_l2147483647, qn_add, qn_mul, qn_sub, qn_addneg, qn_div, qn_mod, qn_modn, qn_lt, qn_le, qn_eq, qn_nat, qn_m1, qn_m1', qn_c1, qn_g1, qn_g1', qn_c1', qn_and, qn_or, qn_shl1, qn_shr1, qn_64, ql_32, ql_add, ql_mul, ql_sub, ql_div, ql_mod, ql_lt, ql_le, ql_eq, ql_l0, ql_l1, qp_gd_T, qp_bd_t, ↓reduceIte, qt_le, qf_le, qt_lt, qf_lt, qt_eq, qf_eq, and_self, not_true_eq_false, not_false_eq_true, true_and, and_true, or_true, true_or, or_false, false_or, and_false, false_and, Nat.reduceAdd, Nat.reduceMul, Nat.reduceSub, Nat.reduceDiv, Nat.reduceMod, Nat.reducePow, Nat.zero_add, Nat.add_zero, Nat.zero_le, Nat.mul_zero, Nat.zero_mul, qm_nk, qm_eq, qm_nj]
        refine ⟨_, rfl, ?_, ?_⟩
        · intro j hj
          rw [hlm] at hj
          rw [hz, qm_if, h2]
          by_cases e1 : j = p
          · rw [if_pos (by omega), if_pos e1]
          · rw [if_neg (by omega), if_neg e1, if_neg (by omega : ¬ (f ≤ j ∧ j < p))]
            by_cases e2 : p < j ∧ j ≤ f
            · rw [if_pos (by omega), if_pos e2, show off + j - 1 = off + (j - 1) by omega]; exact hr (j - 1) (by omega)
            · rw [if_neg (by omega), if_neg e2]; exact hr j (by omega)
        · exact ⟨fun c hc => (qm_nk (Ne.symm hc)).trans (h1 c hc), fun j hj => by rw [qm_nj (by omega), h2, if_neg (by omega)]⟩) (by
        intro fu t I' ht ⟨h1, h2⟩
        (try dsimp only)
        refine Or.inr ⟨qp_up I' 37 (off + (f - t)) (I' 37 (off + (f - t) - 1)), ⟨fun c hc => (qm_nk (Ne.symm hc)).trans (h1 c hc), fun j => ?_⟩, ?_⟩
        · rw [qm_if, h2, h2]
          by_cases e1 : off + (f - t) = j
          · rw [if_pos e1, if_neg (by omega), if_pos (by omega), ← e1]
          · rw [if_neg e1]
            by_cases e2 : off + (f - t) < j ∧ j ≤ off + f
            · rw [if_pos e2, if_pos (by omega)]
            · rw [if_neg e2, if_neg (by omega)]
        · rw [fM_goTo_37_b36, show f - (t + 1) = f - t - 1 by omega]
          simp (disch := omega) only [qn_l0, qn_l1, qn_l2, qn_l3, qn_l4, qn_l5, qn_l6, qn_l7, qn_l8, qn_l9, qn_l10, qn_l11, qn_l12, qn_l13, qn_l14, qn_l15, qn_l16, qn_l17, qn_l18, qn_l19, qn_l20, qn_l21, qn_l22, qn_l23, qn_l24, qn_l26, qn_l27, qn_l28, qn_l31, qn_l32, qn_l33, qn_l34, qn_l36, qn_l37, qn_l38, qn_l39, qn_l40, qn_l47, qn_l48, qn_l49, qn_l50, qn_l51, qn_l54, qn_l55, qn_l56, qn_l57, qn_l60, qn_l63, qn_l64, qn_l69, qn_l70, qn_l75, qn_l99, qn_l100, qn_l103, qn_l111, qn_l112, qn_l113, qn_l115, qn_l117, qn_l120, qn_l127, qn_l128, qn_l200, qn_l225, qn_l240, qn_l255, qn_l256, qn_l300, qn_l720, qn_l1000, qn_l48271, qn_l1000000, qn_l2147483646, qn_l2147483647, qn_add, qn_mul, qn_sub, qn_addneg, qn_div, qn_mod, qn_modn, qn_lt, qn_le, qn_eq, qn_nat, qn_m1, qn_m1', qn_c1, qn_g1, qn_g1', qn_c1', qn_and, qn_or, qn_shl1, qn_shr1, qn_64, ql_32, ql_add, ql_mul, ql_sub, ql_div, ql_mod, ql_lt, ql_le, ql_eq, ql_l0, ql_l1, qp_gd_T, qp_bd_t, ↓reduceIte, qt_le, qf_le, qt_lt, qf_lt, qt_eq, qf_eq, and_self, not_true_eq_false, not_false_eq_true, true_and, and_true, or_true, true_or, or_false, false_or, and_false, false_and, Nat.reduceAdd, Nat.reduceMul, Nat.reduceSub, Nat.reduceDiv, Nat.reduceMod, Nat.reducePow, Nat.zero_add, Nat.add_zero, Nat.zero_le, Nat.mul_zero, Nat.zero_mul, qm_nk, qm_eq, qm_nj])
    exact key
theorem eM_layStands_37 {n : Nat} {tk : List Nat} {I : Nat → Nat → Int32} (hn : n ≤ 6) (h0 : I 37 0 = qn n) (h56 : I 37 56 = qn tk.length) (htk : zrow 57 tk (I 37)) (hT : zT n tk) (hl : tk.length ≤ 12) :
    ∃ I', fM_layStands_37 I J = some ((), I', J) ∧ zrow 69 (zls n tk) (I' 37) ∧ zfr 37 69 75 I I' := by
  unfold fM_layStands_37
  refine lp (σ := Nat → Nat → Int32) (R := fun o => ∃ I', o = some ((), I', J) ∧ zrow 69 (zls n tk) (I' 37) ∧ zfr 37 69 75 I I')
    (Inv := fun a I' => zfr 37 69 75 I I' ∧ ∀ j, j < a → I' 37 (69 + j) = qn j) (fun fu a I' => fM_layStands_37_b2 fu (qn a) I' J) 6 100000 0 I (Nat.zero_le _) (by omega) ⟨zfr_rfl, fun j hj => by omega⟩ ?_ ?_
  · intro fu I1 ⟨g1, g2⟩
    (try dsimp only)
    rw [fM_layStands_37_b2]
    simp (disch := omega) only [qn_l0, qn_l1, qn_l2, qn_l3, qn_l4, qn_l5, qn_l6, qn_l7, qn_l8, qn_l9, qn_l10, qn_l11, qn_l12, qn_l13, qn_l14, qn_l15, qn_l16, qn_l17, qn_l18, qn_l19, qn_l20, qn_l21, qn_l22, qn_l23, qn_l24, qn_l26, qn_l27, qn_l28, qn_l31, qn_l32, qn_l33, qn_l34, qn_l36, qn_l37, qn_l38, qn_l39, qn_l40, qn_l47, qn_l48, qn_l49, qn_l50, qn_l51, qn_l54, qn_l55, qn_l56, qn_l57, qn_l60, qn_l63, qn_l64, qn_l69, qn_l70, qn_l75, qn_l99, qn_l100, qn_l103, qn_l111, qn_l112, qn_l113, qn_l115, qn_l117, qn_l120, qn_l127, qn_l128, qn_l200, qn_l225, qn_l240, qn_l255, qn_l256, qn_l300, qn_l720, qn_l1000, qn_l48271, qn_l1000000, qn_l2147483646, qn_l2147483647, qn_add, qn_mul, qn_sub, qn_addneg, qn_div, qn_mod, qn_modn, qn_lt, qn_le, qn_eq, qn_nat, qn_m1, qn_m1', qn_c1, qn_g1, qn_g1', qn_c1', qn_and, qn_or, qn_shl1, qn_shr1, qn_64, ql_32, ql_add, ql_mul, ql_sub, ql_div, ql_mod, ql_lt, ql_le, ql_eq, ql_l0, ql_l1, qp_gd_T, qp_bd_t, ↓reduceIte, qt_le, qf_le, qt_lt, qf_lt, qt_eq, qf_eq, and_self, not_true_eq_false, not_false_eq_true, true_and, and_true, or_true, true_or, or_false, false_or, and_false, false_and, Nat.reduceAdd, Nat.reduceMul, Nat.reduceSub, Nat.reduceDiv, Nat.reduceMod, Nat.reducePow, Nat.zero_add, Nat.add_zero, Nat.zero_le, Nat.mul_zero, Nat.zero_mul, qm_nk, qm_eq, qm_nj]
    refine lp (σ := Nat → Nat → Int32) (R := fun o => ∃ I', o = some ((), I', J) ∧ zrow 69 (zls n tk) (I' 37) ∧ zfr 37 69 75 I I')
      (Inv := fun k I' => zfr 37 69 75 I I' ∧ zrow 69 (zls n (tk.take k)) (I' 37)) (fun fu k I' => fM_layStands_37_b23 fu (qn k) I' J) tk.length 100000 0 I1 (Nat.zero_le _) (by omega) ⟨g1, ?_⟩ ?_ ?_
    · intro p hp
      have hid : (zls n (tk.take 0)) = zid n := rfl
      rw [hid] at hp ⊢
      rw [(zid_P n).2.1] at hp
      rw [zid_at hp]; exact g2 p (by omega)
    · intro fu I2 ⟨k1, k2⟩
      (try dsimp only)
      rw [List.take_length] at k2
      have e56 : I2 37 56 = qn tk.length := by rw [k1.2 56 (by omega)]; exact h56
      rw [fM_layStands_37_b23]
      simp (disch := omega) only [e56, qn_l0, qn_l1, qn_l2, qn_l3, qn_l4, qn_l5, qn_l6, qn_l7, qn_l8, qn_l9, qn_l10, qn_l11, qn_l12, qn_l13, qn_l14, qn_l15, qn_l16, qn_l17, qn_l18, qn_l19, qn_l20, qn_l21, qn_l22, qn_l23, qn_l24, qn_l26, qn_l27, qn_l28, qn_l31, qn_l32, qn_l33, qn_l34, qn_l36, qn_l37, qn_l38, qn_l39, qn_l40, qn_l47, qn_l48, qn_l49, qn_l50, qn_l51, qn_l54, qn_l55, qn_l56, qn_l57, qn_l60, qn_l63, qn_l64, qn_l69, qn_l70, qn_l75, qn_l99, qn_l100, qn_l103, qn_l111, qn_l112, qn_l113, qn_l115, qn_l117, qn_l120, qn_l127, qn_l128, qn_l200, qn_l225, qn_l240, qn_l255, qn_l256, qn_l300, qn_l720, qn_l1000, qn_l48271, qn_l1000000, qn_l2147483646, qn_l2147483647, qn_add, qn_mul, qn_sub, qn_addneg, qn_div, qn_mod, qn_modn, qn_lt, qn_le, qn_eq, qn_nat, qn_m1, qn_m1', qn_c1, qn_g1, qn_g1', qn_c1', qn_and, qn_or, qn_shl1, qn_shr1, qn_64, ql_32, ql_add, ql_mul, ql_sub, ql_div, ql_mod, ql_lt, ql_le, ql_eq, ql_l0, ql_l1, qp_gd_T, qp_bd_t, ↓reduceIte, qt_le, qf_le, qt_lt, qf_lt, qt_eq, qf_eq, and_self, not_true_eq_false, not_false_eq_true, true_and, and_true, or_true, true_or, or_false, false_or, and_false, false_and, Nat.reduceAdd, Nat.reduceMul, Nat.reduceSub, Nat.reduceDiv, Nat.reduceMod, Nat.reducePow, Nat.zero_add, Nat.add_zero, Nat.zero_le, Nat.mul_zero, Nat.zero_mul, qm_nk, qm_eq, qm_nj]
      exact ⟨I2, rfl, k2, k1⟩
    · intro fu k I2 hk ⟨k1, k2⟩
      (try dsimp only)
      have e56 : I2 37 56 = qn tk.length := by rw [k1.2 56 (by omega)]; exact h56
      have e0 : I2 37 0 = qn n := by rw [k1.2 0 (by omega)]; exact h0
      have ek : I2 37 (57 + k) = qn (zat tk k) := by rw [k1.2 (57 + k) (by omega)]; exact htk k hk
      obtain ⟨t1, t2⟩ := zT_at hT hk
      obtain ⟨I3, a1, a2, a3⟩ := eM_goTo_37 (J := J) (off := 69) (zls_P (zT_take (k := k) hT)) hn k2 (by omega) t1 t2
      refine Or.inr ⟨I3, ⟨zfr_tr k1 (zfr_wd a3 (by omega) (by omega)), ?_⟩, ?_⟩
      · rw [take_zat hk, zls_app]; exact a2
      · rw [fM_layStands_37_b23]
        simp (disch := omega) only [e56, e0, ek, a1, qn_l0, qn_l1, qn_l2, qn_l3, qn_l4, qn_l5, qn_l6, qn_l7, qn_l8, qn_l9, qn_l10, qn_l11, qn_l12, qn_l13, qn_l14, qn_l15, qn_l16, qn_l17, qn_l18, qn_l19, qn_l20, qn_l21, qn_l22, qn_l23, qn_l24, qn_l26, qn_l27, qn_l28, qn_l31, qn_l32, qn_l33, qn_l34, qn_l36, qn_l37, qn_l38, qn_l39, qn_l40, qn_l47, qn_l48, qn_l49, qn_l50, qn_l51, qn_l54, qn_l55, qn_l56, qn_l57, qn_l60, qn_l63, qn_l64, qn_l69, qn_l70, qn_l75, qn_l99, qn_l100, qn_l103, qn_l111, qn_l112, qn_l113, qn_l115, qn_l117, qn_l120, qn_l127, qn_l128, qn_l200, qn_l225, qn_l240, qn_l255, qn_l256, qn_l300, qn_l720, qn_l1000, qn_l48271, qn_l1000000, qn_l2147483646, qn_l2147483647, qn_add, qn_mul, qn_sub, qn_addneg, qn_div, qn_mod, qn_modn, qn_lt, qn_le, qn_eq, qn_nat, qn_m1, qn_m1', qn_c1, qn_g1, qn_g1', qn_c1', qn_and, qn_or, qn_shl1, qn_shr1, qn_64, ql_32, ql_add, ql_mul, ql_sub, ql_div, ql_mod, ql_lt, ql_le, ql_eq, ql_l0, ql_l1, qp_gd_T, qp_bd_t, ↓reduceIte, qt_le, qf_le, qt_lt, qf_lt, qt_eq, qf_eq, and_self, not_true_eq_false, not_false_eq_true, true_and, and_true, or_true, true_or, or_false, false_or, and_false, false_and, Nat.reduceAdd, Nat.reduceMul, Nat.reduceSub, Nat.reduceDiv, Nat.reduceMod, Nat.reducePow, Nat.zero_add, Nat.add_zero, Nat.zero_le, Nat.mul_zero, Nat.zero_mul, qm_nk, qm_eq, qm_nj]
  · intro fu a I1 ha ⟨g1, g2⟩
    (try dsimp only)
    refine Or.inr ⟨qp_up I1 37 (69 + a) (qn a), ⟨zfr_tr g1 (zfr_up (by omega) (by omega)), fun j hj => ?_⟩, ?_⟩
    · rw [qm_if]
      by_cases e : 69 + a = 69 + j
      · rw [if_pos e, show a = j by omega]
      · rw [if_neg e]; exact g2 j (by omega)
    · rw [fM_layStands_37_b2]
      simp (disch := omega) only [qn_l0, qn_l1, qn_l2, qn_l3, qn_l4, qn_l5, qn_l6, qn_l7, qn_l8, qn_l9, qn_l10, qn_l11, qn_l12, qn_l13, qn_l14, qn_l15, qn_l16, qn_l17, qn_l18, qn_l19, qn_l20, qn_l21, qn_l22, qn_l23, qn_l24, qn_l26, qn_l27, qn_l28, qn_l31, qn_l32, qn_l33, qn_l34, qn_l36, qn_l37, qn_l38, qn_l39, qn_l40, qn_l47, qn_l48, qn_l49, qn_l50, qn_l51, qn_l54, qn_l55, qn_l56, qn_l57, qn_l60, qn_l63, qn_l64, qn_l69, qn_l70, qn_l75, qn_l99, qn_l100, qn_l103, qn_l111, qn_l112, qn_l113, qn_l115, qn_l117, qn_l120, qn_l127, qn_l128, qn_l200, qn_l225, qn_l240, qn_l255, qn_l256, qn_l300, qn_l720, qn_l1000, qn_l48271, qn_l1000000, qn_l2147483646, qn_l2147483647, qn_add, qn_mul, qn_sub, qn_addneg, qn_div, qn_mod, qn_modn, qn_lt, qn_le, qn_eq, qn_nat, qn_m1, qn_m1', qn_c1, qn_g1, qn_g1', qn_c1', qn_and, qn_or, qn_shl1, qn_shr1, qn_64, ql_32, ql_add, ql_mul, ql_sub, ql_div, ql_mod, ql_lt, ql_le, ql_eq, ql_l0, ql_l1, qp_gd_T, qp_bd_t, ↓reduceIte, qt_le, qf_le, qt_lt, qf_lt, qt_eq, qf_eq, and_self, not_true_eq_false, not_false_eq_true, true_and, and_true, or_true, true_or, or_false, false_or, and_false, false_and, Nat.reduceAdd, Nat.reduceMul, Nat.reduceSub, Nat.reduceDiv, Nat.reduceMod, Nat.reducePow, Nat.zero_add, Nat.add_zero, Nat.zero_le, Nat.mul_zero, Nat.zero_mul, qm_nk, qm_eq, qm_nj]
theorem eM_goBack_37 {n k : Nat} {tk : List Nat} {I : Nat → Nat → Int32} (hn : n ≤ 6) (h0 : I 37 0 = qn n) (h56 : I 37 56 = qn tk.length) (htk : zrow 57 tk (I 37)) (hT : zT n tk) (hl : tk.length ≤ 12) (hk : k < tk.length) :
    ∃ I', fM_goBack_37 (qn k) I J = some (qn (zback n k tk).2.2, I', J) ∧ I' 37 56 = qn (zback n k tk).1.length ∧ zrow 57 (zback n k tk).1 (I' 37) ∧ zrow 69 (zback n k tk).2.1 (I' 37) ∧ zfr 37 56 75 I I' := by
  have hlt : (tk.take k).length = k := by rw [List.length_take]; omega
  obtain ⟨I1, a1, a2, a3⟩ := eM_layStands_37 (J := J) (n := n) (tk := tk.take k) (I := qp_up I 37 56 (qn k)) hn (by rw [qm_nj (by omega)]; exact h0) (by rw [hlt]; exact qm_eq rfl) (fun p hp => by
    rw [hlt] at hp
    rw [qm_nj (by omega), zat_take hp]; exact htk p (by omega)) (zT_take hT) (by omega)
  have b1 : zfr 37 56 75 I I1 := zfr_tr (zfr_up (by omega) (by omega)) (zfr_wd a3 (by omega) (by omega))
  have e56 : I1 37 56 = qn k := by rw [a3.2 56 (by omega)]; exact qm_eq rfl
  unfold fM_goBack_37
  simp (disch := omega) only [a1, h56, qn_l0, qn_l1, qn_l2, qn_l3, qn_l4, qn_l5, qn_l6, qn_l7, qn_l8, qn_l9, qn_l10, qn_l11, qn_l12, qn_l13, qn_l14, qn_l15, qn_l16, qn_l17, qn_l18, qn_l19, qn_l20, qn_l21, qn_l22, qn_l23, qn_l24, qn_l26, qn_l27, qn_l28, qn_l31, qn_l32, qn_l33, qn_l34, qn_l36, qn_l37, qn_l38, qn_l39, qn_l40, qn_l47, qn_l48, qn_l49, qn_l50, qn_l51, qn_l54, qn_l55, qn_l56, qn_l57, qn_l60, qn_l63, qn_l64, qn_l69, qn_l70, qn_l75, qn_l99, qn_l100, qn_l103, qn_l111, qn_l112, qn_l113, qn_l115, qn_l117, qn_l120, qn_l127, qn_l128, qn_l200, qn_l225, qn_l240, qn_l255, qn_l256, qn_l300, qn_l720, qn_l1000, qn_l48271, qn_l1000000, qn_l2147483646, qn_l2147483647, qn_add, qn_mul, qn_sub, qn_addneg, qn_div, qn_mod, qn_modn, qn_lt, qn_le, qn_eq, qn_nat, qn_m1, qn_m1', qn_c1, qn_g1, qn_g1', qn_c1', qn_and, qn_or, qn_shl1, qn_shr1, qn_64, ql_32, ql_add, ql_mul, ql_sub, ql_div, ql_mod, ql_lt, ql_le, ql_eq, ql_l0, ql_l1, qp_gd_T, qp_bd_t, ↓reduceIte, qt_le, qf_le, qt_lt, qf_lt, qt_eq, qf_eq, and_self, not_true_eq_false, not_false_eq_true, true_and, and_true, or_true, true_or, or_false, false_or, and_false, false_and, Nat.reduceAdd, Nat.reduceMul, Nat.reduceSub, Nat.reduceDiv, Nat.reduceMod, Nat.reducePow, Nat.zero_add, Nat.add_zero, Nat.zero_le, Nat.mul_zero, Nat.zero_mul, qm_nk, qm_eq, qm_nj]
  refine lp (σ := Int32 × (Nat → Nat → Int32)) (R := fun o => ∃ I', o = some (qn (zback n k tk).2.2, I', J) ∧ I' 37 56 = qn (zback n k tk).1.length ∧ zrow 57 (zback n k tk).1 (I' 37) ∧ zrow 69 (zback n k tk).2.1 (I' 37) ∧ zfr 37 56 75 I I')
    (Inv := fun t q => k < t ∧ ∃ st : ZW, zwk k t (tk.drop t) st = zback n k tk ∧ zWok n st ∧ st.1.length < t ∧ st.2.2 < t ∧ q.1 = qn st.2.2 ∧ q.2 37 56 = qn st.1.length ∧ zrow 57 st.1 (q.2 37) ∧ zrow 69 st.2.1 (q.2 37) ∧ (∀ j, t ≤ j → j < tk.length → q.2 37 (57 + j) = qn (zat tk j)) ∧ zfr 37 56 75 I q.2)
    (fun fu t q => fM_goBack_37_b21 fu (qn tk.length) q.1 (qn t) q.2 J) tk.length 100000 (k + 1) (qn 0, I1) (by omega) (by omega) ⟨Nat.lt_succ_self k, (tk.take k, zls n (tk.take k), 0), zwk_k hk, ⟨zT_take hT, rfl⟩, by show (tk.take k).length < k + 1; omega, Nat.succ_pos k, rfl, by show I1 37 56 = qn (tk.take k).length; rw [hlt]; exact e56, ?_, a2, ?_, b1⟩ ?_ ?_
  · intro p hp
    have hp2 : p < k := by rw [← hlt]; exact hp
    show I1 37 (57 + p) = qn (zat (tk.take k) p)
    rw [zat_take hp2, a3.2 (57 + p) (by omega), qm_nj (by omega)]; exact htk p (by omega)
  · intro j hj hj2
    show I1 37 (57 + j) = _
    rw [a3.2 (57 + j) (by omega), qm_nj (by omega)]; exact htk j hj2
  · rintro fu ⟨q, I2⟩ ⟨-, st, s1, s2, s3, s4, s5, s6, s7, s8, s9, s10⟩
    dsimp only at s5 s6 s7 s8 s9 s10 ⊢
    rw [List.drop_length] at s1
    have e : st = zback n k tk := s1
    rw [fM_goBack_37_b21]
    simp (disch := omega) only [qn_l0, qn_l1, qn_l2, qn_l3, qn_l4, qn_l5, qn_l6, qn_l7, qn_l8, qn_l9, qn_l10, qn_l11, qn_l12, qn_l13, qn_l14, qn_l15, qn_l16, qn_l17, qn_l18, qn_l19, qn_l20, qn_l21, qn_l22, qn_l23, qn_l24, qn_l26, qn_l27, qn_l28, qn_l31, qn_l32, qn_l33, qn_l34, qn_l36, qn_l37, qn_l38, qn_l39, qn_l40, qn_l47, qn_l48, qn_l49, qn_l50, qn_l51, qn_l54, qn_l55, qn_l56, qn_l57, qn_l60, qn_l63, qn_l64, qn_l69, qn_l70, qn_l75, qn_l99, qn_l100, qn_l103, qn_l111, qn_l112, qn_l113, qn_l115, qn_l117, qn_l120, qn_l127, qn_l128, qn_l200, qn_l225, qn_l240, qn_l255, qn_l256, qn_l300, qn_l720, qn_l1000, qn_l48271, qn_l1000000, qn_l2147483646, qn_l2147483647, qn_add, qn_mul, qn_sub, qn_addneg, qn_div, qn_mod, qn_modn, qn_lt, qn_le, qn_eq, qn_nat, qn_m1, qn_m1', qn_c1, qn_g1, qn_g1', qn_c1', qn_and, qn_or, qn_shl1, qn_shr1, qn_64, ql_32, ql_add, ql_mul, ql_sub, ql_div, ql_mod, ql_lt, ql_le, ql_eq, ql_l0, ql_l1, qp_gd_T, qp_bd_t, ↓reduceIte, qt_le, qf_le, qt_lt, qf_lt, qt_eq, qf_eq, and_self, not_true_eq_false, not_false_eq_true, true_and, and_true, or_true, true_or, or_false, false_or, and_false, false_and, Nat.reduceAdd, Nat.reduceMul, Nat.reduceSub, Nat.reduceDiv, Nat.reduceMod, Nat.reducePow, Nat.zero_add, Nat.add_zero, Nat.zero_le, Nat.mul_zero, Nat.zero_mul, qm_nk, qm_eq, qm_nj]
    rw [← e]
    exact ⟨I2, by rw [s5], s6, s7, s8, s10⟩
  · rintro fu t ⟨q, I2⟩ ht ⟨hkt, st, s1, s2, s3, s4, s5, s6, s7, s8, s9, s10⟩
    dsimp only at s5 s6 s7 s8 s9 s10 ⊢
    refine Or.inr ?_
    obtain ⟨t1, t2⟩ := zT_at hT ht
    have hPs : zP n st.2.1 := by rw [s2.2]; exact zls_P s2.1
    have et := s9 t (Nat.le_refl t) ht
    have e0 : I2 37 0 = qn n := by rw [s10.2 0 (by omega)]; exact h0
    have ep := s8 (zat tk t % 8) (by rw [hPs.2.1]; exact t2)
    have hzl := zP_at hPs t2
    rw [zwk_drop ht] at s1
    have hok := zwk1_ok (k := k) (t := t) s2 t1 t2
    by_cases hc : zat st.2.1 (zat tk t % 8) = zat tk t / 8
    · have e1 : zwk1 k t (zat tk t) st = (st.1, st.2.1, st.2.2 + 1) := by unfold zwk1; rw [if_pos ⟨by omega, hc⟩]
      rw [e1] at s1 hok
      refine ⟨(qn (st.2.2 + 1), I2), ⟨by omega, _, s1, hok, by show st.1.length < t + 1; omega, by show st.2.2 + 1 < t + 1; omega, rfl, s6, s7, s8, fun j hj => s9 j (by omega), s10⟩, ?_⟩
      rw [fM_goBack_37_b21, s5]
      simp (disch := omega) only [et, ep, hc, qn_l0, qn_l1, qn_l2, qn_l3, qn_l4, qn_l5, qn_l6, qn_l7, qn_l8, qn_l9, qn_l10, qn_l11, qn_l12, qn_l13, qn_l14, qn_l15, qn_l16, qn_l17, qn_l18, qn_l19, qn_l20, qn_l21, qn_l22, qn_l23, qn_l24, qn_l26, qn_l27, qn_l28, qn_l31, qn_l32, qn_l33, qn_l34, qn_l36, qn_l37, qn_l38, qn_l39, qn_l40, qn_l47, qn_l48, qn_l49, qn_l50, qn_l51, qn_l54, qn_l55, qn_l56, qn_l57, qn_l60, qn_l63, qn_l64, qn_l69, qn_l70, qn_l75, qn_l99, qn_l100, qn_l103, qn_l111, qn_l112, qn_l113, qn_l115, qn_l117, qn_l120, qn_l127, qn_l128, qn_l200, qn_l225, qn_l240, qn_l255, qn_l256, qn_l300, qn_l720, qn_l1000, qn_l48271, qn_l1000000, qn_l2147483646, qn_l2147483647, qn_add, qn_mul, qn_sub, qn_addneg, qn_div, qn_mod, qn_modn, qn_lt, qn_le, qn_eq, qn_nat, qn_m1, qn_m1', qn_c1, qn_g1, qn_g1', qn_c1', qn_and, qn_or, qn_shl1, qn_shr1, qn_64, ql_32, ql_add, ql_mul, ql_sub, ql_div, ql_mod, ql_lt, ql_le, ql_eq, ql_l0, ql_l1, qp_gd_T, qp_bd_t, ↓reduceIte, qt_le, qf_le, qt_lt, qf_lt, qt_eq, qf_eq, and_self, not_true_eq_false, not_false_eq_true, true_and, and_true, or_true, true_or, or_false, false_or, and_false, false_and, Nat.reduceAdd, Nat.reduceMul, Nat.reduceSub, Nat.reduceDiv, Nat.reduceMod, Nat.reducePow, Nat.zero_add, Nat.add_zero, Nat.zero_le, Nat.mul_zero, Nat.zero_mul, qm_nk, qm_eq, qm_nj]
    · have e1 : zwk1 k t (zat tk t) st = (st.1 ++ [zat tk t], zmv (zat tk t / 8) (zat tk t % 8) st.2.1, st.2.2) := by unfold zwk1; rw [if_neg (fun h => hc h.2), if_neg (by omega)]
      rw [e1] at s1 hok
      have hlen : (st.1 ++ [zat tk t]).length = st.1.length + 1 := by rw [List.length_append]; rfl
      obtain ⟨I3, c1, c2, c3⟩ := eM_goTo_37 (J := J) (off := 69) (s := st.2.1) (I := qp_up (qp_up I2 37 (57 + st.1.length) (qn (zat tk t))) 37 56 (qn (st.1.length + 1))) hPs hn (fun p hp => by
        rw [qm_nj (by omega), qm_nj (by omega)]; exact s8 p hp) (by omega) t1 t2
      have f1 : zfr 37 56 75 I2 I3 := zfr_tr (zfr_tr (zfr_up (by omega) (by omega)) (zfr_up (by omega) (by omega))) (zfr_wd c3 (by omega) (by omega))
      refine ⟨(q, I3), ⟨by omega, _, s1, hok, by show (st.1 ++ [zat tk t]).length < t + 1; omega, by show st.2.2 < t + 1; omega, s5, ?_, ?_, c2, ?_, zfr_tr s10 f1⟩, ?_⟩
      · show I3 37 56 = qn (st.1 ++ [zat tk t]).length
        rw [c3.2 56 (by omega), hlen]; exact qm_eq rfl
      · intro p hp
        have hp' : p < st.1.length + 1 := by rw [← hlen]; exact hp
        show I3 37 (57 + p) = qn (zat (st.1 ++ [zat tk t]) p)
        rw [c3.2 (57 + p) (by omega), zat_app (by omega), qm_nj (by omega), qm_if]
        by_cases e : p = st.1.length
        · rw [if_pos (by omega), if_pos e]
        · rw [if_neg (by omega), if_neg e]; exact s7 p (by omega)
      · intro j hj hj2
        show I3 37 (57 + j) = _
        rw [c3.2 (57 + j) (by omega), qm_nj (by omega), qm_nj (by omega)]; exact s9 j (by omega) hj2
      · rw [fM_goBack_37_b21]
        simp (disch := omega) only [et, ep, hc, s6, e0, c1, qn_l0, qn_l1, qn_l2, qn_l3, qn_l4, qn_l5, qn_l6, qn_l7, qn_l8, qn_l9, qn_l10, qn_l11, qn_l12, qn_l13, qn_l14, qn_l15, qn_l16, qn_l17, qn_l18, qn_l19, qn_l20, qn_l21, qn_l22, qn_l23, qn_l24, qn_l26, qn_l27, qn_l28, qn_l31, qn_l32, qn_l33, qn_l34, qn_l36, qn_l37, qn_l38, qn_l39, qn_l40, qn_l47, qn_l48, qn_l49, qn_l50, qn_l51, qn_l54, qn_l55, qn_l56, qn_l57, qn_l60, qn_l63, qn_l64, qn_l69, qn_l70, qn_l75, qn_l99, qn_l100, qn_l103, qn_l111, qn_l112, qn_l113, qn_l115, qn_l117, qn_l120, qn_l127, qn_l128, qn_l200, qn_l225, qn_l240, qn_l255, qn_l256, qn_l300, qn_l720, qn_l1000, qn_l48271, qn_l1000000, qn_l2147483646, qn_l2147483647, qn_add, qn_mul, qn_sub, qn_addneg, qn_div, qn_mod, qn_modn, qn_lt, qn_le, qn_eq, qn_nat, qn_m1, qn_m1', qn_c1, qn_g1, qn_g1', qn_c1', qn_and, qn_or, qn_shl1, qn_shr1, qn_64, ql_32, ql_add, ql_mul, ql_sub, ql_div, ql_mod, ql_lt, ql_le, ql_eq, ql_l0, ql_l1, qp_gd_T, qp_bd_t, ↓reduceIte, qt_le, qf_le, qt_lt, qf_lt, qt_eq, qf_eq, and_self, not_true_eq_false, not_false_eq_true, true_and, and_true, or_true, true_or, or_false, false_or, and_false, false_and, Nat.reduceAdd, Nat.reduceMul, Nat.reduceSub, Nat.reduceDiv, Nat.reduceMod, Nat.reducePow, Nat.zero_add, Nat.add_zero, Nat.zero_le, Nat.mul_zero, Nat.zero_mul, qm_nk, qm_eq, qm_nj]
end MR37
section MR47
variable {J : Nat → Nat → Int64}
theorem eM_placeIn_47 {n i off : Nat} {s : List Nat} {I : Nat → Nat → Int32} (hP : zP n s) (hn : n ≤ 6) (hr : zrow off s (I 47)) (ho : off + n ≤ 75) (hi : i < 2147483648) : fM_placeIn_47 (qn off) (qn n) (qn i) I J = some (qn (zix i s), I, J) := by
  have hl := hP.2.1
  unfold fM_placeIn_47
  refine lp (σ := Unit) (R := fun o => o = some (qn (zix i s), I, J)) (Inv := fun p _ => zix i s = p + zix i (s.drop p)) (fun f p _ => fM_placeIn_47_b3 f (qn off) (qn n) (qn i) (qn p) I J) n 100000 0 () (Nat.zero_le _) (by omega) (by rw [Nat.zero_add]; rfl) ?_ ?_
  · intro f _ h
    rw [List.drop_of_length_le (by omega)] at h
    (try dsimp only)
    rw [fM_placeIn_47_b3]
    simp (disch := omega) only [qn_l0, qn_l1, qn_l2, qn_l3, qn_l4, qn_l5, qn_l6, qn_l7, qn_l8, qn_l9, qn_l10, qn_l11, qn_l12, qn_l13, qn_l14, qn_l15, qn_l16, qn_l17, qn_l18, qn_l19, qn_l20, qn_l21, qn_l22, qn_l23, qn_l24, qn_l26, qn_l27, qn_l28, qn_l31, qn_l32, qn_l33, qn_l34, qn_l36, qn_l37, qn_l38, qn_l39, qn_l40, qn_l47, qn_l48, qn_l49, qn_l50, qn_l51, qn_l54, qn_l55, qn_l56, qn_l57, qn_l60, qn_l63, qn_l64, qn_l69, qn_l70, qn_l75, qn_l99, qn_l100, qn_l103, qn_l111, qn_l112, qn_l113, qn_l115, qn_l117, qn_l120, qn_l127, qn_l128, qn_l200, qn_l225, qn_l240, qn_l255, qn_l256, qn_l300, qn_l720, qn_l1000, qn_l48271, qn_l1000000, qn_l2147483646, qn_l2147483647, qn_add, qn_mul, qn_sub, qn_addneg, qn_div, qn_mod, qn_modn, qn_lt, qn_le, qn_eq, qn_nat, qn_m1, qn_m1', qn_c1, qn_g1, qn_g1', qn_c1', qn_and, qn_or, qn_shl1, qn_shr1, qn_64, ql_32, ql_add, ql_mul, ql_sub, ql_div, ql_mod, ql_lt, ql_le, ql_eq, ql_l0, ql_l1, qp_gd_T, qp_bd_t, ↓reduceIte, qt_le, qf_le, qt_lt, qf_lt, qt_eq, qf_eq, and_self, not_true_eq_false, not_false_eq_true, true_and, and_true, or_true, true_or, or_false, false_or, and_false, false_and, Nat.reduceAdd, Nat.reduceMul, Nat.reduceSub, Nat.reduceDiv, Nat.reduceMod, Nat.reducePow, Nat.zero_add, Nat.add_zero, Nat.zero_le, Nat.mul_zero, Nat.zero_mul, qm_nk, qm_eq, qm_nj]
    rw [h]; rfl
  · intro f p _ hp h
    (try dsimp only)
    rw [zat_drop s p (by omega), show zix i (zat s p :: s.drop (p + 1)) = if zat s p = i then 0 else zix i (s.drop (p + 1)) + 1 from rfl] at h
    have ez := hr p (by omega)
    have hz := zP_at hP hp
    rw [fM_placeIn_47_b3]
    by_cases hx : zat s p = i
    · refine Or.inl ?_
      rw [if_pos hx] at h
      simp (disch := omega) only [ez, hx, qn_l0, qn_l1, qn_l2, qn_l3, qn_l4, qn_l5, qn_l6, qn_l7, qn_l8, qn_l9, qn_l10, qn_l11, qn_l12, qn_l13, qn_l14, qn_l15, qn_l16, qn_l17, qn_l18, qn_l19, qn_l20, qn_l21, qn_l22, qn_l23, qn_l24, qn_l26, qn_l27, qn_l28, qn_l31, qn_l32, qn_l33, qn_l34, qn_l36, qn_l37, qn_l38, qn_l39, qn_l40, qn_l47, qn_l48, qn_l49, qn_l50, qn_l51, qn_l54, qn_l55, qn_l56, qn_l57, qn_l60, qn_l63, qn_l64, qn_l69, qn_l70, qn_l75, qn_l99, qn_l100, qn_l103, qn_l111, qn_l112, qn_l113, qn_l115, qn_l117, qn_l120, qn_l127, qn_l128, qn_l200, qn_l225, qn_l240, qn_l255, qn_l256, qn_l300, qn_l720, qn_l1000, qn_l48271, qn_l1000000, qn_l2147483646, qn_l2147483647, qn_add, qn_mul, qn_sub, qn_addneg, qn_div, qn_mod, qn_modn, qn_lt, qn_le, qn_eq, qn_nat, qn_m1, qn_m1', qn_c1, qn_g1, qn_g1', qn_c1', qn_and, qn_or, qn_shl1, qn_shr1, qn_64, ql_32, ql_add, ql_mul, ql_sub, ql_div, ql_mod, ql_lt, ql_le, ql_eq, ql_l0, ql_l1, qp_gd_T, qp_bd_t, ↓reduceIte, qt_le, qf_le, qt_lt, qf_lt, qt_eq, qf_eq, and_self, not_true_eq_false, not_false_eq_true, true_and, and_true, or_true, true_or, or_false, false_or, and_false, false_and, Nat.reduceAdd, Nat.reduceMul, Nat.reduceSub, Nat.reduceDiv, Nat.reduceMod, Nat.reducePow, Nat.zero_add, Nat.add_zero, Nat.zero_le, Nat.mul_zero, Nat.zero_mul, qm_nk, qm_eq, qm_nj]
      rw [h, Nat.add_zero]
    · refine Or.inr ⟨(), ?_, ?_⟩
      · rw [if_neg hx] at h
        rw [h]; omega
      · simp (disch := omega) only [ez, hx, qn_l0, qn_l1, qn_l2, qn_l3, qn_l4, qn_l5, qn_l6, qn_l7, qn_l8, qn_l9, qn_l10, qn_l11, qn_l12, qn_l13, qn_l14, qn_l15, qn_l16, qn_l17, qn_l18, qn_l19, qn_l20, qn_l21, qn_l22, qn_l23, qn_l24, qn_l26, qn_l27, qn_l28, qn_l31, qn_l32, qn_l33, qn_l34, qn_l36, qn_l37, qn_l38, qn_l39, qn_l40, qn_l47, qn_l48, qn_l49, qn_l50, qn_l51, qn_l54, qn_l55, qn_l56, qn_l57, qn_l60, qn_l63, qn_l64, qn_l69, qn_l70, qn_l75, qn_l99, qn_l100, qn_l103, qn_l111, qn_l112, qn_l113, qn_l115, qn_l117, qn_l120, qn_l127, qn_l128, qn_l200, qn_l225, qn_l240, qn_l255, qn_l256, qn_l300, qn_l720, qn_l1000, qn_l48271, qn_l1000000, qn_l2147483646, qn_l2147483647, qn_add, qn_mul, qn_sub, qn_addneg, qn_div, qn_mod, qn_modn, qn_lt, qn_le, qn_eq, qn_nat, qn_m1, qn_m1', qn_c1, qn_g1, qn_g1', qn_c1', qn_and, qn_or, qn_shl1, qn_shr1, qn_64, ql_32, ql_add, ql_mul, ql_sub, ql_div, ql_mod, ql_lt, ql_le, ql_eq, ql_l0, ql_l1, qp_gd_T, qp_bd_t, ↓reduceIte, qt_le, qf_le, qt_lt, qf_lt, qt_eq, qf_eq, and_self, not_true_eq_false, not_false_eq_true, true_and, and_true, or_true, true_or, or_false, false_or, and_false, false_and, Nat.reduceAdd, Nat.reduceMul, Nat.reduceSub, Nat.reduceDiv, Nat.reduceMod, Nat.reducePow, Nat.zero_add, Nat.add_zero, Nat.zero_le, Nat.mul_zero, Nat.zero_mul, qm_nk, qm_eq, qm_nj]
theorem eM_goTo_47 {n i p off : Nat} {s : List Nat} {I : Nat → Nat → Int32} (hP : zP n s) (hn : n ≤ 6) (hr : zrow off s (I 47)) (ho : off + n ≤ 75) (hi : i < n) (hp : p < n) :
    ∃ I', fM_goTo_47 (qn off) (qn n) (qn i) (qn p) I J = some ((), I', J) ∧ zrow off (zmv i p s) (I' 47) ∧ zfr 47 off (off + n) I I' := by
  have hl := hP.2.1
  have him := (hP.2.2 i).2 hi
  have hf := zP_ix hP hi
  have hz : ∀ j, zat (zmv i p s) j = if j = p then i else if zix i s ≤ j ∧ j < p then zat s (j + 1) else if p < j ∧ j ≤ zix i s then zat s (j - 1) else zat s j := fun j => zat_mv him (by omega)
  have hlm : (zmv i p s).length = n := (zmv_P hP hi).2.1
  unfold fM_goTo_47
  rw [eM_placeIn_47 hP hn hr ho (by omega), qp_bd_t]
  generalize zix i s = f at hf hz
  by_cases hfp : f ≤ p
  · refine lp (σ := Nat → Nat → Int32) (R := fun o => ∃ I', o = some ((), I', J) ∧ zrow off (zmv i p s) (I' 47) ∧ zfr 47 off (off + n) I I')
      (Inv := fun a I' => f ≤ a ∧ (∀ c, c ≠ 47 → I' c = I c) ∧ ∀ j, I' 47 j = if off + f ≤ j ∧ j < off + a then I 47 (j + 1) else I 47 j)
      (fun fu a I' => fM_goTo_47_b9 fu (qn off) (qn i) (qn p) (qn a) I' J) p 100000 f I hfp (by omega) ⟨Nat.le_refl _, fun c _ => rfl, fun j => by rw [if_neg (by omega)]⟩ ?_ ?_
    · intro fu I' ⟨h0, h1, h2⟩
      (try dsimp only)
      rw [fM_goTo_47_b9]
      simp (disch := omega) only [qn_l0, qn_l1, qn_l2, qn_l3, qn_l4, qn_l5, qn_l6, qn_l7, qn_l8, qn_l9, qn_l10, qn_l11, qn_l12, qn_l13, qn_l14, qn_l15, qn_l16, qn_l17, qn_l18, qn_l19, qn_l20, qn_l21, qn_l22, qn_l23, qn_l24, qn_l26, qn_l27, qn_l28, qn_l31, qn_l32, qn_l33, qn_l34, qn_l36, qn_l37, qn_l38, qn_l39, qn_l40, qn_l47, qn_l48, qn_l49, qn_l50, qn_l51, qn_l54, qn_l55, qn_l56, qn_l57, qn_l60, qn_l63, qn_l64, qn_l69, qn_l70, qn_l75, qn_l99, qn_l100, qn_l103, qn_l111, qn_l112, qn_l113, qn_l115, qn_l117, qn_l120, qn_l127, qn_l128, qn_l200, qn_l225, qn_l240, qn_l255, qn_l256, qn_l300, qn_l720, qn_l1000, qn_l48271, qn_l1000000, qn_l2147483646, qn_l2147483647, qn_add, qn_mul, qn_sub, qn_addneg, qn_div, qn_mod, qn_modn, qn_lt, qn_le, qn_eq, qn_nat, qn_m1, qn_m1', qn_c1, qn_g1, qn_g1', qn_c1', qn_and, qn_or, qn_shl1, qn_shr1, qn_64, ql_32, ql_add, ql_mul, ql_sub, ql_div, ql_mod, ql_lt, ql_le, ql_eq, ql_l0, ql_l1, qp_gd_T, qp_bd_t, ↓reduceIte, qt_le, qf_le, qt_lt, qf_lt, qt_eq, qf_eq, and_self, not_true_eq_false, not_false_eq_true, true_and, and_true, or_true, true_or, or_false, false_or, and_false, false_and, Nat.reduceAdd, Nat.reduceMul, Nat.reduceSub, Nat.reduceDiv, Nat.reduceMod, Nat.reducePow, Nat.zero_add, Nat.add_zero, Nat.zero_le, Nat.mul_zero, Nat.zero_mul, qm_nk, qm_eq, qm_nj]
      rw [show (100000 : Nat) = 99999 + 1 from rfl, fM_goTo_47_b36]
      simp (disch := omega) only [qn_l0, qn_l1, qn_l2, qn_l3, qn_l4, qn_l5, qn_l6, qn_l7, qn_l8, qn_l9, qn_l10, qn_l11, qn_l12, qn_l13, qn_l14, qn_l15, qn_l16, qn_l17, qn_l18, qn_l19, qn_l20, qn_l21, qn_l22, qn_l23, qn_l24, qn_l26, qn_l27, qn_l28, qn_l31, qn_l32, qn_l33, qn_l34, qn_l36, qn_l37, qn_l38, qn_l39, qn_l40, qn_l47, qn_l48, qn_l49, qn_l50, qn_l51, qn_l54, qn_l55, qn_l56, qn_l57, qn_l60, qn_l63, qn_l64, qn_l69, qn_l70, qn_l75, qn_l99, qn_l100, qn_l103, qn_l111, qn_l112, qn_l113, qn_l115, qn_l117, qn_l120, qn_l127, qn_l128, qn_l200, qn_l225, qn_l240, qn_l255, qn_l256, qn_l300, qn_l720, qn_l1000, qn_l48271, qn_l1000000, qn_l2147483646, qn_l2147483647, qn_add, qn_mul, qn_sub, qn_addneg, qn_div, qn_mod, qn_modn, qn_lt, qn_le, qn_eq, qn_nat, qn_m1, qn_m1', qn_c1, qn_g1, qn_g1', qn_c1', qn_and, qn_or, qn_shl1, qn_shr1, qn_64, ql_32, ql_add, ql_mul, ql_sub, ql_div, ql_mod, ql_lt, ql_le, ql_eq, ql_l0, ql_l1, qp_gd_T, qp_bd_t, ↓reduceIte, qt_le, qf_le, qt_lt, qf_lt, qt_eq, qf_eq, and_self, not_true_eq_false, not_false_eq_true, true_and, and_true, or_true, true_or, or_false, false_or, and_false, false_and, Nat.reduceAdd, Nat.reduceMul, Nat.reduceSub, Nat.reduceDiv, Nat.reduceMod, Nat.reducePow, Nat.zero_add, Nat.add_zero, Nat.zero_le, Nat.mul_zero, Nat.zero_mul, qm_nk, qm_eq, qm_nj]
      refine ⟨_, rfl, ?_, ?_⟩
      · intro j hj
        rw [hlm] at hj
        rw [hz, qm_if, h2]
        by_cases e1 : j = p
        · rw [if_pos (by omega), if_pos e1]
        · rw [if_neg (by omega), if_neg e1]
          by_cases e2 : f ≤ j ∧ j < p
          · rw [if_pos (by omega), if_pos e2, Nat.add_assoc]; exact hr (j + 1) (by omega)
          · rw [if_neg (by omega), if_neg e2, if_neg (by omega)]; exact hr j (by omega)
      · exact ⟨fun c hc => (qm_nk (Ne.symm hc)).trans (h1 c hc), fun j hj => by rw [qm_nj (by omega), h2, if_neg (by omega)]⟩
    · intro fu a I' ha ⟨h0, h1, h2⟩
      (try dsimp only)
      refine Or.inr ⟨qp_up I' 47 (off + a) (I' 47 (off + a + 1)), ⟨by omega, fun c hc => (qm_nk (Ne.symm hc)).trans (h1 c hc), fun j => ?_⟩, ?_⟩
      · rw [qm_if, h2, h2]
        by_cases e1 : off + a = j
        · rw [if_pos e1, if_neg (by omega), if_pos (by omega), ← e1]
        · rw [if_neg e1]
          by_cases e2 : off + f ≤ j ∧ j < off + a
          · rw [if_pos e2, if_pos (by omega)]
          · rw [if_neg e2, if_neg (by omega)]
      · rw [fM_goTo_47_b9]
        simp (disch := omega) only [qn_l0, qn_l1, qn_l2, qn_l3, qn_l4, qn_l5, qn_l6, qn_l7, qn_l8, qn_l9, qn_l10, qn_l11, qn_l12, qn_l13, qn_l14, qn_l15, qn_l16, qn_l17, qn_l18, qn_l19, qn_l20, qn_l21, qn_l22, qn_l23, qn_l24, qn_l26, qn_l27, qn_l28, qn_l31, qn_l32, qn_l33, qn_l34, qn_l36, qn_l37, qn_l38, qn_l39, qn_l40, qn_l47, qn_l48, qn_l49, qn_l50, qn_l51, qn_l54, qn_l55, qn_l56, qn_l57, qn_l60, qn_l63, qn_l64, qn_l69, qn_l70, qn_l75, qn_l99, qn_l100, qn_l103, qn_l111, qn_l112, qn_l113, qn_l115, qn_l117, qn_l120, qn_l127, qn_l128, qn_l200, qn_l225, qn_l240, qn_l255, qn_l256, qn_l300, qn_l720, qn_l1000, qn_l48271, qn_l1000000, qn_l2147483646, qn_l2147483647, qn_add, qn_mul, qn_sub, qn_addneg, qn_div, qn_mod, qn_modn, qn_lt, qn_le, qn_eq, qn_nat, qn_m1, qn_m1', qn_c1, qn_g1, qn_g1', qn_c1', qn_and, qn_or, qn_shl1, qn_shr1, qn_64, ql_32, ql_add, ql_mul, ql_sub, ql_div, ql_mod, ql_lt, ql_le, ql_eq, ql_l0, ql_l1, qp_gd_T, qp_bd_t, ↓reduceIte, qt_le, qf_le, qt_lt, qf_lt, qt_eq, qf_eq, and_self, not_true_eq_false, not_false_eq_true, true_and, and_true, or_true, true_or, or_false, false_or, and_false, false_and, Nat.reduceAdd, Nat.reduceMul, Nat.reduceSub, Nat.reduceDiv, Nat.reduceMod, Nat.reducePow, Nat.zero_add, Nat.add_zero, Nat.zero_le, Nat.mul_zero, Nat.zero_mul, qm_nk, qm_eq, qm_nj]
  · rw [show (100000 : Nat) = 99999 + 1 from rfl, fM_goTo_47_b9]
    simp (disch := omega) only [qn_l0, qn_l1, qn_l2, qn_l3, qn_l4, qn_l5, qn_l6, qn_l7, qn_l8, qn_l9, qn_l10, qn_l11, qn_l12, qn_l13, qn_l14, qn_l15, qn_l16, qn_l17, qn_l18, qn_l19, qn_l20, qn_l21, qn_l22, qn_l23, qn_l24, qn_l26, qn_l27, qn_l28, qn_l31, qn_l32, qn_l33, qn_l34, qn_l36, qn_l37, qn_l38, qn_l39, qn_l40, qn_l47, qn_l48, qn_l49, qn_l50, qn_l51, qn_l54, qn_l55, qn_l56, qn_l57, qn_l60, qn_l63, qn_l64, qn_l69, qn_l70, qn_l75, qn_l99, qn_l100, qn_l103, qn_l111, qn_l112, qn_l113, qn_l115, qn_l117, qn_l120, qn_l127, qn_l128, qn_l200, qn_l225, qn_l240, qn_l255, qn_l256, qn_l300, qn_l720, qn_l1000, qn_l48271, qn_l1000000, qn_l2147483646, qn_l2147483647, qn_add, qn_mul, qn_sub, qn_addneg, qn_div, qn_mod, qn_modn, qn_lt, qn_le, qn_eq, qn_nat, qn_m1, qn_m1', qn_c1, qn_g1, qn_g1', qn_c1', qn_and, qn_or, qn_shl1, qn_shr1, qn_64, ql_32, ql_add, ql_mul, ql_sub, ql_div, ql_mod, ql_lt, ql_le, ql_eq, ql_l0, ql_l1, qp_gd_T, qp_bd_t, ↓reduceIte, qt_le, qf_le, qt_lt, qf_lt, qt_eq, qf_eq, and_self, not_true_eq_false, not_false_eq_true, true_and, and_true, or_true, true_or, or_false, false_or, and_false, false_and, Nat.reduceAdd, Nat.reduceMul, Nat.reduceSub, Nat.reduceDiv, Nat.reduceMod, Nat.reducePow, Nat.zero_add, Nat.add_zero, Nat.zero_le, Nat.mul_zero, Nat.zero_mul, qm_nk, qm_eq, qm_nj]
    have key := lp (σ := Nat → Nat → Int32) (R := fun o => ∃ I', o = some ((), I', J) ∧ zrow off (zmv i p s) (I' 47) ∧ zfr 47 off (off + n) I I')
      (Inv := fun t I' => (∀ c, c ≠ 47 → I' c = I c) ∧ ∀ j, I' 47 j = if off + (f - t) < j ∧ j ≤ off + f then I 47 (j - 1) else I 47 j)
      (fun fu t I' => fM_goTo_47_b36 fu (qn off) (qn i) (qn p) (qn (f - t)) I' J) (f - p) 100000 0 I (Nat.zero_le _) (by omega) ⟨fun c _ => rfl, fun j => by rw [if_neg (by omega)]⟩ (by
        intro fu I' ⟨h1, h2⟩
        (try dsimp only)
        rw [fM_goTo_47_b36, show f - (f - p) = p by omega]
        rw [show f - (f - p) = p by omega] at h2
        simp (disch := omega) only [qn_l0, qn_l1, qn_l2, qn_l3, qn_l4, qn_l5, qn_l6, qn_l7, qn_l8, qn_l9, qn_l10, qn_l11, qn_l12, qn_l13, qn_l14, qn_l15, qn_l16, qn_l17, qn_l18, qn_l19, qn_l20, qn_l21, qn_l22, qn_l23, qn_l24, qn_l26, qn_l27, qn_l28, qn_l31, qn_l32, qn_l33, qn_l34, qn_l36, qn_l37, qn_l38, qn_l39, qn_l40, qn_l47, qn_l48, qn_l49, qn_l50, qn_l51, qn_l54, qn_l55, qn_l56, qn_l57, qn_l60, qn_l63, qn_l64, qn_l69, qn_l70, qn_l75, qn_l99, qn_l100, qn_l103, qn_l111, qn_l112, qn_l113, qn_l115, qn_l117, qn_l120, qn_l127, qn_l128, qn_l200, qn_l225, qn_l240, qn_l255, qn_l256, qn_l300, qn_l720, qn_l1000, qn_l48271, qn_l1000000, qn_l2147483646, qn_l2147483647, qn_add, qn_mul, qn_sub, qn_addneg, qn_div, qn_mod, qn_modn, qn_lt, qn_le, qn_eq, qn_nat, qn_m1, qn_m1', qn_c1, qn_g1, qn_g1', qn_c1', qn_and, qn_or, qn_shl1, qn_shr1, qn_64, ql_32, ql_add, ql_mul, ql_sub, ql_div, ql_mod, ql_lt, ql_le, ql_eq, ql_l0, ql_l1, qp_gd_T, qp_bd_t, ↓reduceIte, qt_le, qf_le, qt_lt, qf_lt, qt_eq, qf_eq, and_self, not_true_eq_false, not_false_eq_true, true_and, and_true, or_true, true_or, or_false, false_or, and_false, false_and, Nat.reduceAdd, Nat.reduceMul, Nat.reduceSub, Nat.reduceDiv, Nat.reduceMod, Nat.reducePow, Nat.zero_add, Nat.add_zero, Nat.zero_le, Nat.mul_zero, Nat.zero_mul, qm_nk, qm_eq, qm_nj]
        refine ⟨_, rfl, ?_, ?_⟩
        · intro j hj
          rw [hlm] at hj
          rw [hz, qm_if, h2]
          by_cases e1 : j = p
          · rw [if_pos (by omega), if_pos e1]
          · rw [if_neg (by omega), if_neg e1, if_neg (by omega : ¬ (f ≤ j ∧ j < p))]
            by_cases e2 : p < j ∧ j ≤ f
            · rw [if_pos (by omega), if_pos e2, show off + j - 1 = off + (j - 1) by omega]; exact hr (j - 1) (by omega)
            · rw [if_neg (by omega), if_neg e2]; exact hr j (by omega)
        · exact ⟨fun c hc => (qm_nk (Ne.symm hc)).trans (h1 c hc), fun j hj => by rw [qm_nj (by omega), h2, if_neg (by omega)]⟩) (by
        intro fu t I' ht ⟨h1, h2⟩
        (try dsimp only)
        refine Or.inr ⟨qp_up I' 47 (off + (f - t)) (I' 47 (off + (f - t) - 1)), ⟨fun c hc => (qm_nk (Ne.symm hc)).trans (h1 c hc), fun j => ?_⟩, ?_⟩
        · rw [qm_if, h2, h2]
          by_cases e1 : off + (f - t) = j
          · rw [if_pos e1, if_neg (by omega), if_pos (by omega), ← e1]
          · rw [if_neg e1]
            by_cases e2 : off + (f - t) < j ∧ j ≤ off + f
            · rw [if_pos e2, if_pos (by omega)]
            · rw [if_neg e2, if_neg (by omega)]
        · rw [fM_goTo_47_b36, show f - (t + 1) = f - t - 1 by omega]
          simp (disch := omega) only [qn_l0, qn_l1, qn_l2, qn_l3, qn_l4, qn_l5, qn_l6, qn_l7, qn_l8, qn_l9, qn_l10, qn_l11, qn_l12, qn_l13, qn_l14, qn_l15, qn_l16, qn_l17, qn_l18, qn_l19, qn_l20, qn_l21, qn_l22, qn_l23, qn_l24, qn_l26, qn_l27, qn_l28, qn_l31, qn_l32, qn_l33, qn_l34, qn_l36, qn_l37, qn_l38, qn_l39, qn_l40, qn_l47, qn_l48, qn_l49, qn_l50, qn_l51, qn_l54, qn_l55, qn_l56, qn_l57, qn_l60, qn_l63, qn_l64, qn_l69, qn_l70, qn_l75, qn_l99, qn_l100, qn_l103, qn_l111, qn_l112, qn_l113, qn_l115, qn_l117, qn_l120, qn_l127, qn_l128, qn_l200, qn_l225, qn_l240, qn_l255, qn_l256, qn_l300, qn_l720, qn_l1000, qn_l48271, qn_l1000000, qn_l2147483646, qn_l2147483647, qn_add, qn_mul, qn_sub, qn_addneg, qn_div, qn_mod, qn_modn, qn_lt, qn_le, qn_eq, qn_nat, qn_m1, qn_m1', qn_c1, qn_g1, qn_g1', qn_c1', qn_and, qn_or, qn_shl1, qn_shr1, qn_64, ql_32, ql_add, ql_mul, ql_sub, ql_div, ql_mod, ql_lt, ql_le, ql_eq, ql_l0, ql_l1, qp_gd_T, qp_bd_t, ↓reduceIte, qt_le, qf_le, qt_lt, qf_lt, qt_eq, qf_eq, and_self, not_true_eq_false, not_false_eq_true, true_and, and_true, or_true, true_or, or_false, false_or, and_false, false_and, Nat.reduceAdd, Nat.reduceMul, Nat.reduceSub, Nat.reduceDiv, Nat.reduceMod, Nat.reducePow, Nat.zero_add, Nat.add_zero, Nat.zero_le, Nat.mul_zero, Nat.zero_mul, qm_nk, qm_eq, qm_nj])
    exact key
theorem eM_layStands_47 {n : Nat} {tk : List Nat} {I : Nat → Nat → Int32} (hn : n ≤ 6) (h0 : I 47 0 = qn n) (h56 : I 47 56 = qn tk.length) (htk : zrow 57 tk (I 47)) (hT : zT n tk) (hl : tk.length ≤ 12) :
    ∃ I', fM_layStands_47 I J = some ((), I', J) ∧ zrow 69 (zls n tk) (I' 47) ∧ zfr 47 69 75 I I' := by
  unfold fM_layStands_47
  refine lp (σ := Nat → Nat → Int32) (R := fun o => ∃ I', o = some ((), I', J) ∧ zrow 69 (zls n tk) (I' 47) ∧ zfr 47 69 75 I I')
    (Inv := fun a I' => zfr 47 69 75 I I' ∧ ∀ j, j < a → I' 47 (69 + j) = qn j) (fun fu a I' => fM_layStands_47_b2 fu (qn a) I' J) 6 100000 0 I (Nat.zero_le _) (by omega) ⟨zfr_rfl, fun j hj => by omega⟩ ?_ ?_
  · intro fu I1 ⟨g1, g2⟩
    (try dsimp only)
    rw [fM_layStands_47_b2]
    simp (disch := omega) only [qn_l0, qn_l1, qn_l2, qn_l3, qn_l4, qn_l5, qn_l6, qn_l7, qn_l8, qn_l9, qn_l10, qn_l11, qn_l12, qn_l13, qn_l14, qn_l15, qn_l16, qn_l17, qn_l18, qn_l19, qn_l20, qn_l21, qn_l22, qn_l23, qn_l24, qn_l26, qn_l27, qn_l28, qn_l31, qn_l32, qn_l33, qn_l34, qn_l36, qn_l37, qn_l38, qn_l39, qn_l40, qn_l47, qn_l48, qn_l49, qn_l50, qn_l51, qn_l54, qn_l55, qn_l56, qn_l57, qn_l60, qn_l63, qn_l64, qn_l69, qn_l70, qn_l75, qn_l99, qn_l100, qn_l103, qn_l111, qn_l112, qn_l113, qn_l115, qn_l117, qn_l120, qn_l127, qn_l128, qn_l200, qn_l225, qn_l240, qn_l255, qn_l256, qn_l300, qn_l720, qn_l1000, qn_l48271, qn_l1000000, qn_l2147483646, qn_l2147483647, qn_add, qn_mul, qn_sub, qn_addneg, qn_div, qn_mod, qn_modn, qn_lt, qn_le, qn_eq, qn_nat, qn_m1, qn_m1', qn_c1, qn_g1, qn_g1', qn_c1', qn_and, qn_or, qn_shl1, qn_shr1, qn_64, ql_32, ql_add, ql_mul, ql_sub, ql_div, ql_mod, ql_lt, ql_le, ql_eq, ql_l0, ql_l1, qp_gd_T, qp_bd_t, ↓reduceIte, qt_le, qf_le, qt_lt, qf_lt, qt_eq, qf_eq, and_self, not_true_eq_false, not_false_eq_true, true_and, and_true, or_true, true_or, or_false, false_or, and_false, false_and, Nat.reduceAdd, Nat.reduceMul, Nat.reduceSub, Nat.reduceDiv, Nat.reduceMod, Nat.reducePow, Nat.zero_add, Nat.add_zero, Nat.zero_le, Nat.mul_zero, Nat.zero_mul, qm_nk, qm_eq, qm_nj]
    refine lp (σ := Nat → Nat → Int32) (R := fun o => ∃ I', o = some ((), I', J) ∧ zrow 69 (zls n tk) (I' 47) ∧ zfr 47 69 75 I I')
      (Inv := fun k I' => zfr 47 69 75 I I' ∧ zrow 69 (zls n (tk.take k)) (I' 47)) (fun fu k I' => fM_layStands_47_b23 fu (qn k) I' J) tk.length 100000 0 I1 (Nat.zero_le _) (by omega) ⟨g1, ?_⟩ ?_ ?_
    · intro p hp
      have hid : (zls n (tk.take 0)) = zid n := rfl
      rw [hid] at hp ⊢
      rw [(zid_P n).2.1] at hp
      rw [zid_at hp]; exact g2 p (by omega)
    · intro fu I2 ⟨k1, k2⟩
      (try dsimp only)
      rw [List.take_length] at k2
      have e56 : I2 47 56 = qn tk.length := by rw [k1.2 56 (by omega)]; exact h56
      rw [fM_layStands_47_b23]
      simp (disch := omega) only [e56, qn_l0, qn_l1, qn_l2, qn_l3, qn_l4, qn_l5, qn_l6, qn_l7, qn_l8, qn_l9, qn_l10, qn_l11, qn_l12, qn_l13, qn_l14, qn_l15, qn_l16, qn_l17, qn_l18, qn_l19, qn_l20, qn_l21, qn_l22, qn_l23, qn_l24, qn_l26, qn_l27, qn_l28, qn_l31, qn_l32, qn_l33, qn_l34, qn_l36, qn_l37, qn_l38, qn_l39, qn_l40, qn_l47, qn_l48, qn_l49, qn_l50, qn_l51, qn_l54, qn_l55, qn_l56, qn_l57, qn_l60, qn_l63, qn_l64, qn_l69, qn_l70, qn_l75, qn_l99, qn_l100, qn_l103, qn_l111, qn_l112, qn_l113, qn_l115, qn_l117, qn_l120, qn_l127, qn_l128, qn_l200, qn_l225, qn_l240, qn_l255, qn_l256, qn_l300, qn_l720, qn_l1000, qn_l48271, qn_l1000000, qn_l2147483646, qn_l2147483647, qn_add, qn_mul, qn_sub, qn_addneg, qn_div, qn_mod, qn_modn, qn_lt, qn_le, qn_eq, qn_nat, qn_m1, qn_m1', qn_c1, qn_g1, qn_g1', qn_c1', qn_and, qn_or, qn_shl1, qn_shr1, qn_64, ql_32, ql_add, ql_mul, ql_sub, ql_div, ql_mod, ql_lt, ql_le, ql_eq, ql_l0, ql_l1, qp_gd_T, qp_bd_t, ↓reduceIte, qt_le, qf_le, qt_lt, qf_lt, qt_eq, qf_eq, and_self, not_true_eq_false, not_false_eq_true, true_and, and_true, or_true, true_or, or_false, false_or, and_false, false_and, Nat.reduceAdd, Nat.reduceMul, Nat.reduceSub, Nat.reduceDiv, Nat.reduceMod, Nat.reducePow, Nat.zero_add, Nat.add_zero, Nat.zero_le, Nat.mul_zero, Nat.zero_mul, qm_nk, qm_eq, qm_nj]
      exact ⟨I2, rfl, k2, k1⟩
    · intro fu k I2 hk ⟨k1, k2⟩
      (try dsimp only)
      have e56 : I2 47 56 = qn tk.length := by rw [k1.2 56 (by omega)]; exact h56
      have e0 : I2 47 0 = qn n := by rw [k1.2 0 (by omega)]; exact h0
      have ek : I2 47 (57 + k) = qn (zat tk k) := by rw [k1.2 (57 + k) (by omega)]; exact htk k hk
      obtain ⟨t1, t2⟩ := zT_at hT hk
      obtain ⟨I3, a1, a2, a3⟩ := eM_goTo_47 (J := J) (off := 69) (zls_P (zT_take (k := k) hT)) hn k2 (by omega) t1 t2
      refine Or.inr ⟨I3, ⟨zfr_tr k1 (zfr_wd a3 (by omega) (by omega)), ?_⟩, ?_⟩
      · rw [take_zat hk, zls_app]; exact a2
      · rw [fM_layStands_47_b23]
        simp (disch := omega) only [e56, e0, ek, a1, qn_l0, qn_l1, qn_l2, qn_l3, qn_l4, qn_l5, qn_l6, qn_l7, qn_l8, qn_l9, qn_l10, qn_l11, qn_l12, qn_l13, qn_l14, qn_l15, qn_l16, qn_l17, qn_l18, qn_l19, qn_l20, qn_l21, qn_l22, qn_l23, qn_l24, qn_l26, qn_l27, qn_l28, qn_l31, qn_l32, qn_l33, qn_l34, qn_l36, qn_l37, qn_l38, qn_l39, qn_l40, qn_l47, qn_l48, qn_l49, qn_l50, qn_l51, qn_l54, qn_l55, qn_l56, qn_l57, qn_l60, qn_l63, qn_l64, qn_l69, qn_l70, qn_l75, qn_l99, qn_l100, qn_l103, qn_l111, qn_l112, qn_l113, qn_l115, qn_l117, qn_l120, qn_l127, qn_l128, qn_l200, qn_l225, qn_l240, qn_l255, qn_l256, qn_l300, qn_l720, qn_l1000, qn_l48271, qn_l1000000, qn_l2147483646, qn_l2147483647, qn_add, qn_mul, qn_sub, qn_addneg, qn_div, qn_mod, qn_modn, qn_lt, qn_le, qn_eq, qn_nat, qn_m1, qn_m1', qn_c1, qn_g1, qn_g1', qn_c1', qn_and, qn_or, qn_shl1, qn_shr1, qn_64, ql_32, ql_add, ql_mul, ql_sub, ql_div, ql_mod, ql_lt, ql_le, ql_eq, ql_l0, ql_l1, qp_gd_T, qp_bd_t, ↓reduceIte, qt_le, qf_le, qt_lt, qf_lt, qt_eq, qf_eq, and_self, not_true_eq_false, not_false_eq_true, true_and, and_true, or_true, true_or, or_false, false_or, and_false, false_and, Nat.reduceAdd, Nat.reduceMul, Nat.reduceSub, Nat.reduceDiv, Nat.reduceMod, Nat.reducePow, Nat.zero_add, Nat.add_zero, Nat.zero_le, Nat.mul_zero, Nat.zero_mul, qm_nk, qm_eq, qm_nj]
  · intro fu a I1 ha ⟨g1, g2⟩
    (try dsimp only)
    refine Or.inr ⟨qp_up I1 47 (69 + a) (qn a), ⟨zfr_tr g1 (zfr_up (by omega) (by omega)), fun j hj => ?_⟩, ?_⟩
    · rw [qm_if]
      by_cases e : 69 + a = 69 + j
      · rw [if_pos e, show a = j by omega]
      · rw [if_neg e]; exact g2 j (by omega)
    · rw [fM_layStands_47_b2]
      simp (disch := omega) only [qn_l0, qn_l1, qn_l2, qn_l3, qn_l4, qn_l5, qn_l6, qn_l7, qn_l8, qn_l9, qn_l10, qn_l11, qn_l12, qn_l13, qn_l14, qn_l15, qn_l16, qn_l17, qn_l18, qn_l19, qn_l20, qn_l21, qn_l22, qn_l23, qn_l24, qn_l26, qn_l27, qn_l28, qn_l31, qn_l32, qn_l33, qn_l34, qn_l36, qn_l37, qn_l38, qn_l39, qn_l40, qn_l47, qn_l48, qn_l49, qn_l50, qn_l51, qn_l54, qn_l55, qn_l56, qn_l57, qn_l60, qn_l63, qn_l64, qn_l69, qn_l70, qn_l75, qn_l99, qn_l100, qn_l103, qn_l111, qn_l112, qn_l113, qn_l115, qn_l117, qn_l120, qn_l127, qn_l128, qn_l200, qn_l225, qn_l240, qn_l255, qn_l256, qn_l300, qn_l720, qn_l1000, qn_l48271, qn_l1000000, qn_l2147483646, qn_l2147483647, qn_add, qn_mul, qn_sub, qn_addneg, qn_div, qn_mod, qn_modn, qn_lt, qn_le, qn_eq, qn_nat, qn_m1, qn_m1', qn_c1, qn_g1, qn_g1', qn_c1', qn_and, qn_or, qn_shl1, qn_shr1, qn_64, ql_32, ql_add, ql_mul, ql_sub, ql_div, ql_mod, ql_lt, ql_le, ql_eq, ql_l0, ql_l1, qp_gd_T, qp_bd_t, ↓reduceIte, qt_le, qf_le, qt_lt, qf_lt, qt_eq, qf_eq, and_self, not_true_eq_false, not_false_eq_true, true_and, and_true, or_true, true_or, or_false, false_or, and_false, false_and, Nat.reduceAdd, Nat.reduceMul, Nat.reduceSub, Nat.reduceDiv, Nat.reduceMod, Nat.reducePow, Nat.zero_add, Nat.add_zero, Nat.zero_le, Nat.mul_zero, Nat.zero_mul, qm_nk, qm_eq, qm_nj]
theorem eM_goBack_47 {n k : Nat} {tk : List Nat} {I : Nat → Nat → Int32} (hn : n ≤ 6) (h0 : I 47 0 = qn n) (h56 : I 47 56 = qn tk.length) (htk : zrow 57 tk (I 47)) (hT : zT n tk) (hl : tk.length ≤ 12) (hk : k < tk.length) :
    ∃ I', fM_goBack_47 (qn k) I J = some (qn (zback n k tk).2.2, I', J) ∧ I' 47 56 = qn (zback n k tk).1.length ∧ zrow 57 (zback n k tk).1 (I' 47) ∧ zrow 69 (zback n k tk).2.1 (I' 47) ∧ zfr 47 56 75 I I' := by
  have hlt : (tk.take k).length = k := by rw [List.length_take]; omega
  obtain ⟨I1, a1, a2, a3⟩ := eM_layStands_47 (J := J) (n := n) (tk := tk.take k) (I := qp_up I 47 56 (qn k)) hn (by rw [qm_nj (by omega)]; exact h0) (by rw [hlt]; exact qm_eq rfl) (fun p hp => by
    rw [hlt] at hp
    rw [qm_nj (by omega), zat_take hp]; exact htk p (by omega)) (zT_take hT) (by omega)
  have b1 : zfr 47 56 75 I I1 := zfr_tr (zfr_up (by omega) (by omega)) (zfr_wd a3 (by omega) (by omega))
  have e56 : I1 47 56 = qn k := by rw [a3.2 56 (by omega)]; exact qm_eq rfl
  unfold fM_goBack_47
  simp (disch := omega) only [a1, h56, qn_l0, qn_l1, qn_l2, qn_l3, qn_l4, qn_l5, qn_l6, qn_l7, qn_l8, qn_l9, qn_l10, qn_l11, qn_l12, qn_l13, qn_l14, qn_l15, qn_l16, qn_l17, qn_l18, qn_l19, qn_l20, qn_l21, qn_l22, qn_l23, qn_l24, qn_l26, qn_l27, qn_l28, qn_l31, qn_l32, qn_l33, qn_l34, qn_l36, qn_l37, qn_l38, qn_l39, qn_l40, qn_l47, qn_l48, qn_l49, qn_l50, qn_l51, qn_l54, qn_l55, qn_l56, qn_l57, qn_l60, qn_l63, qn_l64, qn_l69, qn_l70, qn_l75, qn_l99, qn_l100, qn_l103, qn_l111, qn_l112, qn_l113, qn_l115, qn_l117, qn_l120, qn_l127, qn_l128, qn_l200, qn_l225, qn_l240, qn_l255, qn_l256, qn_l300, qn_l720, qn_l1000, qn_l48271, qn_l1000000, qn_l2147483646, qn_l2147483647, qn_add, qn_mul, qn_sub, qn_addneg, qn_div, qn_mod, qn_modn, qn_lt, qn_le, qn_eq, qn_nat, qn_m1, qn_m1', qn_c1, qn_g1, qn_g1', qn_c1', qn_and, qn_or, qn_shl1, qn_shr1, qn_64, ql_32, ql_add, ql_mul, ql_sub, ql_div, ql_mod, ql_lt, ql_le, ql_eq, ql_l0, ql_l1, qp_gd_T, qp_bd_t, ↓reduceIte, qt_le, qf_le, qt_lt, qf_lt, qt_eq, qf_eq, and_self, not_true_eq_false, not_false_eq_true, true_and, and_true, or_true, true_or, or_false, false_or, and_false, false_and, Nat.reduceAdd, Nat.reduceMul, Nat.reduceSub, Nat.reduceDiv, Nat.reduceMod, Nat.reducePow, Nat.zero_add, Nat.add_zero, Nat.zero_le, Nat.mul_zero, Nat.zero_mul, qm_nk, qm_eq, qm_nj]
  refine lp (σ := Int32 × (Nat → Nat → Int32)) (R := fun o => ∃ I', o = some (qn (zback n k tk).2.2, I', J) ∧ I' 47 56 = qn (zback n k tk).1.length ∧ zrow 57 (zback n k tk).1 (I' 47) ∧ zrow 69 (zback n k tk).2.1 (I' 47) ∧ zfr 47 56 75 I I')
    (Inv := fun t q => k < t ∧ ∃ st : ZW, zwk k t (tk.drop t) st = zback n k tk ∧ zWok n st ∧ st.1.length < t ∧ st.2.2 < t ∧ q.1 = qn st.2.2 ∧ q.2 47 56 = qn st.1.length ∧ zrow 57 st.1 (q.2 47) ∧ zrow 69 st.2.1 (q.2 47) ∧ (∀ j, t ≤ j → j < tk.length → q.2 47 (57 + j) = qn (zat tk j)) ∧ zfr 47 56 75 I q.2)
    (fun fu t q => fM_goBack_47_b21 fu (qn tk.length) q.1 (qn t) q.2 J) tk.length 100000 (k + 1) (qn 0, I1) (by omega) (by omega) ⟨Nat.lt_succ_self k, (tk.take k, zls n (tk.take k), 0), zwk_k hk, ⟨zT_take hT, rfl⟩, by show (tk.take k).length < k + 1; omega, Nat.succ_pos k, rfl, by show I1 47 56 = qn (tk.take k).length; rw [hlt]; exact e56, ?_, a2, ?_, b1⟩ ?_ ?_
  · intro p hp
    have hp2 : p < k := by rw [← hlt]; exact hp
    show I1 47 (57 + p) = qn (zat (tk.take k) p)
    rw [zat_take hp2, a3.2 (57 + p) (by omega), qm_nj (by omega)]; exact htk p (by omega)
  · intro j hj hj2
    show I1 47 (57 + j) = _
    rw [a3.2 (57 + j) (by omega), qm_nj (by omega)]; exact htk j hj2
  · rintro fu ⟨q, I2⟩ ⟨-, st, s1, s2, s3, s4, s5, s6, s7, s8, s9, s10⟩
    dsimp only at s5 s6 s7 s8 s9 s10 ⊢
    rw [List.drop_length] at s1
    have e : st = zback n k tk := s1
    rw [fM_goBack_47_b21]
    simp (disch := omega) only [qn_l0, qn_l1, qn_l2, qn_l3, qn_l4, qn_l5, qn_l6, qn_l7, qn_l8, qn_l9, qn_l10, qn_l11, qn_l12, qn_l13, qn_l14, qn_l15, qn_l16, qn_l17, qn_l18, qn_l19, qn_l20, qn_l21, qn_l22, qn_l23, qn_l24, qn_l26, qn_l27, qn_l28, qn_l31, qn_l32, qn_l33, qn_l34, qn_l36, qn_l37, qn_l38, qn_l39, qn_l40, qn_l47, qn_l48, qn_l49, qn_l50, qn_l51, qn_l54, qn_l55, qn_l56, qn_l57, qn_l60, qn_l63, qn_l64, qn_l69, qn_l70, qn_l75, qn_l99, qn_l100, qn_l103, qn_l111, qn_l112, qn_l113, qn_l115, qn_l117, qn_l120, qn_l127, qn_l128, qn_l200, qn_l225, qn_l240, qn_l255, qn_l256, qn_l300, qn_l720, qn_l1000, qn_l48271, qn_l1000000, qn_l2147483646, qn_l2147483647, qn_add, qn_mul, qn_sub, qn_addneg, qn_div, qn_mod, qn_modn, qn_lt, qn_le, qn_eq, qn_nat, qn_m1, qn_m1', qn_c1, qn_g1, qn_g1', qn_c1', qn_and, qn_or, qn_shl1, qn_shr1, qn_64, ql_32, ql_add, ql_mul, ql_sub, ql_div, ql_mod, ql_lt, ql_le, ql_eq, ql_l0, ql_l1, qp_gd_T, qp_bd_t, ↓reduceIte, qt_le, qf_le, qt_lt, qf_lt, qt_eq, qf_eq, and_self, not_true_eq_false, not_false_eq_true, true_and, and_true, or_true, true_or, or_false, false_or, and_false, false_and, Nat.reduceAdd, Nat.reduceMul, Nat.reduceSub, Nat.reduceDiv, Nat.reduceMod, Nat.reducePow, Nat.zero_add, Nat.add_zero, Nat.zero_le, Nat.mul_zero, Nat.zero_mul, qm_nk, qm_eq, qm_nj]
    rw [← e]
    exact ⟨I2, by rw [s5], s6, s7, s8, s10⟩
  · rintro fu t ⟨q, I2⟩ ht ⟨hkt, st, s1, s2, s3, s4, s5, s6, s7, s8, s9, s10⟩
    dsimp only at s5 s6 s7 s8 s9 s10 ⊢
    refine Or.inr ?_
    obtain ⟨t1, t2⟩ := zT_at hT ht
    have hPs : zP n st.2.1 := by rw [s2.2]; exact zls_P s2.1
    have et := s9 t (Nat.le_refl t) ht
    have e0 : I2 47 0 = qn n := by rw [s10.2 0 (by omega)]; exact h0
    have ep := s8 (zat tk t % 8) (by rw [hPs.2.1]; exact t2)
    have hzl := zP_at hPs t2
    rw [zwk_drop ht] at s1
    have hok := zwk1_ok (k := k) (t := t) s2 t1 t2
    by_cases hc : zat st.2.1 (zat tk t % 8) = zat tk t / 8
    · have e1 : zwk1 k t (zat tk t) st = (st.1, st.2.1, st.2.2 + 1) := by unfold zwk1; rw [if_pos ⟨by omega, hc⟩]
      rw [e1] at s1 hok
      refine ⟨(qn (st.2.2 + 1), I2), ⟨by omega, _, s1, hok, by show st.1.length < t + 1; omega, by show st.2.2 + 1 < t + 1; omega, rfl, s6, s7, s8, fun j hj => s9 j (by omega), s10⟩, ?_⟩
      rw [fM_goBack_47_b21, s5]
      simp (disch := omega) only [et, ep, hc, qn_l0, qn_l1, qn_l2, qn_l3, qn_l4, qn_l5, qn_l6, qn_l7, qn_l8, qn_l9, qn_l10, qn_l11, qn_l12, qn_l13, qn_l14, qn_l15, qn_l16, qn_l17, qn_l18, qn_l19, qn_l20, qn_l21, qn_l22, qn_l23, qn_l24, qn_l26, qn_l27, qn_l28, qn_l31, qn_l32, qn_l33, qn_l34, qn_l36, qn_l37, qn_l38, qn_l39, qn_l40, qn_l47, qn_l48, qn_l49, qn_l50, qn_l51, qn_l54, qn_l55, qn_l56, qn_l57, qn_l60, qn_l63, qn_l64, qn_l69, qn_l70, qn_l75, qn_l99, qn_l100, qn_l103, qn_l111, qn_l112, qn_l113, qn_l115, qn_l117, qn_l120, qn_l127, qn_l128, qn_l200, qn_l225, qn_l240, qn_l255, qn_l256, qn_l300, qn_l720, qn_l1000, qn_l48271, qn_l1000000, qn_l2147483646, qn_l2147483647, qn_add, qn_mul, qn_sub, qn_addneg, qn_div, qn_mod, qn_modn, qn_lt, qn_le, qn_eq, qn_nat, qn_m1, qn_m1', qn_c1, qn_g1, qn_g1', qn_c1', qn_and, qn_or, qn_shl1, qn_shr1, qn_64, ql_32, ql_add, ql_mul, ql_sub, ql_div, ql_mod, ql_lt, ql_le, ql_eq, ql_l0, ql_l1, qp_gd_T, qp_bd_t, ↓reduceIte, qt_le, qf_le, qt_lt, qf_lt, qt_eq, qf_eq, and_self, not_true_eq_false, not_false_eq_true, true_and, and_true, or_true, true_or, or_false, false_or, and_false, false_and, Nat.reduceAdd, Nat.reduceMul, Nat.reduceSub, Nat.reduceDiv, Nat.reduceMod, Nat.reducePow, Nat.zero_add, Nat.add_zero, Nat.zero_le, Nat.mul_zero, Nat.zero_mul, qm_nk, qm_eq, qm_nj]
    · have e1 : zwk1 k t (zat tk t) st = (st.1 ++ [zat tk t], zmv (zat tk t / 8) (zat tk t % 8) st.2.1, st.2.2) := by unfold zwk1; rw [if_neg (fun h => hc h.2), if_neg (by omega)]
      rw [e1] at s1 hok
      have hlen : (st.1 ++ [zat tk t]).length = st.1.length + 1 := by rw [List.length_append]; rfl
      obtain ⟨I3, c1, c2, c3⟩ := eM_goTo_47 (J := J) (off := 69) (s := st.2.1) (I := qp_up (qp_up I2 47 (57 + st.1.length) (qn (zat tk t))) 47 56 (qn (st.1.length + 1))) hPs hn (fun p hp => by
        rw [qm_nj (by omega), qm_nj (by omega)]; exact s8 p hp) (by omega) t1 t2
      have f1 : zfr 47 56 75 I2 I3 := zfr_tr (zfr_tr (zfr_up (by omega) (by omega)) (zfr_up (by omega) (by omega))) (zfr_wd c3 (by omega) (by omega))
      refine ⟨(q, I3), ⟨by omega, _, s1, hok, by show (st.1 ++ [zat tk t]).length < t + 1; omega, by show st.2.2 < t + 1; omega, s5, ?_, ?_, c2, ?_, zfr_tr s10 f1⟩, ?_⟩
      · show I3 47 56 = qn (st.1 ++ [zat tk t]).length
        rw [c3.2 56 (by omega), hlen]; exact qm_eq rfl
      · intro p hp
        have hp' : p < st.1.length + 1 := by rw [← hlen]; exact hp
        show I3 47 (57 + p) = qn (zat (st.1 ++ [zat tk t]) p)
        rw [c3.2 (57 + p) (by omega), zat_app (by omega), qm_nj (by omega), qm_if]
        by_cases e : p = st.1.length
        · rw [if_pos (by omega), if_pos e]
        · rw [if_neg (by omega), if_neg e]; exact s7 p (by omega)
      · intro j hj hj2
        show I3 47 (57 + j) = _
        rw [c3.2 (57 + j) (by omega), qm_nj (by omega), qm_nj (by omega)]; exact s9 j (by omega) hj2
      · rw [fM_goBack_47_b21]
        simp (disch := omega) only [et, ep, hc, s6, e0, c1, qn_l0, qn_l1, qn_l2, qn_l3, qn_l4, qn_l5, qn_l6, qn_l7, qn_l8, qn_l9, qn_l10, qn_l11, qn_l12, qn_l13, qn_l14, qn_l15, qn_l16, qn_l17, qn_l18, qn_l19, qn_l20, qn_l21, qn_l22, qn_l23, qn_l24, qn_l26, qn_l27, qn_l28, qn_l31, qn_l32, qn_l33, qn_l34, qn_l36, qn_l37, qn_l38, qn_l39, qn_l40, qn_l47, qn_l48, qn_l49, qn_l50, qn_l51, qn_l54, qn_l55, qn_l56, qn_l57, qn_l60, qn_l63, qn_l64, qn_l69, qn_l70, qn_l75, qn_l99, qn_l100, qn_l103, qn_l111, qn_l112, qn_l113, qn_l115, qn_l117, qn_l120, qn_l127, qn_l128, qn_l200, qn_l225, qn_l240, qn_l255, qn_l256, qn_l300, qn_l720, qn_l1000, qn_l48271, qn_l1000000, qn_l2147483646, qn_l2147483647, qn_add, qn_mul, qn_sub, qn_addneg, qn_div, qn_mod, qn_modn, qn_lt, qn_le, qn_eq, qn_nat, qn_m1, qn_m1', qn_c1, qn_g1, qn_g1', qn_c1', qn_and, qn_or, qn_shl1, qn_shr1, qn_64, ql_32, ql_add, ql_mul, ql_sub, ql_div, ql_mod, ql_lt, ql_le, ql_eq, ql_l0, ql_l1, qp_gd_T, qp_bd_t, ↓reduceIte, qt_le, qf_le, qt_lt, qf_lt, qt_eq, qf_eq, and_self, not_true_eq_false, not_false_eq_true, true_and, and_true, or_true, true_or, or_false, false_or, and_false, false_and, Nat.reduceAdd, Nat.reduceMul, Nat.reduceSub, Nat.reduceDiv, Nat.reduceMod, Nat.reducePow, Nat.zero_add, Nat.add_zero, Nat.zero_le, Nat.mul_zero, Nat.zero_mul, qm_nk, qm_eq, qm_nj]
end MR47

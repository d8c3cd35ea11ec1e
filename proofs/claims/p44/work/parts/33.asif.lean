/-! MARK; WHAT ONE WOULD GET: gets, best, falls -/
def zcnt (c : Nat → Bool) : Nat → Nat
  | 0 => 0
  | j + 1 => if c j = true then zcnt c j + 1 else zcnt c j
theorem zcnt_le (c : Nat → Bool) : ∀ n, zcnt c n ≤ n
  | 0 => Nat.le_refl 0
  | n + 1 => by
    unfold zcnt
    have := zcnt_le c n
    split <;> omega
theorem zcnt_eq {c d : Nat → Bool} : ∀ {n : Nat}, (∀ j, j < n → c j = d j) → zcnt c n = zcnt d n
  | 0, _ => rfl
  | n + 1, h => by
    unfold zcnt
    rw [h n (by omega), zcnt_eq (n := n) (fun j hj => h j (by omega))]
theorem zix_appl {i : Nat} : ∀ {l m : List Nat}, i ∈ l → zix i (l ++ m) = zix i l
  | x :: t, m, h => by
    show (if x = i then 0 else zix i (t ++ m) + 1) = if x = i then 0 else zix i t + 1
    by_cases hx : x = i
    · rw [if_pos hx, if_pos hx]
    · rw [if_neg hx, if_neg hx, zix_appl (by
        rcases List.mem_cons.mp h with h | h
        · exact absurd h.symm hx
        · exact h)]
theorem zix_appr {i : Nat} : ∀ {l m : List Nat}, ¬ i ∈ l → zix i (l ++ m) = l.length + zix i m
  | [], m, _ => by rw [List.nil_append, List.length_nil, Nat.zero_add]
  | x :: t, m, h => by
    show (if x = i then 0 else zix i (t ++ m) + 1) = _
    rw [if_neg (fun e : x = i => h (e ▸ List.mem_cons_self)), zix_appr (fun e => h (List.mem_cons_of_mem _ e)), List.length_cons]; omega
theorem zix_filter {p : Nat → Bool} {i j : Nat} (hi : p i = true) (hj : p j = true) : ∀ {s : List Nat}, i ∈ s → j ∈ s → zix j s < zix i s → zix j (s.filter p) < zix i (s.filter p)
  | x :: t, h1, h2, h3 => by
    have h3' : (if x = j then 0 else zix j t + 1) < (if x = i then 0 else zix i t + 1) := h3
    by_cases hxi : x = i
    · rw [if_pos hxi] at h3'; omega
    · rw [if_neg hxi] at h3'
      have hit : i ∈ t := by
        rcases List.mem_cons.mp h1 with h | h
        · exact absurd h.symm hxi
        · exact h
      by_cases hxj : x = j
      · subst hxj
        rw [List.filter_cons_of_pos hj]
        show (if x = x then 0 else zix x (t.filter p) + 1) < (if x = i then 0 else zix i (t.filter p) + 1)
        rw [if_pos rfl, if_neg hxi]; omega
      · rw [if_neg hxj] at h3'
        have hjt : j ∈ t := by
          rcases List.mem_cons.mp h2 with h | h
          · exact absurd h.symm hxj
          · exact h
        have ih := zix_filter hi hj hit hjt (by omega)
        by_cases hp : p x = true
        · rw [List.filter_cons_of_pos hp]
          show (if x = j then 0 else zix j (t.filter p) + 1) < (if x = i then 0 else zix i (t.filter p) + 1)
          rw [if_neg hxj, if_neg hxi]; omega
        · rw [List.filter_cons_of_neg hp]; exact ih
/-- of those ahead of a soldier all others are served behind it, no soldier is -/
theorem zB_ahead {K : Nat → Nat} {s : List Nat} {i j : Nat} (hi : i ∈ s) (hj : j ∈ s) (hk : zsol (K i) = true) (ha : zix j s < zix i s) : decide (zB K s i < zB K s j) = !zsol (K j) := by
  unfold zB zord
  have mi : i ∈ s.filter (fun i => zsol (K i)) := List.mem_filter.mpr ⟨hi, hk⟩
  rw [zix_appl mi]
  cases hkj : zsol (K j) with
  | true =>
    have mj : j ∈ s.filter (fun i => zsol (K i)) := List.mem_filter.mpr ⟨hj, hkj⟩
    rw [zix_appl mj]
    have := zix_filter (p := fun i => zsol (K i)) hk hkj hi hj ha
    exact decide_eq_false (by omega)
  | false =>
    have mj : ¬ j ∈ s.filter (fun i => zsol (K i)) := fun h => by
      have := (List.mem_filter.mp h).2
      rw [hkj] at this; cases this
    rw [zix_appr mj]
    have := zix_lt mi
    exact decide_eq_true (by omega)
section AS
variable {n L0 : Nat} {K P : Nat → Nat} {ds : List Nat} {kp : Nat → Option (List Nat)} {I : Nat → Nat → Int32} {J : Nat → Nat → Int64}
/-- as if one more ticket were sold -/
theorem eL_gainAt {s : List Nat} {L i p : Nat} (hP : zP n s) (hn : n ≤ 6) (hk : ∀ i, i < n → K i ≤ 5 ∧ P i ≤ 9 ∧ I 16 i = qn (K i) ∧ I 17 i = qn (P i)) (e0 : I 15 0 = qn n) (e2 : I 14 2 = qn (zpk s)) (e3 : I 14 3 = qn L) (hL : L ≤ 20) (hi : i < n) (hp : p < n) :
    ∃ I', fL_gainAt (qn i) (qn p) I J = some (qn (zG K P (zmv i p s) L i), I', J) ∧ ∀ c, c < 18 ∨ 22 < c → I' c = I c := by
  have e1 : (8 * i + p) / 8 = i := by omega
  have e4 : (8 * i + p) % 8 = p := by omega
  have eb := eD_byt (I := I) (J := J) (t := 8 * i + p) hP hn (by omega) (by omega)
  rw [e1, e4] at eb
  have hP' := zmv_P (p := p) hP hi
  obtain ⟨I1, a1, a2, a3⟩ := eL_sv (J := J) (K := K) (P := P) hP' hn hk e0 e3 hL
  have vi := (a2.1 i ((hP'.2.2 i).2 hi)).2.1
  refine ⟨I1, ?_, a3⟩
  unfold fL_gainAt
  simp (disch := omega) only [e0, e2, eb, a1, eV_gainOf, vi, qn_l0, qn_l1, qn_l2, qn_l3, qn_l4, qn_l5, qn_l6, qn_l7, qn_l8, qn_l9, qn_l10, qn_l11, qn_l12, qn_l13, qn_l14, qn_l15, qn_l16, qn_l17, qn_l18, qn_l19, qn_l20, qn_l21, qn_l22, qn_l23, qn_l24, qn_l26, qn_l27, qn_l28, qn_l31, qn_l32, qn_l33, qn_l34, qn_l36, qn_l37, qn_l38, qn_l39, qn_l40, qn_l47, qn_l48, qn_l49, qn_l50, qn_l51, qn_l54, qn_l55, qn_l56, qn_l57, qn_l60, qn_l63, qn_l64, qn_l69, qn_l70, qn_l75, qn_l99, qn_l100, qn_l103, qn_l111, qn_l112, qn_l113, qn_l115, qn_l117, qn_l120, qn_l127, qn_l128, qn_l200, qn_l225, qn_l240, qn_l255, qn_l256, qn_l300, qn_l720, qn_l1000, qn_l48271, qn_l1000000, qn_l2147483646, qn_l2147483647, qn_add, qn_mul, qn_sub, qn_addneg, qn_div, qn_mod, qn_modn, qn_lt, qn_le, qn_eq, qn_nat, qn_m1, qn_m1', qn_c1, qn_g1, qn_g1', qn_c1', qn_and, qn_or, qn_shl1, qn_shr1, qn_64, ql_32, ql_add, ql_mul, ql_sub, ql_div, ql_mod, ql_lt, ql_le, ql_eq, ql_l0, ql_l1, qp_gd_T, qp_bd_t, ↓reduceIte, qt_le, qf_le, qt_lt, qf_lt, qt_eq, qf_eq, and_self, not_true_eq_false, not_false_eq_true, true_and, and_true, or_true, true_or, or_false, false_or, and_false, false_and, Nat.reduceAdd, Nat.reduceMul, Nat.reduceSub, Nat.reduceDiv, Nat.reduceMod, Nat.reducePow, Nat.zero_add, Nat.add_zero, Nat.zero_le, Nat.mul_zero, Nat.zero_mul, qm_nk, qm_eq, qm_nj]
def zMH (I I' : Nat → Nat → Int32) : Prop := (∀ c, c ≠ 36 → c < 47 ∨ 51 < c → I' c = I c) ∧ ∀ j, j ≠ 20 → I' 36 j = I 36 j
theorem zMH_rfl : zMH I I := ⟨fun _ _ _ => rfl, fun _ _ => rfl⟩
theorem zMH_tr {I I1 I2 : Nat → Nat → Int32} (h : zMH I I1) (h' : zMH I1 I2) : zMH I I2 := ⟨fun c h1 h2 => (h'.1 c h1 h2).trans (h.1 c h1 h2), fun j hj => (h'.2 j hj).trans (h.2 j hj)⟩
theorem zMH_M {I I' : Nat → Nat → Int32} (h : zMF I I') : zMH I I' := ⟨fun c h1 h2 => h.1 c h1 (by omega), h.2⟩
theorem zMH_47 {I I' : Nat → Nat → Int32} (h : ∀ c, c ≠ 47 → I' c = I c) : zMH I I' := ⟨fun c h1 h2 => h c (by omega), fun j _ => by rw [h 36 (by omega)]⟩
/-- the first best of the places 0 .. j, and how many -/
def zbp (g : Nat → Nat) : Nat → Nat × Nat
  | 0 => (0, g 0)
  | j + 1 => if g (j + 1) ≤ (zbp g j).2 then zbp g j else (j + 1, g (j + 1))
theorem zbp_le (g : Nat → Nat) (h : ∀ j, g j ≤ 3) : ∀ j, (zbp g j).1 ≤ j ∧ (zbp g j).2 ≤ 3
  | 0 => ⟨Nat.le_refl 0, h 0⟩
  | j + 1 => by
    have := zbp_le g h j
    unfold zbp
    split
    · exact ⟨by omega, this.2⟩
    · exact ⟨Nat.le_refl _, h _⟩
end AS
theorem q_n9 {k : Nat} (hk : k < 2147483648) : (qn k ≤ -qn 9) = False := eq_false (by
  rw [Int32.le_iff_toInt_le, qn_toInt hk]
  have : (-qn 9 : Int32).toInt = -9 := rfl
  omega)

/-! ORDERS: a line as a list of naturals, packed by three bits -/
def zpk : List Nat → Nat
  | [] => 0
  | x :: t => x + 8 * zpk t
def zat : List Nat → Nat → Nat
  | [], _ => 0
  | x :: _, 0 => x
  | _ :: t, p + 1 => zat t p
def zix (i : Nat) : List Nat → Nat
  | [] => 0
  | x :: t => if x = i then 0 else zix i t + 1
def zrm (i : Nat) : List Nat → List Nat
  | [] => []
  | x :: t => if x = i then t else x :: zrm i t
def zin (i : Nat) : Nat → List Nat → List Nat
  | 0, l => i :: l
  | _ + 1, [] => [i]
  | p + 1, x :: t => x :: zin i p t
def zmv (i p : Nat) (s : List Nat) : List Nat := zin i p (zrm i s)
theorem z8 (p : Nat) : 2 ^ (3 * p) = 8 ^ p := by rw [Nat.pow_mul]
theorem zpk_lt : ∀ s : List Nat, (∀ x ∈ s, x < 8) → zpk s < 8 ^ s.length
  | [], _ => by decide
  | x :: t, h => by
    have h1 := zpk_lt t (fun y hy => h y (List.mem_cons_of_mem _ hy))
    have h2 := h x List.mem_cons_self
    rw [List.length_cons, Nat.pow_succ]
    show x + 8 * zpk t < _
    omega
theorem zpk_lt6 {s : List Nat} (h : ∀ x ∈ s, x < 8) (hn : s.length ≤ 6) : zpk s < 262144 :=
  Nat.lt_of_lt_of_le (zpk_lt s h) (Nat.pow_le_pow_right (by decide) hn : 8 ^ s.length ≤ 8 ^ 6)
theorem zpk_at : ∀ (p : Nat) (s : List Nat), (∀ x ∈ s, x < 8) → zpk s / 8 ^ p % 8 = zat s p
  | 0, [], _ => by decide
  | p + 1, [], _ => by show 0 / 8 ^ (p + 1) % 8 = 0; rw [Nat.zero_div]
  | 0, x :: t, h => by
    have h2 := h x List.mem_cons_self
    show (x + 8 * zpk t) / 1 % 8 = x
    omega
  | p + 1, x :: t, h => by
    have h2 := h x List.mem_cons_self
    rw [Nat.pow_succ', ← Nat.div_div_eq_div_mul]
    rw [show zpk (x :: t) / 8 = zpk t by show (x + 8 * zpk t) / 8 = _; omega]
    exact zpk_at p t (fun y hy => h y (List.mem_cons_of_mem _ hy))
theorem zat_lt {s : List Nat} (h : ∀ x ∈ s, x < 8) (p : Nat) : zat s p < 8 := by
  rw [← zpk_at p s h]; exact Nat.mod_lt _ (by decide)
theorem zat_mem : ∀ (s : List Nat) (p : Nat), p < s.length → zat s p ∈ s
  | x :: t, 0, _ => List.mem_cons_self
  | x :: t, p + 1, h => List.mem_cons_of_mem _ (zat_mem t p (by simpa using h))
theorem zat_drop : ∀ (s : List Nat) (p : Nat), p < s.length → s.drop p = zat s p :: s.drop (p + 1)
  | x :: t, 0, _ => rfl
  | x :: t, p + 1, h => by
    show t.drop p = zat t p :: t.drop (p + 1)
    exact zat_drop t p (by simpa using h)
theorem zix_le (i : Nat) : ∀ s : List Nat, zix i s ≤ s.length
  | [] => Nat.le_refl _
  | x :: t => by
    unfold zix
    have := zix_le i t
    split
    · exact Nat.zero_le _
    · rw [List.length_cons]; omega
theorem zix_lt {i : Nat} : ∀ {s : List Nat}, i ∈ s → zix i s < s.length
  | x :: t, h => by
    unfold zix
    split
    · exact Nat.succ_pos _
    · next hx =>
      have : i ∈ t := by
        rcases List.mem_cons.mp h with h | h
        · exact absurd h.symm hx
        · exact h
      have := zix_lt this
      rw [List.length_cons]; omega
theorem zix_ge {i : Nat} : ∀ {s : List Nat}, ¬ i ∈ s → zix i s = s.length
  | [], _ => rfl
  | x :: t, h => by
    unfold zix
    rw [if_neg (fun e : x = i => h (e ▸ List.mem_cons_self)), zix_ge (fun e => h (List.mem_cons_of_mem _ e)), List.length_cons]
theorem zat_ix {i : Nat} : ∀ {s : List Nat}, i ∈ s → zat s (zix i s) = i
  | x :: t, h => by
    unfold zix
    split
    · next hx => exact hx
    · next hx =>
      have : i ∈ t := by
        rcases List.mem_cons.mp h with h | h
        · exact absurd h.symm hx
        · exact h
      exact zat_ix this
theorem zix_at : ∀ {s : List Nat} {p : Nat}, s.Nodup → p < s.length → zix (zat s p) s = p
  | x :: t, 0, _, _ => by unfold zat zix; rw [if_pos rfl]
  | x :: t, p + 1, hn, h => by
    have h' : p < t.length := by simpa using h
    have hn' := List.nodup_cons.mp hn
    show zix (zat t p) (x :: t) = p + 1
    unfold zix
    rw [if_neg (fun e : x = zat t p => hn'.1 (by rw [e]; exact zat_mem t p h')), zix_at hn'.2 h']
theorem zrm_mem {i y : Nat} : ∀ {s : List Nat}, y ∈ zrm i s → y ∈ s
  | x :: t, h => by
    unfold zrm at h
    split at h
    · exact List.mem_cons_of_mem _ h
    · rcases List.mem_cons.mp h with h | h
      · exact h ▸ List.mem_cons_self
      · exact List.mem_cons_of_mem _ (zrm_mem h)
theorem zrm_len {i : Nat} : ∀ {s : List Nat}, i ∈ s → (zrm i s).length + 1 = s.length
  | x :: t, h => by
    unfold zrm
    split
    · rfl
    · next hx =>
      have : i ∈ t := by
        rcases List.mem_cons.mp h with h | h
        · exact absurd h.symm hx
        · exact h
      rw [List.length_cons, List.length_cons, zrm_len this]
theorem zin_mem {i y : Nat} : ∀ {p : Nat} {s : List Nat}, y ∈ zin i p s ↔ y = i ∨ y ∈ s
  | 0, s => List.mem_cons
  | p + 1, [] => by unfold zin; exact List.mem_cons
  | p + 1, x :: t => by
    unfold zin
    rw [List.mem_cons, zin_mem, List.mem_cons]
    constructor
    · rintro (h | h | h)
      · exact Or.inr (Or.inl h)
      · exact Or.inl h
      · exact Or.inr (Or.inr h)
    · rintro (h | h | h)
      · exact Or.inr (Or.inl h)
      · exact Or.inl h
      · exact Or.inr (Or.inr h)
theorem zin_len {i : Nat} : ∀ {p : Nat} {s : List Nat}, (zin i p s).length = s.length + 1
  | 0, s => rfl
  | p + 1, [] => rfl
  | p + 1, x :: t => by unfold zin; rw [List.length_cons, zin_len, List.length_cons]
theorem zmv_len {i p : Nat} {s : List Nat} (h : i ∈ s) : (zmv i p s).length = s.length := by
  unfold zmv; rw [zin_len, zrm_len h]
theorem zrm_ne {i : Nat} : ∀ {s : List Nat}, s.Nodup → ¬ i ∈ zrm i s
  | [], _ => by intro h; cases h
  | x :: t, hn => by
    have hn' := List.nodup_cons.mp hn
    unfold zrm
    split
    · next hx => rw [← hx]; exact hn'.1
    · next hx =>
      intro h
      rcases List.mem_cons.mp h with h | h
      · exact hx h.symm
      · exact zrm_ne hn'.2 h
theorem zrm_of {i y : Nat} : ∀ {s : List Nat}, y ∈ s → y ≠ i → y ∈ zrm i s
  | x :: t, h, hy => by
    unfold zrm
    rcases List.mem_cons.mp h with h | h
    · subst h; rw [if_neg hy]; exact List.mem_cons_self
    · split
      · exact h
      · exact List.mem_cons_of_mem _ (zrm_of h hy)
theorem zrm_nd {i : Nat} : ∀ {s : List Nat}, s.Nodup → (zrm i s).Nodup
  | [], h => h
  | x :: t, hn => by
    have hn' := List.nodup_cons.mp hn
    unfold zrm
    split
    · exact hn'.2
    · exact List.nodup_cons.mpr ⟨fun h => hn'.1 (zrm_mem h), zrm_nd hn'.2⟩
theorem zin_nd {i : Nat} : ∀ {p : Nat} {s : List Nat}, s.Nodup → ¬ i ∈ s → (zin i p s).Nodup
  | 0, s, h, hi => List.nodup_cons.mpr ⟨hi, h⟩
  | p + 1, [], h, hi => by unfold zin; exact List.nodup_cons.mpr ⟨hi, h⟩
  | p + 1, x :: t, h, hi => by
    have hn' := List.nodup_cons.mp h
    unfold zin
    refine List.nodup_cons.mpr ⟨fun e => ?_, zin_nd hn'.2 (fun e => hi (List.mem_cons_of_mem _ e))⟩
    rcases zin_mem.mp e with e | e
    · exact hi (e ▸ List.mem_cons_self)
    · exact hn'.1 e
theorem zmv_mem {i p y : Nat} {s : List Nat} (h : i ∈ s) : y ∈ zmv i p s ↔ y ∈ s := by
  unfold zmv
  rw [zin_mem]
  constructor
  · rintro (e | e)
    · exact e ▸ h
    · exact zrm_mem e
  · intro e
    by_cases hy : y = i
    · exact Or.inl hy
    · exact Or.inr (zrm_of e hy)
theorem zmv_nd {i p : Nat} {s : List Nat} (h : s.Nodup) : (zmv i p s).Nodup := zin_nd (zrm_nd h) (zrm_ne h)
theorem zat_in {i : Nat} : ∀ {p : Nat} {s : List Nat}, p ≤ s.length → zat (zin i p s) p = i
  | 0, s, _ => rfl
  | p + 1, x :: t, h => zat_in (p := p) (s := t) (by simpa using h)
theorem zix_mv {i p : Nat} {s : List Nat} (hs : s.Nodup) (h : i ∈ s) (hp : p < s.length) : zix i (zmv i p s) = p := by
  have h1 : zat (zmv i p s) p = i := zat_in (by have := zrm_len h; omega)
  have h2 := zix_at (p := p) (zmv_nd (i := i) (p := p) hs) (by rw [zmv_len h]; exact hp)
  rw [h1] at h2; exact h2
theorem zor {a b p : Nat} (h : a < 8 ^ p) : a ||| b * 8 ^ p = a + b * 8 ^ p := by
  rw [← z8] at h ⊢
  have := Nat.two_pow_add_eq_or_of_lt h b
  rw [Nat.mul_comm b, Nat.or_comm, ← this, Nat.add_comm]
theorem zpk_rm {i : Nat} : ∀ {s : List Nat}, (∀ x ∈ s, x < 8) → i ∈ s → zpk s % 8 ^ zix i s + zpk s / 8 ^ (zix i s + 1) * 8 ^ zix i s = zpk (zrm i s)
  | x :: t, h8, h => by
    have hx8 := h8 x List.mem_cons_self
    unfold zix zrm
    split
    · show (x + 8 * zpk t) % 1 + (x + 8 * zpk t) / 8 * 1 = zpk t
      omega
    · next hx =>
      have hm : i ∈ t := by
        rcases List.mem_cons.mp h with h | h
        · exact absurd h.symm hx
        · exact h
      have ih := zpk_rm (fun y hy => h8 y (List.mem_cons_of_mem _ hy)) hm
      show zpk (x :: t) % 8 ^ (zix i t + 1) + zpk (x :: t) / 8 ^ (zix i t + 1 + 1) * 8 ^ (zix i t + 1) = x + 8 * zpk (zrm i t)
      rw [← ih]
      generalize zix i t = f
      rw [Nat.pow_succ' (n := f + 1), Nat.pow_succ' (n := f), Nat.mod_mul, ← Nat.div_div_eq_div_mul]
      rw [show zpk (x :: t) / 8 = zpk t by show (x + 8 * zpk t) / 8 = _; omega]
      rw [show zpk (x :: t) % 8 = x by show (x + 8 * zpk t) % 8 = _; omega]
      rw [Nat.mul_left_comm, ← Nat.pow_succ', Nat.mul_add, Nat.add_assoc]
theorem zpk_in {i : Nat} : ∀ {p : Nat} {s : List Nat}, (∀ x ∈ s, x < 8) → p ≤ s.length → zpk s % 8 ^ p + i * 8 ^ p + zpk s / 8 ^ p * 8 ^ (p + 1) = zpk (zin i p s)
  | 0, s, h8, _ => by
    show zpk s % 1 + i * 1 + zpk s / 1 * 8 = i + 8 * zpk s
    omega
  | p + 1, x :: t, h8, h => by
    have hx8 := h8 x List.mem_cons_self
    have ih := zpk_in (i := i) (p := p) (s := t) (fun y hy => h8 y (List.mem_cons_of_mem _ hy)) (by simpa using h)
    show zpk (x :: t) % 8 ^ (p + 1) + i * 8 ^ (p + 1) + zpk (x :: t) / 8 ^ (p + 1) * 8 ^ (p + 1 + 1) = x + 8 * zpk (zin i p t)
    rw [← ih]
    rw [Nat.pow_succ' (n := p + 1), Nat.pow_succ' (n := p), Nat.mod_mul, ← Nat.div_div_eq_div_mul]
    rw [show zpk (x :: t) / 8 = zpk t by show (x + 8 * zpk t) / 8 = _; omega]
    rw [show zpk (x :: t) % 8 = x by show (x + 8 * zpk t) % 8 = _; omega]
    rw [Nat.mul_add, Nat.mul_add, Nat.mul_left_comm i 8, Nat.mul_left_comm _ 8 (8 * 8 ^ p)]
    simp only [Nat.add_assoc]
/-! what the packed orders answer -/
section ZO
variable {I : Nat → Nat → Int32} {J : Nat → Nat → Int64}
theorem eD_whoAt {o p : Nat} (ho : o < 2147483648) (hp : p ≤ 6) : fD_whoAt (qn o) (qn p) I J = some (qn (o / 8 ^ p % 8), I, J) := by
  unfold fD_whoAt
  have e : ∀ x : Nat, x &&& 7 = x % 8 := fun x => Nat.and_two_pow_sub_one_eq_mod x 3
  simp (disch := omega) only [z8, e, qn_l0, qn_l1, qn_l2, qn_l3, qn_l4, qn_l5, qn_l6, qn_l7, qn_l8, qn_l9, qn_l10, qn_l11, qn_l12, qn_l13, qn_l14, qn_l15, qn_l16, qn_l17, qn_l18, qn_l19, qn_l20, qn_l21, qn_l22, qn_l23, qn_l24, qn_l26, qn_l27, qn_l28, qn_l31, qn_l32, qn_l33, qn_l34, qn_l36, qn_l37, qn_l38, qn_l39, qn_l40, qn_l47, qn_l48, qn_l49, qn_l50, qn_l51, qn_l54, qn_l55, qn_l56, qn_l57, qn_l60, qn_l63, qn_l64, qn_l69, qn_l70, qn_l75, qn_l99, qn_l100, qn_l103, qn_l111, qn_l112, qn_l113, qn_l115, qn_l117, qn_l120, qn_l127, qn_l128, qn_l200, qn_l225, qn_l240, qn_l255, qn_l256, qn_l300, qn_l720, qn_l1000, qn_l48271, qn_l1000000, qn_l2147483646, qn_l2147483647, qn_add, qn_mul, qn_sub, qn_addneg, qn_div, qn_mod, qn_modn, qn_lt, qn_le, qn_eq, qn_nat, qn_m1, qn_m1', qn_c1, qn_g1, qn_g1', qn_c1', qn_and, qn_or, qn_shl1, qn_shr1, qn_64, ql_32, ql_add, ql_mul, ql_sub, ql_div, ql_mod, ql_lt, ql_le, ql_eq, ql_l0, ql_l1, qp_gd_T, qp_bd_t, ↓reduceIte, qt_le, qf_le, qt_lt, qf_lt, qt_eq, qf_eq, and_self, not_true_eq_false, not_false_eq_true, true_and, and_true, or_true, true_or, or_false, false_or, and_false, false_and, Nat.reduceAdd, Nat.reduceMul, Nat.reduceSub, Nat.reduceDiv, Nat.reduceMod, Nat.reducePow, Nat.zero_add, Nat.add_zero, Nat.zero_le, Nat.mul_zero, Nat.zero_mul, qm_nk, qm_eq, qm_nj]
theorem eD_ahead {o p : Nat} (hp : p ≤ 6) : fD_ahead (qn o) (qn p) I J = some (qn (o % 8 ^ p), I, J) := by
  unfold fD_ahead
  have h0 : 0 < 8 ^ p := Nat.pow_pos (by decide)
  have e : o &&& 8 ^ p - 1 = o % 8 ^ p := by rw [← z8]; exact Nat.and_two_pow_sub_one_eq_mod o (3 * p)
  simp (disch := omega) only [z8, Nat.one_mul, e, qn_l0, qn_l1, qn_l2, qn_l3, qn_l4, qn_l5, qn_l6, qn_l7, qn_l8, qn_l9, qn_l10, qn_l11, qn_l12, qn_l13, qn_l14, qn_l15, qn_l16, qn_l17, qn_l18, qn_l19, qn_l20, qn_l21, qn_l22, qn_l23, qn_l24, qn_l26, qn_l27, qn_l28, qn_l31, qn_l32, qn_l33, qn_l34, qn_l36, qn_l37, qn_l38, qn_l39, qn_l40, qn_l47, qn_l48, qn_l49, qn_l50, qn_l51, qn_l54, qn_l55, qn_l56, qn_l57, qn_l60, qn_l63, qn_l64, qn_l69, qn_l70, qn_l75, qn_l99, qn_l100, qn_l103, qn_l111, qn_l112, qn_l113, qn_l115, qn_l117, qn_l120, qn_l127, qn_l128, qn_l200, qn_l225, qn_l240, qn_l255, qn_l256, qn_l300, qn_l720, qn_l1000, qn_l48271, qn_l1000000, qn_l2147483646, qn_l2147483647, qn_add, qn_mul, qn_sub, qn_addneg, qn_div, qn_mod, qn_modn, qn_lt, qn_le, qn_eq, qn_nat, qn_m1, qn_m1', qn_c1, qn_g1, qn_g1', qn_c1', qn_and, qn_or, qn_shl1, qn_shr1, qn_64, ql_32, ql_add, ql_mul, ql_sub, ql_div, ql_mod, ql_lt, ql_le, ql_eq, ql_l0, ql_l1, qp_gd_T, qp_bd_t, ↓reduceIte, qt_le, qf_le, qt_lt, qf_lt, qt_eq, qf_eq, and_self, not_true_eq_false, not_false_eq_true, true_and, and_true, or_true, true_or, or_false, false_or, and_false, false_and, Nat.reduceAdd, Nat.reduceMul, Nat.reduceSub, Nat.reduceDiv, Nat.reduceMod, Nat.reducePow, Nat.zero_add, Nat.add_zero, Nat.zero_le, Nat.mul_zero, Nat.zero_mul, qm_nk, qm_eq, qm_nj]
theorem eD_behind {o p : Nat} (ho : o < 2147483648) (hp : p ≤ 6) : fD_behind (qn o) (qn p) I J = some (qn (o / 8 ^ p), I, J) := by
  unfold fD_behind
  simp (disch := omega) only [z8, qn_l0, qn_l1, qn_l2, qn_l3, qn_l4, qn_l5, qn_l6, qn_l7, qn_l8, qn_l9, qn_l10, qn_l11, qn_l12, qn_l13, qn_l14, qn_l15, qn_l16, qn_l17, qn_l18, qn_l19, qn_l20, qn_l21, qn_l22, qn_l23, qn_l24, qn_l26, qn_l27, qn_l28, qn_l31, qn_l32, qn_l33, qn_l34, qn_l36, qn_l37, qn_l38, qn_l39, qn_l40, qn_l47, qn_l48, qn_l49, qn_l50, qn_l51, qn_l54, qn_l55, qn_l56, qn_l57, qn_l60, qn_l63, qn_l64, qn_l69, qn_l70, qn_l75, qn_l99, qn_l100, qn_l103, qn_l111, qn_l112, qn_l113, qn_l115, qn_l117, qn_l120, qn_l127, qn_l128, qn_l200, qn_l225, qn_l240, qn_l255, qn_l256, qn_l300, qn_l720, qn_l1000, qn_l48271, qn_l1000000, qn_l2147483646, qn_l2147483647, qn_add, qn_mul, qn_sub, qn_addneg, qn_div, qn_mod, qn_modn, qn_lt, qn_le, qn_eq, qn_nat, qn_m1, qn_m1', qn_c1, qn_g1, qn_g1', qn_c1', qn_and, qn_or, qn_shl1, qn_shr1, qn_64, ql_32, ql_add, ql_mul, ql_sub, ql_div, ql_mod, ql_lt, ql_le, ql_eq, ql_l0, ql_l1, qp_gd_T, qp_bd_t, ↓reduceIte, qt_le, qf_le, qt_lt, qf_lt, qt_eq, qf_eq, and_self, not_true_eq_false, not_false_eq_true, true_and, and_true, or_true, true_or, or_false, false_or, and_false, false_and, Nat.reduceAdd, Nat.reduceMul, Nat.reduceSub, Nat.reduceDiv, Nat.reduceMod, Nat.reducePow, Nat.zero_add, Nat.add_zero, Nat.zero_le, Nat.mul_zero, Nat.zero_mul, qm_nk, qm_eq, qm_nj]
theorem eD_with {o p i : Nat} (hp : p ≤ 6) : fD_with (qn o) (qn p) (qn i) I J = some (qn (o ||| i * 8 ^ p), I, J) := by
  unfold fD_with
  simp (disch := omega) only [z8, qn_l0, qn_l1, qn_l2, qn_l3, qn_l4, qn_l5, qn_l6, qn_l7, qn_l8, qn_l9, qn_l10, qn_l11, qn_l12, qn_l13, qn_l14, qn_l15, qn_l16, qn_l17, qn_l18, qn_l19, qn_l20, qn_l21, qn_l22, qn_l23, qn_l24, qn_l26, qn_l27, qn_l28, qn_l31, qn_l32, qn_l33, qn_l34, qn_l36, qn_l37, qn_l38, qn_l39, qn_l40, qn_l47, qn_l48, qn_l49, qn_l50, qn_l51, qn_l54, qn_l55, qn_l56, qn_l57, qn_l60, qn_l63, qn_l64, qn_l69, qn_l70, qn_l75, qn_l99, qn_l100, qn_l103, qn_l111, qn_l112, qn_l113, qn_l115, qn_l117, qn_l120, qn_l127, qn_l128, qn_l200, qn_l225, qn_l240, qn_l255, qn_l256, qn_l300, qn_l720, qn_l1000, qn_l48271, qn_l1000000, qn_l2147483646, qn_l2147483647, qn_add, qn_mul, qn_sub, qn_addneg, qn_div, qn_mod, qn_modn, qn_lt, qn_le, qn_eq, qn_nat, qn_m1, qn_m1', qn_c1, qn_g1, qn_g1', qn_c1', qn_and, qn_or, qn_shl1, qn_shr1, qn_64, ql_32, ql_add, ql_mul, ql_sub, ql_div, ql_mod, ql_lt, ql_le, ql_eq, ql_l0, ql_l1, qp_gd_T, qp_bd_t, ↓reduceIte, qt_le, qf_le, qt_lt, qf_lt, qt_eq, qf_eq, and_self, not_true_eq_false, not_false_eq_true, true_and, and_true, or_true, true_or, or_false, false_or, and_false, false_and, Nat.reduceAdd, Nat.reduceMul, Nat.reduceSub, Nat.reduceDiv, Nat.reduceMod, Nat.reducePow, Nat.zero_add, Nat.add_zero, Nat.zero_le, Nat.mul_zero, Nat.zero_mul, qm_nk, qm_eq, qm_nj]
theorem eD_placeOf_b {s : List Nat} {i : Nat} (h8 : ∀ x ∈ s, x < 8) (hs : s.length ≤ 6) (hi : i < 2147483648) : ∀ (k fuel p : Nat), p + k = s.length → k < fuel → fD_placeOf_b2 fuel (qn (zpk s)) (qn s.length) (qn i) (qn p) I J = some (qn (p + zix i (s.drop p)), I, J) := by
  have hb := zpk_lt6 h8 hs
  intro k
  induction k with
  | zero =>
    intro fuel p h1 h2
    obtain ⟨f, rfl⟩ : ∃ f, fuel = f + 1 := ⟨fuel - 1, by omega⟩
    rw [fD_placeOf_b2, List.drop_of_length_le (by omega)]
    simp (disch := omega) only [zix, qn_l0, qn_l1, qn_l2, qn_l3, qn_l4, qn_l5, qn_l6, qn_l7, qn_l8, qn_l9, qn_l10, qn_l11, qn_l12, qn_l13, qn_l14, qn_l15, qn_l16, qn_l17, qn_l18, qn_l19, qn_l20, qn_l21, qn_l22, qn_l23, qn_l24, qn_l26, qn_l27, qn_l28, qn_l31, qn_l32, qn_l33, qn_l34, qn_l36, qn_l37, qn_l38, qn_l39, qn_l40, qn_l47, qn_l48, qn_l49, qn_l50, qn_l51, qn_l54, qn_l55, qn_l56, qn_l57, qn_l60, qn_l63, qn_l64, qn_l69, qn_l70, qn_l75, qn_l99, qn_l100, qn_l103, qn_l111, qn_l112, qn_l113, qn_l115, qn_l117, qn_l120, qn_l127, qn_l128, qn_l200, qn_l225, qn_l240, qn_l255, qn_l256, qn_l300, qn_l720, qn_l1000, qn_l48271, qn_l1000000, qn_l2147483646, qn_l2147483647, qn_add, qn_mul, qn_sub, qn_addneg, qn_div, qn_mod, qn_modn, qn_lt, qn_le, qn_eq, qn_nat, qn_m1, qn_m1', qn_c1, qn_g1, qn_g1', qn_c1', qn_and, qn_or, qn_shl1, qn_shr1, qn_64, ql_32, ql_add, ql_mul, ql_sub, ql_div, ql_mod, ql_lt, ql_le, ql_eq, ql_l0, ql_l1, qp_gd_T, qp_bd_t, ↓reduceIte, qt_le, qf_le, qt_lt, qf_lt, qt_eq, qf_eq, and_self, not_true_eq_false, not_false_eq_true, true_and, and_true, or_true, true_or, or_false, false_or, and_false, false_and, Nat.reduceAdd, Nat.reduceMul, Nat.reduceSub, Nat.reduceDiv, Nat.reduceMod, Nat.reducePow, Nat.zero_add, Nat.add_zero, Nat.zero_le, Nat.mul_zero, Nat.zero_mul, qm_nk, qm_eq, qm_nj]
  | succ k ih =>
    intro fuel p h1 h2
    obtain ⟨f, rfl⟩ : ∃ f, fuel = f + 1 := ⟨fuel - 1, by omega⟩
    have hz := zat_lt h8 p
    rw [fD_placeOf_b2, zat_drop s p (by omega)]
    simp (disch := omega) only [eD_whoAt, zpk_at p s h8, zix, qn_l0, qn_l1, qn_l2, qn_l3, qn_l4, qn_l5, qn_l6, qn_l7, qn_l8, qn_l9, qn_l10, qn_l11, qn_l12, qn_l13, qn_l14, qn_l15, qn_l16, qn_l17, qn_l18, qn_l19, qn_l20, qn_l21, qn_l22, qn_l23, qn_l24, qn_l26, qn_l27, qn_l28, qn_l31, qn_l32, qn_l33, qn_l34, qn_l36, qn_l37, qn_l38, qn_l39, qn_l40, qn_l47, qn_l48, qn_l49, qn_l50, qn_l51, qn_l54, qn_l55, qn_l56, qn_l57, qn_l60, qn_l63, qn_l64, qn_l69, qn_l70, qn_l75, qn_l99, qn_l100, qn_l103, qn_l111, qn_l112, qn_l113, qn_l115, qn_l117, qn_l120, qn_l127, qn_l128, qn_l200, qn_l225, qn_l240, qn_l255, qn_l256, qn_l300, qn_l720, qn_l1000, qn_l48271, qn_l1000000, qn_l2147483646, qn_l2147483647, qn_add, qn_mul, qn_sub, qn_addneg, qn_div, qn_mod, qn_modn, qn_lt, qn_le, qn_eq, qn_nat, qn_m1, qn_m1', qn_c1, qn_g1, qn_g1', qn_c1', qn_and, qn_or, qn_shl1, qn_shr1, qn_64, ql_32, ql_add, ql_mul, ql_sub, ql_div, ql_mod, ql_lt, ql_le, ql_eq, ql_l0, ql_l1, qp_gd_T, qp_bd_t, ↓reduceIte, qt_le, qf_le, qt_lt, qf_lt, qt_eq, qf_eq, and_self, not_true_eq_false, not_false_eq_true, true_and, and_true, or_true, true_or, or_false, false_or, and_false, false_and, Nat.reduceAdd, Nat.reduceMul, Nat.reduceSub, Nat.reduceDiv, Nat.reduceMod, Nat.reducePow, Nat.zero_add, Nat.add_zero, Nat.zero_le, Nat.mul_zero, Nat.zero_mul, qm_nk, qm_eq, qm_nj]
    by_cases h : zat s p = i
    · rw [if_pos h, if_pos h]; rfl
    · rw [if_neg h, if_neg h, ih f (p + 1) (by omega) (by omega)]
      rw [show p + 1 + zix i (s.drop (p + 1)) = p + (zix i (s.drop (p + 1)) + 1) by omega]
theorem eD_placeOf {s : List Nat} {i : Nat} (h8 : ∀ x ∈ s, x < 8) (hs : s.length ≤ 6) (hi : i < 2147483648) : fD_placeOf (qn (zpk s)) (qn s.length) (qn i) I J = some (qn (zix i s), I, J) := by
  unfold fD_placeOf
  have := eD_placeOf_b (I := I) (J := J) h8 hs hi s.length 100000 0 (by omega) (by omega)
  rw [Nat.zero_add] at this
  exact this
theorem eD_by {s : List Nat} {t : Nat} (h8 : ∀ x ∈ s, x < 8) (hs : s.length ≤ 6) (hi : t / 8 ∈ s) (hp : t % 8 < s.length) : fD_by (qn (zpk s)) (qn s.length) (qn t) I J = some (qn (zpk (zmv (t / 8) (t % 8) s)), I, J) := by
  have hi8 := h8 _ hi
  have hl := zix_lt hi
  have hb := zpk_lt6 h8 hs
  have hr8 : ∀ x ∈ zrm (t / 8) s, x < 8 := fun x hx => h8 x (zrm_mem hx)
  have hrl := zrm_len hi
  have hrb := zpk_lt6 hr8 (by omega)
  have e3 : zpk s % 8 ^ zix (t / 8) s ||| zpk s / 8 ^ (zix (t / 8) s + 1) * 8 ^ zix (t / 8) s = zpk (zrm (t / 8) s) := by
    rw [zor (Nat.mod_lt _ (Nat.pow_pos (by decide))), zpk_rm h8 hi]
  have e4 : zpk (zrm (t / 8) s) % 8 ^ (t % 8) ||| t / 8 * 8 ^ (t % 8) ||| zpk (zrm (t / 8) s) / 8 ^ (t % 8) * 8 ^ (t % 8 + 1) = zpk (zmv (t / 8) (t % 8) s) := by
    have h0 : 0 < 8 ^ (t % 8) := Nat.pow_pos (by decide)
    have hm : zpk (zrm (t / 8) s) % 8 ^ (t % 8) < 8 ^ (t % 8) := Nat.mod_lt _ h0
    rw [zor hm, zor, zpk_in hr8 (by omega)]
    · rfl
    · rw [Nat.pow_succ]
      have : t / 8 * 8 ^ (t % 8) ≤ 7 * 8 ^ (t % 8) := Nat.mul_le_mul_right _ (by omega)
      omega
  have hx6 : zix (t / 8) s ≤ 5 := by omega
  have d1 : qn t / 8 = qn (t / 8) := qn_div (a := t) (b := 8) (by omega) (by omega)
  have d2 : qn t - qn (t / 8) * 8 = qn (t % 8) := by
    show qn t - qn (t / 8) * qn 8 = _
    rw [qn_mul, qn_mod]
  have d3 : ∀ a : Nat, qn a + 1 = qn (a + 1) := fun a => qn_add a 1
  have sh : ∀ a p : Nat, p ≤ 6 → qn a <<< (((3 : Int32) * qn p) &&& 31) = qn (a * 8 ^ p) := by
    intro a p hp
    show qn a <<< (qn 3 * qn p &&& qn 31) = _
    rw [qn_mul, qn_shl (by omega), z8]
  unfold fD_by
  simp only [d1, d2]
  rw [eD_placeOf h8 hs (by omega), qp_bd_t, if_neg (by rw [qn_le (by omega) (by omega)]; omega), if_pos (by rw [qn_lt (by omega) (by omega)]; omega), eD_ahead (by omega), qp_bd_t, d3, eD_behind (by omega) (by omega), qp_bd_t, sh _ _ (by omega), qn_or, e3, eD_ahead (by omega), qp_bd_t, eD_behind (by omega) (by omega), qp_bd_t, sh _ _ (by omega), qn_or, d3, sh _ _ (by omega), qn_or, e4]
end ZO

/-! THE SHELVES -/
def qp_b2 (P : Prop) [Decidable P] : Int32 := if P then 1 else 0
theorem qp_b2_0 {P : Prop} [Decidable P] : qp_b2 P = 0 ↔ ¬ P := by unfold qp_b2; by_cases h : P <;> simp [h]
theorem qp_b2_1 {P : Prop} [Decidable P] : ¬ qp_b2 P = 0 ↔ P := by unfold qp_b2; by_cases h : P <;> simp [h]
theorem qp_b2_nar {P : Prop} [Decidable P] : narrow .boolean (.int (qp_b2 P)) = .int (qp_b2 P) := by unfold qp_b2; by_cases h : P <;> simp [h] <;> rfl
theorem qp_b2_t {P : Prop} [Decidable P] (h : P) : (1 : Int32) = qp_b2 P := by unfold qp_b2; rw [if_pos h]
theorem qp_b2_f {P : Prop} [Decidable P] (h : ¬ P) : (0 : Int32) = qp_b2 P := by unfold qp_b2; rw [if_neg h]
theorem qp_b2_c {P R : Prop} [Decidable P] [Decidable R] (h : P ↔ R) : qp_b2 P = qp_b2 R := by unfold qp_b2; by_cases hp : P <;> simp [hp, ← h]
theorem qp_vin {i c : Int32} {n : Nat} (hc : c.toInt = (n : Int)) (h1 : 0 ≤ i) (h2 : i < c) : vp_in i n := by
  rw [vp_in_iff]
  rw [Int32.le_iff_toInt_le] at h1
  rw [Int32.lt_iff_toInt_lt, hc] at h2
  have e0 : (0 : Int32).toInt = 0 := rfl
  rw [e0] at h1
  exact ⟨h1, h2⟩
theorem qp_clt {i c : Int32} {n : Nat} (hc : c.toInt = (n : Int)) (h1 : 0 ≤ i) (h2 : i < c) : i.toNatClampNeg < n := by
  have h := vp_in_iff.mp (qp_vin hc h1 h2)
  show i.toInt.toNat < n
  omega
theorem qp_ret {r : Option Value} {v w : Int32} (h : v = w) (hr : r = some (.int w)) : some (Value.int v) = r := by rw [hr, h]
theorem qp_E_c {l : Launch} {G : qp_G} {d mi : Nat} {M0 : qp_M} {mc ms : Nat} {Q : Option Value → qp_M → Prop} {c c' : qp_C} (h : c = c') (k : qp_E l G d mi M0 mc ms Q c') : qp_E l G d mi M0 mc ms Q c := h ▸ k
theorem qn_nI {n : Nat} (h : n < 2 ^ 31) : Int32.toNatClampNeg (nI n) = n := nI_clamp h
/-- an int that isn't negative, as a number -/
theorem qn_of {x c : Int32} {n : Nat} (hc : c = nI n) (hn : n < 2 ^ 31) (h1 : 0 ≤ x) (h2 : x < c) : x = nI (Int32.toNatClampNeg x) ∧ Int32.toNatClampNeg x < n := by
  have h0 : ¬ x < 0 := Int32.not_lt.mpr h1
  obtain ⟨j, hj, rfl⟩ := nI_of h0
  rw [hc] at h2
  rw [qn_nI hj]
  exact ⟨rfl, (nI_ltI hj hn).mp h2⟩
theorem qn_ofle {x c : Int32} {n : Nat} (hc : c = nI n) (hn : n < 2 ^ 31) (h1 : 0 ≤ x) (h2 : x ≤ c) : x = nI (Int32.toNatClampNeg x) ∧ Int32.toNatClampNeg x ≤ n := by
  have h0 : ¬ x < 0 := Int32.not_lt.mpr h1
  obtain ⟨j, hj, rfl⟩ := nI_of h0
  rw [hc] at h2
  rw [qn_nI hj]
  exact ⟨rfl, (nI_leI hj hn).mp h2⟩
theorem qp_ix (m N : Nat) (M C : Int32) {r i : Int32} (hM : M = nI m) (hC : C = nI N) (hb : N * m < 2 ^ 31) (hm : m < 2 ^ 31) (hN : N < 2 ^ 31) (h1 : 0 ≤ r) (h2 : r < C) (h3 : 0 ≤ i) (h4 : i < M) : Int32.toNatClampNeg (r * M + i) = m * Int32.toNatClampNeg r + Int32.toNatClampNeg i ∧ 0 ≤ r * M + i ∧ r * M + i < nI (N * m) := by
  obtain ⟨e1, l1⟩ := qn_of hC hN h1 h2
  obtain ⟨e2, l2⟩ := qn_of hM hm h3 h4
  have hlt : Int32.toNatClampNeg r * m + Int32.toNatClampNeg i < N * m := by
    have h5 : (Int32.toNatClampNeg r + 1) * m ≤ N * m := Nat.mul_le_mul_right m l1
    rw [Nat.add_mul, Nat.one_mul] at h5
    omega
  have e3 : r * M + i = nI (Int32.toNatClampNeg r * m + Int32.toNatClampNeg i) := by
    rw [← nI_add, ← pk_mul, ← e1, ← hM, ← e2]
  rw [e3]
  refine ⟨?_, ?_, ?_⟩
  · rw [qn_nI (by omega), Nat.mul_comm]
  · exact nI_pos' (by omega)
  · exact (nI_ltI (by omega) hb).mpr hlt
/-- n places of cell p, from a on, all v -/
def qs_fill (I : Nat → Nat → Int32) (p a n : Nat) (v : Int32) : Nat → Nat → Int32 := fun k q => bif Nat.beq p k && (Nat.ble a q && Nat.blt q (a + n)) then v else I k q
theorem qs_fill_0 {I : Nat → Nat → Int32} {p a : Nat} {v : Int32} : qs_fill I p a 0 v = I := by
  funext k q
  unfold qs_fill
  have : (Nat.ble a q && Nat.blt q (a + 0)) = false := by
    cases h1 : Nat.ble a q with
    | false => rfl
    | true =>
      cases h2 : Nat.blt q (a + 0) with
      | false => rfl
      | true => have := Nat.le_of_ble_eq_true h1; have := qp_blt h2; omega
  rw [this, Bool.and_false]
  rfl
theorem qp_blt_t {a b : Nat} (h : a < b) : Nat.blt a b = true := Nat.ble_eq_true_of_le h
theorem qp_blt_f {a b : Nat} (h : ¬ a < b) : Nat.blt a b = false := Bool.eq_false_iff.mpr fun q => h (qp_blt q)
theorem qp_ble_f {a b : Nat} (h : ¬ a ≤ b) : Nat.ble a b = false := Bool.eq_false_iff.mpr fun q => h (Nat.le_of_ble_eq_true q)
theorem qp_beq_f {a b : Nat} (h : ¬ a = b) : Nat.beq a b = false := Bool.eq_false_iff.mpr fun q => h (Nat.eq_of_beq_eq_true q)
theorem qs_fill_s {I : Nat → Nat → Int32} {p a n : Nat} {v : Int32} {j : Nat} (hj : j = a + n) : qp_up (qs_fill I p a n v) p j v = qs_fill I p a (n + 1) v := by
  subst hj
  funext k q
  by_cases hk : p = k
  · subst hk
    by_cases hq : q = a + n
    · subst hq
      rw [qp_up_eq]
      unfold qs_fill
      rw [Nat.beq_refl, Nat.ble_eq_true_of_le (Nat.le_add_right a n), qp_blt_t (by omega)]
      rfl
    · rw [qp_up_nj hq]
      unfold qs_fill
      have : (Nat.blt q (a + n)) = (Nat.blt q (a + (n + 1))) := by
        by_cases h : q < a + n
        · rw [qp_blt_t h, qp_blt_t (by omega)]
        · rw [qp_blt_f h, qp_blt_f (by omega)]
      rw [this]
  · rw [qp_up_ne (fun h => hk h.symm)]
    unfold qs_fill
    rw [qp_beq_f hk]
    rfl
/-- what a shelf keeps: its constant, its sizes between -1 and that -/
def qs_ok (b sz num : Nat) (most : Int32) (I : Nat → Nat → Int32) : Prop := I b 0 = most ∧ ∀ k, k < num → -1 ≤ I sz k ∧ I sz k ≤ most

theorem qs_isNumber1 (l : Launch) (G : qp_G) (r : Int32) (I : Nat → Nat → Int32) (J : Nat → Nat → Int64)  {d : Nat} (hd : 1 ≤ d) : qp_Met l G d 13 [.ref 1, .int r] (qp_mk I J) 0 0 (qp_R8 (some (.int (qp_b2 (0 ≤ r ∧ r < 6)))) I J) := by
  have hd1 : Nat.ble 1 d = true := Nat.ble_eq_true_of_le (Nat.le_trans (by decide) hd)
  refine qp_Met_of (by decide) (by rw [qp_r13.2]; rfl) [some (.ref 1), some (.int r)] (by rw [qp_r13.2]; rfl) ?_
  refine qp_run_E qp_ok13 1 (c' := (1, [some (.ref 1), some (.int r)], [.int r], qp_mk I J)) (by with_unfolding_all rfl) hd1 trivial ?_
  refine qp_br_E qp_ok13 (f := r < 0) (ct := (17, [some (.ref 1), some (.int r)], [], qp_mk I J)) (cf := (4, [some (.ref 1), some (.int r)], [], qp_mk I J)) (by with_unfolding_all rfl) (fun h1 => ?_) (fun h1 => ?_)
  · refine qp_run_E qp_ok13 1 (c' := (18, [some (.ref 1), some (.int r)], [.int 0], qp_mk I J)) (by with_unfolding_all rfl) hd1 trivial ?_
    exact qp_retZ_E qp_ok13 rfl qp_r13.1 (by first | rfl | exact qp_b2_nar) ⟨rfl, rfl⟩ ⟨congrArg (fun z => some (Value.int z)) (by first | rfl | exact qp_b2_t (by grind) | exact qp_b2_f (by grind) | exact qp_b2_c (by grind)), rfl⟩
  · refine qp_run_E qp_ok13 4 (c' := (10, [some (.ref 1), some (.int r)], [.int 6, .int r], qp_mk I J)) (by with_unfolding_all rfl) hd1 trivial ?_
    refine qp_br_E qp_ok13 (f := 6 ≤ r) (ct := (17, [some (.ref 1), some (.int r)], [], qp_mk I J)) (cf := (13, [some (.ref 1), some (.int r)], [], qp_mk I J)) (by with_unfolding_all rfl) (fun h2 => ?_) (fun h2 => ?_)
    · refine qp_run_E qp_ok13 1 (c' := (18, [some (.ref 1), some (.int r)], [.int 0], qp_mk I J)) (by with_unfolding_all rfl) hd1 trivial ?_
      exact qp_retZ_E qp_ok13 rfl qp_r13.1 (by first | rfl | exact qp_b2_nar) ⟨rfl, rfl⟩ ⟨congrArg (fun z => some (Value.int z)) (by first | rfl | exact qp_b2_t (by grind) | exact qp_b2_f (by grind) | exact qp_b2_c (by grind)), rfl⟩
    · refine qp_run_E qp_ok13 2 (c' := (18, [some (.ref 1), some (.int r)], [.int 1], qp_mk I J)) (by with_unfolding_all rfl) hd1 trivial ?_
      exact qp_retZ_E qp_ok13 rfl qp_r13.1 (by first | rfl | exact qp_b2_nar) ⟨rfl, rfl⟩ ⟨congrArg (fun z => some (Value.int z)) (by first | rfl | exact qp_b2_t (by grind) | exact qp_b2_f (by grind) | exact qp_b2_c (by grind)), rfl⟩

theorem qs_sizeOf1 (l : Launch) (G : qp_G) (r : Int32) (I : Nat → Nat → Int32) (J : Nat → Nat → Int64)  {d : Nat} (hd : 2 ≤ d) : qp_Met l G d 20 [.ref 1, .int r] (qp_mk I J) 0 0 (qp_R8 (some (.int (if (0 ≤ r ∧ r < 6) then (I 2 (Int32.toNatClampNeg r)) else -1))) I J) := by
  have hd1 : Nat.ble 1 d = true := Nat.ble_eq_true_of_le (Nat.le_trans (by decide) hd)
  refine qp_Met_of (by decide) (by rw [qp_r20.2]; rfl) [some (.ref 1), some (.int r)] (by rw [qp_r20.2]; rfl) ?_
  refine qp_run_E qp_ok20 2 (c' := (2, [some (.ref 1), some (.int r)], [.int r, .ref 1], qp_mk I J)) (by with_unfolding_all rfl) hd1 trivial ?_
  refine qp_cV qp_ok20 (rest := []) (oj := 1) qp_f13 rfl rfl (qs_isNumber1 l G r I J  (Nat.le_refl 1)) rfl rfl rfl rfl (Nat.le_trans (by decide) hd) ?_
  refine qp_br_E qp_ok20 (f := (qp_b2 (0 ≤ r ∧ r < 6)) = 0) (ct := (17, [some (.ref 1), some (.int r)], [], qp_mk I J)) (cf := (8, [some (.ref 1), some (.int r)], [], qp_mk I J)) (by with_unfolding_all rfl) (fun h1 => ?_) (fun h1 => ?_)
  · have h1 := qp_b2_0.mp h1
    refine qp_run_E qp_ok20 1 (c' := (18, [some (.ref 1), some (.int r)], [.int (-1)], qp_mk I J)) (by with_unfolding_all rfl) hd1 trivial ?_
    exact qp_retI_E qp_ok20 rfl qp_r20.1 ⟨rfl, rfl⟩ ⟨congrArg (fun z => some (Value.int z)) (by first | rw [if_pos (by assumption)] | rw [if_neg (by assumption)]), rfl⟩
  · have h1 := qp_b2_1.mp h1
    refine qp_run_E qp_ok20 5 (f := vp_in r 6 ∧ True) (c' := (18, [some (.ref 1), some (.int r)], [.int (I 2 (Int32.toNatClampNeg r))], qp_mk I J)) (by with_unfolding_all rfl) hd1 ⟨(qp_vin (c := 6) (by decide) (by grind) (by grind)), trivial⟩ ?_
    exact qp_retI_E qp_ok20 rfl qp_r20.1 ⟨rfl, rfl⟩ ⟨congrArg (fun z => some (Value.int z)) (by first | rw [if_pos (by assumption)] | rw [if_neg (by assumption)]), rfl⟩

theorem qs_has1 (l : Launch) (G : qp_G) (r : Int32) (I : Nat → Nat → Int32) (J : Nat → Nat → Int64)  {d : Nat} (hd : 3 ≤ d) : qp_Met l G d 19 [.ref 1, .int r] (qp_mk I J) 0 0 (qp_R8 (some (.int (qp_b2 ((0 ≤ r ∧ r < 6) ∧ ¬ (I 2 (Int32.toNatClampNeg r)) = -1)))) I J) := by
  have hd1 : Nat.ble 1 d = true := Nat.ble_eq_true_of_le (Nat.le_trans (by decide) hd)
  refine qp_Met_of (by decide) (by rw [qp_r19.2]; rfl) [some (.ref 1), some (.int r)] (by rw [qp_r19.2]; rfl) ?_
  refine qp_run_E qp_ok19 2 (c' := (2, [some (.ref 1), some (.int r)], [.int r, .ref 1], qp_mk I J)) (by with_unfolding_all rfl) hd1 trivial ?_
  refine qp_cV qp_ok19 (rest := []) (oj := 1) qp_f20 rfl rfl (qs_sizeOf1 l G r I J  (Nat.le_refl 2)) rfl rfl rfl rfl (Nat.le_trans (by decide) hd) ?_
  refine qp_run_E qp_ok19 1 (c' := (6, [some (.ref 1), some (.int r)], [.int (-1), .int (if (0 ≤ r ∧ r < 6) then (I 2 (Int32.toNatClampNeg r)) else -1)], qp_mk I J)) (by with_unfolding_all rfl) hd1 trivial ?_
  refine qp_br_E qp_ok19 (f := (if (0 ≤ r ∧ r < 6) then (I 2 (Int32.toNatClampNeg r)) else -1) = (-1)) (ct := (13, [some (.ref 1), some (.int r)], [], qp_mk I J)) (cf := (9, [some (.ref 1), some (.int r)], [], qp_mk I J)) (by with_unfolding_all rfl) (fun h1 => ?_) (fun h1 => ?_)
  · refine qp_run_E qp_ok19 1 (c' := (14, [some (.ref 1), some (.int r)], [.int 0], qp_mk I J)) (by with_unfolding_all rfl) hd1 trivial ?_
    exact qp_retZ_E qp_ok19 rfl qp_r19.1 (by first | rfl | exact qp_b2_nar) ⟨rfl, rfl⟩ ⟨congrArg (fun z => some (Value.int z)) (by first | rfl | exact qp_b2_t (by grind) | exact qp_b2_f (by grind) | exact qp_b2_c (by grind)), rfl⟩
  · refine qp_run_E qp_ok19 2 (c' := (14, [some (.ref 1), some (.int r)], [.int 1], qp_mk I J)) (by with_unfolding_all rfl) hd1 trivial ?_
    exact qp_retZ_E qp_ok19 rfl qp_r19.1 (by first | rfl | exact qp_b2_nar) ⟨rfl, rfl⟩ ⟨congrArg (fun z => some (Value.int z)) (by first | rfl | exact qp_b2_t (by grind) | exact qp_b2_f (by grind) | exact qp_b2_c (by grind)), rfl⟩

theorem qs_hasPlace1 (l : Launch) (G : qp_G) (r : Int32) (i : Int32) (I : Nat → Nat → Int32) (J : Nat → Nat → Int64)  {d : Nat} (hd : 2 ≤ d) : qp_Met l G d 21 [.ref 1, .int r, .int i] (qp_mk I J) 0 0 (qp_R8 (some (.int (qp_b2 ((0 ≤ r ∧ r < 6) ∧ 0 ≤ i ∧ i < (I 2 (Int32.toNatClampNeg r)))))) I J) := by
  have hd1 : Nat.ble 1 d = true := Nat.ble_eq_true_of_le (Nat.le_trans (by decide) hd)
  refine qp_Met_of (by decide) (by rw [qp_r21.2]; rfl) [some (.ref 1), some (.int r), some (.int i)] (by rw [qp_r21.2]; rfl) ?_
  refine qp_run_E qp_ok21 2 (c' := (2, [some (.ref 1), some (.int r), some (.int i)], [.int r, .ref 1], qp_mk I J)) (by with_unfolding_all rfl) hd1 trivial ?_
  refine qp_cV qp_ok21 (rest := []) (oj := 1) qp_f13 rfl rfl (qs_isNumber1 l G r I J  (Nat.le_refl 1)) rfl rfl rfl rfl (Nat.le_trans (by decide) hd) ?_
  refine qp_br_E qp_ok21 (f := (qp_b2 (0 ≤ r ∧ r < 6)) = 0) (ct := (26, [some (.ref 1), some (.int r), some (.int i)], [], qp_mk I J)) (cf := (8, [some (.ref 1), some (.int r), some (.int i)], [], qp_mk I J)) (by with_unfolding_all rfl) (fun h1 => ?_) (fun h1 => ?_)
  · have h1 := qp_b2_0.mp h1
    refine qp_run_E qp_ok21 1 (c' := (27, [some (.ref 1), some (.int r), some (.int i)], [.int 0], qp_mk I J)) (by with_unfolding_all rfl) hd1 trivial ?_
    exact qp_retZ_E qp_ok21 rfl qp_r21.1 (by first | rfl | exact qp_b2_nar) ⟨rfl, rfl⟩ ⟨congrArg (fun z => some (Value.int z)) (by first | rfl | exact qp_b2_t (by grind) | exact qp_b2_f (by grind) | exact qp_b2_c (by grind)), rfl⟩
  · have h1 := qp_b2_1.mp h1
    refine qp_run_E qp_ok21 1 (c' := (9, [some (.ref 1), some (.int r), some (.int i)], [.int i], qp_mk I J)) (by with_unfolding_all rfl) hd1 trivial ?_
    refine qp_br_E qp_ok21 (f := i < 0) (ct := (26, [some (.ref 1), some (.int r), some (.int i)], [], qp_mk I J)) (cf := (12, [some (.ref 1), some (.int r), some (.int i)], [], qp_mk I J)) (by with_unfolding_all rfl) (fun h2 => ?_) (fun h2 => ?_)
    · refine qp_run_E qp_ok21 1 (c' := (27, [some (.ref 1), some (.int r), some (.int i)], [.int 0], qp_mk I J)) (by with_unfolding_all rfl) hd1 trivial ?_
      exact qp_retZ_E qp_ok21 rfl qp_r21.1 (by first | rfl | exact qp_b2_nar) ⟨rfl, rfl⟩ ⟨congrArg (fun z => some (Value.int z)) (by first | rfl | exact qp_b2_t (by grind) | exact qp_b2_f (by grind) | exact qp_b2_c (by grind)), rfl⟩
    · refine qp_run_E qp_ok21 5 (f := vp_in r 6 ∧ True) (c' := (19, [some (.ref 1), some (.int r), some (.int i)], [.int (I 2 (Int32.toNatClampNeg r)), .int i], qp_mk I J)) (by with_unfolding_all rfl) hd1 ⟨(qp_vin (c := 6) (by decide) (by grind) (by grind)), trivial⟩ ?_
      refine qp_br_E qp_ok21 (f := (I 2 (Int32.toNatClampNeg r)) ≤ i) (ct := (26, [some (.ref 1), some (.int r), some (.int i)], [], qp_mk I J)) (cf := (22, [some (.ref 1), some (.int r), some (.int i)], [], qp_mk I J)) (by with_unfolding_all rfl) (fun h3 => ?_) (fun h3 => ?_)
      · refine qp_run_E qp_ok21 1 (c' := (27, [some (.ref 1), some (.int r), some (.int i)], [.int 0], qp_mk I J)) (by with_unfolding_all rfl) hd1 trivial ?_
        exact qp_retZ_E qp_ok21 rfl qp_r21.1 (by first | rfl | exact qp_b2_nar) ⟨rfl, rfl⟩ ⟨congrArg (fun z => some (Value.int z)) (by first | rfl | exact qp_b2_t (by grind) | exact qp_b2_f (by grind) | exact qp_b2_c (by grind)), rfl⟩
      · refine qp_run_E qp_ok21 2 (c' := (27, [some (.ref 1), some (.int r), some (.int i)], [.int 1], qp_mk I J)) (by with_unfolding_all rfl) hd1 trivial ?_
        exact qp_retZ_E qp_ok21 rfl qp_r21.1 (by first | rfl | exact qp_b2_nar) ⟨rfl, rfl⟩ ⟨congrArg (fun z => some (Value.int z)) (by first | rfl | exact qp_b2_t (by grind) | exact qp_b2_f (by grind) | exact qp_b2_c (by grind)), rfl⟩

theorem qs_hasSpan1 (l : Launch) (G : qp_G) (r : Int32) (i : Int32) (n : Int32) (I : Nat → Nat → Int32) (J : Nat → Nat → Int64)  {d : Nat} (hd : 4 ≤ d) : qp_Met l G d 29 [.ref 1, .int r, .int i, .int n] (qp_mk I J) 0 0 (qp_R8 (some (.int (qp_b2 (((0 ≤ r ∧ r < 6) ∧ ¬ (I 2 (Int32.toNatClampNeg r)) = -1) ∧ 0 ≤ n ∧ 0 ≤ i ∧ i ≤ (I 2 (Int32.toNatClampNeg r)) - n)))) I J) := by
  have hd1 : Nat.ble 1 d = true := Nat.ble_eq_true_of_le (Nat.le_trans (by decide) hd)
  refine qp_Met_of (by decide) (by rw [qp_r29.2]; rfl) [some (.ref 1), some (.int r), some (.int i), some (.int n)] (by rw [qp_r29.2]; rfl) ?_
  refine qp_run_E qp_ok29 2 (c' := (2, [some (.ref 1), some (.int r), some (.int i), some (.int n)], [.int r, .ref 1], qp_mk I J)) (by with_unfolding_all rfl) hd1 trivial ?_
  refine qp_cV qp_ok29 (rest := []) (oj := 1) qp_f19 rfl rfl (qs_has1 l G r I J  (Nat.le_refl 3)) rfl rfl rfl rfl (Nat.le_trans (by decide) hd) ?_
  refine qp_br_E qp_ok29 (f := (qp_b2 ((0 ≤ r ∧ r < 6) ∧ ¬ (I 2 (Int32.toNatClampNeg r)) = -1)) = 0) (ct := (31, [some (.ref 1), some (.int r), some (.int i), some (.int n)], [], qp_mk I J)) (cf := (8, [some (.ref 1), some (.int r), some (.int i), some (.int n)], [], qp_mk I J)) (by with_unfolding_all rfl) (fun h1 => ?_) (fun h1 => ?_)
  · have h1 := qp_b2_0.mp h1
    refine qp_run_E qp_ok29 1 (c' := (32, [some (.ref 1), some (.int r), some (.int i), some (.int n)], [.int 0], qp_mk I J)) (by with_unfolding_all rfl) hd1 trivial ?_
    exact qp_retZ_E qp_ok29 rfl qp_r29.1 (by first | rfl | exact qp_b2_nar) ⟨rfl, rfl⟩ ⟨congrArg (fun z => some (Value.int z)) (by first | rfl | exact qp_b2_t (by grind) | exact qp_b2_f (by grind) | exact qp_b2_c (by grind)), rfl⟩
  · have h1 := qp_b2_1.mp h1
    refine qp_run_E qp_ok29 1 (c' := (9, [some (.ref 1), some (.int r), some (.int i), some (.int n)], [.int n], qp_mk I J)) (by with_unfolding_all rfl) hd1 trivial ?_
    refine qp_br_E qp_ok29 (f := n < 0) (ct := (31, [some (.ref 1), some (.int r), some (.int i), some (.int n)], [], qp_mk I J)) (cf := (12, [some (.ref 1), some (.int r), some (.int i), some (.int n)], [], qp_mk I J)) (by with_unfolding_all rfl) (fun h2 => ?_) (fun h2 => ?_)
    · refine qp_run_E qp_ok29 1 (c' := (32, [some (.ref 1), some (.int r), some (.int i), some (.int n)], [.int 0], qp_mk I J)) (by with_unfolding_all rfl) hd1 trivial ?_
      exact qp_retZ_E qp_ok29 rfl qp_r29.1 (by first | rfl | exact qp_b2_nar) ⟨rfl, rfl⟩ ⟨congrArg (fun z => some (Value.int z)) (by first | rfl | exact qp_b2_t (by grind) | exact qp_b2_f (by grind) | exact qp_b2_c (by grind)), rfl⟩
    · refine qp_run_E qp_ok29 1 (c' := (13, [some (.ref 1), some (.int r), some (.int i), some (.int n)], [.int i], qp_mk I J)) (by with_unfolding_all rfl) hd1 trivial ?_
      refine qp_br_E qp_ok29 (f := i < 0) (ct := (31, [some (.ref 1), some (.int r), some (.int i), some (.int n)], [], qp_mk I J)) (cf := (16, [some (.ref 1), some (.int r), some (.int i), some (.int n)], [], qp_mk I J)) (by with_unfolding_all rfl) (fun h3 => ?_) (fun h3 => ?_)
      · refine qp_run_E qp_ok29 1 (c' := (32, [some (.ref 1), some (.int r), some (.int i), some (.int n)], [.int 0], qp_mk I J)) (by with_unfolding_all rfl) hd1 trivial ?_
        exact qp_retZ_E qp_ok29 rfl qp_r29.1 (by first | rfl | exact qp_b2_nar) ⟨rfl, rfl⟩ ⟨congrArg (fun z => some (Value.int z)) (by first | rfl | exact qp_b2_t (by grind) | exact qp_b2_f (by grind) | exact qp_b2_c (by grind)), rfl⟩
      · refine qp_run_E qp_ok29 3 (c' := (19, [some (.ref 1), some (.int r), some (.int i), some (.int n)], [.int r, .ref 1, .int i], qp_mk I J)) (by with_unfolding_all rfl) hd1 trivial ?_
        refine qp_cV qp_ok29 (rest := [.int i]) (oj := 1) qp_f20 rfl rfl (qs_sizeOf1 l G r I J  (Nat.le_refl 2)) rfl rfl rfl rfl (Nat.le_trans (by decide) hd) ?_
        refine qp_run_E qp_ok29 2 (c' := (24, [some (.ref 1), some (.int r), some (.int i), some (.int n)], [.int ((if (0 ≤ r ∧ r < 6) then (I 2 (Int32.toNatClampNeg r)) else -1) - n), .int i], qp_mk I J)) (by with_unfolding_all rfl) hd1 trivial ?_
        refine qp_br_E qp_ok29 (f := ((if (0 ≤ r ∧ r < 6) then (I 2 (Int32.toNatClampNeg r)) else -1) - n) < i) (ct := (31, [some (.ref 1), some (.int r), some (.int i), some (.int n)], [], qp_mk I J)) (cf := (27, [some (.ref 1), some (.int r), some (.int i), some (.int n)], [], qp_mk I J)) (by with_unfolding_all rfl) (fun h4 => ?_) (fun h4 => ?_)
        · refine qp_run_E qp_ok29 1 (c' := (32, [some (.ref 1), some (.int r), some (.int i), some (.int n)], [.int 0], qp_mk I J)) (by with_unfolding_all rfl) hd1 trivial ?_
          exact qp_retZ_E qp_ok29 rfl qp_r29.1 (by first | rfl | exact qp_b2_nar) ⟨rfl, rfl⟩ ⟨congrArg (fun z => some (Value.int z)) (by first | rfl | exact qp_b2_t (by grind) | exact qp_b2_f (by grind) | exact qp_b2_c (by grind)), rfl⟩
        · refine qp_run_E qp_ok29 2 (c' := (32, [some (.ref 1), some (.int r), some (.int i), some (.int n)], [.int 1], qp_mk I J)) (by with_unfolding_all rfl) hd1 trivial ?_
          exact qp_retZ_E qp_ok29 rfl qp_r29.1 (by first | rfl | exact qp_b2_nar) ⟨rfl, rfl⟩ ⟨congrArg (fun z => some (Value.int z)) (by first | rfl | exact qp_b2_t (by grind) | exact qp_b2_f (by grind) | exact qp_b2_c (by grind)), rfl⟩

theorem qs_get1 (l : Launch) (G : qp_G) (r : Int32) (i : Int32) (I : Nat → Nat → Int32) (J : Nat → Nat → Int64) (hk : qs_ok 1 2 6 40 I) {d : Nat} (hd : 3 ≤ d) : qp_Met l G d 22 [.ref 1, .int r, .int i] (qp_mk I J) 0 0 (qp_R8 (some (.int (if ((0 ≤ r ∧ r < 6) ∧ 0 ≤ i ∧ i < (I 2 (Int32.toNatClampNeg r))) then (I 3 (40 * (Int32.toNatClampNeg r) + (Int32.toNatClampNeg i))) else 0))) I J) := by
  have hd1 : Nat.ble 1 d = true := Nat.ble_eq_true_of_le (Nat.le_trans (by decide) hd)
  refine qp_Met_of (by decide) (by rw [qp_r22.2]; rfl) [some (.ref 1), some (.int r), some (.int i)] (by rw [qp_r22.2]; rfl) ?_
  refine qp_run_E qp_ok22 3 (c' := (3, [some (.ref 1), some (.int r), some (.int i)], [.int i, .int r, .ref 1], qp_mk I J)) (by with_unfolding_all rfl) hd1 trivial ?_
  refine qp_cV qp_ok22 (rest := []) (oj := 1) qp_f21 rfl rfl (qs_hasPlace1 l G r i I J  (Nat.le_refl 2)) rfl rfl rfl rfl (Nat.le_trans (by decide) hd) ?_
  refine qp_br_E qp_ok22 (f := (qp_b2 ((0 ≤ r ∧ r < 6) ∧ 0 ≤ i ∧ i < (I 2 (Int32.toNatClampNeg r)))) = 0) (ct := (25, [some (.ref 1), some (.int r), some (.int i)], [], qp_mk I J)) (cf := (9, [some (.ref 1), some (.int r), some (.int i)], [], qp_mk I J)) (by with_unfolding_all rfl) (fun h1 => ?_) (fun h1 => ?_)
  · have h1 := qp_b2_0.mp h1
    refine qp_run_E qp_ok22 1 (c' := (26, [some (.ref 1), some (.int r), some (.int i)], [.int 0], qp_mk I J)) (by with_unfolding_all rfl) hd1 trivial ?_
    exact qp_retI_E qp_ok22 rfl qp_r22.1 ⟨rfl, rfl⟩ ⟨congrArg (fun z => some (Value.int z)) (by first | (rw [if_neg (by assumption)]; done) | (rw [if_pos (by assumption)]; have hk1 := hk.1; have hk2 := hk.2 _ (qp_clt (c := 6) (n := 6) (by decide) h1.1.1 h1.1.2); have hx := qp_ix 40 6 40 6 rfl rfl (by decide) (by decide) (by decide) h1.1.1 h1.1.2 h1.2.1 (by grind); rw [hk1]; exact congrArg (I 3) hx.1)), rfl⟩
  · have h1 := qp_b2_1.mp h1
    refine qp_run_E qp_ok22 10 (f := vp_in ((r * (I 1 0)) + i) 240 ∧ True) (c' := (26, [some (.ref 1), some (.int r), some (.int i)], [.int (I 3 (Int32.toNatClampNeg ((r * (I 1 0)) + i)))], qp_mk I J)) (by with_unfolding_all rfl) hd1 ⟨(qp_vin (c := 240) (by decide) (by have hk1 := hk.1; have hk2 := hk.2 _ (qp_clt (c := 6) (n := 6) (by decide) h1.1.1 h1.1.2); have hx := qp_ix 40 6 40 6 rfl rfl (by decide) (by decide) (by decide) h1.1.1 h1.1.2 h1.2.1 (by grind); rw [hk1]; first | exact hx.2.1 | exact hx.2.2) (by have hk1 := hk.1; have hk2 := hk.2 _ (qp_clt (c := 6) (n := 6) (by decide) h1.1.1 h1.1.2); have hx := qp_ix 40 6 40 6 rfl rfl (by decide) (by decide) (by decide) h1.1.1 h1.1.2 h1.2.1 (by grind); rw [hk1]; first | exact hx.2.1 | exact hx.2.2)), trivial⟩ ?_
    exact qp_retI_E qp_ok22 rfl qp_r22.1 ⟨rfl, rfl⟩ ⟨congrArg (fun z => some (Value.int z)) (by first | (rw [if_neg (by assumption)]; done) | (rw [if_pos (by assumption)]; have hk1 := hk.1; have hk2 := hk.2 _ (qp_clt (c := 6) (n := 6) (by decide) h1.1.1 h1.1.2); have hx := qp_ix 40 6 40 6 rfl rfl (by decide) (by decide) (by decide) h1.1.1 h1.1.2 h1.2.1 (by grind); rw [hk1]; exact congrArg (I 3) hx.1)), rfl⟩

theorem qs_set1 (l : Launch) (G : qp_G) (r : Int32) (i : Int32) (v : Int32) (I : Nat → Nat → Int32) (J : Nat → Nat → Int64) (hk : qs_ok 1 2 6 40 I) (hp : ((0 ≤ r ∧ r < 6) ∧ 0 ≤ i ∧ i < (I 2 (Int32.toNatClampNeg r)))) {d : Nat} (hd : 3 ≤ d) : qp_Met l G d 23 [.ref 1, .int r, .int i, .int v] (qp_mk I J) 0 0 (qp_R8 none (qp_up I 3 (40 * (Int32.toNatClampNeg r) + (Int32.toNatClampNeg i)) v) J) := by
  have hd1 : Nat.ble 1 d = true := Nat.ble_eq_true_of_le (Nat.le_trans (by decide) hd)
  refine qp_Met_of (by decide) (by rw [qp_r23.2]; rfl) [some (.ref 1), some (.int r), some (.int i), some (.int v)] (by rw [qp_r23.2]; rfl) ?_
  refine qp_run_E qp_ok23 3 (c' := (3, [some (.ref 1), some (.int r), some (.int i), some (.int v)], [.int i, .int r, .ref 1], qp_mk I J)) (by with_unfolding_all rfl) hd1 trivial ?_
  refine qp_cV qp_ok23 (rest := []) (oj := 1) qp_f21 rfl rfl (qs_hasPlace1 l G r i I J  (Nat.le_refl 2)) rfl rfl rfl rfl (Nat.le_trans (by decide) hd) ?_
  refine qp_br_E qp_ok23 (f := (qp_b2 ((0 ≤ r ∧ r < 6) ∧ 0 ≤ i ∧ i < (I 2 (Int32.toNatClampNeg r)))) = 0) (ct := (23, [some (.ref 1), some (.int r), some (.int i), some (.int v)], [], qp_mk I J)) (cf := (9, [some (.ref 1), some (.int r), some (.int i), some (.int v)], [], qp_mk I J)) (by with_unfolding_all rfl) (fun h1 => ?_) (fun h1 => ?_)
  · exact absurd (h1) (qp_b2_1.mpr hp)
  · refine qp_run_E qp_ok23 10 (f := vp_in ((r * (I 1 0)) + i) 240 ∧ True) (c' := (23, [some (.ref 1), some (.int r), some (.int i), some (.int v)], [], qp_mk (qp_up I 3 (Int32.toNatClampNeg ((r * (I 1 0)) + i)) v) J)) (by with_unfolding_all rfl) hd1 ⟨(qp_vin (c := 240) (by decide) (by have hk1 := hk.1; have hk2 := hk.2 _ (qp_clt (c := 6) (n := 6) (by decide) hp.1.1 hp.1.2); have hx := qp_ix 40 6 40 6 rfl rfl (by decide) (by decide) (by decide) hp.1.1 hp.1.2 hp.2.1 (by grind); rw [hk1]; first | exact hx.2.1 | exact hx.2.2) (by have hk1 := hk.1; have hk2 := hk.2 _ (qp_clt (c := 6) (n := 6) (by decide) hp.1.1 hp.1.2); have hx := qp_ix 40 6 40 6 rfl rfl (by decide) (by decide) (by decide) hp.1.1 hp.1.2 hp.2.1 (by grind); rw [hk1]; first | exact hx.2.1 | exact hx.2.2)), trivial⟩ ?_
    exact qp_retV_E qp_ok23 rfl qp_r23.1 ⟨rfl, rfl⟩ ⟨rfl, congrArg (fun z => qp_mk z J) (by have hk1 := hk.1; have hk2 := hk.2 _ (qp_clt (c := 6) (n := 6) (by decide) hp.1.1 hp.1.2); have hx := qp_ix 40 6 40 6 rfl rfl (by decide) (by decide) (by decide) hp.1.1 hp.1.2 hp.2.1 (by grind); rw [hk1]; exact congrArg (fun z => qp_up I 3 z v) hx.1)⟩

theorem qs_drop1 (l : Launch) (G : qp_G) (r : Int32) (I : Nat → Nat → Int32) (J : Nat → Nat → Int64) (hp : (0 ≤ r ∧ r < 6)) {d : Nat} (hd : 2 ≤ d) : qp_Met l G d 27 [.ref 1, .int r] (qp_mk I J) 0 0 (qp_R8 none (qp_up I 2 (Int32.toNatClampNeg r) (-1)) J) := by
  have hd1 : Nat.ble 1 d = true := Nat.ble_eq_true_of_le (Nat.le_trans (by decide) hd)
  refine qp_Met_of (by decide) (by rw [qp_r27.2]; rfl) [some (.ref 1), some (.int r)] (by rw [qp_r27.2]; rfl) ?_
  refine qp_run_E qp_ok27 2 (c' := (2, [some (.ref 1), some (.int r)], [.int r, .ref 1], qp_mk I J)) (by with_unfolding_all rfl) hd1 trivial ?_
  refine qp_cV qp_ok27 (rest := []) (oj := 1) qp_f13 rfl rfl (qs_isNumber1 l G r I J  (Nat.le_refl 1)) rfl rfl rfl rfl (Nat.le_trans (by decide) hd) ?_
  refine qp_br_E qp_ok27 (f := (qp_b2 (0 ≤ r ∧ r < 6)) = 0) (ct := (15, [some (.ref 1), some (.int r)], [], qp_mk I J)) (cf := (8, [some (.ref 1), some (.int r)], [], qp_mk I J)) (by with_unfolding_all rfl) (fun h1 => ?_) (fun h1 => ?_)
  · exact absurd (h1) (qp_b2_1.mpr hp)
  · refine qp_run_E qp_ok27 5 (f := vp_in r 6 ∧ True) (c' := (15, [some (.ref 1), some (.int r)], [], qp_mk (qp_up I 2 (Int32.toNatClampNeg r) (-1)) J)) (by with_unfolding_all rfl) hd1 ⟨(qp_vin (c := 6) (by decide) (by grind) (by grind)), trivial⟩ ?_
    exact qp_retV_E qp_ok27 rfl qp_r27.1 ⟨rfl, rfl⟩ ⟨rfl, rfl⟩

theorem qs_fresh1 (l : Launch) (G : qp_G) (r : Int32) (n : Int32) (v : Int32) (I : Nat → Nat → Int32) (J : Nat → Nat → Int64) (hk : qs_ok 1 2 6 40 I) (hp : (0 ≤ r ∧ r < 6) ∧ 0 ≤ n ∧ n ≤ 40) {d : Nat} (hd : 3 ≤ d) : qp_Met l G d 15 [.ref 1, .int r, .int n, .int v] (qp_mk I J) 0 0 (qp_R8 none (qs_fill (qp_up I 2 (Int32.toNatClampNeg r) n) 3 (40 * (Int32.toNatClampNeg r)) (Int32.toNatClampNeg n) v) J) := by
  have hd1 : Nat.ble 1 d = true := Nat.ble_eq_true_of_le (Nat.le_trans (by decide) hd)
  refine qp_Met_of (by decide) (by rw [qp_r15.2]; rfl) [some (.ref 1), some (.int r), some (.int n), some (.int v), none] (by rw [qp_r15.2]; rfl) ?_
  refine qp_run_E qp_ok15 2 (c' := (2, [some (.ref 1), some (.int r), some (.int n), some (.int v), none], [.int r, .ref 1], qp_mk I J)) (by with_unfolding_all rfl) hd1 trivial ?_
  refine qp_cV qp_ok15 (rest := []) (oj := 1) qp_f13 rfl rfl (qs_isNumber1 l G r I J  (Nat.le_refl 1)) rfl rfl rfl rfl (Nat.le_trans (by decide) hd) ?_
  refine qp_br_E qp_ok15 (f := (qp_b2 (0 ≤ r ∧ r < 6)) = 0) (ct := (57, [some (.ref 1), some (.int r), some (.int n), some (.int v), none], [], qp_mk I J)) (cf := (8, [some (.ref 1), some (.int r), some (.int n), some (.int v), none], [], qp_mk I J)) (by with_unfolding_all rfl) (fun h1 => ?_) (fun h1 => ?_)
  · exact absurd (h1) (qp_b2_1.mpr hp.1)
  · refine qp_run_E qp_ok15 1 (c' := (9, [some (.ref 1), some (.int r), some (.int n), some (.int v), none], [.int n], qp_mk I J)) (by with_unfolding_all rfl) hd1 trivial ?_
    refine qp_br_E qp_ok15 (f := n < 0) (ct := (57, [some (.ref 1), some (.int r), some (.int n), some (.int v), none], [], qp_mk I J)) (cf := (12, [some (.ref 1), some (.int r), some (.int n), some (.int v), none], [], qp_mk I J)) (by with_unfolding_all rfl) (fun h2 => ?_) (fun h2 => ?_)
    · exfalso; grind
    · refine qp_run_E qp_ok15 3 (c' := (17, [some (.ref 1), some (.int r), some (.int n), some (.int v), none], [.int (I 1 0), .int n], qp_mk I J)) (by with_unfolding_all rfl) hd1 trivial ?_
      refine qp_br_E qp_ok15 (f := (I 1 0) < n) (ct := (57, [some (.ref 1), some (.int r), some (.int n), some (.int v), none], [], qp_mk I J)) (cf := (20, [some (.ref 1), some (.int r), some (.int n), some (.int v), none], [], qp_mk I J)) (by with_unfolding_all rfl) (fun h3 => ?_) (fun h3 => ?_)
      · exfalso; have := hk.1; grind
      · refine qp_run_E qp_ok15 7 (f := vp_in r 6 ∧ True) (c' := (30, [some (.ref 1), some (.int r), some (.int n), some (.int v), some (.int 0)], [], qp_mk (qp_up I 2 (Int32.toNatClampNeg r) n) J)) (by with_unfolding_all rfl) hd1 ⟨(qp_vin (c := 6) (by decide) (by grind) (by grind)), trivial⟩ ?_
        obtain ⟨en, hn⟩ := qn_ofle (c := 40) (n := 40) rfl (by decide) hp.2.1 hp.2.2
        rw [show (30, [some (.ref 1), some (.int r), some (.int n), some (.int v), some (.int 0)], [], qp_mk (qp_up I 2 (Int32.toNatClampNeg r) n) J) = ((30, [some (.ref 1), some (.int r), some (.int n), some (.int v), some (.int (nI 0))], [], qp_mk (qs_fill (qp_up I 2 (Int32.toNatClampNeg r) n) 3 (40 * (Int32.toNatClampNeg r)) 0 v) J) : qp_C) from by rw [qs_fill_0]; rfl]
        refine qp_loopN (P := fun j30 => qp_E l G d 15 (qp_mk I J) 0 0 (qp_R8 none (qs_fill (qp_up I 2 (Int32.toNatClampNeg r) n) 3 (40 * (Int32.toNatClampNeg r)) (Int32.toNatClampNeg n) v) J) (30, [some (.ref 1), some (.int r), some (.int n), some (.int v), some (.int (nI j30))], [], qp_mk (qs_fill (qp_up I 2 (Int32.toNatClampNeg r) n) 3 (40 * (Int32.toNatClampNeg r)) j30 v) J)) ((Int32.toNatClampNeg n)) ?_ (fun j30 h30 ih30 => ?_) 0 (Nat.zero_le _)
        · refine qp_run_E qp_ok15 2 (c' := (33, [some (.ref 1), some (.int r), some (.int n), some (.int v), some (.int (nI (Int32.toNatClampNeg n)))], [.int n, .int (nI (Int32.toNatClampNeg n))], qp_mk (qs_fill (qp_up I 2 (Int32.toNatClampNeg r) n) 3 (40 * (Int32.toNatClampNeg r)) (Int32.toNatClampNeg n) v) J)) (by with_unfolding_all rfl) hd1 trivial ?_
          refine qp_br_E qp_ok15 (f := n ≤ (nI (Int32.toNatClampNeg n))) (ct := (57, [some (.ref 1), some (.int r), some (.int n), some (.int v), some (.int (nI (Int32.toNatClampNeg n)))], [], qp_mk (qs_fill (qp_up I 2 (Int32.toNatClampNeg r) n) 3 (40 * (Int32.toNatClampNeg r)) (Int32.toNatClampNeg n) v) J)) (cf := (36, [some (.ref 1), some (.int r), some (.int n), some (.int v), some (.int (nI (Int32.toNatClampNeg n)))], [], qp_mk (qs_fill (qp_up I 2 (Int32.toNatClampNeg r) n) 3 (40 * (Int32.toNatClampNeg r)) (Int32.toNatClampNeg n) v) J)) (by with_unfolding_all rfl) (fun h4 => ?_) (fun h4 => ?_)
          · exact qp_retV_E qp_ok15 rfl qp_r15.1 ⟨rfl, rfl⟩ ⟨rfl, rfl⟩
          · exact absurd (by rw [← en]; exact Int32.le_refl n) h4
        · refine qp_run_E qp_ok15 2 (c' := (33, [some (.ref 1), some (.int r), some (.int n), some (.int v), some (.int (nI j30))], [.int n, .int (nI j30)], qp_mk (qs_fill (qp_up I 2 (Int32.toNatClampNeg r) n) 3 (40 * (Int32.toNatClampNeg r)) j30 v) J)) (by with_unfolding_all rfl) hd1 trivial ?_
          refine qp_br_E qp_ok15 (f := n ≤ (nI j30)) (ct := (57, [some (.ref 1), some (.int r), some (.int n), some (.int v), some (.int (nI j30))], [], qp_mk (qs_fill (qp_up I 2 (Int32.toNatClampNeg r) n) 3 (40 * (Int32.toNatClampNeg r)) j30 v) J)) (cf := (36, [some (.ref 1), some (.int r), some (.int n), some (.int v), some (.int (nI j30))], [], qp_mk (qs_fill (qp_up I 2 (Int32.toNatClampNeg r) n) 3 (40 * (Int32.toNatClampNeg r)) j30 v) J)) (by with_unfolding_all rfl) (fun h5 => ?_) (fun h5 => ?_)
          · exact absurd (show nI _ ≤ nI _ from en ▸ h5) (nI_ge h30 (by omega))
          · refine qp_run_E qp_ok15 12 (f := vp_in ((r * (I 1 0)) + (nI j30)) 240 ∧ True) (c' := (30, [some (.ref 1), some (.int r), some (.int n), some (.int v), some (.int ((nI j30) + 1))], [], qp_mk (qp_up (qs_fill (qp_up I 2 (Int32.toNatClampNeg r) n) 3 (40 * (Int32.toNatClampNeg r)) j30 v) 3 (Int32.toNatClampNeg ((r * (I 1 0)) + (nI j30))) v) J)) (by with_unfolding_all rfl) hd1 ⟨(qp_vin (c := 240) (by decide) (by have hx := qp_ix 40 6 40 6 (r := r) (i := nI j30) rfl rfl (by decide) (by decide) (by decide) hp.1.1 hp.1.2 (nI_pos' (by omega)) ((nI_ltI (by omega) (by decide)).mpr (show _ < 40 by omega)); rw [show I 1 0 = 40 from hk.1]; first | exact hx.2.1 | exact hx.2.2) (by have hx := qp_ix 40 6 40 6 (r := r) (i := nI j30) rfl rfl (by decide) (by decide) (by decide) hp.1.1 hp.1.2 (nI_pos' (by omega)) ((nI_ltI (by omega) (by decide)).mpr (show _ < 40 by omega)); rw [show I 1 0 = 40 from hk.1]; first | exact hx.2.1 | exact hx.2.2)), trivial⟩ ?_
            exact qp_E_c (by rw [nI_1, qs_fill_s (by rw [hk.1]; have hx := qp_ix 40 6 40 6 (r := r) (i := nI j30) rfl rfl (by decide) (by decide) (by decide) hp.1.1 hp.1.2 (nI_pos' (by omega)) ((nI_ltI (by omega) (by decide)).mpr (show _ < 40 by omega)); rw [show Int32.toNatClampNeg _ = _ from hx.1]; rw [show Int32.toNatClampNeg (nI j30) = _ from qn_nI (by omega)])]) ih30

theorem qs_isNumber4 (l : Launch) (G : qp_G) (r : Int32) (I : Nat → Nat → Int32) (J : Nat → Nat → Int64)  {d : Nat} (hd : 1 ≤ d) : qp_Met l G d 13 [.ref 4, .int r] (qp_mk I J) 0 0 (qp_R8 (some (.int (qp_b2 (0 ≤ r ∧ r < 4)))) I J) := by
  have hd1 : Nat.ble 1 d = true := Nat.ble_eq_true_of_le (Nat.le_trans (by decide) hd)
  refine qp_Met_of (by decide) (by rw [qp_r13.2]; rfl) [some (.ref 4), some (.int r)] (by rw [qp_r13.2]; rfl) ?_
  refine qp_run_E qp_ok13 1 (c' := (1, [some (.ref 4), some (.int r)], [.int r], qp_mk I J)) (by with_unfolding_all rfl) hd1 trivial ?_
  refine qp_br_E qp_ok13 (f := r < 0) (ct := (17, [some (.ref 4), some (.int r)], [], qp_mk I J)) (cf := (4, [some (.ref 4), some (.int r)], [], qp_mk I J)) (by with_unfolding_all rfl) (fun h1 => ?_) (fun h1 => ?_)
  · refine qp_run_E qp_ok13 1 (c' := (18, [some (.ref 4), some (.int r)], [.int 0], qp_mk I J)) (by with_unfolding_all rfl) hd1 trivial ?_
    exact qp_retZ_E qp_ok13 rfl qp_r13.1 (by first | rfl | exact qp_b2_nar) ⟨rfl, rfl⟩ ⟨congrArg (fun z => some (Value.int z)) (by first | rfl | exact qp_b2_t (by grind) | exact qp_b2_f (by grind) | exact qp_b2_c (by grind)), rfl⟩
  · refine qp_run_E qp_ok13 4 (c' := (10, [some (.ref 4), some (.int r)], [.int 4, .int r], qp_mk I J)) (by with_unfolding_all rfl) hd1 trivial ?_
    refine qp_br_E qp_ok13 (f := 4 ≤ r) (ct := (17, [some (.ref 4), some (.int r)], [], qp_mk I J)) (cf := (13, [some (.ref 4), some (.int r)], [], qp_mk I J)) (by with_unfolding_all rfl) (fun h2 => ?_) (fun h2 => ?_)
    · refine qp_run_E qp_ok13 1 (c' := (18, [some (.ref 4), some (.int r)], [.int 0], qp_mk I J)) (by with_unfolding_all rfl) hd1 trivial ?_
      exact qp_retZ_E qp_ok13 rfl qp_r13.1 (by first | rfl | exact qp_b2_nar) ⟨rfl, rfl⟩ ⟨congrArg (fun z => some (Value.int z)) (by first | rfl | exact qp_b2_t (by grind) | exact qp_b2_f (by grind) | exact qp_b2_c (by grind)), rfl⟩
    · refine qp_run_E qp_ok13 2 (c' := (18, [some (.ref 4), some (.int r)], [.int 1], qp_mk I J)) (by with_unfolding_all rfl) hd1 trivial ?_
      exact qp_retZ_E qp_ok13 rfl qp_r13.1 (by first | rfl | exact qp_b2_nar) ⟨rfl, rfl⟩ ⟨congrArg (fun z => some (Value.int z)) (by first | rfl | exact qp_b2_t (by grind) | exact qp_b2_f (by grind) | exact qp_b2_c (by grind)), rfl⟩

theorem qs_sizeOf4 (l : Launch) (G : qp_G) (r : Int32) (I : Nat → Nat → Int32) (J : Nat → Nat → Int64)  {d : Nat} (hd : 2 ≤ d) : qp_Met l G d 20 [.ref 4, .int r] (qp_mk I J) 0 0 (qp_R8 (some (.int (if (0 ≤ r ∧ r < 4) then (I 5 (Int32.toNatClampNeg r)) else -1))) I J) := by
  have hd1 : Nat.ble 1 d = true := Nat.ble_eq_true_of_le (Nat.le_trans (by decide) hd)
  refine qp_Met_of (by decide) (by rw [qp_r20.2]; rfl) [some (.ref 4), some (.int r)] (by rw [qp_r20.2]; rfl) ?_
  refine qp_run_E qp_ok20 2 (c' := (2, [some (.ref 4), some (.int r)], [.int r, .ref 4], qp_mk I J)) (by with_unfolding_all rfl) hd1 trivial ?_
  refine qp_cV qp_ok20 (rest := []) (oj := 1) qp_f13 rfl rfl (qs_isNumber4 l G r I J  (Nat.le_refl 1)) rfl rfl rfl rfl (Nat.le_trans (by decide) hd) ?_
  refine qp_br_E qp_ok20 (f := (qp_b2 (0 ≤ r ∧ r < 4)) = 0) (ct := (17, [some (.ref 4), some (.int r)], [], qp_mk I J)) (cf := (8, [some (.ref 4), some (.int r)], [], qp_mk I J)) (by with_unfolding_all rfl) (fun h1 => ?_) (fun h1 => ?_)
  · have h1 := qp_b2_0.mp h1
    refine qp_run_E qp_ok20 1 (c' := (18, [some (.ref 4), some (.int r)], [.int (-1)], qp_mk I J)) (by with_unfolding_all rfl) hd1 trivial ?_
    exact qp_retI_E qp_ok20 rfl qp_r20.1 ⟨rfl, rfl⟩ ⟨congrArg (fun z => some (Value.int z)) (by first | rw [if_pos (by assumption)] | rw [if_neg (by assumption)]), rfl⟩
  · have h1 := qp_b2_1.mp h1
    refine qp_run_E qp_ok20 5 (f := vp_in r 4 ∧ True) (c' := (18, [some (.ref 4), some (.int r)], [.int (I 5 (Int32.toNatClampNeg r))], qp_mk I J)) (by with_unfolding_all rfl) hd1 ⟨(qp_vin (c := 4) (by decide) (by grind) (by grind)), trivial⟩ ?_
    exact qp_retI_E qp_ok20 rfl qp_r20.1 ⟨rfl, rfl⟩ ⟨congrArg (fun z => some (Value.int z)) (by first | rw [if_pos (by assumption)] | rw [if_neg (by assumption)]), rfl⟩

theorem qs_has4 (l : Launch) (G : qp_G) (r : Int32) (I : Nat → Nat → Int32) (J : Nat → Nat → Int64)  {d : Nat} (hd : 3 ≤ d) : qp_Met l G d 19 [.ref 4, .int r] (qp_mk I J) 0 0 (qp_R8 (some (.int (qp_b2 ((0 ≤ r ∧ r < 4) ∧ ¬ (I 5 (Int32.toNatClampNeg r)) = -1)))) I J) := by
  have hd1 : Nat.ble 1 d = true := Nat.ble_eq_true_of_le (Nat.le_trans (by decide) hd)
  refine qp_Met_of (by decide) (by rw [qp_r19.2]; rfl) [some (.ref 4), some (.int r)] (by rw [qp_r19.2]; rfl) ?_
  refine qp_run_E qp_ok19 2 (c' := (2, [some (.ref 4), some (.int r)], [.int r, .ref 4], qp_mk I J)) (by with_unfolding_all rfl) hd1 trivial ?_
  refine qp_cV qp_ok19 (rest := []) (oj := 1) qp_f20 rfl rfl (qs_sizeOf4 l G r I J  (Nat.le_refl 2)) rfl rfl rfl rfl (Nat.le_trans (by decide) hd) ?_
  refine qp_run_E qp_ok19 1 (c' := (6, [some (.ref 4), some (.int r)], [.int (-1), .int (if (0 ≤ r ∧ r < 4) then (I 5 (Int32.toNatClampNeg r)) else -1)], qp_mk I J)) (by with_unfolding_all rfl) hd1 trivial ?_
  refine qp_br_E qp_ok19 (f := (if (0 ≤ r ∧ r < 4) then (I 5 (Int32.toNatClampNeg r)) else -1) = (-1)) (ct := (13, [some (.ref 4), some (.int r)], [], qp_mk I J)) (cf := (9, [some (.ref 4), some (.int r)], [], qp_mk I J)) (by with_unfolding_all rfl) (fun h1 => ?_) (fun h1 => ?_)
  · refine qp_run_E qp_ok19 1 (c' := (14, [some (.ref 4), some (.int r)], [.int 0], qp_mk I J)) (by with_unfolding_all rfl) hd1 trivial ?_
    exact qp_retZ_E qp_ok19 rfl qp_r19.1 (by first | rfl | exact qp_b2_nar) ⟨rfl, rfl⟩ ⟨congrArg (fun z => some (Value.int z)) (by first | rfl | exact qp_b2_t (by grind) | exact qp_b2_f (by grind) | exact qp_b2_c (by grind)), rfl⟩
  · refine qp_run_E qp_ok19 2 (c' := (14, [some (.ref 4), some (.int r)], [.int 1], qp_mk I J)) (by with_unfolding_all rfl) hd1 trivial ?_
    exact qp_retZ_E qp_ok19 rfl qp_r19.1 (by first | rfl | exact qp_b2_nar) ⟨rfl, rfl⟩ ⟨congrArg (fun z => some (Value.int z)) (by first | rfl | exact qp_b2_t (by grind) | exact qp_b2_f (by grind) | exact qp_b2_c (by grind)), rfl⟩

theorem qs_hasPlace4 (l : Launch) (G : qp_G) (r : Int32) (i : Int32) (I : Nat → Nat → Int32) (J : Nat → Nat → Int64)  {d : Nat} (hd : 2 ≤ d) : qp_Met l G d 21 [.ref 4, .int r, .int i] (qp_mk I J) 0 0 (qp_R8 (some (.int (qp_b2 ((0 ≤ r ∧ r < 4) ∧ 0 ≤ i ∧ i < (I 5 (Int32.toNatClampNeg r)))))) I J) := by
  have hd1 : Nat.ble 1 d = true := Nat.ble_eq_true_of_le (Nat.le_trans (by decide) hd)
  refine qp_Met_of (by decide) (by rw [qp_r21.2]; rfl) [some (.ref 4), some (.int r), some (.int i)] (by rw [qp_r21.2]; rfl) ?_
  refine qp_run_E qp_ok21 2 (c' := (2, [some (.ref 4), some (.int r), some (.int i)], [.int r, .ref 4], qp_mk I J)) (by with_unfolding_all rfl) hd1 trivial ?_
  refine qp_cV qp_ok21 (rest := []) (oj := 1) qp_f13 rfl rfl (qs_isNumber4 l G r I J  (Nat.le_refl 1)) rfl rfl rfl rfl (Nat.le_trans (by decide) hd) ?_
  refine qp_br_E qp_ok21 (f := (qp_b2 (0 ≤ r ∧ r < 4)) = 0) (ct := (26, [some (.ref 4), some (.int r), some (.int i)], [], qp_mk I J)) (cf := (8, [some (.ref 4), some (.int r), some (.int i)], [], qp_mk I J)) (by with_unfolding_all rfl) (fun h1 => ?_) (fun h1 => ?_)
  · have h1 := qp_b2_0.mp h1
    refine qp_run_E qp_ok21 1 (c' := (27, [some (.ref 4), some (.int r), some (.int i)], [.int 0], qp_mk I J)) (by with_unfolding_all rfl) hd1 trivial ?_
    exact qp_retZ_E qp_ok21 rfl qp_r21.1 (by first | rfl | exact qp_b2_nar) ⟨rfl, rfl⟩ ⟨congrArg (fun z => some (Value.int z)) (by first | rfl | exact qp_b2_t (by grind) | exact qp_b2_f (by grind) | exact qp_b2_c (by grind)), rfl⟩
  · have h1 := qp_b2_1.mp h1
    refine qp_run_E qp_ok21 1 (c' := (9, [some (.ref 4), some (.int r), some (.int i)], [.int i], qp_mk I J)) (by with_unfolding_all rfl) hd1 trivial ?_
    refine qp_br_E qp_ok21 (f := i < 0) (ct := (26, [some (.ref 4), some (.int r), some (.int i)], [], qp_mk I J)) (cf := (12, [some (.ref 4), some (.int r), some (.int i)], [], qp_mk I J)) (by with_unfolding_all rfl) (fun h2 => ?_) (fun h2 => ?_)
    · refine qp_run_E qp_ok21 1 (c' := (27, [some (.ref 4), some (.int r), some (.int i)], [.int 0], qp_mk I J)) (by with_unfolding_all rfl) hd1 trivial ?_
      exact qp_retZ_E qp_ok21 rfl qp_r21.1 (by first | rfl | exact qp_b2_nar) ⟨rfl, rfl⟩ ⟨congrArg (fun z => some (Value.int z)) (by first | rfl | exact qp_b2_t (by grind) | exact qp_b2_f (by grind) | exact qp_b2_c (by grind)), rfl⟩
    · refine qp_run_E qp_ok21 5 (f := vp_in r 4 ∧ True) (c' := (19, [some (.ref 4), some (.int r), some (.int i)], [.int (I 5 (Int32.toNatClampNeg r)), .int i], qp_mk I J)) (by with_unfolding_all rfl) hd1 ⟨(qp_vin (c := 4) (by decide) (by grind) (by grind)), trivial⟩ ?_
      refine qp_br_E qp_ok21 (f := (I 5 (Int32.toNatClampNeg r)) ≤ i) (ct := (26, [some (.ref 4), some (.int r), some (.int i)], [], qp_mk I J)) (cf := (22, [some (.ref 4), some (.int r), some (.int i)], [], qp_mk I J)) (by with_unfolding_all rfl) (fun h3 => ?_) (fun h3 => ?_)
      · refine qp_run_E qp_ok21 1 (c' := (27, [some (.ref 4), some (.int r), some (.int i)], [.int 0], qp_mk I J)) (by with_unfolding_all rfl) hd1 trivial ?_
        exact qp_retZ_E qp_ok21 rfl qp_r21.1 (by first | rfl | exact qp_b2_nar) ⟨rfl, rfl⟩ ⟨congrArg (fun z => some (Value.int z)) (by first | rfl | exact qp_b2_t (by grind) | exact qp_b2_f (by grind) | exact qp_b2_c (by grind)), rfl⟩
      · refine qp_run_E qp_ok21 2 (c' := (27, [some (.ref 4), some (.int r), some (.int i)], [.int 1], qp_mk I J)) (by with_unfolding_all rfl) hd1 trivial ?_
        exact qp_retZ_E qp_ok21 rfl qp_r21.1 (by first | rfl | exact qp_b2_nar) ⟨rfl, rfl⟩ ⟨congrArg (fun z => some (Value.int z)) (by first | rfl | exact qp_b2_t (by grind) | exact qp_b2_f (by grind) | exact qp_b2_c (by grind)), rfl⟩

theorem qs_hasSpan4 (l : Launch) (G : qp_G) (r : Int32) (i : Int32) (n : Int32) (I : Nat → Nat → Int32) (J : Nat → Nat → Int64)  {d : Nat} (hd : 4 ≤ d) : qp_Met l G d 29 [.ref 4, .int r, .int i, .int n] (qp_mk I J) 0 0 (qp_R8 (some (.int (qp_b2 (((0 ≤ r ∧ r < 4) ∧ ¬ (I 5 (Int32.toNatClampNeg r)) = -1) ∧ 0 ≤ n ∧ 0 ≤ i ∧ i ≤ (I 5 (Int32.toNatClampNeg r)) - n)))) I J) := by
  have hd1 : Nat.ble 1 d = true := Nat.ble_eq_true_of_le (Nat.le_trans (by decide) hd)
  refine qp_Met_of (by decide) (by rw [qp_r29.2]; rfl) [some (.ref 4), some (.int r), some (.int i), some (.int n)] (by rw [qp_r29.2]; rfl) ?_
  refine qp_run_E qp_ok29 2 (c' := (2, [some (.ref 4), some (.int r), some (.int i), some (.int n)], [.int r, .ref 4], qp_mk I J)) (by with_unfolding_all rfl) hd1 trivial ?_
  refine qp_cV qp_ok29 (rest := []) (oj := 1) qp_f19 rfl rfl (qs_has4 l G r I J  (Nat.le_refl 3)) rfl rfl rfl rfl (Nat.le_trans (by decide) hd) ?_
  refine qp_br_E qp_ok29 (f := (qp_b2 ((0 ≤ r ∧ r < 4) ∧ ¬ (I 5 (Int32.toNatClampNeg r)) = -1)) = 0) (ct := (31, [some (.ref 4), some (.int r), some (.int i), some (.int n)], [], qp_mk I J)) (cf := (8, [some (.ref 4), some (.int r), some (.int i), some (.int n)], [], qp_mk I J)) (by with_unfolding_all rfl) (fun h1 => ?_) (fun h1 => ?_)
  · have h1 := qp_b2_0.mp h1
    refine qp_run_E qp_ok29 1 (c' := (32, [some (.ref 4), some (.int r), some (.int i), some (.int n)], [.int 0], qp_mk I J)) (by with_unfolding_all rfl) hd1 trivial ?_
    exact qp_retZ_E qp_ok29 rfl qp_r29.1 (by first | rfl | exact qp_b2_nar) ⟨rfl, rfl⟩ ⟨congrArg (fun z => some (Value.int z)) (by first | rfl | exact qp_b2_t (by grind) | exact qp_b2_f (by grind) | exact qp_b2_c (by grind)), rfl⟩
  · have h1 := qp_b2_1.mp h1
    refine qp_run_E qp_ok29 1 (c' := (9, [some (.ref 4), some (.int r), some (.int i), some (.int n)], [.int n], qp_mk I J)) (by with_unfolding_all rfl) hd1 trivial ?_
    refine qp_br_E qp_ok29 (f := n < 0) (ct := (31, [some (.ref 4), some (.int r), some (.int i), some (.int n)], [], qp_mk I J)) (cf := (12, [some (.ref 4), some (.int r), some (.int i), some (.int n)], [], qp_mk I J)) (by with_unfolding_all rfl) (fun h2 => ?_) (fun h2 => ?_)
    · refine qp_run_E qp_ok29 1 (c' := (32, [some (.ref 4), some (.int r), some (.int i), some (.int n)], [.int 0], qp_mk I J)) (by with_unfolding_all rfl) hd1 trivial ?_
      exact qp_retZ_E qp_ok29 rfl qp_r29.1 (by first | rfl | exact qp_b2_nar) ⟨rfl, rfl⟩ ⟨congrArg (fun z => some (Value.int z)) (by first | rfl | exact qp_b2_t (by grind) | exact qp_b2_f (by grind) | exact qp_b2_c (by grind)), rfl⟩
    · refine qp_run_E qp_ok29 1 (c' := (13, [some (.ref 4), some (.int r), some (.int i), some (.int n)], [.int i], qp_mk I J)) (by with_unfolding_all rfl) hd1 trivial ?_
      refine qp_br_E qp_ok29 (f := i < 0) (ct := (31, [some (.ref 4), some (.int r), some (.int i), some (.int n)], [], qp_mk I J)) (cf := (16, [some (.ref 4), some (.int r), some (.int i), some (.int n)], [], qp_mk I J)) (by with_unfolding_all rfl) (fun h3 => ?_) (fun h3 => ?_)
      · refine qp_run_E qp_ok29 1 (c' := (32, [some (.ref 4), some (.int r), some (.int i), some (.int n)], [.int 0], qp_mk I J)) (by with_unfolding_all rfl) hd1 trivial ?_
        exact qp_retZ_E qp_ok29 rfl qp_r29.1 (by first | rfl | exact qp_b2_nar) ⟨rfl, rfl⟩ ⟨congrArg (fun z => some (Value.int z)) (by first | rfl | exact qp_b2_t (by grind) | exact qp_b2_f (by grind) | exact qp_b2_c (by grind)), rfl⟩
      · refine qp_run_E qp_ok29 3 (c' := (19, [some (.ref 4), some (.int r), some (.int i), some (.int n)], [.int r, .ref 4, .int i], qp_mk I J)) (by with_unfolding_all rfl) hd1 trivial ?_
        refine qp_cV qp_ok29 (rest := [.int i]) (oj := 1) qp_f20 rfl rfl (qs_sizeOf4 l G r I J  (Nat.le_refl 2)) rfl rfl rfl rfl (Nat.le_trans (by decide) hd) ?_
        refine qp_run_E qp_ok29 2 (c' := (24, [some (.ref 4), some (.int r), some (.int i), some (.int n)], [.int ((if (0 ≤ r ∧ r < 4) then (I 5 (Int32.toNatClampNeg r)) else -1) - n), .int i], qp_mk I J)) (by with_unfolding_all rfl) hd1 trivial ?_
        refine qp_br_E qp_ok29 (f := ((if (0 ≤ r ∧ r < 4) then (I 5 (Int32.toNatClampNeg r)) else -1) - n) < i) (ct := (31, [some (.ref 4), some (.int r), some (.int i), some (.int n)], [], qp_mk I J)) (cf := (27, [some (.ref 4), some (.int r), some (.int i), some (.int n)], [], qp_mk I J)) (by with_unfolding_all rfl) (fun h4 => ?_) (fun h4 => ?_)
        · refine qp_run_E qp_ok29 1 (c' := (32, [some (.ref 4), some (.int r), some (.int i), some (.int n)], [.int 0], qp_mk I J)) (by with_unfolding_all rfl) hd1 trivial ?_
          exact qp_retZ_E qp_ok29 rfl qp_r29.1 (by first | rfl | exact qp_b2_nar) ⟨rfl, rfl⟩ ⟨congrArg (fun z => some (Value.int z)) (by first | rfl | exact qp_b2_t (by grind) | exact qp_b2_f (by grind) | exact qp_b2_c (by grind)), rfl⟩
        · refine qp_run_E qp_ok29 2 (c' := (32, [some (.ref 4), some (.int r), some (.int i), some (.int n)], [.int 1], qp_mk I J)) (by with_unfolding_all rfl) hd1 trivial ?_
          exact qp_retZ_E qp_ok29 rfl qp_r29.1 (by first | rfl | exact qp_b2_nar) ⟨rfl, rfl⟩ ⟨congrArg (fun z => some (Value.int z)) (by first | rfl | exact qp_b2_t (by grind) | exact qp_b2_f (by grind) | exact qp_b2_c (by grind)), rfl⟩

theorem qs_get4 (l : Launch) (G : qp_G) (r : Int32) (i : Int32) (I : Nat → Nat → Int32) (J : Nat → Nat → Int64) (hk : qs_ok 4 5 4 60 I) {d : Nat} (hd : 3 ≤ d) : qp_Met l G d 22 [.ref 4, .int r, .int i] (qp_mk I J) 0 0 (qp_R8 (some (.int (if ((0 ≤ r ∧ r < 4) ∧ 0 ≤ i ∧ i < (I 5 (Int32.toNatClampNeg r))) then (I 6 (60 * (Int32.toNatClampNeg r) + (Int32.toNatClampNeg i))) else 0))) I J) := by
  have hd1 : Nat.ble 1 d = true := Nat.ble_eq_true_of_le (Nat.le_trans (by decide) hd)
  refine qp_Met_of (by decide) (by rw [qp_r22.2]; rfl) [some (.ref 4), some (.int r), some (.int i)] (by rw [qp_r22.2]; rfl) ?_
  refine qp_run_E qp_ok22 3 (c' := (3, [some (.ref 4), some (.int r), some (.int i)], [.int i, .int r, .ref 4], qp_mk I J)) (by with_unfolding_all rfl) hd1 trivial ?_
  refine qp_cV qp_ok22 (rest := []) (oj := 1) qp_f21 rfl rfl (qs_hasPlace4 l G r i I J  (Nat.le_refl 2)) rfl rfl rfl rfl (Nat.le_trans (by decide) hd) ?_
  refine qp_br_E qp_ok22 (f := (qp_b2 ((0 ≤ r ∧ r < 4) ∧ 0 ≤ i ∧ i < (I 5 (Int32.toNatClampNeg r)))) = 0) (ct := (25, [some (.ref 4), some (.int r), some (.int i)], [], qp_mk I J)) (cf := (9, [some (.ref 4), some (.int r), some (.int i)], [], qp_mk I J)) (by with_unfolding_all rfl) (fun h1 => ?_) (fun h1 => ?_)
  · have h1 := qp_b2_0.mp h1
    refine qp_run_E qp_ok22 1 (c' := (26, [some (.ref 4), some (.int r), some (.int i)], [.int 0], qp_mk I J)) (by with_unfolding_all rfl) hd1 trivial ?_
    exact qp_retI_E qp_ok22 rfl qp_r22.1 ⟨rfl, rfl⟩ ⟨congrArg (fun z => some (Value.int z)) (by first | (rw [if_neg (by assumption)]; done) | (rw [if_pos (by assumption)]; have hk1 := hk.1; have hk2 := hk.2 _ (qp_clt (c := 4) (n := 4) (by decide) h1.1.1 h1.1.2); have hx := qp_ix 60 4 60 4 rfl rfl (by decide) (by decide) (by decide) h1.1.1 h1.1.2 h1.2.1 (by grind); rw [hk1]; exact congrArg (I 6) hx.1)), rfl⟩
  · have h1 := qp_b2_1.mp h1
    refine qp_run_E qp_ok22 10 (f := vp_in ((r * (I 4 0)) + i) 240 ∧ True) (c' := (26, [some (.ref 4), some (.int r), some (.int i)], [.int (I 6 (Int32.toNatClampNeg ((r * (I 4 0)) + i)))], qp_mk I J)) (by with_unfolding_all rfl) hd1 ⟨(qp_vin (c := 240) (by decide) (by have hk1 := hk.1; have hk2 := hk.2 _ (qp_clt (c := 4) (n := 4) (by decide) h1.1.1 h1.1.2); have hx := qp_ix 60 4 60 4 rfl rfl (by decide) (by decide) (by decide) h1.1.1 h1.1.2 h1.2.1 (by grind); rw [hk1]; first | exact hx.2.1 | exact hx.2.2) (by have hk1 := hk.1; have hk2 := hk.2 _ (qp_clt (c := 4) (n := 4) (by decide) h1.1.1 h1.1.2); have hx := qp_ix 60 4 60 4 rfl rfl (by decide) (by decide) (by decide) h1.1.1 h1.1.2 h1.2.1 (by grind); rw [hk1]; first | exact hx.2.1 | exact hx.2.2)), trivial⟩ ?_
    exact qp_retI_E qp_ok22 rfl qp_r22.1 ⟨rfl, rfl⟩ ⟨congrArg (fun z => some (Value.int z)) (by first | (rw [if_neg (by assumption)]; done) | (rw [if_pos (by assumption)]; have hk1 := hk.1; have hk2 := hk.2 _ (qp_clt (c := 4) (n := 4) (by decide) h1.1.1 h1.1.2); have hx := qp_ix 60 4 60 4 rfl rfl (by decide) (by decide) (by decide) h1.1.1 h1.1.2 h1.2.1 (by grind); rw [hk1]; exact congrArg (I 6) hx.1)), rfl⟩

theorem qs_set4 (l : Launch) (G : qp_G) (r : Int32) (i : Int32) (v : Int32) (I : Nat → Nat → Int32) (J : Nat → Nat → Int64) (hk : qs_ok 4 5 4 60 I) (hp : ((0 ≤ r ∧ r < 4) ∧ 0 ≤ i ∧ i < (I 5 (Int32.toNatClampNeg r)))) {d : Nat} (hd : 3 ≤ d) : qp_Met l G d 23 [.ref 4, .int r, .int i, .int v] (qp_mk I J) 0 0 (qp_R8 none (qp_up I 6 (60 * (Int32.toNatClampNeg r) + (Int32.toNatClampNeg i)) v) J) := by
  have hd1 : Nat.ble 1 d = true := Nat.ble_eq_true_of_le (Nat.le_trans (by decide) hd)
  refine qp_Met_of (by decide) (by rw [qp_r23.2]; rfl) [some (.ref 4), some (.int r), some (.int i), some (.int v)] (by rw [qp_r23.2]; rfl) ?_
  refine qp_run_E qp_ok23 3 (c' := (3, [some (.ref 4), some (.int r), some (.int i), some (.int v)], [.int i, .int r, .ref 4], qp_mk I J)) (by with_unfolding_all rfl) hd1 trivial ?_
  refine qp_cV qp_ok23 (rest := []) (oj := 1) qp_f21 rfl rfl (qs_hasPlace4 l G r i I J  (Nat.le_refl 2)) rfl rfl rfl rfl (Nat.le_trans (by decide) hd) ?_
  refine qp_br_E qp_ok23 (f := (qp_b2 ((0 ≤ r ∧ r < 4) ∧ 0 ≤ i ∧ i < (I 5 (Int32.toNatClampNeg r)))) = 0) (ct := (23, [some (.ref 4), some (.int r), some (.int i), some (.int v)], [], qp_mk I J)) (cf := (9, [some (.ref 4), some (.int r), some (.int i), some (.int v)], [], qp_mk I J)) (by with_unfolding_all rfl) (fun h1 => ?_) (fun h1 => ?_)
  · exact absurd (h1) (qp_b2_1.mpr hp)
  · refine qp_run_E qp_ok23 10 (f := vp_in ((r * (I 4 0)) + i) 240 ∧ True) (c' := (23, [some (.ref 4), some (.int r), some (.int i), some (.int v)], [], qp_mk (qp_up I 6 (Int32.toNatClampNeg ((r * (I 4 0)) + i)) v) J)) (by with_unfolding_all rfl) hd1 ⟨(qp_vin (c := 240) (by decide) (by have hk1 := hk.1; have hk2 := hk.2 _ (qp_clt (c := 4) (n := 4) (by decide) hp.1.1 hp.1.2); have hx := qp_ix 60 4 60 4 rfl rfl (by decide) (by decide) (by decide) hp.1.1 hp.1.2 hp.2.1 (by grind); rw [hk1]; first | exact hx.2.1 | exact hx.2.2) (by have hk1 := hk.1; have hk2 := hk.2 _ (qp_clt (c := 4) (n := 4) (by decide) hp.1.1 hp.1.2); have hx := qp_ix 60 4 60 4 rfl rfl (by decide) (by decide) (by decide) hp.1.1 hp.1.2 hp.2.1 (by grind); rw [hk1]; first | exact hx.2.1 | exact hx.2.2)), trivial⟩ ?_
    exact qp_retV_E qp_ok23 rfl qp_r23.1 ⟨rfl, rfl⟩ ⟨rfl, congrArg (fun z => qp_mk z J) (by have hk1 := hk.1; have hk2 := hk.2 _ (qp_clt (c := 4) (n := 4) (by decide) hp.1.1 hp.1.2); have hx := qp_ix 60 4 60 4 rfl rfl (by decide) (by decide) (by decide) hp.1.1 hp.1.2 hp.2.1 (by grind); rw [hk1]; exact congrArg (fun z => qp_up I 6 z v) hx.1)⟩

theorem qs_drop4 (l : Launch) (G : qp_G) (r : Int32) (I : Nat → Nat → Int32) (J : Nat → Nat → Int64) (hp : (0 ≤ r ∧ r < 4)) {d : Nat} (hd : 2 ≤ d) : qp_Met l G d 27 [.ref 4, .int r] (qp_mk I J) 0 0 (qp_R8 none (qp_up I 5 (Int32.toNatClampNeg r) (-1)) J) := by
  have hd1 : Nat.ble 1 d = true := Nat.ble_eq_true_of_le (Nat.le_trans (by decide) hd)
  refine qp_Met_of (by decide) (by rw [qp_r27.2]; rfl) [some (.ref 4), some (.int r)] (by rw [qp_r27.2]; rfl) ?_
  refine qp_run_E qp_ok27 2 (c' := (2, [some (.ref 4), some (.int r)], [.int r, .ref 4], qp_mk I J)) (by with_unfolding_all rfl) hd1 trivial ?_
  refine qp_cV qp_ok27 (rest := []) (oj := 1) qp_f13 rfl rfl (qs_isNumber4 l G r I J  (Nat.le_refl 1)) rfl rfl rfl rfl (Nat.le_trans (by decide) hd) ?_
  refine qp_br_E qp_ok27 (f := (qp_b2 (0 ≤ r ∧ r < 4)) = 0) (ct := (15, [some (.ref 4), some (.int r)], [], qp_mk I J)) (cf := (8, [some (.ref 4), some (.int r)], [], qp_mk I J)) (by with_unfolding_all rfl) (fun h1 => ?_) (fun h1 => ?_)
  · exact absurd (h1) (qp_b2_1.mpr hp)
  · refine qp_run_E qp_ok27 5 (f := vp_in r 4 ∧ True) (c' := (15, [some (.ref 4), some (.int r)], [], qp_mk (qp_up I 5 (Int32.toNatClampNeg r) (-1)) J)) (by with_unfolding_all rfl) hd1 ⟨(qp_vin (c := 4) (by decide) (by grind) (by grind)), trivial⟩ ?_
    exact qp_retV_E qp_ok27 rfl qp_r27.1 ⟨rfl, rfl⟩ ⟨rfl, rfl⟩

theorem qs_fresh4 (l : Launch) (G : qp_G) (r : Int32) (n : Int32) (v : Int32) (I : Nat → Nat → Int32) (J : Nat → Nat → Int64) (hk : qs_ok 4 5 4 60 I) (hp : (0 ≤ r ∧ r < 4) ∧ 0 ≤ n ∧ n ≤ 60) {d : Nat} (hd : 3 ≤ d) : qp_Met l G d 15 [.ref 4, .int r, .int n, .int v] (qp_mk I J) 0 0 (qp_R8 none (qs_fill (qp_up I 5 (Int32.toNatClampNeg r) n) 6 (60 * (Int32.toNatClampNeg r)) (Int32.toNatClampNeg n) v) J) := by
  have hd1 : Nat.ble 1 d = true := Nat.ble_eq_true_of_le (Nat.le_trans (by decide) hd)
  refine qp_Met_of (by decide) (by rw [qp_r15.2]; rfl) [some (.ref 4), some (.int r), some (.int n), some (.int v), none] (by rw [qp_r15.2]; rfl) ?_
  refine qp_run_E qp_ok15 2 (c' := (2, [some (.ref 4), some (.int r), some (.int n), some (.int v), none], [.int r, .ref 4], qp_mk I J)) (by with_unfolding_all rfl) hd1 trivial ?_
  refine qp_cV qp_ok15 (rest := []) (oj := 1) qp_f13 rfl rfl (qs_isNumber4 l G r I J  (Nat.le_refl 1)) rfl rfl rfl rfl (Nat.le_trans (by decide) hd) ?_
  refine qp_br_E qp_ok15 (f := (qp_b2 (0 ≤ r ∧ r < 4)) = 0) (ct := (57, [some (.ref 4), some (.int r), some (.int n), some (.int v), none], [], qp_mk I J)) (cf := (8, [some (.ref 4), some (.int r), some (.int n), some (.int v), none], [], qp_mk I J)) (by with_unfolding_all rfl) (fun h1 => ?_) (fun h1 => ?_)
  · exact absurd (h1) (qp_b2_1.mpr hp.1)
  · refine qp_run_E qp_ok15 1 (c' := (9, [some (.ref 4), some (.int r), some (.int n), some (.int v), none], [.int n], qp_mk I J)) (by with_unfolding_all rfl) hd1 trivial ?_
    refine qp_br_E qp_ok15 (f := n < 0) (ct := (57, [some (.ref 4), some (.int r), some (.int n), some (.int v), none], [], qp_mk I J)) (cf := (12, [some (.ref 4), some (.int r), some (.int n), some (.int v), none], [], qp_mk I J)) (by with_unfolding_all rfl) (fun h2 => ?_) (fun h2 => ?_)
    · exfalso; grind
    · refine qp_run_E qp_ok15 3 (c' := (17, [some (.ref 4), some (.int r), some (.int n), some (.int v), none], [.int (I 4 0), .int n], qp_mk I J)) (by with_unfolding_all rfl) hd1 trivial ?_
      refine qp_br_E qp_ok15 (f := (I 4 0) < n) (ct := (57, [some (.ref 4), some (.int r), some (.int n), some (.int v), none], [], qp_mk I J)) (cf := (20, [some (.ref 4), some (.int r), some (.int n), some (.int v), none], [], qp_mk I J)) (by with_unfolding_all rfl) (fun h3 => ?_) (fun h3 => ?_)
      · exfalso; have := hk.1; grind
      · refine qp_run_E qp_ok15 7 (f := vp_in r 4 ∧ True) (c' := (30, [some (.ref 4), some (.int r), some (.int n), some (.int v), some (.int 0)], [], qp_mk (qp_up I 5 (Int32.toNatClampNeg r) n) J)) (by with_unfolding_all rfl) hd1 ⟨(qp_vin (c := 4) (by decide) (by grind) (by grind)), trivial⟩ ?_
        obtain ⟨en, hn⟩ := qn_ofle (c := 60) (n := 60) rfl (by decide) hp.2.1 hp.2.2
        rw [show (30, [some (.ref 4), some (.int r), some (.int n), some (.int v), some (.int 0)], [], qp_mk (qp_up I 5 (Int32.toNatClampNeg r) n) J) = ((30, [some (.ref 4), some (.int r), some (.int n), some (.int v), some (.int (nI 0))], [], qp_mk (qs_fill (qp_up I 5 (Int32.toNatClampNeg r) n) 6 (60 * (Int32.toNatClampNeg r)) 0 v) J) : qp_C) from by rw [qs_fill_0]; rfl]
        refine qp_loopN (P := fun j30 => qp_E l G d 15 (qp_mk I J) 0 0 (qp_R8 none (qs_fill (qp_up I 5 (Int32.toNatClampNeg r) n) 6 (60 * (Int32.toNatClampNeg r)) (Int32.toNatClampNeg n) v) J) (30, [some (.ref 4), some (.int r), some (.int n), some (.int v), some (.int (nI j30))], [], qp_mk (qs_fill (qp_up I 5 (Int32.toNatClampNeg r) n) 6 (60 * (Int32.toNatClampNeg r)) j30 v) J)) ((Int32.toNatClampNeg n)) ?_ (fun j30 h30 ih30 => ?_) 0 (Nat.zero_le _)
        · refine qp_run_E qp_ok15 2 (c' := (33, [some (.ref 4), some (.int r), some (.int n), some (.int v), some (.int (nI (Int32.toNatClampNeg n)))], [.int n, .int (nI (Int32.toNatClampNeg n))], qp_mk (qs_fill (qp_up I 5 (Int32.toNatClampNeg r) n) 6 (60 * (Int32.toNatClampNeg r)) (Int32.toNatClampNeg n) v) J)) (by with_unfolding_all rfl) hd1 trivial ?_
          refine qp_br_E qp_ok15 (f := n ≤ (nI (Int32.toNatClampNeg n))) (ct := (57, [some (.ref 4), some (.int r), some (.int n), some (.int v), some (.int (nI (Int32.toNatClampNeg n)))], [], qp_mk (qs_fill (qp_up I 5 (Int32.toNatClampNeg r) n) 6 (60 * (Int32.toNatClampNeg r)) (Int32.toNatClampNeg n) v) J)) (cf := (36, [some (.ref 4), some (.int r), some (.int n), some (.int v), some (.int (nI (Int32.toNatClampNeg n)))], [], qp_mk (qs_fill (qp_up I 5 (Int32.toNatClampNeg r) n) 6 (60 * (Int32.toNatClampNeg r)) (Int32.toNatClampNeg n) v) J)) (by with_unfolding_all rfl) (fun h4 => ?_) (fun h4 => ?_)
          · exact qp_retV_E qp_ok15 rfl qp_r15.1 ⟨rfl, rfl⟩ ⟨rfl, rfl⟩
          · exact absurd (by rw [← en]; exact Int32.le_refl n) h4
        · refine qp_run_E qp_ok15 2 (c' := (33, [some (.ref 4), some (.int r), some (.int n), some (.int v), some (.int (nI j30))], [.int n, .int (nI j30)], qp_mk (qs_fill (qp_up I 5 (Int32.toNatClampNeg r) n) 6 (60 * (Int32.toNatClampNeg r)) j30 v) J)) (by with_unfolding_all rfl) hd1 trivial ?_
          refine qp_br_E qp_ok15 (f := n ≤ (nI j30)) (ct := (57, [some (.ref 4), some (.int r), some (.int n), some (.int v), some (.int (nI j30))], [], qp_mk (qs_fill (qp_up I 5 (Int32.toNatClampNeg r) n) 6 (60 * (Int32.toNatClampNeg r)) j30 v) J)) (cf := (36, [some (.ref 4), some (.int r), some (.int n), some (.int v), some (.int (nI j30))], [], qp_mk (qs_fill (qp_up I 5 (Int32.toNatClampNeg r) n) 6 (60 * (Int32.toNatClampNeg r)) j30 v) J)) (by with_unfolding_all rfl) (fun h5 => ?_) (fun h5 => ?_)
          · exact absurd (show nI _ ≤ nI _ from en ▸ h5) (nI_ge h30 (by omega))
          · refine qp_run_E qp_ok15 12 (f := vp_in ((r * (I 4 0)) + (nI j30)) 240 ∧ True) (c' := (30, [some (.ref 4), some (.int r), some (.int n), some (.int v), some (.int ((nI j30) + 1))], [], qp_mk (qp_up (qs_fill (qp_up I 5 (Int32.toNatClampNeg r) n) 6 (60 * (Int32.toNatClampNeg r)) j30 v) 6 (Int32.toNatClampNeg ((r * (I 4 0)) + (nI j30))) v) J)) (by with_unfolding_all rfl) hd1 ⟨(qp_vin (c := 240) (by decide) (by have hx := qp_ix 60 4 60 4 (r := r) (i := nI j30) rfl rfl (by decide) (by decide) (by decide) hp.1.1 hp.1.2 (nI_pos' (by omega)) ((nI_ltI (by omega) (by decide)).mpr (show _ < 60 by omega)); rw [show I 4 0 = 60 from hk.1]; first | exact hx.2.1 | exact hx.2.2) (by have hx := qp_ix 60 4 60 4 (r := r) (i := nI j30) rfl rfl (by decide) (by decide) (by decide) hp.1.1 hp.1.2 (nI_pos' (by omega)) ((nI_ltI (by omega) (by decide)).mpr (show _ < 60 by omega)); rw [show I 4 0 = 60 from hk.1]; first | exact hx.2.1 | exact hx.2.2)), trivial⟩ ?_
            exact qp_E_c (by rw [nI_1, qs_fill_s (by rw [hk.1]; have hx := qp_ix 60 4 60 4 (r := r) (i := nI j30) rfl rfl (by decide) (by decide) (by decide) hp.1.1 hp.1.2 (nI_pos' (by omega)) ((nI_ltI (by omega) (by decide)).mpr (show _ < 60 by omega)); rw [show Int32.toNatClampNeg _ = _ from hx.1]; rw [show Int32.toNatClampNeg (nI j30) = _ from qn_nI (by omega)])]) ih30

theorem qs_isNumber7 (l : Launch) (G : qp_G) (r : Int32) (I : Nat → Nat → Int32) (J : Nat → Nat → Int64)  {d : Nat} (hd : 1 ≤ d) : qp_Met l G d 13 [.ref 7, .int r] (qp_mk I J) 0 0 (qp_R8 (some (.int (qp_b2 (0 ≤ r ∧ r < 3)))) I J) := by
  have hd1 : Nat.ble 1 d = true := Nat.ble_eq_true_of_le (Nat.le_trans (by decide) hd)
  refine qp_Met_of (by decide) (by rw [qp_r13.2]; rfl) [some (.ref 7), some (.int r)] (by rw [qp_r13.2]; rfl) ?_
  refine qp_run_E qp_ok13 1 (c' := (1, [some (.ref 7), some (.int r)], [.int r], qp_mk I J)) (by with_unfolding_all rfl) hd1 trivial ?_
  refine qp_br_E qp_ok13 (f := r < 0) (ct := (17, [some (.ref 7), some (.int r)], [], qp_mk I J)) (cf := (4, [some (.ref 7), some (.int r)], [], qp_mk I J)) (by with_unfolding_all rfl) (fun h1 => ?_) (fun h1 => ?_)
  · refine qp_run_E qp_ok13 1 (c' := (18, [some (.ref 7), some (.int r)], [.int 0], qp_mk I J)) (by with_unfolding_all rfl) hd1 trivial ?_
    exact qp_retZ_E qp_ok13 rfl qp_r13.1 (by first | rfl | exact qp_b2_nar) ⟨rfl, rfl⟩ ⟨congrArg (fun z => some (Value.int z)) (by first | rfl | exact qp_b2_t (by grind) | exact qp_b2_f (by grind) | exact qp_b2_c (by grind)), rfl⟩
  · refine qp_run_E qp_ok13 4 (c' := (10, [some (.ref 7), some (.int r)], [.int 3, .int r], qp_mk I J)) (by with_unfolding_all rfl) hd1 trivial ?_
    refine qp_br_E qp_ok13 (f := 3 ≤ r) (ct := (17, [some (.ref 7), some (.int r)], [], qp_mk I J)) (cf := (13, [some (.ref 7), some (.int r)], [], qp_mk I J)) (by with_unfolding_all rfl) (fun h2 => ?_) (fun h2 => ?_)
    · refine qp_run_E qp_ok13 1 (c' := (18, [some (.ref 7), some (.int r)], [.int 0], qp_mk I J)) (by with_unfolding_all rfl) hd1 trivial ?_
      exact qp_retZ_E qp_ok13 rfl qp_r13.1 (by first | rfl | exact qp_b2_nar) ⟨rfl, rfl⟩ ⟨congrArg (fun z => some (Value.int z)) (by first | rfl | exact qp_b2_t (by grind) | exact qp_b2_f (by grind) | exact qp_b2_c (by grind)), rfl⟩
    · refine qp_run_E qp_ok13 2 (c' := (18, [some (.ref 7), some (.int r)], [.int 1], qp_mk I J)) (by with_unfolding_all rfl) hd1 trivial ?_
      exact qp_retZ_E qp_ok13 rfl qp_r13.1 (by first | rfl | exact qp_b2_nar) ⟨rfl, rfl⟩ ⟨congrArg (fun z => some (Value.int z)) (by first | rfl | exact qp_b2_t (by grind) | exact qp_b2_f (by grind) | exact qp_b2_c (by grind)), rfl⟩

theorem qs_sizeOf7 (l : Launch) (G : qp_G) (r : Int32) (I : Nat → Nat → Int32) (J : Nat → Nat → Int64)  {d : Nat} (hd : 2 ≤ d) : qp_Met l G d 20 [.ref 7, .int r] (qp_mk I J) 0 0 (qp_R8 (some (.int (if (0 ≤ r ∧ r < 3) then (I 8 (Int32.toNatClampNeg r)) else -1))) I J) := by
  have hd1 : Nat.ble 1 d = true := Nat.ble_eq_true_of_le (Nat.le_trans (by decide) hd)
  refine qp_Met_of (by decide) (by rw [qp_r20.2]; rfl) [some (.ref 7), some (.int r)] (by rw [qp_r20.2]; rfl) ?_
  refine qp_run_E qp_ok20 2 (c' := (2, [some (.ref 7), some (.int r)], [.int r, .ref 7], qp_mk I J)) (by with_unfolding_all rfl) hd1 trivial ?_
  refine qp_cV qp_ok20 (rest := []) (oj := 1) qp_f13 rfl rfl (qs_isNumber7 l G r I J  (Nat.le_refl 1)) rfl rfl rfl rfl (Nat.le_trans (by decide) hd) ?_
  refine qp_br_E qp_ok20 (f := (qp_b2 (0 ≤ r ∧ r < 3)) = 0) (ct := (17, [some (.ref 7), some (.int r)], [], qp_mk I J)) (cf := (8, [some (.ref 7), some (.int r)], [], qp_mk I J)) (by with_unfolding_all rfl) (fun h1 => ?_) (fun h1 => ?_)
  · have h1 := qp_b2_0.mp h1
    refine qp_run_E qp_ok20 1 (c' := (18, [some (.ref 7), some (.int r)], [.int (-1)], qp_mk I J)) (by with_unfolding_all rfl) hd1 trivial ?_
    exact qp_retI_E qp_ok20 rfl qp_r20.1 ⟨rfl, rfl⟩ ⟨congrArg (fun z => some (Value.int z)) (by first | rw [if_pos (by assumption)] | rw [if_neg (by assumption)]), rfl⟩
  · have h1 := qp_b2_1.mp h1
    refine qp_run_E qp_ok20 5 (f := vp_in r 3 ∧ True) (c' := (18, [some (.ref 7), some (.int r)], [.int (I 8 (Int32.toNatClampNeg r))], qp_mk I J)) (by with_unfolding_all rfl) hd1 ⟨(qp_vin (c := 3) (by decide) (by grind) (by grind)), trivial⟩ ?_
    exact qp_retI_E qp_ok20 rfl qp_r20.1 ⟨rfl, rfl⟩ ⟨congrArg (fun z => some (Value.int z)) (by first | rw [if_pos (by assumption)] | rw [if_neg (by assumption)]), rfl⟩

theorem qs_has7 (l : Launch) (G : qp_G) (r : Int32) (I : Nat → Nat → Int32) (J : Nat → Nat → Int64)  {d : Nat} (hd : 3 ≤ d) : qp_Met l G d 19 [.ref 7, .int r] (qp_mk I J) 0 0 (qp_R8 (some (.int (qp_b2 ((0 ≤ r ∧ r < 3) ∧ ¬ (I 8 (Int32.toNatClampNeg r)) = -1)))) I J) := by
  have hd1 : Nat.ble 1 d = true := Nat.ble_eq_true_of_le (Nat.le_trans (by decide) hd)
  refine qp_Met_of (by decide) (by rw [qp_r19.2]; rfl) [some (.ref 7), some (.int r)] (by rw [qp_r19.2]; rfl) ?_
  refine qp_run_E qp_ok19 2 (c' := (2, [some (.ref 7), some (.int r)], [.int r, .ref 7], qp_mk I J)) (by with_unfolding_all rfl) hd1 trivial ?_
  refine qp_cV qp_ok19 (rest := []) (oj := 1) qp_f20 rfl rfl (qs_sizeOf7 l G r I J  (Nat.le_refl 2)) rfl rfl rfl rfl (Nat.le_trans (by decide) hd) ?_
  refine qp_run_E qp_ok19 1 (c' := (6, [some (.ref 7), some (.int r)], [.int (-1), .int (if (0 ≤ r ∧ r < 3) then (I 8 (Int32.toNatClampNeg r)) else -1)], qp_mk I J)) (by with_unfolding_all rfl) hd1 trivial ?_
  refine qp_br_E qp_ok19 (f := (if (0 ≤ r ∧ r < 3) then (I 8 (Int32.toNatClampNeg r)) else -1) = (-1)) (ct := (13, [some (.ref 7), some (.int r)], [], qp_mk I J)) (cf := (9, [some (.ref 7), some (.int r)], [], qp_mk I J)) (by with_unfolding_all rfl) (fun h1 => ?_) (fun h1 => ?_)
  · refine qp_run_E qp_ok19 1 (c' := (14, [some (.ref 7), some (.int r)], [.int 0], qp_mk I J)) (by with_unfolding_all rfl) hd1 trivial ?_
    exact qp_retZ_E qp_ok19 rfl qp_r19.1 (by first | rfl | exact qp_b2_nar) ⟨rfl, rfl⟩ ⟨congrArg (fun z => some (Value.int z)) (by first | rfl | exact qp_b2_t (by grind) | exact qp_b2_f (by grind) | exact qp_b2_c (by grind)), rfl⟩
  · refine qp_run_E qp_ok19 2 (c' := (14, [some (.ref 7), some (.int r)], [.int 1], qp_mk I J)) (by with_unfolding_all rfl) hd1 trivial ?_
    exact qp_retZ_E qp_ok19 rfl qp_r19.1 (by first | rfl | exact qp_b2_nar) ⟨rfl, rfl⟩ ⟨congrArg (fun z => some (Value.int z)) (by first | rfl | exact qp_b2_t (by grind) | exact qp_b2_f (by grind) | exact qp_b2_c (by grind)), rfl⟩

theorem qs_hasPlace7 (l : Launch) (G : qp_G) (r : Int32) (i : Int32) (I : Nat → Nat → Int32) (J : Nat → Nat → Int64)  {d : Nat} (hd : 2 ≤ d) : qp_Met l G d 21 [.ref 7, .int r, .int i] (qp_mk I J) 0 0 (qp_R8 (some (.int (qp_b2 ((0 ≤ r ∧ r < 3) ∧ 0 ≤ i ∧ i < (I 8 (Int32.toNatClampNeg r)))))) I J) := by
  have hd1 : Nat.ble 1 d = true := Nat.ble_eq_true_of_le (Nat.le_trans (by decide) hd)
  refine qp_Met_of (by decide) (by rw [qp_r21.2]; rfl) [some (.ref 7), some (.int r), some (.int i)] (by rw [qp_r21.2]; rfl) ?_
  refine qp_run_E qp_ok21 2 (c' := (2, [some (.ref 7), some (.int r), some (.int i)], [.int r, .ref 7], qp_mk I J)) (by with_unfolding_all rfl) hd1 trivial ?_
  refine qp_cV qp_ok21 (rest := []) (oj := 1) qp_f13 rfl rfl (qs_isNumber7 l G r I J  (Nat.le_refl 1)) rfl rfl rfl rfl (Nat.le_trans (by decide) hd) ?_
  refine qp_br_E qp_ok21 (f := (qp_b2 (0 ≤ r ∧ r < 3)) = 0) (ct := (26, [some (.ref 7), some (.int r), some (.int i)], [], qp_mk I J)) (cf := (8, [some (.ref 7), some (.int r), some (.int i)], [], qp_mk I J)) (by with_unfolding_all rfl) (fun h1 => ?_) (fun h1 => ?_)
  · have h1 := qp_b2_0.mp h1
    refine qp_run_E qp_ok21 1 (c' := (27, [some (.ref 7), some (.int r), some (.int i)], [.int 0], qp_mk I J)) (by with_unfolding_all rfl) hd1 trivial ?_
    exact qp_retZ_E qp_ok21 rfl qp_r21.1 (by first | rfl | exact qp_b2_nar) ⟨rfl, rfl⟩ ⟨congrArg (fun z => some (Value.int z)) (by first | rfl | exact qp_b2_t (by grind) | exact qp_b2_f (by grind) | exact qp_b2_c (by grind)), rfl⟩
  · have h1 := qp_b2_1.mp h1
    refine qp_run_E qp_ok21 1 (c' := (9, [some (.ref 7), some (.int r), some (.int i)], [.int i], qp_mk I J)) (by with_unfolding_all rfl) hd1 trivial ?_
    refine qp_br_E qp_ok21 (f := i < 0) (ct := (26, [some (.ref 7), some (.int r), some (.int i)], [], qp_mk I J)) (cf := (12, [some (.ref 7), some (.int r), some (.int i)], [], qp_mk I J)) (by with_unfolding_all rfl) (fun h2 => ?_) (fun h2 => ?_)
    · refine qp_run_E qp_ok21 1 (c' := (27, [some (.ref 7), some (.int r), some (.int i)], [.int 0], qp_mk I J)) (by with_unfolding_all rfl) hd1 trivial ?_
      exact qp_retZ_E qp_ok21 rfl qp_r21.1 (by first | rfl | exact qp_b2_nar) ⟨rfl, rfl⟩ ⟨congrArg (fun z => some (Value.int z)) (by first | rfl | exact qp_b2_t (by grind) | exact qp_b2_f (by grind) | exact qp_b2_c (by grind)), rfl⟩
    · refine qp_run_E qp_ok21 5 (f := vp_in r 3 ∧ True) (c' := (19, [some (.ref 7), some (.int r), some (.int i)], [.int (I 8 (Int32.toNatClampNeg r)), .int i], qp_mk I J)) (by with_unfolding_all rfl) hd1 ⟨(qp_vin (c := 3) (by decide) (by grind) (by grind)), trivial⟩ ?_
      refine qp_br_E qp_ok21 (f := (I 8 (Int32.toNatClampNeg r)) ≤ i) (ct := (26, [some (.ref 7), some (.int r), some (.int i)], [], qp_mk I J)) (cf := (22, [some (.ref 7), some (.int r), some (.int i)], [], qp_mk I J)) (by with_unfolding_all rfl) (fun h3 => ?_) (fun h3 => ?_)
      · refine qp_run_E qp_ok21 1 (c' := (27, [some (.ref 7), some (.int r), some (.int i)], [.int 0], qp_mk I J)) (by with_unfolding_all rfl) hd1 trivial ?_
        exact qp_retZ_E qp_ok21 rfl qp_r21.1 (by first | rfl | exact qp_b2_nar) ⟨rfl, rfl⟩ ⟨congrArg (fun z => some (Value.int z)) (by first | rfl | exact qp_b2_t (by grind) | exact qp_b2_f (by grind) | exact qp_b2_c (by grind)), rfl⟩
      · refine qp_run_E qp_ok21 2 (c' := (27, [some (.ref 7), some (.int r), some (.int i)], [.int 1], qp_mk I J)) (by with_unfolding_all rfl) hd1 trivial ?_
        exact qp_retZ_E qp_ok21 rfl qp_r21.1 (by first | rfl | exact qp_b2_nar) ⟨rfl, rfl⟩ ⟨congrArg (fun z => some (Value.int z)) (by first | rfl | exact qp_b2_t (by grind) | exact qp_b2_f (by grind) | exact qp_b2_c (by grind)), rfl⟩

theorem qs_hasSpan7 (l : Launch) (G : qp_G) (r : Int32) (i : Int32) (n : Int32) (I : Nat → Nat → Int32) (J : Nat → Nat → Int64)  {d : Nat} (hd : 4 ≤ d) : qp_Met l G d 29 [.ref 7, .int r, .int i, .int n] (qp_mk I J) 0 0 (qp_R8 (some (.int (qp_b2 (((0 ≤ r ∧ r < 3) ∧ ¬ (I 8 (Int32.toNatClampNeg r)) = -1) ∧ 0 ≤ n ∧ 0 ≤ i ∧ i ≤ (I 8 (Int32.toNatClampNeg r)) - n)))) I J) := by
  have hd1 : Nat.ble 1 d = true := Nat.ble_eq_true_of_le (Nat.le_trans (by decide) hd)
  refine qp_Met_of (by decide) (by rw [qp_r29.2]; rfl) [some (.ref 7), some (.int r), some (.int i), some (.int n)] (by rw [qp_r29.2]; rfl) ?_
  refine qp_run_E qp_ok29 2 (c' := (2, [some (.ref 7), some (.int r), some (.int i), some (.int n)], [.int r, .ref 7], qp_mk I J)) (by with_unfolding_all rfl) hd1 trivial ?_
  refine qp_cV qp_ok29 (rest := []) (oj := 1) qp_f19 rfl rfl (qs_has7 l G r I J  (Nat.le_refl 3)) rfl rfl rfl rfl (Nat.le_trans (by decide) hd) ?_
  refine qp_br_E qp_ok29 (f := (qp_b2 ((0 ≤ r ∧ r < 3) ∧ ¬ (I 8 (Int32.toNatClampNeg r)) = -1)) = 0) (ct := (31, [some (.ref 7), some (.int r), some (.int i), some (.int n)], [], qp_mk I J)) (cf := (8, [some (.ref 7), some (.int r), some (.int i), some (.int n)], [], qp_mk I J)) (by with_unfolding_all rfl) (fun h1 => ?_) (fun h1 => ?_)
  · have h1 := qp_b2_0.mp h1
    refine qp_run_E qp_ok29 1 (c' := (32, [some (.ref 7), some (.int r), some (.int i), some (.int n)], [.int 0], qp_mk I J)) (by with_unfolding_all rfl) hd1 trivial ?_
    exact qp_retZ_E qp_ok29 rfl qp_r29.1 (by first | rfl | exact qp_b2_nar) ⟨rfl, rfl⟩ ⟨congrArg (fun z => some (Value.int z)) (by first | rfl | exact qp_b2_t (by grind) | exact qp_b2_f (by grind) | exact qp_b2_c (by grind)), rfl⟩
  · have h1 := qp_b2_1.mp h1
    refine qp_run_E qp_ok29 1 (c' := (9, [some (.ref 7), some (.int r), some (.int i), some (.int n)], [.int n], qp_mk I J)) (by with_unfolding_all rfl) hd1 trivial ?_
    refine qp_br_E qp_ok29 (f := n < 0) (ct := (31, [some (.ref 7), some (.int r), some (.int i), some (.int n)], [], qp_mk I J)) (cf := (12, [some (.ref 7), some (.int r), some (.int i), some (.int n)], [], qp_mk I J)) (by with_unfolding_all rfl) (fun h2 => ?_) (fun h2 => ?_)
    · refine qp_run_E qp_ok29 1 (c' := (32, [some (.ref 7), some (.int r), some (.int i), some (.int n)], [.int 0], qp_mk I J)) (by with_unfolding_all rfl) hd1 trivial ?_
      exact qp_retZ_E qp_ok29 rfl qp_r29.1 (by first | rfl | exact qp_b2_nar) ⟨rfl, rfl⟩ ⟨congrArg (fun z => some (Value.int z)) (by first | rfl | exact qp_b2_t (by grind) | exact qp_b2_f (by grind) | exact qp_b2_c (by grind)), rfl⟩
    · refine qp_run_E qp_ok29 1 (c' := (13, [some (.ref 7), some (.int r), some (.int i), some (.int n)], [.int i], qp_mk I J)) (by with_unfolding_all rfl) hd1 trivial ?_
      refine qp_br_E qp_ok29 (f := i < 0) (ct := (31, [some (.ref 7), some (.int r), some (.int i), some (.int n)], [], qp_mk I J)) (cf := (16, [some (.ref 7), some (.int r), some (.int i), some (.int n)], [], qp_mk I J)) (by with_unfolding_all rfl) (fun h3 => ?_) (fun h3 => ?_)
      · refine qp_run_E qp_ok29 1 (c' := (32, [some (.ref 7), some (.int r), some (.int i), some (.int n)], [.int 0], qp_mk I J)) (by with_unfolding_all rfl) hd1 trivial ?_
        exact qp_retZ_E qp_ok29 rfl qp_r29.1 (by first | rfl | exact qp_b2_nar) ⟨rfl, rfl⟩ ⟨congrArg (fun z => some (Value.int z)) (by first | rfl | exact qp_b2_t (by grind) | exact qp_b2_f (by grind) | exact qp_b2_c (by grind)), rfl⟩
      · refine qp_run_E qp_ok29 3 (c' := (19, [some (.ref 7), some (.int r), some (.int i), some (.int n)], [.int r, .ref 7, .int i], qp_mk I J)) (by with_unfolding_all rfl) hd1 trivial ?_
        refine qp_cV qp_ok29 (rest := [.int i]) (oj := 1) qp_f20 rfl rfl (qs_sizeOf7 l G r I J  (Nat.le_refl 2)) rfl rfl rfl rfl (Nat.le_trans (by decide) hd) ?_
        refine qp_run_E qp_ok29 2 (c' := (24, [some (.ref 7), some (.int r), some (.int i), some (.int n)], [.int ((if (0 ≤ r ∧ r < 3) then (I 8 (Int32.toNatClampNeg r)) else -1) - n), .int i], qp_mk I J)) (by with_unfolding_all rfl) hd1 trivial ?_
        refine qp_br_E qp_ok29 (f := ((if (0 ≤ r ∧ r < 3) then (I 8 (Int32.toNatClampNeg r)) else -1) - n) < i) (ct := (31, [some (.ref 7), some (.int r), some (.int i), some (.int n)], [], qp_mk I J)) (cf := (27, [some (.ref 7), some (.int r), some (.int i), some (.int n)], [], qp_mk I J)) (by with_unfolding_all rfl) (fun h4 => ?_) (fun h4 => ?_)
        · refine qp_run_E qp_ok29 1 (c' := (32, [some (.ref 7), some (.int r), some (.int i), some (.int n)], [.int 0], qp_mk I J)) (by with_unfolding_all rfl) hd1 trivial ?_
          exact qp_retZ_E qp_ok29 rfl qp_r29.1 (by first | rfl | exact qp_b2_nar) ⟨rfl, rfl⟩ ⟨congrArg (fun z => some (Value.int z)) (by first | rfl | exact qp_b2_t (by grind) | exact qp_b2_f (by grind) | exact qp_b2_c (by grind)), rfl⟩
        · refine qp_run_E qp_ok29 2 (c' := (32, [some (.ref 7), some (.int r), some (.int i), some (.int n)], [.int 1], qp_mk I J)) (by with_unfolding_all rfl) hd1 trivial ?_
          exact qp_retZ_E qp_ok29 rfl qp_r29.1 (by first | rfl | exact qp_b2_nar) ⟨rfl, rfl⟩ ⟨congrArg (fun z => some (Value.int z)) (by first | rfl | exact qp_b2_t (by grind) | exact qp_b2_f (by grind) | exact qp_b2_c (by grind)), rfl⟩

theorem qs_get7 (l : Launch) (G : qp_G) (r : Int32) (i : Int32) (I : Nat → Nat → Int32) (J : Nat → Nat → Int64) (hk : qs_ok 7 8 3 40 I) {d : Nat} (hd : 3 ≤ d) : qp_Met l G d 22 [.ref 7, .int r, .int i] (qp_mk I J) 0 0 (qp_R8 (some (.int (if ((0 ≤ r ∧ r < 3) ∧ 0 ≤ i ∧ i < (I 8 (Int32.toNatClampNeg r))) then (I 9 (40 * (Int32.toNatClampNeg r) + (Int32.toNatClampNeg i))) else 0))) I J) := by
  have hd1 : Nat.ble 1 d = true := Nat.ble_eq_true_of_le (Nat.le_trans (by decide) hd)
  refine qp_Met_of (by decide) (by rw [qp_r22.2]; rfl) [some (.ref 7), some (.int r), some (.int i)] (by rw [qp_r22.2]; rfl) ?_
  refine qp_run_E qp_ok22 3 (c' := (3, [some (.ref 7), some (.int r), some (.int i)], [.int i, .int r, .ref 7], qp_mk I J)) (by with_unfolding_all rfl) hd1 trivial ?_
  refine qp_cV qp_ok22 (rest := []) (oj := 1) qp_f21 rfl rfl (qs_hasPlace7 l G r i I J  (Nat.le_refl 2)) rfl rfl rfl rfl (Nat.le_trans (by decide) hd) ?_
  refine qp_br_E qp_ok22 (f := (qp_b2 ((0 ≤ r ∧ r < 3) ∧ 0 ≤ i ∧ i < (I 8 (Int32.toNatClampNeg r)))) = 0) (ct := (25, [some (.ref 7), some (.int r), some (.int i)], [], qp_mk I J)) (cf := (9, [some (.ref 7), some (.int r), some (.int i)], [], qp_mk I J)) (by with_unfolding_all rfl) (fun h1 => ?_) (fun h1 => ?_)
  · have h1 := qp_b2_0.mp h1
    refine qp_run_E qp_ok22 1 (c' := (26, [some (.ref 7), some (.int r), some (.int i)], [.int 0], qp_mk I J)) (by with_unfolding_all rfl) hd1 trivial ?_
    exact qp_retI_E qp_ok22 rfl qp_r22.1 ⟨rfl, rfl⟩ ⟨congrArg (fun z => some (Value.int z)) (by first | (rw [if_neg (by assumption)]; done) | (rw [if_pos (by assumption)]; have hk1 := hk.1; have hk2 := hk.2 _ (qp_clt (c := 3) (n := 3) (by decide) h1.1.1 h1.1.2); have hx := qp_ix 40 3 40 3 rfl rfl (by decide) (by decide) (by decide) h1.1.1 h1.1.2 h1.2.1 (by grind); rw [hk1]; exact congrArg (I 9) hx.1)), rfl⟩
  · have h1 := qp_b2_1.mp h1
    refine qp_run_E qp_ok22 10 (f := vp_in ((r * (I 7 0)) + i) 120 ∧ True) (c' := (26, [some (.ref 7), some (.int r), some (.int i)], [.int (I 9 (Int32.toNatClampNeg ((r * (I 7 0)) + i)))], qp_mk I J)) (by with_unfolding_all rfl) hd1 ⟨(qp_vin (c := 120) (by decide) (by have hk1 := hk.1; have hk2 := hk.2 _ (qp_clt (c := 3) (n := 3) (by decide) h1.1.1 h1.1.2); have hx := qp_ix 40 3 40 3 rfl rfl (by decide) (by decide) (by decide) h1.1.1 h1.1.2 h1.2.1 (by grind); rw [hk1]; first | exact hx.2.1 | exact hx.2.2) (by have hk1 := hk.1; have hk2 := hk.2 _ (qp_clt (c := 3) (n := 3) (by decide) h1.1.1 h1.1.2); have hx := qp_ix 40 3 40 3 rfl rfl (by decide) (by decide) (by decide) h1.1.1 h1.1.2 h1.2.1 (by grind); rw [hk1]; first | exact hx.2.1 | exact hx.2.2)), trivial⟩ ?_
    exact qp_retI_E qp_ok22 rfl qp_r22.1 ⟨rfl, rfl⟩ ⟨congrArg (fun z => some (Value.int z)) (by first | (rw [if_neg (by assumption)]; done) | (rw [if_pos (by assumption)]; have hk1 := hk.1; have hk2 := hk.2 _ (qp_clt (c := 3) (n := 3) (by decide) h1.1.1 h1.1.2); have hx := qp_ix 40 3 40 3 rfl rfl (by decide) (by decide) (by decide) h1.1.1 h1.1.2 h1.2.1 (by grind); rw [hk1]; exact congrArg (I 9) hx.1)), rfl⟩

theorem qs_set7 (l : Launch) (G : qp_G) (r : Int32) (i : Int32) (v : Int32) (I : Nat → Nat → Int32) (J : Nat → Nat → Int64) (hk : qs_ok 7 8 3 40 I) (hp : ((0 ≤ r ∧ r < 3) ∧ 0 ≤ i ∧ i < (I 8 (Int32.toNatClampNeg r)))) {d : Nat} (hd : 3 ≤ d) : qp_Met l G d 23 [.ref 7, .int r, .int i, .int v] (qp_mk I J) 0 0 (qp_R8 none (qp_up I 9 (40 * (Int32.toNatClampNeg r) + (Int32.toNatClampNeg i)) v) J) := by
  have hd1 : Nat.ble 1 d = true := Nat.ble_eq_true_of_le (Nat.le_trans (by decide) hd)
  refine qp_Met_of (by decide) (by rw [qp_r23.2]; rfl) [some (.ref 7), some (.int r), some (.int i), some (.int v)] (by rw [qp_r23.2]; rfl) ?_
  refine qp_run_E qp_ok23 3 (c' := (3, [some (.ref 7), some (.int r), some (.int i), some (.int v)], [.int i, .int r, .ref 7], qp_mk I J)) (by with_unfolding_all rfl) hd1 trivial ?_
  refine qp_cV qp_ok23 (rest := []) (oj := 1) qp_f21 rfl rfl (qs_hasPlace7 l G r i I J  (Nat.le_refl 2)) rfl rfl rfl rfl (Nat.le_trans (by decide) hd) ?_
  refine qp_br_E qp_ok23 (f := (qp_b2 ((0 ≤ r ∧ r < 3) ∧ 0 ≤ i ∧ i < (I 8 (Int32.toNatClampNeg r)))) = 0) (ct := (23, [some (.ref 7), some (.int r), some (.int i), some (.int v)], [], qp_mk I J)) (cf := (9, [some (.ref 7), some (.int r), some (.int i), some (.int v)], [], qp_mk I J)) (by with_unfolding_all rfl) (fun h1 => ?_) (fun h1 => ?_)
  · exact absurd (h1) (qp_b2_1.mpr hp)
  · refine qp_run_E qp_ok23 10 (f := vp_in ((r * (I 7 0)) + i) 120 ∧ True) (c' := (23, [some (.ref 7), some (.int r), some (.int i), some (.int v)], [], qp_mk (qp_up I 9 (Int32.toNatClampNeg ((r * (I 7 0)) + i)) v) J)) (by with_unfolding_all rfl) hd1 ⟨(qp_vin (c := 120) (by decide) (by have hk1 := hk.1; have hk2 := hk.2 _ (qp_clt (c := 3) (n := 3) (by decide) hp.1.1 hp.1.2); have hx := qp_ix 40 3 40 3 rfl rfl (by decide) (by decide) (by decide) hp.1.1 hp.1.2 hp.2.1 (by grind); rw [hk1]; first | exact hx.2.1 | exact hx.2.2) (by have hk1 := hk.1; have hk2 := hk.2 _ (qp_clt (c := 3) (n := 3) (by decide) hp.1.1 hp.1.2); have hx := qp_ix 40 3 40 3 rfl rfl (by decide) (by decide) (by decide) hp.1.1 hp.1.2 hp.2.1 (by grind); rw [hk1]; first | exact hx.2.1 | exact hx.2.2)), trivial⟩ ?_
    exact qp_retV_E qp_ok23 rfl qp_r23.1 ⟨rfl, rfl⟩ ⟨rfl, congrArg (fun z => qp_mk z J) (by have hk1 := hk.1; have hk2 := hk.2 _ (qp_clt (c := 3) (n := 3) (by decide) hp.1.1 hp.1.2); have hx := qp_ix 40 3 40 3 rfl rfl (by decide) (by decide) (by decide) hp.1.1 hp.1.2 hp.2.1 (by grind); rw [hk1]; exact congrArg (fun z => qp_up I 9 z v) hx.1)⟩

theorem qs_drop7 (l : Launch) (G : qp_G) (r : Int32) (I : Nat → Nat → Int32) (J : Nat → Nat → Int64) (hp : (0 ≤ r ∧ r < 3)) {d : Nat} (hd : 2 ≤ d) : qp_Met l G d 27 [.ref 7, .int r] (qp_mk I J) 0 0 (qp_R8 none (qp_up I 8 (Int32.toNatClampNeg r) (-1)) J) := by
  have hd1 : Nat.ble 1 d = true := Nat.ble_eq_true_of_le (Nat.le_trans (by decide) hd)
  refine qp_Met_of (by decide) (by rw [qp_r27.2]; rfl) [some (.ref 7), some (.int r)] (by rw [qp_r27.2]; rfl) ?_
  refine qp_run_E qp_ok27 2 (c' := (2, [some (.ref 7), some (.int r)], [.int r, .ref 7], qp_mk I J)) (by with_unfolding_all rfl) hd1 trivial ?_
  refine qp_cV qp_ok27 (rest := []) (oj := 1) qp_f13 rfl rfl (qs_isNumber7 l G r I J  (Nat.le_refl 1)) rfl rfl rfl rfl (Nat.le_trans (by decide) hd) ?_
  refine qp_br_E qp_ok27 (f := (qp_b2 (0 ≤ r ∧ r < 3)) = 0) (ct := (15, [some (.ref 7), some (.int r)], [], qp_mk I J)) (cf := (8, [some (.ref 7), some (.int r)], [], qp_mk I J)) (by with_unfolding_all rfl) (fun h1 => ?_) (fun h1 => ?_)
  · exact absurd (h1) (qp_b2_1.mpr hp)
  · refine qp_run_E qp_ok27 5 (f := vp_in r 3 ∧ True) (c' := (15, [some (.ref 7), some (.int r)], [], qp_mk (qp_up I 8 (Int32.toNatClampNeg r) (-1)) J)) (by with_unfolding_all rfl) hd1 ⟨(qp_vin (c := 3) (by decide) (by grind) (by grind)), trivial⟩ ?_
    exact qp_retV_E qp_ok27 rfl qp_r27.1 ⟨rfl, rfl⟩ ⟨rfl, rfl⟩

theorem qs_fresh7 (l : Launch) (G : qp_G) (r : Int32) (n : Int32) (v : Int32) (I : Nat → Nat → Int32) (J : Nat → Nat → Int64) (hk : qs_ok 7 8 3 40 I) (hp : (0 ≤ r ∧ r < 3) ∧ 0 ≤ n ∧ n ≤ 40) {d : Nat} (hd : 3 ≤ d) : qp_Met l G d 15 [.ref 7, .int r, .int n, .int v] (qp_mk I J) 0 0 (qp_R8 none (qs_fill (qp_up I 8 (Int32.toNatClampNeg r) n) 9 (40 * (Int32.toNatClampNeg r)) (Int32.toNatClampNeg n) v) J) := by
  have hd1 : Nat.ble 1 d = true := Nat.ble_eq_true_of_le (Nat.le_trans (by decide) hd)
  refine qp_Met_of (by decide) (by rw [qp_r15.2]; rfl) [some (.ref 7), some (.int r), some (.int n), some (.int v), none] (by rw [qp_r15.2]; rfl) ?_
  refine qp_run_E qp_ok15 2 (c' := (2, [some (.ref 7), some (.int r), some (.int n), some (.int v), none], [.int r, .ref 7], qp_mk I J)) (by with_unfolding_all rfl) hd1 trivial ?_
  refine qp_cV qp_ok15 (rest := []) (oj := 1) qp_f13 rfl rfl (qs_isNumber7 l G r I J  (Nat.le_refl 1)) rfl rfl rfl rfl (Nat.le_trans (by decide) hd) ?_
  refine qp_br_E qp_ok15 (f := (qp_b2 (0 ≤ r ∧ r < 3)) = 0) (ct := (57, [some (.ref 7), some (.int r), some (.int n), some (.int v), none], [], qp_mk I J)) (cf := (8, [some (.ref 7), some (.int r), some (.int n), some (.int v), none], [], qp_mk I J)) (by with_unfolding_all rfl) (fun h1 => ?_) (fun h1 => ?_)
  · exact absurd (h1) (qp_b2_1.mpr hp.1)
  · refine qp_run_E qp_ok15 1 (c' := (9, [some (.ref 7), some (.int r), some (.int n), some (.int v), none], [.int n], qp_mk I J)) (by with_unfolding_all rfl) hd1 trivial ?_
    refine qp_br_E qp_ok15 (f := n < 0) (ct := (57, [some (.ref 7), some (.int r), some (.int n), some (.int v), none], [], qp_mk I J)) (cf := (12, [some (.ref 7), some (.int r), some (.int n), some (.int v), none], [], qp_mk I J)) (by with_unfolding_all rfl) (fun h2 => ?_) (fun h2 => ?_)
    · exfalso; grind
    · refine qp_run_E qp_ok15 3 (c' := (17, [some (.ref 7), some (.int r), some (.int n), some (.int v), none], [.int (I 7 0), .int n], qp_mk I J)) (by with_unfolding_all rfl) hd1 trivial ?_
      refine qp_br_E qp_ok15 (f := (I 7 0) < n) (ct := (57, [some (.ref 7), some (.int r), some (.int n), some (.int v), none], [], qp_mk I J)) (cf := (20, [some (.ref 7), some (.int r), some (.int n), some (.int v), none], [], qp_mk I J)) (by with_unfolding_all rfl) (fun h3 => ?_) (fun h3 => ?_)
      · exfalso; have := hk.1; grind
      · refine qp_run_E qp_ok15 7 (f := vp_in r 3 ∧ True) (c' := (30, [some (.ref 7), some (.int r), some (.int n), some (.int v), some (.int 0)], [], qp_mk (qp_up I 8 (Int32.toNatClampNeg r) n) J)) (by with_unfolding_all rfl) hd1 ⟨(qp_vin (c := 3) (by decide) (by grind) (by grind)), trivial⟩ ?_
        obtain ⟨en, hn⟩ := qn_ofle (c := 40) (n := 40) rfl (by decide) hp.2.1 hp.2.2
        rw [show (30, [some (.ref 7), some (.int r), some (.int n), some (.int v), some (.int 0)], [], qp_mk (qp_up I 8 (Int32.toNatClampNeg r) n) J) = ((30, [some (.ref 7), some (.int r), some (.int n), some (.int v), some (.int (nI 0))], [], qp_mk (qs_fill (qp_up I 8 (Int32.toNatClampNeg r) n) 9 (40 * (Int32.toNatClampNeg r)) 0 v) J) : qp_C) from by rw [qs_fill_0]; rfl]
        refine qp_loopN (P := fun j30 => qp_E l G d 15 (qp_mk I J) 0 0 (qp_R8 none (qs_fill (qp_up I 8 (Int32.toNatClampNeg r) n) 9 (40 * (Int32.toNatClampNeg r)) (Int32.toNatClampNeg n) v) J) (30, [some (.ref 7), some (.int r), some (.int n), some (.int v), some (.int (nI j30))], [], qp_mk (qs_fill (qp_up I 8 (Int32.toNatClampNeg r) n) 9 (40 * (Int32.toNatClampNeg r)) j30 v) J)) ((Int32.toNatClampNeg n)) ?_ (fun j30 h30 ih30 => ?_) 0 (Nat.zero_le _)
        · refine qp_run_E qp_ok15 2 (c' := (33, [some (.ref 7), some (.int r), some (.int n), some (.int v), some (.int (nI (Int32.toNatClampNeg n)))], [.int n, .int (nI (Int32.toNatClampNeg n))], qp_mk (qs_fill (qp_up I 8 (Int32.toNatClampNeg r) n) 9 (40 * (Int32.toNatClampNeg r)) (Int32.toNatClampNeg n) v) J)) (by with_unfolding_all rfl) hd1 trivial ?_
          refine qp_br_E qp_ok15 (f := n ≤ (nI (Int32.toNatClampNeg n))) (ct := (57, [some (.ref 7), some (.int r), some (.int n), some (.int v), some (.int (nI (Int32.toNatClampNeg n)))], [], qp_mk (qs_fill (qp_up I 8 (Int32.toNatClampNeg r) n) 9 (40 * (Int32.toNatClampNeg r)) (Int32.toNatClampNeg n) v) J)) (cf := (36, [some (.ref 7), some (.int r), some (.int n), some (.int v), some (.int (nI (Int32.toNatClampNeg n)))], [], qp_mk (qs_fill (qp_up I 8 (Int32.toNatClampNeg r) n) 9 (40 * (Int32.toNatClampNeg r)) (Int32.toNatClampNeg n) v) J)) (by with_unfolding_all rfl) (fun h4 => ?_) (fun h4 => ?_)
          · exact qp_retV_E qp_ok15 rfl qp_r15.1 ⟨rfl, rfl⟩ ⟨rfl, rfl⟩
          · exact absurd (by rw [← en]; exact Int32.le_refl n) h4
        · refine qp_run_E qp_ok15 2 (c' := (33, [some (.ref 7), some (.int r), some (.int n), some (.int v), some (.int (nI j30))], [.int n, .int (nI j30)], qp_mk (qs_fill (qp_up I 8 (Int32.toNatClampNeg r) n) 9 (40 * (Int32.toNatClampNeg r)) j30 v) J)) (by with_unfolding_all rfl) hd1 trivial ?_
          refine qp_br_E qp_ok15 (f := n ≤ (nI j30)) (ct := (57, [some (.ref 7), some (.int r), some (.int n), some (.int v), some (.int (nI j30))], [], qp_mk (qs_fill (qp_up I 8 (Int32.toNatClampNeg r) n) 9 (40 * (Int32.toNatClampNeg r)) j30 v) J)) (cf := (36, [some (.ref 7), some (.int r), some (.int n), some (.int v), some (.int (nI j30))], [], qp_mk (qs_fill (qp_up I 8 (Int32.toNatClampNeg r) n) 9 (40 * (Int32.toNatClampNeg r)) j30 v) J)) (by with_unfolding_all rfl) (fun h5 => ?_) (fun h5 => ?_)
          · exact absurd (show nI _ ≤ nI _ from en ▸ h5) (nI_ge h30 (by omega))
          · refine qp_run_E qp_ok15 12 (f := vp_in ((r * (I 7 0)) + (nI j30)) 120 ∧ True) (c' := (30, [some (.ref 7), some (.int r), some (.int n), some (.int v), some (.int ((nI j30) + 1))], [], qp_mk (qp_up (qs_fill (qp_up I 8 (Int32.toNatClampNeg r) n) 9 (40 * (Int32.toNatClampNeg r)) j30 v) 9 (Int32.toNatClampNeg ((r * (I 7 0)) + (nI j30))) v) J)) (by with_unfolding_all rfl) hd1 ⟨(qp_vin (c := 120) (by decide) (by have hx := qp_ix 40 3 40 3 (r := r) (i := nI j30) rfl rfl (by decide) (by decide) (by decide) hp.1.1 hp.1.2 (nI_pos' (by omega)) ((nI_ltI (by omega) (by decide)).mpr (show _ < 40 by omega)); rw [show I 7 0 = 40 from hk.1]; first | exact hx.2.1 | exact hx.2.2) (by have hx := qp_ix 40 3 40 3 (r := r) (i := nI j30) rfl rfl (by decide) (by decide) (by decide) hp.1.1 hp.1.2 (nI_pos' (by omega)) ((nI_ltI (by omega) (by decide)).mpr (show _ < 40 by omega)); rw [show I 7 0 = 40 from hk.1]; first | exact hx.2.1 | exact hx.2.2)), trivial⟩ ?_
            exact qp_E_c (by rw [nI_1, qs_fill_s (by rw [hk.1]; have hx := qp_ix 40 3 40 3 (r := r) (i := nI j30) rfl rfl (by decide) (by decide) (by decide) hp.1.1 hp.1.2 (nI_pos' (by omega)) ((nI_ltI (by omega) (by decide)).mpr (show _ < 40 by omega)); rw [show Int32.toNatClampNeg _ = _ from hx.1]; rw [show Int32.toNatClampNeg (nI j30) = _ from qn_nI (by omega)])]) ih30


/-! THE CLASS: rows and texts, what is found and told -/
theorem qx_found (l : Launch) (G : qp_G) (f : Int32) (I : Nat → Nat → Int32) (J : Nat → Nat → Int64) (hf : 1 ≤ f ∧ f ≤ 5) {d : Nat} (hd : 1 ≤ d) : qp_Met l G d 14 [.ref 0, .int f] (qp_mk I J) 0 0 (qp_R8 (some (.int (-3))) (qp_up (qp_up I 0 10 f) 35 (Int32.toNatClampNeg f) ((I 35 (Int32.toNatClampNeg f)) + 1)) J) := by
  have hd1 : Nat.ble 1 d = true := Nat.ble_eq_true_of_le (Nat.le_trans (by decide) hd)
  refine qp_Met_of (by decide) (by rw [qp_r14.2]; rfl) [some (.ref 0), some (.int f)] (by rw [qp_r14.2]; rfl) ?_
  refine qp_run_E qp_ok14 5 (c' := (7, [some (.ref 0), some (.int f)], [.int 1, .int f], qp_mk (qp_up I 0 10 f) J)) (by with_unfolding_all rfl) hd1 trivial ?_
  refine qp_br_E qp_ok14 (f := f < 1) (ct := (25, [some (.ref 0), some (.int f)], [], qp_mk (qp_up I 0 10 f) J)) (cf := (10, [some (.ref 0), some (.int f)], [], qp_mk (qp_up I 0 10 f) J)) (by with_unfolding_all rfl) (fun h1 => ?_) (fun h1 => ?_)
  · exfalso; grind
  · refine qp_run_E qp_ok14 2 (c' := (12, [some (.ref 0), some (.int f)], [.int 5, .int f], qp_mk (qp_up I 0 10 f) J)) (by with_unfolding_all rfl) hd1 trivial ?_
    refine qp_br_E qp_ok14 (f := 5 < f) (ct := (25, [some (.ref 0), some (.int f)], [], qp_mk (qp_up I 0 10 f) J)) (cf := (15, [some (.ref 0), some (.int f)], [], qp_mk (qp_up I 0 10 f) J)) (by with_unfolding_all rfl) (fun h2 => ?_) (fun h2 => ?_)
    · exfalso; grind
    · refine qp_run_E qp_ok14 9 (f := vp_in f 6 ∧ vp_in f 6 ∧ True) (c' := (27, [some (.ref 0), some (.int f)], [.int (-3)], qp_mk (qp_up (qp_up I 0 10 f) 35 (Int32.toNatClampNeg f) ((I 35 (Int32.toNatClampNeg f)) + 1)) J)) (by with_unfolding_all rfl) hd1 ⟨(qp_vin (c := 6) (by decide) (by grind) (by grind)), (qp_vin (c := 6) (by decide) (by grind) (by grind)), trivial⟩ ?_
      exact qp_retI_E qp_ok14 rfl qp_r14.1 ⟨rfl, rfl⟩ ⟨rfl, rfl⟩

theorem qx_tell (l : Launch) (G : qp_G) (v : Int32) (I : Nat → Nat → Int32) (J : Nat → Nat → Int64)  {d : Nat} (hd : 1 ≤ d) : qp_Met l G d 24 [.ref 0, .int v] (qp_mk I J) 0 0 (qp_R8 (some (.int 1)) (qp_up I 0 11 v) J) := by
  have hd1 : Nat.ble 1 d = true := Nat.ble_eq_true_of_le (Nat.le_trans (by decide) hd)
  refine qp_Met_of (by decide) (by rw [qp_r24.2]; rfl) [some (.ref 0), some (.int v)] (by rw [qp_r24.2]; rfl) ?_
  refine qp_run_E qp_ok24 4 (c' := (6, [some (.ref 0), some (.int v)], [.int 1], qp_mk (qp_up I 0 11 v) J)) (by with_unfolding_all rfl) hd1 trivial ?_
  exact qp_retI_E qp_ok24 rfl qp_r24.1 ⟨rfl, rfl⟩ ⟨rfl, rfl⟩

theorem qx_asked (l : Launch) (G : qp_G)  (I : Nat → Nat → Int32) (J : Nat → Nat → Int64)  {d : Nat} (hd : 1 ≤ d) : qp_Met l G d 135 [.ref 0] (qp_mk I J) 0 0 (qp_R8 (some (.int (I 0 11))) I J) := by
  have hd1 : Nat.ble 1 d = true := Nat.ble_eq_true_of_le (Nat.le_trans (by decide) hd)
  refine qp_Met_of (by decide) (by rw [qp_r135.2]; rfl) [some (.ref 0)] (by rw [qp_r135.2]; rfl) ?_
  refine qp_run_E qp_ok135 2 (c' := (4, [some (.ref 0)], [.int (I 0 11)], qp_mk I J)) (by with_unfolding_all rfl) hd1 trivial ?_
  exact qp_retI_E qp_ok135 rfl qp_r135.1 ⟨rfl, rfl⟩ ⟨rfl, rfl⟩

theorem qx_upper (l : Launch) (G : qp_G)  (I : Nat → Nat → Int32) (J : Nat → Nat → Int64)  {d : Nat} (hd : 1 ≤ d) : qp_Met l G d 136 [.ref 0] (qp_mk I J) 0 0 (qp_R8 (some (.long (J 0 12))) I J) := by
  have hd1 : Nat.ble 1 d = true := Nat.ble_eq_true_of_le (Nat.le_trans (by decide) hd)
  refine qp_Met_of (by decide) (by rw [qp_r136.2]; rfl) [some (.ref 0)] (by rw [qp_r136.2]; rfl) ?_
  refine qp_run_E qp_ok136 2 (c' := (4, [some (.ref 0)], [.long (J 0 12)], qp_mk I J)) (by with_unfolding_all rfl) hd1 trivial ?_
  exact qp_retL_E qp_ok136 rfl qp_r136.1 ⟨rfl, rfl⟩ ⟨rfl, rfl⟩

theorem qx_lower (l : Launch) (G : qp_G)  (I : Nat → Nat → Int32) (J : Nat → Nat → Int64)  {d : Nat} (hd : 1 ≤ d) : qp_Met l G d 137 [.ref 0] (qp_mk I J) 0 0 (qp_R8 (some (.long (J 0 13))) I J) := by
  have hd1 : Nat.ble 1 d = true := Nat.ble_eq_true_of_le (Nat.le_trans (by decide) hd)
  refine qp_Met_of (by decide) (by rw [qp_r137.2]; rfl) [some (.ref 0)] (by rw [qp_r137.2]; rfl) ?_
  refine qp_run_E qp_ok137 2 (c' := (4, [some (.ref 0)], [.long (J 0 13)], qp_mk I J)) (by with_unfolding_all rfl) hd1 trivial ?_
  exact qp_retL_E qp_ok137 rfl qp_r137.1 ⟨rfl, rfl⟩ ⟨rfl, rfl⟩

theorem qx_finding (l : Launch) (G : qp_G)  (I : Nat → Nat → Int32) (J : Nat → Nat → Int64)  {d : Nat} (hd : 1 ≤ d) : qp_Met l G d 142 [.ref 0] (qp_mk I J) 0 0 (qp_R8 (some (.int (I 0 10))) I J) := by
  have hd1 : Nat.ble 1 d = true := Nat.ble_eq_true_of_le (Nat.le_trans (by decide) hd)
  refine qp_Met_of (by decide) (by rw [qp_r142.2]; rfl) [some (.ref 0)] (by rw [qp_r142.2]; rfl) ?_
  refine qp_run_E qp_ok142 2 (c' := (4, [some (.ref 0)], [.int (I 0 10)], qp_mk I J)) (by with_unfolding_all rfl) hd1 trivial ?_
  exact qp_retI_E qp_ok142 rfl qp_r142.1 ⟨rfl, rfl⟩ ⟨rfl, rfl⟩

theorem qx_refB1 (l : Launch) (G : qp_G) (r : Int32) (I : Nat → Nat → Int32) (J : Nat → Nat → Int64) (hp : ¬ (0 ≤ r ∧ r < 6)) {d : Nat} (hd : 5 ≤ d) : qp_Met l G d 18 [.ref 0, .ref 1, .int r] (qp_mk I J) 0 0 (qp_R8 (some (.int (-1))) I J) := by
  have hd1 : Nat.ble 1 d = true := Nat.ble_eq_true_of_le (Nat.le_trans (by decide) hd)
  refine qp_Met_of (by decide) (by rw [qp_r18.2]; rfl) [some (.ref 0), some (.ref 1), some (.int r)] (by rw [qp_r18.2]; rfl) ?_
  refine qp_run_E qp_ok18 2 (c' := (2, [some (.ref 0), some (.ref 1), some (.int r)], [.int r, .ref 1], qp_mk I J)) (by with_unfolding_all rfl) hd1 trivial ?_
  refine qp_cV qp_ok18 (rest := []) (oj := 1) qp_f13 rfl rfl (qs_isNumber1 l G r I J  (Nat.le_refl 1)) rfl rfl rfl rfl (Nat.le_trans (by decide) hd) ?_
  refine qp_br_E qp_ok18 (f := ¬ (qp_b2 (0 ≤ r ∧ r < 6)) = 0) (ct := (10, [some (.ref 0), some (.ref 1), some (.int r)], [], qp_mk I J)) (cf := (8, [some (.ref 0), some (.ref 1), some (.int r)], [], qp_mk I J)) (by with_unfolding_all rfl) (fun h1 => ?_) (fun h1 => ?_)
  · have h1 := qp_b2_1.mp h1
    exfalso; grind
  · have h1 := qp_b2_0.mp (Classical.not_not.mp h1)
    refine qp_run_E qp_ok18 1 (c' := (9, [some (.ref 0), some (.ref 1), some (.int r)], [.int (-1)], qp_mk I J)) (by with_unfolding_all rfl) hd1 trivial ?_
    exact qp_retI_E qp_ok18 rfl qp_r18.1 ⟨rfl, rfl⟩ ⟨rfl, rfl⟩

theorem qx_refN1 (l : Launch) (G : qp_G) (r : Int32) (I : Nat → Nat → Int32) (J : Nat → Nat → Int64) (hp : (0 ≤ r ∧ r < 6)) (hn : I 2 (Int32.toNatClampNeg r) = -1) {d : Nat} (hd : 5 ≤ d) : qp_Met l G d 18 [.ref 0, .ref 1, .int r] (qp_mk I J) 0 0 (qp_R8 (some (.int (-3))) (qp_up (qp_up I 0 10 1) 35 1 ((I 35 1) + 1)) J) := by
  have hd1 : Nat.ble 1 d = true := Nat.ble_eq_true_of_le (Nat.le_trans (by decide) hd)
  refine qp_Met_of (by decide) (by rw [qp_r18.2]; rfl) [some (.ref 0), some (.ref 1), some (.int r)] (by rw [qp_r18.2]; rfl) ?_
  refine qp_run_E qp_ok18 2 (c' := (2, [some (.ref 0), some (.ref 1), some (.int r)], [.int r, .ref 1], qp_mk I J)) (by with_unfolding_all rfl) hd1 trivial ?_
  refine qp_cV qp_ok18 (rest := []) (oj := 1) qp_f13 rfl rfl (qs_isNumber1 l G r I J  (Nat.le_refl 1)) rfl rfl rfl rfl (Nat.le_trans (by decide) hd) ?_
  refine qp_br_E qp_ok18 (f := ¬ (qp_b2 (0 ≤ r ∧ r < 6)) = 0) (ct := (10, [some (.ref 0), some (.ref 1), some (.int r)], [], qp_mk I J)) (cf := (8, [some (.ref 0), some (.ref 1), some (.int r)], [], qp_mk I J)) (by with_unfolding_all rfl) (fun h1 => ?_) (fun h1 => ?_)
  · have h1 := qp_b2_1.mp h1
    refine qp_run_E qp_ok18 2 (c' := (12, [some (.ref 0), some (.ref 1), some (.int r)], [.int r, .ref 1], qp_mk I J)) (by with_unfolding_all rfl) hd1 trivial ?_
    refine qp_cV qp_ok18 (rest := []) (oj := 1) qp_f19 rfl rfl (qs_has1 l G r I J  (Nat.le_refl 3)) rfl rfl rfl rfl (Nat.le_trans (by decide) hd) ?_
    refine qp_br_E qp_ok18 (f := (qp_b2 ((0 ≤ r ∧ r < 6) ∧ ¬ (I 2 (Int32.toNatClampNeg r)) = -1)) = 0) (ct := (22, [some (.ref 0), some (.ref 1), some (.int r)], [], qp_mk I J)) (cf := (18, [some (.ref 0), some (.ref 1), some (.int r)], [], qp_mk I J)) (by with_unfolding_all rfl) (fun h2 => ?_) (fun h2 => ?_)
    · have h2 := qp_b2_0.mp h2
      refine qp_run_E qp_ok18 2 (c' := (24, [some (.ref 0), some (.ref 1), some (.int r)], [.int 1, .ref 0], qp_mk I J)) (by with_unfolding_all rfl) hd1 trivial ?_
      refine qp_cV qp_ok18 (rest := []) (oj := 0) qp_f14 rfl rfl (qx_found l G 1 I J (by decide) (Nat.le_refl 1)) rfl rfl rfl rfl (Nat.le_trans (by decide) hd) ?_
      exact qp_retI_E qp_ok18 rfl qp_r18.1 ⟨rfl, rfl⟩ ⟨rfl, rfl⟩
    · have h2 := qp_b2_1.mp h2
      exfalso; grind
  · have h1 := qp_b2_0.mp (Classical.not_not.mp h1)
    exfalso; grind

theorem qx_refF1 (l : Launch) (G : qp_G) (r : Int32) (I : Nat → Nat → Int32) (J : Nat → Nat → Int64) (hp : (0 ≤ r ∧ r < 6)) (hn : ¬ I 2 (Int32.toNatClampNeg r) = -1) {d : Nat} (hd : 5 ≤ d) : qp_Met l G d 18 [.ref 0, .ref 1, .int r] (qp_mk I J) 0 0 (qp_R8 (some (.int 0)) I J) := by
  have hd1 : Nat.ble 1 d = true := Nat.ble_eq_true_of_le (Nat.le_trans (by decide) hd)
  refine qp_Met_of (by decide) (by rw [qp_r18.2]; rfl) [some (.ref 0), some (.ref 1), some (.int r)] (by rw [qp_r18.2]; rfl) ?_
  refine qp_run_E qp_ok18 2 (c' := (2, [some (.ref 0), some (.ref 1), some (.int r)], [.int r, .ref 1], qp_mk I J)) (by with_unfolding_all rfl) hd1 trivial ?_
  refine qp_cV qp_ok18 (rest := []) (oj := 1) qp_f13 rfl rfl (qs_isNumber1 l G r I J  (Nat.le_refl 1)) rfl rfl rfl rfl (Nat.le_trans (by decide) hd) ?_
  refine qp_br_E qp_ok18 (f := ¬ (qp_b2 (0 ≤ r ∧ r < 6)) = 0) (ct := (10, [some (.ref 0), some (.ref 1), some (.int r)], [], qp_mk I J)) (cf := (8, [some (.ref 0), some (.ref 1), some (.int r)], [], qp_mk I J)) (by with_unfolding_all rfl) (fun h1 => ?_) (fun h1 => ?_)
  · have h1 := qp_b2_1.mp h1
    refine qp_run_E qp_ok18 2 (c' := (12, [some (.ref 0), some (.ref 1), some (.int r)], [.int r, .ref 1], qp_mk I J)) (by with_unfolding_all rfl) hd1 trivial ?_
    refine qp_cV qp_ok18 (rest := []) (oj := 1) qp_f19 rfl rfl (qs_has1 l G r I J  (Nat.le_refl 3)) rfl rfl rfl rfl (Nat.le_trans (by decide) hd) ?_
    refine qp_br_E qp_ok18 (f := (qp_b2 ((0 ≤ r ∧ r < 6) ∧ ¬ (I 2 (Int32.toNatClampNeg r)) = -1)) = 0) (ct := (22, [some (.ref 0), some (.ref 1), some (.int r)], [], qp_mk I J)) (cf := (18, [some (.ref 0), some (.ref 1), some (.int r)], [], qp_mk I J)) (by with_unfolding_all rfl) (fun h2 => ?_) (fun h2 => ?_)
    · have h2 := qp_b2_0.mp h2
      exfalso; grind
    · have h2 := qp_b2_1.mp h2
      refine qp_run_E qp_ok18 2 (c' := (27, [some (.ref 0), some (.ref 1), some (.int r)], [.int 0], qp_mk I J)) (by with_unfolding_all rfl) hd1 trivial ?_
      exact qp_retI_E qp_ok18 rfl qp_r18.1 ⟨rfl, rfl⟩ ⟨rfl, rfl⟩
  · have h1 := qp_b2_0.mp (Classical.not_not.mp h1)
    exfalso; grind

theorem qx_refB4 (l : Launch) (G : qp_G) (r : Int32) (I : Nat → Nat → Int32) (J : Nat → Nat → Int64) (hp : ¬ (0 ≤ r ∧ r < 4)) {d : Nat} (hd : 5 ≤ d) : qp_Met l G d 18 [.ref 0, .ref 4, .int r] (qp_mk I J) 0 0 (qp_R8 (some (.int (-1))) I J) := by
  have hd1 : Nat.ble 1 d = true := Nat.ble_eq_true_of_le (Nat.le_trans (by decide) hd)
  refine qp_Met_of (by decide) (by rw [qp_r18.2]; rfl) [some (.ref 0), some (.ref 4), some (.int r)] (by rw [qp_r18.2]; rfl) ?_
  refine qp_run_E qp_ok18 2 (c' := (2, [some (.ref 0), some (.ref 4), some (.int r)], [.int r, .ref 4], qp_mk I J)) (by with_unfolding_all rfl) hd1 trivial ?_
  refine qp_cV qp_ok18 (rest := []) (oj := 1) qp_f13 rfl rfl (qs_isNumber4 l G r I J  (Nat.le_refl 1)) rfl rfl rfl rfl (Nat.le_trans (by decide) hd) ?_
  refine qp_br_E qp_ok18 (f := ¬ (qp_b2 (0 ≤ r ∧ r < 4)) = 0) (ct := (10, [some (.ref 0), some (.ref 4), some (.int r)], [], qp_mk I J)) (cf := (8, [some (.ref 0), some (.ref 4), some (.int r)], [], qp_mk I J)) (by with_unfolding_all rfl) (fun h1 => ?_) (fun h1 => ?_)
  · have h1 := qp_b2_1.mp h1
    exfalso; grind
  · have h1 := qp_b2_0.mp (Classical.not_not.mp h1)
    refine qp_run_E qp_ok18 1 (c' := (9, [some (.ref 0), some (.ref 4), some (.int r)], [.int (-1)], qp_mk I J)) (by with_unfolding_all rfl) hd1 trivial ?_
    exact qp_retI_E qp_ok18 rfl qp_r18.1 ⟨rfl, rfl⟩ ⟨rfl, rfl⟩

theorem qx_refN4 (l : Launch) (G : qp_G) (r : Int32) (I : Nat → Nat → Int32) (J : Nat → Nat → Int64) (hp : (0 ≤ r ∧ r < 4)) (hn : I 5 (Int32.toNatClampNeg r) = -1) {d : Nat} (hd : 5 ≤ d) : qp_Met l G d 18 [.ref 0, .ref 4, .int r] (qp_mk I J) 0 0 (qp_R8 (some (.int (-3))) (qp_up (qp_up I 0 10 1) 35 1 ((I 35 1) + 1)) J) := by
  have hd1 : Nat.ble 1 d = true := Nat.ble_eq_true_of_le (Nat.le_trans (by decide) hd)
  refine qp_Met_of (by decide) (by rw [qp_r18.2]; rfl) [some (.ref 0), some (.ref 4), some (.int r)] (by rw [qp_r18.2]; rfl) ?_
  refine qp_run_E qp_ok18 2 (c' := (2, [some (.ref 0), some (.ref 4), some (.int r)], [.int r, .ref 4], qp_mk I J)) (by with_unfolding_all rfl) hd1 trivial ?_
  refine qp_cV qp_ok18 (rest := []) (oj := 1) qp_f13 rfl rfl (qs_isNumber4 l G r I J  (Nat.le_refl 1)) rfl rfl rfl rfl (Nat.le_trans (by decide) hd) ?_
  refine qp_br_E qp_ok18 (f := ¬ (qp_b2 (0 ≤ r ∧ r < 4)) = 0) (ct := (10, [some (.ref 0), some (.ref 4), some (.int r)], [], qp_mk I J)) (cf := (8, [some (.ref 0), some (.ref 4), some (.int r)], [], qp_mk I J)) (by with_unfolding_all rfl) (fun h1 => ?_) (fun h1 => ?_)
  · have h1 := qp_b2_1.mp h1
    refine qp_run_E qp_ok18 2 (c' := (12, [some (.ref 0), some (.ref 4), some (.int r)], [.int r, .ref 4], qp_mk I J)) (by with_unfolding_all rfl) hd1 trivial ?_
    refine qp_cV qp_ok18 (rest := []) (oj := 1) qp_f19 rfl rfl (qs_has4 l G r I J  (Nat.le_refl 3)) rfl rfl rfl rfl (Nat.le_trans (by decide) hd) ?_
    refine qp_br_E qp_ok18 (f := (qp_b2 ((0 ≤ r ∧ r < 4) ∧ ¬ (I 5 (Int32.toNatClampNeg r)) = -1)) = 0) (ct := (22, [some (.ref 0), some (.ref 4), some (.int r)], [], qp_mk I J)) (cf := (18, [some (.ref 0), some (.ref 4), some (.int r)], [], qp_mk I J)) (by with_unfolding_all rfl) (fun h2 => ?_) (fun h2 => ?_)
    · have h2 := qp_b2_0.mp h2
      refine qp_run_E qp_ok18 2 (c' := (24, [some (.ref 0), some (.ref 4), some (.int r)], [.int 1, .ref 0], qp_mk I J)) (by with_unfolding_all rfl) hd1 trivial ?_
      refine qp_cV qp_ok18 (rest := []) (oj := 0) qp_f14 rfl rfl (qx_found l G 1 I J (by decide) (Nat.le_refl 1)) rfl rfl rfl rfl (Nat.le_trans (by decide) hd) ?_
      exact qp_retI_E qp_ok18 rfl qp_r18.1 ⟨rfl, rfl⟩ ⟨rfl, rfl⟩
    · have h2 := qp_b2_1.mp h2
      exfalso; grind
  · have h1 := qp_b2_0.mp (Classical.not_not.mp h1)
    exfalso; grind

theorem qx_refF4 (l : Launch) (G : qp_G) (r : Int32) (I : Nat → Nat → Int32) (J : Nat → Nat → Int64) (hp : (0 ≤ r ∧ r < 4)) (hn : ¬ I 5 (Int32.toNatClampNeg r) = -1) {d : Nat} (hd : 5 ≤ d) : qp_Met l G d 18 [.ref 0, .ref 4, .int r] (qp_mk I J) 0 0 (qp_R8 (some (.int 0)) I J) := by
  have hd1 : Nat.ble 1 d = true := Nat.ble_eq_true_of_le (Nat.le_trans (by decide) hd)
  refine qp_Met_of (by decide) (by rw [qp_r18.2]; rfl) [some (.ref 0), some (.ref 4), some (.int r)] (by rw [qp_r18.2]; rfl) ?_
  refine qp_run_E qp_ok18 2 (c' := (2, [some (.ref 0), some (.ref 4), some (.int r)], [.int r, .ref 4], qp_mk I J)) (by with_unfolding_all rfl) hd1 trivial ?_
  refine qp_cV qp_ok18 (rest := []) (oj := 1) qp_f13 rfl rfl (qs_isNumber4 l G r I J  (Nat.le_refl 1)) rfl rfl rfl rfl (Nat.le_trans (by decide) hd) ?_
  refine qp_br_E qp_ok18 (f := ¬ (qp_b2 (0 ≤ r ∧ r < 4)) = 0) (ct := (10, [some (.ref 0), some (.ref 4), some (.int r)], [], qp_mk I J)) (cf := (8, [some (.ref 0), some (.ref 4), some (.int r)], [], qp_mk I J)) (by with_unfolding_all rfl) (fun h1 => ?_) (fun h1 => ?_)
  · have h1 := qp_b2_1.mp h1
    refine qp_run_E qp_ok18 2 (c' := (12, [some (.ref 0), some (.ref 4), some (.int r)], [.int r, .ref 4], qp_mk I J)) (by with_unfolding_all rfl) hd1 trivial ?_
    refine qp_cV qp_ok18 (rest := []) (oj := 1) qp_f19 rfl rfl (qs_has4 l G r I J  (Nat.le_refl 3)) rfl rfl rfl rfl (Nat.le_trans (by decide) hd) ?_
    refine qp_br_E qp_ok18 (f := (qp_b2 ((0 ≤ r ∧ r < 4) ∧ ¬ (I 5 (Int32.toNatClampNeg r)) = -1)) = 0) (ct := (22, [some (.ref 0), some (.ref 4), some (.int r)], [], qp_mk I J)) (cf := (18, [some (.ref 0), some (.ref 4), some (.int r)], [], qp_mk I J)) (by with_unfolding_all rfl) (fun h2 => ?_) (fun h2 => ?_)
    · have h2 := qp_b2_0.mp h2
      exfalso; grind
    · have h2 := qp_b2_1.mp h2
      refine qp_run_E qp_ok18 2 (c' := (27, [some (.ref 0), some (.ref 4), some (.int r)], [.int 0], qp_mk I J)) (by with_unfolding_all rfl) hd1 trivial ?_
      exact qp_retI_E qp_ok18 rfl qp_r18.1 ⟨rfl, rfl⟩ ⟨rfl, rfl⟩
  · have h1 := qp_b2_0.mp (Classical.not_not.mp h1)
    exfalso; grind

theorem qx_refB7 (l : Launch) (G : qp_G) (r : Int32) (I : Nat → Nat → Int32) (J : Nat → Nat → Int64) (hp : ¬ (0 ≤ r ∧ r < 3)) {d : Nat} (hd : 5 ≤ d) : qp_Met l G d 18 [.ref 0, .ref 7, .int r] (qp_mk I J) 0 0 (qp_R8 (some (.int (-1))) I J) := by
  have hd1 : Nat.ble 1 d = true := Nat.ble_eq_true_of_le (Nat.le_trans (by decide) hd)
  refine qp_Met_of (by decide) (by rw [qp_r18.2]; rfl) [some (.ref 0), some (.ref 7), some (.int r)] (by rw [qp_r18.2]; rfl) ?_
  refine qp_run_E qp_ok18 2 (c' := (2, [some (.ref 0), some (.ref 7), some (.int r)], [.int r, .ref 7], qp_mk I J)) (by with_unfolding_all rfl) hd1 trivial ?_
  refine qp_cV qp_ok18 (rest := []) (oj := 1) qp_f13 rfl rfl (qs_isNumber7 l G r I J  (Nat.le_refl 1)) rfl rfl rfl rfl (Nat.le_trans (by decide) hd) ?_
  refine qp_br_E qp_ok18 (f := ¬ (qp_b2 (0 ≤ r ∧ r < 3)) = 0) (ct := (10, [some (.ref 0), some (.ref 7), some (.int r)], [], qp_mk I J)) (cf := (8, [some (.ref 0), some (.ref 7), some (.int r)], [], qp_mk I J)) (by with_unfolding_all rfl) (fun h1 => ?_) (fun h1 => ?_)
  · have h1 := qp_b2_1.mp h1
    exfalso; grind
  · have h1 := qp_b2_0.mp (Classical.not_not.mp h1)
    refine qp_run_E qp_ok18 1 (c' := (9, [some (.ref 0), some (.ref 7), some (.int r)], [.int (-1)], qp_mk I J)) (by with_unfolding_all rfl) hd1 trivial ?_
    exact qp_retI_E qp_ok18 rfl qp_r18.1 ⟨rfl, rfl⟩ ⟨rfl, rfl⟩

theorem qx_refN7 (l : Launch) (G : qp_G) (r : Int32) (I : Nat → Nat → Int32) (J : Nat → Nat → Int64) (hp : (0 ≤ r ∧ r < 3)) (hn : I 8 (Int32.toNatClampNeg r) = -1) {d : Nat} (hd : 5 ≤ d) : qp_Met l G d 18 [.ref 0, .ref 7, .int r] (qp_mk I J) 0 0 (qp_R8 (some (.int (-3))) (qp_up (qp_up I 0 10 1) 35 1 ((I 35 1) + 1)) J) := by
  have hd1 : Nat.ble 1 d = true := Nat.ble_eq_true_of_le (Nat.le_trans (by decide) hd)
  refine qp_Met_of (by decide) (by rw [qp_r18.2]; rfl) [some (.ref 0), some (.ref 7), some (.int r)] (by rw [qp_r18.2]; rfl) ?_
  refine qp_run_E qp_ok18 2 (c' := (2, [some (.ref 0), some (.ref 7), some (.int r)], [.int r, .ref 7], qp_mk I J)) (by with_unfolding_all rfl) hd1 trivial ?_
  refine qp_cV qp_ok18 (rest := []) (oj := 1) qp_f13 rfl rfl (qs_isNumber7 l G r I J  (Nat.le_refl 1)) rfl rfl rfl rfl (Nat.le_trans (by decide) hd) ?_
  refine qp_br_E qp_ok18 (f := ¬ (qp_b2 (0 ≤ r ∧ r < 3)) = 0) (ct := (10, [some (.ref 0), some (.ref 7), some (.int r)], [], qp_mk I J)) (cf := (8, [some (.ref 0), some (.ref 7), some (.int r)], [], qp_mk I J)) (by with_unfolding_all rfl) (fun h1 => ?_) (fun h1 => ?_)
  · have h1 := qp_b2_1.mp h1
    refine qp_run_E qp_ok18 2 (c' := (12, [some (.ref 0), some (.ref 7), some (.int r)], [.int r, .ref 7], qp_mk I J)) (by with_unfolding_all rfl) hd1 trivial ?_
    refine qp_cV qp_ok18 (rest := []) (oj := 1) qp_f19 rfl rfl (qs_has7 l G r I J  (Nat.le_refl 3)) rfl rfl rfl rfl (Nat.le_trans (by decide) hd) ?_
    refine qp_br_E qp_ok18 (f := (qp_b2 ((0 ≤ r ∧ r < 3) ∧ ¬ (I 8 (Int32.toNatClampNeg r)) = -1)) = 0) (ct := (22, [some (.ref 0), some (.ref 7), some (.int r)], [], qp_mk I J)) (cf := (18, [some (.ref 0), some (.ref 7), some (.int r)], [], qp_mk I J)) (by with_unfolding_all rfl) (fun h2 => ?_) (fun h2 => ?_)
    · have h2 := qp_b2_0.mp h2
      refine qp_run_E qp_ok18 2 (c' := (24, [some (.ref 0), some (.ref 7), some (.int r)], [.int 1, .ref 0], qp_mk I J)) (by with_unfolding_all rfl) hd1 trivial ?_
      refine qp_cV qp_ok18 (rest := []) (oj := 0) qp_f14 rfl rfl (qx_found l G 1 I J (by decide) (Nat.le_refl 1)) rfl rfl rfl rfl (Nat.le_trans (by decide) hd) ?_
      exact qp_retI_E qp_ok18 rfl qp_r18.1 ⟨rfl, rfl⟩ ⟨rfl, rfl⟩
    · have h2 := qp_b2_1.mp h2
      exfalso; grind
  · have h1 := qp_b2_0.mp (Classical.not_not.mp h1)
    exfalso; grind

theorem qx_refF7 (l : Launch) (G : qp_G) (r : Int32) (I : Nat → Nat → Int32) (J : Nat → Nat → Int64) (hp : (0 ≤ r ∧ r < 3)) (hn : ¬ I 8 (Int32.toNatClampNeg r) = -1) {d : Nat} (hd : 5 ≤ d) : qp_Met l G d 18 [.ref 0, .ref 7, .int r] (qp_mk I J) 0 0 (qp_R8 (some (.int 0)) I J) := by
  have hd1 : Nat.ble 1 d = true := Nat.ble_eq_true_of_le (Nat.le_trans (by decide) hd)
  refine qp_Met_of (by decide) (by rw [qp_r18.2]; rfl) [some (.ref 0), some (.ref 7), some (.int r)] (by rw [qp_r18.2]; rfl) ?_
  refine qp_run_E qp_ok18 2 (c' := (2, [some (.ref 0), some (.ref 7), some (.int r)], [.int r, .ref 7], qp_mk I J)) (by with_unfolding_all rfl) hd1 trivial ?_
  refine qp_cV qp_ok18 (rest := []) (oj := 1) qp_f13 rfl rfl (qs_isNumber7 l G r I J  (Nat.le_refl 1)) rfl rfl rfl rfl (Nat.le_trans (by decide) hd) ?_
  refine qp_br_E qp_ok18 (f := ¬ (qp_b2 (0 ≤ r ∧ r < 3)) = 0) (ct := (10, [some (.ref 0), some (.ref 7), some (.int r)], [], qp_mk I J)) (cf := (8, [some (.ref 0), some (.ref 7), some (.int r)], [], qp_mk I J)) (by with_unfolding_all rfl) (fun h1 => ?_) (fun h1 => ?_)
  · have h1 := qp_b2_1.mp h1
    refine qp_run_E qp_ok18 2 (c' := (12, [some (.ref 0), some (.ref 7), some (.int r)], [.int r, .ref 7], qp_mk I J)) (by with_unfolding_all rfl) hd1 trivial ?_
    refine qp_cV qp_ok18 (rest := []) (oj := 1) qp_f19 rfl rfl (qs_has7 l G r I J  (Nat.le_refl 3)) rfl rfl rfl rfl (Nat.le_trans (by decide) hd) ?_
    refine qp_br_E qp_ok18 (f := (qp_b2 ((0 ≤ r ∧ r < 3) ∧ ¬ (I 8 (Int32.toNatClampNeg r)) = -1)) = 0) (ct := (22, [some (.ref 0), some (.ref 7), some (.int r)], [], qp_mk I J)) (cf := (18, [some (.ref 0), some (.ref 7), some (.int r)], [], qp_mk I J)) (by with_unfolding_all rfl) (fun h2 => ?_) (fun h2 => ?_)
    · have h2 := qp_b2_0.mp h2
      exfalso; grind
    · have h2 := qp_b2_1.mp h2
      refine qp_run_E qp_ok18 2 (c' := (27, [some (.ref 0), some (.ref 7), some (.int r)], [.int 0], qp_mk I J)) (by with_unfolding_all rfl) hd1 trivial ?_
      exact qp_retI_E qp_ok18 rfl qp_r18.1 ⟨rfl, rfl⟩ ⟨rfl, rfl⟩
  · have h1 := qp_b2_0.mp (Classical.not_not.mp h1)
    exfalso; grind

theorem qx_rplB1 (l : Launch) (G : qp_G) (r : Int32) (i : Int32) (I : Nat → Nat → Int32) (J : Nat → Nat → Int64) (hp : ¬ (0 ≤ r ∧ r < 6)) {d : Nat} (hd : 6 ≤ d) : qp_Met l G d 17 [.ref 0, .ref 1, .int r, .int i] (qp_mk I J) 0 0 (qp_R8 (some (.int (-1))) I J) := by
  have hd1 : Nat.ble 1 d = true := Nat.ble_eq_true_of_le (Nat.le_trans (by decide) hd)
  refine qp_Met_of (by decide) (by rw [qp_r17.2]; rfl) [some (.ref 0), some (.ref 1), some (.int r), some (.int i), none] (by rw [qp_r17.2]; rfl) ?_
  refine qp_run_E qp_ok17 3 (c' := (3, [some (.ref 0), some (.ref 1), some (.int r), some (.int i), none], [.int r, .ref 1, .ref 0], qp_mk I J)) (by with_unfolding_all rfl) hd1 trivial ?_
  refine qp_cV qp_ok17 (rest := []) (oj := 0) qp_f18 rfl rfl (qx_refB1 l G r I J (by first | assumption | grind) (Nat.le_refl 5)) rfl rfl rfl rfl (Nat.le_trans (by decide) hd) ?_
  refine qp_run_E qp_ok17 2 (c' := (10, [some (.ref 0), some (.ref 1), some (.int r), some (.int i), some (.int (-1))], [.int (-1)], qp_mk I J)) (by with_unfolding_all rfl) hd1 trivial ?_
  refine qp_br_E qp_ok17 (f := ((-1) : Int32) = 0) (cf := (13, [some (.ref 0), some (.ref 1), some (.int r), some (.int i), some (.int (-1))], [], qp_mk I J)) (by with_unfolding_all rfl) (fun h => absurd h (by decide)) (fun _ => ?_)
  refine qp_run_E qp_ok17 1 (c' := (15, [some (.ref 0), some (.ref 1), some (.int r), some (.int i), some (.int (-1))], [.int (-1)], qp_mk I J)) (by with_unfolding_all rfl) hd1 trivial ?_
  exact qp_retI_E qp_ok17 rfl qp_r17.1 ⟨rfl, rfl⟩ ⟨rfl, rfl⟩

theorem qx_rplN1 (l : Launch) (G : qp_G) (r : Int32) (i : Int32) (I : Nat → Nat → Int32) (J : Nat → Nat → Int64) (hp : (0 ≤ r ∧ r < 6)) (hn : I 2 (Int32.toNatClampNeg r) = -1) {d : Nat} (hd : 6 ≤ d) : qp_Met l G d 17 [.ref 0, .ref 1, .int r, .int i] (qp_mk I J) 0 0 (qp_R8 (some (.int (-3))) (qp_up (qp_up I 0 10 1) 35 1 ((I 35 1) + 1)) J) := by
  have hd1 : Nat.ble 1 d = true := Nat.ble_eq_true_of_le (Nat.le_trans (by decide) hd)
  refine qp_Met_of (by decide) (by rw [qp_r17.2]; rfl) [some (.ref 0), some (.ref 1), some (.int r), some (.int i), none] (by rw [qp_r17.2]; rfl) ?_
  refine qp_run_E qp_ok17 3 (c' := (3, [some (.ref 0), some (.ref 1), some (.int r), some (.int i), none], [.int r, .ref 1, .ref 0], qp_mk I J)) (by with_unfolding_all rfl) hd1 trivial ?_
  refine qp_cV qp_ok17 (rest := []) (oj := 0) qp_f18 rfl rfl (qx_refN1 l G r I J (by first | assumption | grind) (by first | assumption | grind) (Nat.le_refl 5)) rfl rfl rfl rfl (Nat.le_trans (by decide) hd) ?_
  refine qp_run_E qp_ok17 2 (c' := (10, [some (.ref 0), some (.ref 1), some (.int r), some (.int i), some (.int (-3))], [.int (-3)], qp_mk (qp_up (qp_up I 0 10 1) 35 1 ((I 35 1) + 1)) J)) (by with_unfolding_all rfl) hd1 trivial ?_
  refine qp_br_E qp_ok17 (f := ((-3) : Int32) = 0) (cf := (13, [some (.ref 0), some (.ref 1), some (.int r), some (.int i), some (.int (-3))], [], qp_mk (qp_up (qp_up I 0 10 1) 35 1 ((I 35 1) + 1)) J)) (by with_unfolding_all rfl) (fun h => absurd h (by decide)) (fun _ => ?_)
  refine qp_run_E qp_ok17 1 (c' := (15, [some (.ref 0), some (.ref 1), some (.int r), some (.int i), some (.int (-3))], [.int (-3)], qp_mk (qp_up (qp_up I 0 10 1) 35 1 ((I 35 1) + 1)) J)) (by with_unfolding_all rfl) hd1 trivial ?_
  exact qp_retI_E qp_ok17 rfl qp_r17.1 ⟨rfl, rfl⟩ ⟨rfl, rfl⟩

theorem qx_rplY1 (l : Launch) (G : qp_G) (r : Int32) (i : Int32) (I : Nat → Nat → Int32) (J : Nat → Nat → Int64) (hp : (0 ≤ r ∧ r < 6)) (hn : ¬ I 2 (Int32.toNatClampNeg r) = -1) (hi : ¬ (0 ≤ i ∧ i < I 2 (Int32.toNatClampNeg r))) {d : Nat} (hd : 6 ≤ d) : qp_Met l G d 17 [.ref 0, .ref 1, .int r, .int i] (qp_mk I J) 0 0 (qp_R8 (some (.int (-3))) (qp_up (qp_up I 0 10 2) 35 2 ((I 35 2) + 1)) J) := by
  have hd1 : Nat.ble 1 d = true := Nat.ble_eq_true_of_le (Nat.le_trans (by decide) hd)
  refine qp_Met_of (by decide) (by rw [qp_r17.2]; rfl) [some (.ref 0), some (.ref 1), some (.int r), some (.int i), none] (by rw [qp_r17.2]; rfl) ?_
  refine qp_run_E qp_ok17 3 (c' := (3, [some (.ref 0), some (.ref 1), some (.int r), some (.int i), none], [.int r, .ref 1, .ref 0], qp_mk I J)) (by with_unfolding_all rfl) hd1 trivial ?_
  refine qp_cV qp_ok17 (rest := []) (oj := 0) qp_f18 rfl rfl (qx_refF1 l G r I J (by first | assumption | grind) (by first | assumption | grind) (Nat.le_refl 5)) rfl rfl rfl rfl (Nat.le_trans (by decide) hd) ?_
  refine qp_run_E qp_ok17 2 (c' := (10, [some (.ref 0), some (.ref 1), some (.int r), some (.int i), some (.int 0)], [.int 0], qp_mk I J)) (by with_unfolding_all rfl) hd1 trivial ?_
  refine qp_br_E qp_ok17 (f := (0 : Int32) = 0) (ct := (16, [some (.ref 0), some (.ref 1), some (.int r), some (.int i), some (.int 0)], [], qp_mk I J)) (by with_unfolding_all rfl) (fun _ => ?_) (fun h => absurd (by decide) h)
  refine qp_run_E qp_ok17 3 (c' := (19, [some (.ref 0), some (.ref 1), some (.int r), some (.int i), some (.int 0)], [.int i, .int r, .ref 1], qp_mk I J)) (by with_unfolding_all rfl) hd1 trivial ?_
  refine qp_cV qp_ok17 (rest := []) (oj := 1) qp_f21 rfl rfl (qs_hasPlace1 l G r i I J  (Nat.le_refl 2)) rfl rfl rfl rfl (Nat.le_trans (by decide) hd) ?_
  refine qp_br_E qp_ok17 (f := (qp_b2 ((0 ≤ r ∧ r < 6) ∧ 0 ≤ i ∧ i < (I 2 (Int32.toNatClampNeg r)))) = 0) (ct := (29, [some (.ref 0), some (.ref 1), some (.int r), some (.int i), some (.int 0)], [], qp_mk I J)) (cf := (25, [some (.ref 0), some (.ref 1), some (.int r), some (.int i), some (.int 0)], [], qp_mk I J)) (by with_unfolding_all rfl) (fun h1 => ?_) (fun h1 => ?_)
  · have h1 := qp_b2_0.mp h1
    refine qp_run_E qp_ok17 2 (c' := (31, [some (.ref 0), some (.ref 1), some (.int r), some (.int i), some (.int 0)], [.int 2, .ref 0], qp_mk I J)) (by with_unfolding_all rfl) hd1 trivial ?_
    refine qp_cV qp_ok17 (rest := []) (oj := 0) qp_f14 rfl rfl (qx_found l G 2 I J (by decide) (Nat.le_refl 1)) rfl rfl rfl rfl (Nat.le_trans (by decide) hd) ?_
    exact qp_retI_E qp_ok17 rfl qp_r17.1 ⟨rfl, rfl⟩ ⟨rfl, rfl⟩
  · have h1 := qp_b2_1.mp h1
    exfalso; grind

theorem qx_rplF1 (l : Launch) (G : qp_G) (r : Int32) (i : Int32) (I : Nat → Nat → Int32) (J : Nat → Nat → Int64) (hp : (0 ≤ r ∧ r < 6)) (hn : ¬ I 2 (Int32.toNatClampNeg r) = -1) (hi : 0 ≤ i ∧ i < I 2 (Int32.toNatClampNeg r)) {d : Nat} (hd : 6 ≤ d) : qp_Met l G d 17 [.ref 0, .ref 1, .int r, .int i] (qp_mk I J) 0 0 (qp_R8 (some (.int 0)) I J) := by
  have hd1 : Nat.ble 1 d = true := Nat.ble_eq_true_of_le (Nat.le_trans (by decide) hd)
  refine qp_Met_of (by decide) (by rw [qp_r17.2]; rfl) [some (.ref 0), some (.ref 1), some (.int r), some (.int i), none] (by rw [qp_r17.2]; rfl) ?_
  refine qp_run_E qp_ok17 3 (c' := (3, [some (.ref 0), some (.ref 1), some (.int r), some (.int i), none], [.int r, .ref 1, .ref 0], qp_mk I J)) (by with_unfolding_all rfl) hd1 trivial ?_
  refine qp_cV qp_ok17 (rest := []) (oj := 0) qp_f18 rfl rfl (qx_refF1 l G r I J (by first | assumption | grind) (by first | assumption | grind) (Nat.le_refl 5)) rfl rfl rfl rfl (Nat.le_trans (by decide) hd) ?_
  refine qp_run_E qp_ok17 2 (c' := (10, [some (.ref 0), some (.ref 1), some (.int r), some (.int i), some (.int 0)], [.int 0], qp_mk I J)) (by with_unfolding_all rfl) hd1 trivial ?_
  refine qp_br_E qp_ok17 (f := (0 : Int32) = 0) (ct := (16, [some (.ref 0), some (.ref 1), some (.int r), some (.int i), some (.int 0)], [], qp_mk I J)) (by with_unfolding_all rfl) (fun _ => ?_) (fun h => absurd (by decide) h)
  refine qp_run_E qp_ok17 3 (c' := (19, [some (.ref 0), some (.ref 1), some (.int r), some (.int i), some (.int 0)], [.int i, .int r, .ref 1], qp_mk I J)) (by with_unfolding_all rfl) hd1 trivial ?_
  refine qp_cV qp_ok17 (rest := []) (oj := 1) qp_f21 rfl rfl (qs_hasPlace1 l G r i I J  (Nat.le_refl 2)) rfl rfl rfl rfl (Nat.le_trans (by decide) hd) ?_
  refine qp_br_E qp_ok17 (f := (qp_b2 ((0 ≤ r ∧ r < 6) ∧ 0 ≤ i ∧ i < (I 2 (Int32.toNatClampNeg r)))) = 0) (ct := (29, [some (.ref 0), some (.ref 1), some (.int r), some (.int i), some (.int 0)], [], qp_mk I J)) (cf := (25, [some (.ref 0), some (.ref 1), some (.int r), some (.int i), some (.int 0)], [], qp_mk I J)) (by with_unfolding_all rfl) (fun h1 => ?_) (fun h1 => ?_)
  · have h1 := qp_b2_0.mp h1
    exfalso; grind
  · have h1 := qp_b2_1.mp h1
    refine qp_run_E qp_ok17 2 (c' := (34, [some (.ref 0), some (.ref 1), some (.int r), some (.int i), some (.int 0)], [.int 0], qp_mk I J)) (by with_unfolding_all rfl) hd1 trivial ?_
    exact qp_retI_E qp_ok17 rfl qp_r17.1 ⟨rfl, rfl⟩ ⟨rfl, rfl⟩

theorem qx_rplB4 (l : Launch) (G : qp_G) (r : Int32) (i : Int32) (I : Nat → Nat → Int32) (J : Nat → Nat → Int64) (hp : ¬ (0 ≤ r ∧ r < 4)) {d : Nat} (hd : 6 ≤ d) : qp_Met l G d 17 [.ref 0, .ref 4, .int r, .int i] (qp_mk I J) 0 0 (qp_R8 (some (.int (-1))) I J) := by
  have hd1 : Nat.ble 1 d = true := Nat.ble_eq_true_of_le (Nat.le_trans (by decide) hd)
  refine qp_Met_of (by decide) (by rw [qp_r17.2]; rfl) [some (.ref 0), some (.ref 4), some (.int r), some (.int i), none] (by rw [qp_r17.2]; rfl) ?_
  refine qp_run_E qp_ok17 3 (c' := (3, [some (.ref 0), some (.ref 4), some (.int r), some (.int i), none], [.int r, .ref 4, .ref 0], qp_mk I J)) (by with_unfolding_all rfl) hd1 trivial ?_
  refine qp_cV qp_ok17 (rest := []) (oj := 0) qp_f18 rfl rfl (qx_refB4 l G r I J (by first | assumption | grind) (Nat.le_refl 5)) rfl rfl rfl rfl (Nat.le_trans (by decide) hd) ?_
  refine qp_run_E qp_ok17 2 (c' := (10, [some (.ref 0), some (.ref 4), some (.int r), some (.int i), some (.int (-1))], [.int (-1)], qp_mk I J)) (by with_unfolding_all rfl) hd1 trivial ?_
  refine qp_br_E qp_ok17 (f := ((-1) : Int32) = 0) (cf := (13, [some (.ref 0), some (.ref 4), some (.int r), some (.int i), some (.int (-1))], [], qp_mk I J)) (by with_unfolding_all rfl) (fun h => absurd h (by decide)) (fun _ => ?_)
  refine qp_run_E qp_ok17 1 (c' := (15, [some (.ref 0), some (.ref 4), some (.int r), some (.int i), some (.int (-1))], [.int (-1)], qp_mk I J)) (by with_unfolding_all rfl) hd1 trivial ?_
  exact qp_retI_E qp_ok17 rfl qp_r17.1 ⟨rfl, rfl⟩ ⟨rfl, rfl⟩

theorem qx_rplN4 (l : Launch) (G : qp_G) (r : Int32) (i : Int32) (I : Nat → Nat → Int32) (J : Nat → Nat → Int64) (hp : (0 ≤ r ∧ r < 4)) (hn : I 5 (Int32.toNatClampNeg r) = -1) {d : Nat} (hd : 6 ≤ d) : qp_Met l G d 17 [.ref 0, .ref 4, .int r, .int i] (qp_mk I J) 0 0 (qp_R8 (some (.int (-3))) (qp_up (qp_up I 0 10 1) 35 1 ((I 35 1) + 1)) J) := by
  have hd1 : Nat.ble 1 d = true := Nat.ble_eq_true_of_le (Nat.le_trans (by decide) hd)
  refine qp_Met_of (by decide) (by rw [qp_r17.2]; rfl) [some (.ref 0), some (.ref 4), some (.int r), some (.int i), none] (by rw [qp_r17.2]; rfl) ?_
  refine qp_run_E qp_ok17 3 (c' := (3, [some (.ref 0), some (.ref 4), some (.int r), some (.int i), none], [.int r, .ref 4, .ref 0], qp_mk I J)) (by with_unfolding_all rfl) hd1 trivial ?_
  refine qp_cV qp_ok17 (rest := []) (oj := 0) qp_f18 rfl rfl (qx_refN4 l G r I J (by first | assumption | grind) (by first | assumption | grind) (Nat.le_refl 5)) rfl rfl rfl rfl (Nat.le_trans (by decide) hd) ?_
  refine qp_run_E qp_ok17 2 (c' := (10, [some (.ref 0), some (.ref 4), some (.int r), some (.int i), some (.int (-3))], [.int (-3)], qp_mk (qp_up (qp_up I 0 10 1) 35 1 ((I 35 1) + 1)) J)) (by with_unfolding_all rfl) hd1 trivial ?_
  refine qp_br_E qp_ok17 (f := ((-3) : Int32) = 0) (cf := (13, [some (.ref 0), some (.ref 4), some (.int r), some (.int i), some (.int (-3))], [], qp_mk (qp_up (qp_up I 0 10 1) 35 1 ((I 35 1) + 1)) J)) (by with_unfolding_all rfl) (fun h => absurd h (by decide)) (fun _ => ?_)
  refine qp_run_E qp_ok17 1 (c' := (15, [some (.ref 0), some (.ref 4), some (.int r), some (.int i), some (.int (-3))], [.int (-3)], qp_mk (qp_up (qp_up I 0 10 1) 35 1 ((I 35 1) + 1)) J)) (by with_unfolding_all rfl) hd1 trivial ?_
  exact qp_retI_E qp_ok17 rfl qp_r17.1 ⟨rfl, rfl⟩ ⟨rfl, rfl⟩

theorem qx_rplY4 (l : Launch) (G : qp_G) (r : Int32) (i : Int32) (I : Nat → Nat → Int32) (J : Nat → Nat → Int64) (hp : (0 ≤ r ∧ r < 4)) (hn : ¬ I 5 (Int32.toNatClampNeg r) = -1) (hi : ¬ (0 ≤ i ∧ i < I 5 (Int32.toNatClampNeg r))) {d : Nat} (hd : 6 ≤ d) : qp_Met l G d 17 [.ref 0, .ref 4, .int r, .int i] (qp_mk I J) 0 0 (qp_R8 (some (.int (-3))) (qp_up (qp_up I 0 10 2) 35 2 ((I 35 2) + 1)) J) := by
  have hd1 : Nat.ble 1 d = true := Nat.ble_eq_true_of_le (Nat.le_trans (by decide) hd)
  refine qp_Met_of (by decide) (by rw [qp_r17.2]; rfl) [some (.ref 0), some (.ref 4), some (.int r), some (.int i), none] (by rw [qp_r17.2]; rfl) ?_
  refine qp_run_E qp_ok17 3 (c' := (3, [some (.ref 0), some (.ref 4), some (.int r), some (.int i), none], [.int r, .ref 4, .ref 0], qp_mk I J)) (by with_unfolding_all rfl) hd1 trivial ?_
  refine qp_cV qp_ok17 (rest := []) (oj := 0) qp_f18 rfl rfl (qx_refF4 l G r I J (by first | assumption | grind) (by first | assumption | grind) (Nat.le_refl 5)) rfl rfl rfl rfl (Nat.le_trans (by decide) hd) ?_
  refine qp_run_E qp_ok17 2 (c' := (10, [some (.ref 0), some (.ref 4), some (.int r), some (.int i), some (.int 0)], [.int 0], qp_mk I J)) (by with_unfolding_all rfl) hd1 trivial ?_
  refine qp_br_E qp_ok17 (f := (0 : Int32) = 0) (ct := (16, [some (.ref 0), some (.ref 4), some (.int r), some (.int i), some (.int 0)], [], qp_mk I J)) (by with_unfolding_all rfl) (fun _ => ?_) (fun h => absurd (by decide) h)
  refine qp_run_E qp_ok17 3 (c' := (19, [some (.ref 0), some (.ref 4), some (.int r), some (.int i), some (.int 0)], [.int i, .int r, .ref 4], qp_mk I J)) (by with_unfolding_all rfl) hd1 trivial ?_
  refine qp_cV qp_ok17 (rest := []) (oj := 1) qp_f21 rfl rfl (qs_hasPlace4 l G r i I J  (Nat.le_refl 2)) rfl rfl rfl rfl (Nat.le_trans (by decide) hd) ?_
  refine qp_br_E qp_ok17 (f := (qp_b2 ((0 ≤ r ∧ r < 4) ∧ 0 ≤ i ∧ i < (I 5 (Int32.toNatClampNeg r)))) = 0) (ct := (29, [some (.ref 0), some (.ref 4), some (.int r), some (.int i), some (.int 0)], [], qp_mk I J)) (cf := (25, [some (.ref 0), some (.ref 4), some (.int r), some (.int i), some (.int 0)], [], qp_mk I J)) (by with_unfolding_all rfl) (fun h1 => ?_) (fun h1 => ?_)
  · have h1 := qp_b2_0.mp h1
    refine qp_run_E qp_ok17 2 (c' := (31, [some (.ref 0), some (.ref 4), some (.int r), some (.int i), some (.int 0)], [.int 2, .ref 0], qp_mk I J)) (by with_unfolding_all rfl) hd1 trivial ?_
    refine qp_cV qp_ok17 (rest := []) (oj := 0) qp_f14 rfl rfl (qx_found l G 2 I J (by decide) (Nat.le_refl 1)) rfl rfl rfl rfl (Nat.le_trans (by decide) hd) ?_
    exact qp_retI_E qp_ok17 rfl qp_r17.1 ⟨rfl, rfl⟩ ⟨rfl, rfl⟩
  · have h1 := qp_b2_1.mp h1
    exfalso; grind

theorem qx_rplF4 (l : Launch) (G : qp_G) (r : Int32) (i : Int32) (I : Nat → Nat → Int32) (J : Nat → Nat → Int64) (hp : (0 ≤ r ∧ r < 4)) (hn : ¬ I 5 (Int32.toNatClampNeg r) = -1) (hi : 0 ≤ i ∧ i < I 5 (Int32.toNatClampNeg r)) {d : Nat} (hd : 6 ≤ d) : qp_Met l G d 17 [.ref 0, .ref 4, .int r, .int i] (qp_mk I J) 0 0 (qp_R8 (some (.int 0)) I J) := by
  have hd1 : Nat.ble 1 d = true := Nat.ble_eq_true_of_le (Nat.le_trans (by decide) hd)
  refine qp_Met_of (by decide) (by rw [qp_r17.2]; rfl) [some (.ref 0), some (.ref 4), some (.int r), some (.int i), none] (by rw [qp_r17.2]; rfl) ?_
  refine qp_run_E qp_ok17 3 (c' := (3, [some (.ref 0), some (.ref 4), some (.int r), some (.int i), none], [.int r, .ref 4, .ref 0], qp_mk I J)) (by with_unfolding_all rfl) hd1 trivial ?_
  refine qp_cV qp_ok17 (rest := []) (oj := 0) qp_f18 rfl rfl (qx_refF4 l G r I J (by first | assumption | grind) (by first | assumption | grind) (Nat.le_refl 5)) rfl rfl rfl rfl (Nat.le_trans (by decide) hd) ?_
  refine qp_run_E qp_ok17 2 (c' := (10, [some (.ref 0), some (.ref 4), some (.int r), some (.int i), some (.int 0)], [.int 0], qp_mk I J)) (by with_unfolding_all rfl) hd1 trivial ?_
  refine qp_br_E qp_ok17 (f := (0 : Int32) = 0) (ct := (16, [some (.ref 0), some (.ref 4), some (.int r), some (.int i), some (.int 0)], [], qp_mk I J)) (by with_unfolding_all rfl) (fun _ => ?_) (fun h => absurd (by decide) h)
  refine qp_run_E qp_ok17 3 (c' := (19, [some (.ref 0), some (.ref 4), some (.int r), some (.int i), some (.int 0)], [.int i, .int r, .ref 4], qp_mk I J)) (by with_unfolding_all rfl) hd1 trivial ?_
  refine qp_cV qp_ok17 (rest := []) (oj := 1) qp_f21 rfl rfl (qs_hasPlace4 l G r i I J  (Nat.le_refl 2)) rfl rfl rfl rfl (Nat.le_trans (by decide) hd) ?_
  refine qp_br_E qp_ok17 (f := (qp_b2 ((0 ≤ r ∧ r < 4) ∧ 0 ≤ i ∧ i < (I 5 (Int32.toNatClampNeg r)))) = 0) (ct := (29, [some (.ref 0), some (.ref 4), some (.int r), some (.int i), some (.int 0)], [], qp_mk I J)) (cf := (25, [some (.ref 0), some (.ref 4), some (.int r), some (.int i), some (.int 0)], [], qp_mk I J)) (by with_unfolding_all rfl) (fun h1 => ?_) (fun h1 => ?_)
  · have h1 := qp_b2_0.mp h1
    exfalso; grind
  · have h1 := qp_b2_1.mp h1
    refine qp_run_E qp_ok17 2 (c' := (34, [some (.ref 0), some (.ref 4), some (.int r), some (.int i), some (.int 0)], [.int 0], qp_mk I J)) (by with_unfolding_all rfl) hd1 trivial ?_
    exact qp_retI_E qp_ok17 rfl qp_r17.1 ⟨rfl, rfl⟩ ⟨rfl, rfl⟩

theorem qx_anewB1 (l : Launch) (G : qp_G) (r : Int32) (n : Int32) (v : Int32) (I : Nat → Nat → Int32) (J : Nat → Nat → Int64) (hk1 : qs_ok 1 2 6 40 I) (hp : ¬ ((0 ≤ r ∧ r < 6) ∧ n ≤ 40)) {d : Nat} (hd : 5 ≤ d) : qp_Met l G d 12 [.ref 0, .ref 1, .int r, .int n, .int v] (qp_mk I J) 0 0 (qp_R8 (some (.int (-1))) I J) := by
  have hd1 : Nat.ble 1 d = true := Nat.ble_eq_true_of_le (Nat.le_trans (by decide) hd)
  refine qp_Met_of (by decide) (by rw [qp_r12.2]; rfl) [some (.ref 0), some (.ref 1), some (.int r), some (.int n), some (.int v)] (by rw [qp_r12.2]; rfl) ?_
  refine qp_run_E qp_ok12 2 (c' := (2, [some (.ref 0), some (.ref 1), some (.int r), some (.int n), some (.int v)], [.int r, .ref 1], qp_mk I J)) (by with_unfolding_all rfl) hd1 trivial ?_
  refine qp_cV qp_ok12 (rest := []) (oj := 1) qp_f13 rfl rfl (qs_isNumber1 l G r I J  (Nat.le_refl 1)) rfl rfl rfl rfl (Nat.le_trans (by decide) hd) ?_
  refine qp_br_E qp_ok12 (f := (qp_b2 (0 ≤ r ∧ r < 6)) = 0) (ct := (16, [some (.ref 0), some (.ref 1), some (.int r), some (.int n), some (.int v)], [], qp_mk I J)) (cf := (8, [some (.ref 0), some (.ref 1), some (.int r), some (.int n), some (.int v)], [], qp_mk I J)) (by with_unfolding_all rfl) (fun h1 => ?_) (fun h1 => ?_)
  · have h1 := qp_b2_0.mp h1
    refine qp_run_E qp_ok12 1 (c' := (17, [some (.ref 0), some (.ref 1), some (.int r), some (.int n), some (.int v)], [.int (-1)], qp_mk I J)) (by with_unfolding_all rfl) hd1 trivial ?_
    exact qp_retI_E qp_ok12 rfl qp_r12.1 ⟨rfl, rfl⟩ ⟨rfl, rfl⟩
  · have h1 := qp_b2_1.mp h1
    refine qp_run_E qp_ok12 3 (c' := (13, [some (.ref 0), some (.ref 1), some (.int r), some (.int n), some (.int v)], [.int (I 1 0), .int n], qp_mk I J)) (by with_unfolding_all rfl) hd1 trivial ?_
    refine qp_br_E qp_ok12 (f := n ≤ (I 1 0)) (ct := (18, [some (.ref 0), some (.ref 1), some (.int r), some (.int n), some (.int v)], [], qp_mk I J)) (cf := (16, [some (.ref 0), some (.ref 1), some (.int r), some (.int n), some (.int v)], [], qp_mk I J)) (by with_unfolding_all rfl) (fun h2 => ?_) (fun h2 => ?_)
    · exfalso; have := hk1.1; grind
    · refine qp_run_E qp_ok12 1 (c' := (17, [some (.ref 0), some (.ref 1), some (.int r), some (.int n), some (.int v)], [.int (-1)], qp_mk I J)) (by with_unfolding_all rfl) hd1 trivial ?_
      exact qp_retI_E qp_ok12 rfl qp_r12.1 ⟨rfl, rfl⟩ ⟨rfl, rfl⟩

theorem qx_anewS1 (l : Launch) (G : qp_G) (r : Int32) (n : Int32) (v : Int32) (I : Nat → Nat → Int32) (J : Nat → Nat → Int64) (hk1 : qs_ok 1 2 6 40 I) (hp : (0 ≤ r ∧ r < 6) ∧ n < 0) {d : Nat} (hd : 5 ≤ d) : qp_Met l G d 12 [.ref 0, .ref 1, .int r, .int n, .int v] (qp_mk I J) 0 0 (qp_R8 (some (.int (-3))) (qp_up (qp_up I 0 10 5) 35 5 ((I 35 5) + 1)) J) := by
  have hd1 : Nat.ble 1 d = true := Nat.ble_eq_true_of_le (Nat.le_trans (by decide) hd)
  refine qp_Met_of (by decide) (by rw [qp_r12.2]; rfl) [some (.ref 0), some (.ref 1), some (.int r), some (.int n), some (.int v)] (by rw [qp_r12.2]; rfl) ?_
  refine qp_run_E qp_ok12 2 (c' := (2, [some (.ref 0), some (.ref 1), some (.int r), some (.int n), some (.int v)], [.int r, .ref 1], qp_mk I J)) (by with_unfolding_all rfl) hd1 trivial ?_
  refine qp_cV qp_ok12 (rest := []) (oj := 1) qp_f13 rfl rfl (qs_isNumber1 l G r I J  (Nat.le_refl 1)) rfl rfl rfl rfl (Nat.le_trans (by decide) hd) ?_
  refine qp_br_E qp_ok12 (f := (qp_b2 (0 ≤ r ∧ r < 6)) = 0) (ct := (16, [some (.ref 0), some (.ref 1), some (.int r), some (.int n), some (.int v)], [], qp_mk I J)) (cf := (8, [some (.ref 0), some (.ref 1), some (.int r), some (.int n), some (.int v)], [], qp_mk I J)) (by with_unfolding_all rfl) (fun h1 => ?_) (fun h1 => ?_)
  · have h1 := qp_b2_0.mp h1
    exfalso; grind
  · have h1 := qp_b2_1.mp h1
    refine qp_run_E qp_ok12 3 (c' := (13, [some (.ref 0), some (.ref 1), some (.int r), some (.int n), some (.int v)], [.int (I 1 0), .int n], qp_mk I J)) (by with_unfolding_all rfl) hd1 trivial ?_
    refine qp_br_E qp_ok12 (f := n ≤ (I 1 0)) (ct := (18, [some (.ref 0), some (.ref 1), some (.int r), some (.int n), some (.int v)], [], qp_mk I J)) (cf := (16, [some (.ref 0), some (.ref 1), some (.int r), some (.int n), some (.int v)], [], qp_mk I J)) (by with_unfolding_all rfl) (fun h2 => ?_) (fun h2 => ?_)
    · refine qp_run_E qp_ok12 1 (c' := (19, [some (.ref 0), some (.ref 1), some (.int r), some (.int n), some (.int v)], [.int n], qp_mk I J)) (by with_unfolding_all rfl) hd1 trivial ?_
      refine qp_br_E qp_ok12 (f := 0 ≤ n) (ct := (28, [some (.ref 0), some (.ref 1), some (.int r), some (.int n), some (.int v)], [], qp_mk I J)) (cf := (22, [some (.ref 0), some (.ref 1), some (.int r), some (.int n), some (.int v)], [], qp_mk I J)) (by with_unfolding_all rfl) (fun h3 => ?_) (fun h3 => ?_)
      · exfalso; grind
      · refine qp_run_E qp_ok12 2 (c' := (24, [some (.ref 0), some (.ref 1), some (.int r), some (.int n), some (.int v)], [.int 5, .ref 0], qp_mk I J)) (by with_unfolding_all rfl) hd1 trivial ?_
        refine qp_cV qp_ok12 (rest := []) (oj := 0) qp_f14 rfl rfl (qx_found l G 5 I J (by decide) (Nat.le_refl 1)) rfl rfl rfl rfl (Nat.le_trans (by decide) hd) ?_
        exact qp_retI_E qp_ok12 rfl qp_r12.1 ⟨rfl, rfl⟩ ⟨rfl, rfl⟩
    · exfalso; have := hk1.1; grind

theorem qx_anewF1 (l : Launch) (G : qp_G) (r : Int32) (n : Int32) (v : Int32) (I : Nat → Nat → Int32) (J : Nat → Nat → Int64) (hk1 : qs_ok 1 2 6 40 I) (hp : (0 ≤ r ∧ r < 6) ∧ 0 ≤ n ∧ n ≤ 40) {d : Nat} (hd : 5 ≤ d) : qp_Met l G d 12 [.ref 0, .ref 1, .int r, .int n, .int v] (qp_mk I J) 0 0 (qp_R8 (some (.int n)) (qs_fill (qp_up I 2 (Int32.toNatClampNeg r) n) 3 (40 * (Int32.toNatClampNeg r)) (Int32.toNatClampNeg n) v) J) := by
  have hd1 : Nat.ble 1 d = true := Nat.ble_eq_true_of_le (Nat.le_trans (by decide) hd)
  refine qp_Met_of (by decide) (by rw [qp_r12.2]; rfl) [some (.ref 0), some (.ref 1), some (.int r), some (.int n), some (.int v)] (by rw [qp_r12.2]; rfl) ?_
  refine qp_run_E qp_ok12 2 (c' := (2, [some (.ref 0), some (.ref 1), some (.int r), some (.int n), some (.int v)], [.int r, .ref 1], qp_mk I J)) (by with_unfolding_all rfl) hd1 trivial ?_
  refine qp_cV qp_ok12 (rest := []) (oj := 1) qp_f13 rfl rfl (qs_isNumber1 l G r I J  (Nat.le_refl 1)) rfl rfl rfl rfl (Nat.le_trans (by decide) hd) ?_
  refine qp_br_E qp_ok12 (f := (qp_b2 (0 ≤ r ∧ r < 6)) = 0) (ct := (16, [some (.ref 0), some (.ref 1), some (.int r), some (.int n), some (.int v)], [], qp_mk I J)) (cf := (8, [some (.ref 0), some (.ref 1), some (.int r), some (.int n), some (.int v)], [], qp_mk I J)) (by with_unfolding_all rfl) (fun h1 => ?_) (fun h1 => ?_)
  · have h1 := qp_b2_0.mp h1
    exfalso; grind
  · have h1 := qp_b2_1.mp h1
    refine qp_run_E qp_ok12 3 (c' := (13, [some (.ref 0), some (.ref 1), some (.int r), some (.int n), some (.int v)], [.int (I 1 0), .int n], qp_mk I J)) (by with_unfolding_all rfl) hd1 trivial ?_
    refine qp_br_E qp_ok12 (f := n ≤ (I 1 0)) (ct := (18, [some (.ref 0), some (.ref 1), some (.int r), some (.int n), some (.int v)], [], qp_mk I J)) (cf := (16, [some (.ref 0), some (.ref 1), some (.int r), some (.int n), some (.int v)], [], qp_mk I J)) (by with_unfolding_all rfl) (fun h2 => ?_) (fun h2 => ?_)
    · refine qp_run_E qp_ok12 1 (c' := (19, [some (.ref 0), some (.ref 1), some (.int r), some (.int n), some (.int v)], [.int n], qp_mk I J)) (by with_unfolding_all rfl) hd1 trivial ?_
      refine qp_br_E qp_ok12 (f := 0 ≤ n) (ct := (28, [some (.ref 0), some (.ref 1), some (.int r), some (.int n), some (.int v)], [], qp_mk I J)) (cf := (22, [some (.ref 0), some (.ref 1), some (.int r), some (.int n), some (.int v)], [], qp_mk I J)) (by with_unfolding_all rfl) (fun h3 => ?_) (fun h3 => ?_)
      · refine qp_run_E qp_ok12 4 (c' := (33, [some (.ref 0), some (.ref 1), some (.int r), some (.int n), some (.int v)], [.int v, .int n, .int r, .ref 1], qp_mk I J)) (by with_unfolding_all rfl) hd1 trivial ?_
        refine qp_cV qp_ok12 (rest := []) (oj := 1) qp_f15 rfl rfl (qs_fresh1 l G r n v I J hk1 (by first | assumption | grind) (Nat.le_refl 3)) rfl rfl rfl rfl (Nat.le_trans (by decide) hd) ?_
        refine qp_run_E qp_ok12 1 (c' := (37, [some (.ref 0), some (.ref 1), some (.int r), some (.int n), some (.int v)], [.int n], qp_mk (qs_fill (qp_up I 2 (Int32.toNatClampNeg r) n) 3 (40 * (Int32.toNatClampNeg r)) (Int32.toNatClampNeg n) v) J)) (by with_unfolding_all rfl) hd1 trivial ?_
        exact qp_retI_E qp_ok12 rfl qp_r12.1 ⟨rfl, rfl⟩ ⟨rfl, rfl⟩
      · exfalso; grind
    · exfalso; have := hk1.1; grind

theorem qx_rowB (l : Launch) (G : qp_G) (r : Int32) (n : Int32) (I : Nat → Nat → Int32) (J : Nat → Nat → Int64) (hk1 : qs_ok 1 2 6 40 I) (hp : ¬ ((0 ≤ r ∧ r < 6) ∧ n ≤ 40)) {d : Nat} (hd : 6 ≤ d) : qp_Met l G d 11 [.ref 0, .int r, .int n] (qp_mk I J) 0 0 (qp_R8 (some (.int (-1))) I J) := by
  have hd1 : Nat.ble 1 d = true := Nat.ble_eq_true_of_le (Nat.le_trans (by decide) hd)
  refine qp_Met_of (by decide) (by rw [qp_r11.2]; rfl) [some (.ref 0), some (.int r), some (.int n)] (by rw [qp_r11.2]; rfl) ?_
  refine qp_run_E qp_ok11 6 (c' := (8, [some (.ref 0), some (.int r), some (.int n)], [.int 0, .int n, .int r, .ref 1, .ref 0], qp_mk I J)) (by with_unfolding_all rfl) hd1 trivial ?_
  refine qp_cV qp_ok11 (rest := []) (oj := 0) qp_f12 rfl rfl (qx_anewB1 l G r n 0 I J hk1 (by first | assumption | grind) (Nat.le_refl 5)) rfl rfl rfl rfl (Nat.le_trans (by decide) hd) ?_
  exact qp_retI_E qp_ok11 rfl qp_r11.1 ⟨rfl, rfl⟩ ⟨rfl, rfl⟩

theorem qx_rowS (l : Launch) (G : qp_G) (r : Int32) (n : Int32) (I : Nat → Nat → Int32) (J : Nat → Nat → Int64) (hk1 : qs_ok 1 2 6 40 I) (hp : (0 ≤ r ∧ r < 6) ∧ n < 0) {d : Nat} (hd : 6 ≤ d) : qp_Met l G d 11 [.ref 0, .int r, .int n] (qp_mk I J) 0 0 (qp_R8 (some (.int (-3))) (qp_up (qp_up I 0 10 5) 35 5 ((I 35 5) + 1)) J) := by
  have hd1 : Nat.ble 1 d = true := Nat.ble_eq_true_of_le (Nat.le_trans (by decide) hd)
  refine qp_Met_of (by decide) (by rw [qp_r11.2]; rfl) [some (.ref 0), some (.int r), some (.int n)] (by rw [qp_r11.2]; rfl) ?_
  refine qp_run_E qp_ok11 6 (c' := (8, [some (.ref 0), some (.int r), some (.int n)], [.int 0, .int n, .int r, .ref 1, .ref 0], qp_mk I J)) (by with_unfolding_all rfl) hd1 trivial ?_
  refine qp_cV qp_ok11 (rest := []) (oj := 0) qp_f12 rfl rfl (qx_anewS1 l G r n 0 I J hk1 (by first | assumption | grind) (Nat.le_refl 5)) rfl rfl rfl rfl (Nat.le_trans (by decide) hd) ?_
  exact qp_retI_E qp_ok11 rfl qp_r11.1 ⟨rfl, rfl⟩ ⟨rfl, rfl⟩

theorem qx_rowF (l : Launch) (G : qp_G) (r : Int32) (n : Int32) (I : Nat → Nat → Int32) (J : Nat → Nat → Int64) (hk1 : qs_ok 1 2 6 40 I) (hp : (0 ≤ r ∧ r < 6) ∧ 0 ≤ n ∧ n ≤ 40) {d : Nat} (hd : 6 ≤ d) : qp_Met l G d 11 [.ref 0, .int r, .int n] (qp_mk I J) 0 0 (qp_R8 (some (.int n)) (qs_fill (qp_up I 2 (Int32.toNatClampNeg r) n) 3 (40 * (Int32.toNatClampNeg r)) (Int32.toNatClampNeg n) 0) J) := by
  have hd1 : Nat.ble 1 d = true := Nat.ble_eq_true_of_le (Nat.le_trans (by decide) hd)
  refine qp_Met_of (by decide) (by rw [qp_r11.2]; rfl) [some (.ref 0), some (.int r), some (.int n)] (by rw [qp_r11.2]; rfl) ?_
  refine qp_run_E qp_ok11 6 (c' := (8, [some (.ref 0), some (.int r), some (.int n)], [.int 0, .int n, .int r, .ref 1, .ref 0], qp_mk I J)) (by with_unfolding_all rfl) hd1 trivial ?_
  refine qp_cV qp_ok11 (rest := []) (oj := 0) qp_f12 rfl rfl (qx_anewF1 l G r n 0 I J hk1 (by first | assumption | grind) (Nat.le_refl 5)) rfl rfl rfl rfl (Nat.le_trans (by decide) hd) ?_
  exact qp_retI_E qp_ok11 rfl qp_r11.1 ⟨rfl, rfl⟩ ⟨rfl, rfl⟩

theorem qx_anewB4 (l : Launch) (G : qp_G) (r : Int32) (n : Int32) (v : Int32) (I : Nat → Nat → Int32) (J : Nat → Nat → Int64) (hk4 : qs_ok 4 5 4 60 I) (hp : ¬ ((0 ≤ r ∧ r < 4) ∧ n ≤ 60)) {d : Nat} (hd : 5 ≤ d) : qp_Met l G d 12 [.ref 0, .ref 4, .int r, .int n, .int v] (qp_mk I J) 0 0 (qp_R8 (some (.int (-1))) I J) := by
  have hd1 : Nat.ble 1 d = true := Nat.ble_eq_true_of_le (Nat.le_trans (by decide) hd)
  refine qp_Met_of (by decide) (by rw [qp_r12.2]; rfl) [some (.ref 0), some (.ref 4), some (.int r), some (.int n), some (.int v)] (by rw [qp_r12.2]; rfl) ?_
  refine qp_run_E qp_ok12 2 (c' := (2, [some (.ref 0), some (.ref 4), some (.int r), some (.int n), some (.int v)], [.int r, .ref 4], qp_mk I J)) (by with_unfolding_all rfl) hd1 trivial ?_
  refine qp_cV qp_ok12 (rest := []) (oj := 1) qp_f13 rfl rfl (qs_isNumber4 l G r I J  (Nat.le_refl 1)) rfl rfl rfl rfl (Nat.le_trans (by decide) hd) ?_
  refine qp_br_E qp_ok12 (f := (qp_b2 (0 ≤ r ∧ r < 4)) = 0) (ct := (16, [some (.ref 0), some (.ref 4), some (.int r), some (.int n), some (.int v)], [], qp_mk I J)) (cf := (8, [some (.ref 0), some (.ref 4), some (.int r), some (.int n), some (.int v)], [], qp_mk I J)) (by with_unfolding_all rfl) (fun h1 => ?_) (fun h1 => ?_)
  · have h1 := qp_b2_0.mp h1
    refine qp_run_E qp_ok12 1 (c' := (17, [some (.ref 0), some (.ref 4), some (.int r), some (.int n), some (.int v)], [.int (-1)], qp_mk I J)) (by with_unfolding_all rfl) hd1 trivial ?_
    exact qp_retI_E qp_ok12 rfl qp_r12.1 ⟨rfl, rfl⟩ ⟨rfl, rfl⟩
  · have h1 := qp_b2_1.mp h1
    refine qp_run_E qp_ok12 3 (c' := (13, [some (.ref 0), some (.ref 4), some (.int r), some (.int n), some (.int v)], [.int (I 4 0), .int n], qp_mk I J)) (by with_unfolding_all rfl) hd1 trivial ?_
    refine qp_br_E qp_ok12 (f := n ≤ (I 4 0)) (ct := (18, [some (.ref 0), some (.ref 4), some (.int r), some (.int n), some (.int v)], [], qp_mk I J)) (cf := (16, [some (.ref 0), some (.ref 4), some (.int r), some (.int n), some (.int v)], [], qp_mk I J)) (by with_unfolding_all rfl) (fun h2 => ?_) (fun h2 => ?_)
    · exfalso; have := hk4.1; grind
    · refine qp_run_E qp_ok12 1 (c' := (17, [some (.ref 0), some (.ref 4), some (.int r), some (.int n), some (.int v)], [.int (-1)], qp_mk I J)) (by with_unfolding_all rfl) hd1 trivial ?_
      exact qp_retI_E qp_ok12 rfl qp_r12.1 ⟨rfl, rfl⟩ ⟨rfl, rfl⟩

theorem qx_anewS4 (l : Launch) (G : qp_G) (r : Int32) (n : Int32) (v : Int32) (I : Nat → Nat → Int32) (J : Nat → Nat → Int64) (hk4 : qs_ok 4 5 4 60 I) (hp : (0 ≤ r ∧ r < 4) ∧ n < 0) {d : Nat} (hd : 5 ≤ d) : qp_Met l G d 12 [.ref 0, .ref 4, .int r, .int n, .int v] (qp_mk I J) 0 0 (qp_R8 (some (.int (-3))) (qp_up (qp_up I 0 10 5) 35 5 ((I 35 5) + 1)) J) := by
  have hd1 : Nat.ble 1 d = true := Nat.ble_eq_true_of_le (Nat.le_trans (by decide) hd)
  refine qp_Met_of (by decide) (by rw [qp_r12.2]; rfl) [some (.ref 0), some (.ref 4), some (.int r), some (.int n), some (.int v)] (by rw [qp_r12.2]; rfl) ?_
  refine qp_run_E qp_ok12 2 (c' := (2, [some (.ref 0), some (.ref 4), some (.int r), some (.int n), some (.int v)], [.int r, .ref 4], qp_mk I J)) (by with_unfolding_all rfl) hd1 trivial ?_
  refine qp_cV qp_ok12 (rest := []) (oj := 1) qp_f13 rfl rfl (qs_isNumber4 l G r I J  (Nat.le_refl 1)) rfl rfl rfl rfl (Nat.le_trans (by decide) hd) ?_
  refine qp_br_E qp_ok12 (f := (qp_b2 (0 ≤ r ∧ r < 4)) = 0) (ct := (16, [some (.ref 0), some (.ref 4), some (.int r), some (.int n), some (.int v)], [], qp_mk I J)) (cf := (8, [some (.ref 0), some (.ref 4), some (.int r), some (.int n), some (.int v)], [], qp_mk I J)) (by with_unfolding_all rfl) (fun h1 => ?_) (fun h1 => ?_)
  · have h1 := qp_b2_0.mp h1
    exfalso; grind
  · have h1 := qp_b2_1.mp h1
    refine qp_run_E qp_ok12 3 (c' := (13, [some (.ref 0), some (.ref 4), some (.int r), some (.int n), some (.int v)], [.int (I 4 0), .int n], qp_mk I J)) (by with_unfolding_all rfl) hd1 trivial ?_
    refine qp_br_E qp_ok12 (f := n ≤ (I 4 0)) (ct := (18, [some (.ref 0), some (.ref 4), some (.int r), some (.int n), some (.int v)], [], qp_mk I J)) (cf := (16, [some (.ref 0), some (.ref 4), some (.int r), some (.int n), some (.int v)], [], qp_mk I J)) (by with_unfolding_all rfl) (fun h2 => ?_) (fun h2 => ?_)
    · refine qp_run_E qp_ok12 1 (c' := (19, [some (.ref 0), some (.ref 4), some (.int r), some (.int n), some (.int v)], [.int n], qp_mk I J)) (by with_unfolding_all rfl) hd1 trivial ?_
      refine qp_br_E qp_ok12 (f := 0 ≤ n) (ct := (28, [some (.ref 0), some (.ref 4), some (.int r), some (.int n), some (.int v)], [], qp_mk I J)) (cf := (22, [some (.ref 0), some (.ref 4), some (.int r), some (.int n), some (.int v)], [], qp_mk I J)) (by with_unfolding_all rfl) (fun h3 => ?_) (fun h3 => ?_)
      · exfalso; grind
      · refine qp_run_E qp_ok12 2 (c' := (24, [some (.ref 0), some (.ref 4), some (.int r), some (.int n), some (.int v)], [.int 5, .ref 0], qp_mk I J)) (by with_unfolding_all rfl) hd1 trivial ?_
        refine qp_cV qp_ok12 (rest := []) (oj := 0) qp_f14 rfl rfl (qx_found l G 5 I J (by decide) (Nat.le_refl 1)) rfl rfl rfl rfl (Nat.le_trans (by decide) hd) ?_
        exact qp_retI_E qp_ok12 rfl qp_r12.1 ⟨rfl, rfl⟩ ⟨rfl, rfl⟩
    · exfalso; have := hk4.1; grind

theorem qx_anewF4 (l : Launch) (G : qp_G) (r : Int32) (n : Int32) (v : Int32) (I : Nat → Nat → Int32) (J : Nat → Nat → Int64) (hk4 : qs_ok 4 5 4 60 I) (hp : (0 ≤ r ∧ r < 4) ∧ 0 ≤ n ∧ n ≤ 60) {d : Nat} (hd : 5 ≤ d) : qp_Met l G d 12 [.ref 0, .ref 4, .int r, .int n, .int v] (qp_mk I J) 0 0 (qp_R8 (some (.int n)) (qs_fill (qp_up I 5 (Int32.toNatClampNeg r) n) 6 (60 * (Int32.toNatClampNeg r)) (Int32.toNatClampNeg n) v) J) := by
  have hd1 : Nat.ble 1 d = true := Nat.ble_eq_true_of_le (Nat.le_trans (by decide) hd)
  refine qp_Met_of (by decide) (by rw [qp_r12.2]; rfl) [some (.ref 0), some (.ref 4), some (.int r), some (.int n), some (.int v)] (by rw [qp_r12.2]; rfl) ?_
  refine qp_run_E qp_ok12 2 (c' := (2, [some (.ref 0), some (.ref 4), some (.int r), some (.int n), some (.int v)], [.int r, .ref 4], qp_mk I J)) (by with_unfolding_all rfl) hd1 trivial ?_
  refine qp_cV qp_ok12 (rest := []) (oj := 1) qp_f13 rfl rfl (qs_isNumber4 l G r I J  (Nat.le_refl 1)) rfl rfl rfl rfl (Nat.le_trans (by decide) hd) ?_
  refine qp_br_E qp_ok12 (f := (qp_b2 (0 ≤ r ∧ r < 4)) = 0) (ct := (16, [some (.ref 0), some (.ref 4), some (.int r), some (.int n), some (.int v)], [], qp_mk I J)) (cf := (8, [some (.ref 0), some (.ref 4), some (.int r), some (.int n), some (.int v)], [], qp_mk I J)) (by with_unfolding_all rfl) (fun h1 => ?_) (fun h1 => ?_)
  · have h1 := qp_b2_0.mp h1
    exfalso; grind
  · have h1 := qp_b2_1.mp h1
    refine qp_run_E qp_ok12 3 (c' := (13, [some (.ref 0), some (.ref 4), some (.int r), some (.int n), some (.int v)], [.int (I 4 0), .int n], qp_mk I J)) (by with_unfolding_all rfl) hd1 trivial ?_
    refine qp_br_E qp_ok12 (f := n ≤ (I 4 0)) (ct := (18, [some (.ref 0), some (.ref 4), some (.int r), some (.int n), some (.int v)], [], qp_mk I J)) (cf := (16, [some (.ref 0), some (.ref 4), some (.int r), some (.int n), some (.int v)], [], qp_mk I J)) (by with_unfolding_all rfl) (fun h2 => ?_) (fun h2 => ?_)
    · refine qp_run_E qp_ok12 1 (c' := (19, [some (.ref 0), some (.ref 4), some (.int r), some (.int n), some (.int v)], [.int n], qp_mk I J)) (by with_unfolding_all rfl) hd1 trivial ?_
      refine qp_br_E qp_ok12 (f := 0 ≤ n) (ct := (28, [some (.ref 0), some (.ref 4), some (.int r), some (.int n), some (.int v)], [], qp_mk I J)) (cf := (22, [some (.ref 0), some (.ref 4), some (.int r), some (.int n), some (.int v)], [], qp_mk I J)) (by with_unfolding_all rfl) (fun h3 => ?_) (fun h3 => ?_)
      · refine qp_run_E qp_ok12 4 (c' := (33, [some (.ref 0), some (.ref 4), some (.int r), some (.int n), some (.int v)], [.int v, .int n, .int r, .ref 4], qp_mk I J)) (by with_unfolding_all rfl) hd1 trivial ?_
        refine qp_cV qp_ok12 (rest := []) (oj := 1) qp_f15 rfl rfl (qs_fresh4 l G r n v I J hk4 (by first | assumption | grind) (Nat.le_refl 3)) rfl rfl rfl rfl (Nat.le_trans (by decide) hd) ?_
        refine qp_run_E qp_ok12 1 (c' := (37, [some (.ref 0), some (.ref 4), some (.int r), some (.int n), some (.int v)], [.int n], qp_mk (qs_fill (qp_up I 5 (Int32.toNatClampNeg r) n) 6 (60 * (Int32.toNatClampNeg r)) (Int32.toNatClampNeg n) v) J)) (by with_unfolding_all rfl) hd1 trivial ?_
        exact qp_retI_E qp_ok12 rfl qp_r12.1 ⟨rfl, rfl⟩ ⟨rfl, rfl⟩
      · exfalso; grind
    · exfalso; have := hk4.1; grind

theorem qx_textB (l : Launch) (G : qp_G) (r : Int32) (n : Int32) (I : Nat → Nat → Int32) (J : Nat → Nat → Int64) (hk4 : qs_ok 4 5 4 60 I) (hp : ¬ ((0 ≤ r ∧ r < 4) ∧ n ≤ 60)) {d : Nat} (hd : 6 ≤ d) : qp_Met l G d 33 [.ref 0, .int r, .int n] (qp_mk I J) 0 0 (qp_R8 (some (.int (-1))) I J) := by
  have hd1 : Nat.ble 1 d = true := Nat.ble_eq_true_of_le (Nat.le_trans (by decide) hd)
  refine qp_Met_of (by decide) (by rw [qp_r33.2]; rfl) [some (.ref 0), some (.int r), some (.int n)] (by rw [qp_r33.2]; rfl) ?_
  refine qp_run_E qp_ok33 6 (c' := (9, [some (.ref 0), some (.int r), some (.int n)], [.int 32, .int n, .int r, .ref 4, .ref 0], qp_mk I J)) (by with_unfolding_all rfl) hd1 trivial ?_
  refine qp_cV qp_ok33 (rest := []) (oj := 0) qp_f12 rfl rfl (qx_anewB4 l G r n 32 I J hk4 (by first | assumption | grind) (Nat.le_refl 5)) rfl rfl rfl rfl (Nat.le_trans (by decide) hd) ?_
  exact qp_retI_E qp_ok33 rfl qp_r33.1 ⟨rfl, rfl⟩ ⟨rfl, rfl⟩

theorem qx_textS (l : Launch) (G : qp_G) (r : Int32) (n : Int32) (I : Nat → Nat → Int32) (J : Nat → Nat → Int64) (hk4 : qs_ok 4 5 4 60 I) (hp : (0 ≤ r ∧ r < 4) ∧ n < 0) {d : Nat} (hd : 6 ≤ d) : qp_Met l G d 33 [.ref 0, .int r, .int n] (qp_mk I J) 0 0 (qp_R8 (some (.int (-3))) (qp_up (qp_up I 0 10 5) 35 5 ((I 35 5) + 1)) J) := by
  have hd1 : Nat.ble 1 d = true := Nat.ble_eq_true_of_le (Nat.le_trans (by decide) hd)
  refine qp_Met_of (by decide) (by rw [qp_r33.2]; rfl) [some (.ref 0), some (.int r), some (.int n)] (by rw [qp_r33.2]; rfl) ?_
  refine qp_run_E qp_ok33 6 (c' := (9, [some (.ref 0), some (.int r), some (.int n)], [.int 32, .int n, .int r, .ref 4, .ref 0], qp_mk I J)) (by with_unfolding_all rfl) hd1 trivial ?_
  refine qp_cV qp_ok33 (rest := []) (oj := 0) qp_f12 rfl rfl (qx_anewS4 l G r n 32 I J hk4 (by first | assumption | grind) (Nat.le_refl 5)) rfl rfl rfl rfl (Nat.le_trans (by decide) hd) ?_
  exact qp_retI_E qp_ok33 rfl qp_r33.1 ⟨rfl, rfl⟩ ⟨rfl, rfl⟩

theorem qx_textF (l : Launch) (G : qp_G) (r : Int32) (n : Int32) (I : Nat → Nat → Int32) (J : Nat → Nat → Int64) (hk4 : qs_ok 4 5 4 60 I) (hp : (0 ≤ r ∧ r < 4) ∧ 0 ≤ n ∧ n ≤ 60) {d : Nat} (hd : 6 ≤ d) : qp_Met l G d 33 [.ref 0, .int r, .int n] (qp_mk I J) 0 0 (qp_R8 (some (.int n)) (qs_fill (qp_up I 5 (Int32.toNatClampNeg r) n) 6 (60 * (Int32.toNatClampNeg r)) (Int32.toNatClampNeg n) 32) J) := by
  have hd1 : Nat.ble 1 d = true := Nat.ble_eq_true_of_le (Nat.le_trans (by decide) hd)
  refine qp_Met_of (by decide) (by rw [qp_r33.2]; rfl) [some (.ref 0), some (.int r), some (.int n)] (by rw [qp_r33.2]; rfl) ?_
  refine qp_run_E qp_ok33 6 (c' := (9, [some (.ref 0), some (.int r), some (.int n)], [.int 32, .int n, .int r, .ref 4, .ref 0], qp_mk I J)) (by with_unfolding_all rfl) hd1 trivial ?_
  refine qp_cV qp_ok33 (rest := []) (oj := 0) qp_f12 rfl rfl (qx_anewF4 l G r n 32 I J hk4 (by first | assumption | grind) (Nat.le_refl 5)) rfl rfl rfl rfl (Nat.le_trans (by decide) hd) ?_
  exact qp_retI_E qp_ok33 rfl qp_r33.1 ⟨rfl, rfl⟩ ⟨rfl, rfl⟩

theorem qx_atB (l : Launch) (G : qp_G) (r : Int32) (i : Int32) (I : Nat → Nat → Int32) (J : Nat → Nat → Int64) (hk1 : qs_ok 1 2 6 40 I) (hp : ¬ (0 ≤ r ∧ r < 6)) {d : Nat} (hd : 7 ≤ d) : qp_Met l G d 25 [.ref 0, .int r, .int i] (qp_mk I J) 0 0 (qp_R8 (some (.int (-1))) I J) := by
  have hd1 : Nat.ble 1 d = true := Nat.ble_eq_true_of_le (Nat.le_trans (by decide) hd)
  refine qp_Met_of (by decide) (by rw [qp_r25.2]; rfl) [some (.ref 0), some (.int r), some (.int i), none] (by rw [qp_r25.2]; rfl) ?_
  refine qp_run_E qp_ok25 5 (c' := (7, [some (.ref 0), some (.int r), some (.int i), none], [.int i, .int r, .ref 1, .ref 0], qp_mk I J)) (by with_unfolding_all rfl) hd1 trivial ?_
  refine qp_cV qp_ok25 (rest := []) (oj := 0) qp_f17 rfl rfl (qx_rplB1 l G r i I J (by first | assumption | grind) (Nat.le_refl 6)) rfl rfl rfl rfl (Nat.le_trans (by decide) hd) ?_
  refine qp_run_E qp_ok25 2 (c' := (12, [some (.ref 0), some (.int r), some (.int i), some (.int (-1))], [.int (-1)], qp_mk I J)) (by with_unfolding_all rfl) hd1 trivial ?_
  refine qp_br_E qp_ok25 (f := ((-1) : Int32) = 0) (cf := (15, [some (.ref 0), some (.int r), some (.int i), some (.int (-1))], [], qp_mk I J)) (by with_unfolding_all rfl) (fun h => absurd h (by decide)) (fun _ => ?_)
  refine qp_run_E qp_ok25 1 (c' := (16, [some (.ref 0), some (.int r), some (.int i), some (.int (-1))], [.int (-1)], qp_mk I J)) (by with_unfolding_all rfl) hd1 trivial ?_
  exact qp_retI_E qp_ok25 rfl qp_r25.1 ⟨rfl, rfl⟩ ⟨rfl, rfl⟩

theorem qx_atN (l : Launch) (G : qp_G) (r : Int32) (i : Int32) (I : Nat → Nat → Int32) (J : Nat → Nat → Int64) (hk1 : qs_ok 1 2 6 40 I) (hp : (0 ≤ r ∧ r < 6)) (hn : I 2 (Int32.toNatClampNeg r) = -1) {d : Nat} (hd : 7 ≤ d) : qp_Met l G d 25 [.ref 0, .int r, .int i] (qp_mk I J) 0 0 (qp_R8 (some (.int (-3))) (qp_up (qp_up I 0 10 1) 35 1 ((I 35 1) + 1)) J) := by
  have hd1 : Nat.ble 1 d = true := Nat.ble_eq_true_of_le (Nat.le_trans (by decide) hd)
  refine qp_Met_of (by decide) (by rw [qp_r25.2]; rfl) [some (.ref 0), some (.int r), some (.int i), none] (by rw [qp_r25.2]; rfl) ?_
  refine qp_run_E qp_ok25 5 (c' := (7, [some (.ref 0), some (.int r), some (.int i), none], [.int i, .int r, .ref 1, .ref 0], qp_mk I J)) (by with_unfolding_all rfl) hd1 trivial ?_
  refine qp_cV qp_ok25 (rest := []) (oj := 0) qp_f17 rfl rfl (qx_rplN1 l G r i I J (by first | assumption | grind) (by first | assumption | grind) (Nat.le_refl 6)) rfl rfl rfl rfl (Nat.le_trans (by decide) hd) ?_
  refine qp_run_E qp_ok25 2 (c' := (12, [some (.ref 0), some (.int r), some (.int i), some (.int (-3))], [.int (-3)], qp_mk (qp_up (qp_up I 0 10 1) 35 1 ((I 35 1) + 1)) J)) (by with_unfolding_all rfl) hd1 trivial ?_
  refine qp_br_E qp_ok25 (f := ((-3) : Int32) = 0) (cf := (15, [some (.ref 0), some (.int r), some (.int i), some (.int (-3))], [], qp_mk (qp_up (qp_up I 0 10 1) 35 1 ((I 35 1) + 1)) J)) (by with_unfolding_all rfl) (fun h => absurd h (by decide)) (fun _ => ?_)
  refine qp_run_E qp_ok25 1 (c' := (16, [some (.ref 0), some (.int r), some (.int i), some (.int (-3))], [.int (-3)], qp_mk (qp_up (qp_up I 0 10 1) 35 1 ((I 35 1) + 1)) J)) (by with_unfolding_all rfl) hd1 trivial ?_
  exact qp_retI_E qp_ok25 rfl qp_r25.1 ⟨rfl, rfl⟩ ⟨rfl, rfl⟩

theorem qx_atY (l : Launch) (G : qp_G) (r : Int32) (i : Int32) (I : Nat → Nat → Int32) (J : Nat → Nat → Int64) (hk1 : qs_ok 1 2 6 40 I) (hp : (0 ≤ r ∧ r < 6)) (hn : ¬ I 2 (Int32.toNatClampNeg r) = -1) (hi : ¬ (0 ≤ i ∧ i < I 2 (Int32.toNatClampNeg r))) {d : Nat} (hd : 7 ≤ d) : qp_Met l G d 25 [.ref 0, .int r, .int i] (qp_mk I J) 0 0 (qp_R8 (some (.int (-3))) (qp_up (qp_up I 0 10 2) 35 2 ((I 35 2) + 1)) J) := by
  have hd1 : Nat.ble 1 d = true := Nat.ble_eq_true_of_le (Nat.le_trans (by decide) hd)
  refine qp_Met_of (by decide) (by rw [qp_r25.2]; rfl) [some (.ref 0), some (.int r), some (.int i), none] (by rw [qp_r25.2]; rfl) ?_
  refine qp_run_E qp_ok25 5 (c' := (7, [some (.ref 0), some (.int r), some (.int i), none], [.int i, .int r, .ref 1, .ref 0], qp_mk I J)) (by with_unfolding_all rfl) hd1 trivial ?_
  refine qp_cV qp_ok25 (rest := []) (oj := 0) qp_f17 rfl rfl (qx_rplY1 l G r i I J (by first | assumption | grind) (by first | assumption | grind) (by first | assumption | grind) (Nat.le_refl 6)) rfl rfl rfl rfl (Nat.le_trans (by decide) hd) ?_
  refine qp_run_E qp_ok25 2 (c' := (12, [some (.ref 0), some (.int r), some (.int i), some (.int (-3))], [.int (-3)], qp_mk (qp_up (qp_up I 0 10 2) 35 2 ((I 35 2) + 1)) J)) (by with_unfolding_all rfl) hd1 trivial ?_
  refine qp_br_E qp_ok25 (f := ((-3) : Int32) = 0) (cf := (15, [some (.ref 0), some (.int r), some (.int i), some (.int (-3))], [], qp_mk (qp_up (qp_up I 0 10 2) 35 2 ((I 35 2) + 1)) J)) (by with_unfolding_all rfl) (fun h => absurd h (by decide)) (fun _ => ?_)
  refine qp_run_E qp_ok25 1 (c' := (16, [some (.ref 0), some (.int r), some (.int i), some (.int (-3))], [.int (-3)], qp_mk (qp_up (qp_up I 0 10 2) 35 2 ((I 35 2) + 1)) J)) (by with_unfolding_all rfl) hd1 trivial ?_
  exact qp_retI_E qp_ok25 rfl qp_r25.1 ⟨rfl, rfl⟩ ⟨rfl, rfl⟩

theorem qx_atF (l : Launch) (G : qp_G) (r : Int32) (i : Int32) (I : Nat → Nat → Int32) (J : Nat → Nat → Int64) (hk1 : qs_ok 1 2 6 40 I) (hp : (0 ≤ r ∧ r < 6)) (hn : ¬ I 2 (Int32.toNatClampNeg r) = -1) (hi : 0 ≤ i ∧ i < I 2 (Int32.toNatClampNeg r)) {d : Nat} (hd : 7 ≤ d) : qp_Met l G d 25 [.ref 0, .int r, .int i] (qp_mk I J) 0 0 (qp_R8 (some (.int 1)) (qp_up I 0 11 (I 3 (40 * (Int32.toNatClampNeg r) + (Int32.toNatClampNeg i)))) J) := by
  have hd1 : Nat.ble 1 d = true := Nat.ble_eq_true_of_le (Nat.le_trans (by decide) hd)
  refine qp_Met_of (by decide) (by rw [qp_r25.2]; rfl) [some (.ref 0), some (.int r), some (.int i), none] (by rw [qp_r25.2]; rfl) ?_
  refine qp_run_E qp_ok25 5 (c' := (7, [some (.ref 0), some (.int r), some (.int i), none], [.int i, .int r, .ref 1, .ref 0], qp_mk I J)) (by with_unfolding_all rfl) hd1 trivial ?_
  refine qp_cV qp_ok25 (rest := []) (oj := 0) qp_f17 rfl rfl (qx_rplF1 l G r i I J (by first | assumption | grind) (by first | assumption | grind) (by first | assumption | grind) (Nat.le_refl 6)) rfl rfl rfl rfl (Nat.le_trans (by decide) hd) ?_
  refine qp_run_E qp_ok25 2 (c' := (12, [some (.ref 0), some (.int r), some (.int i), some (.int 0)], [.int 0], qp_mk I J)) (by with_unfolding_all rfl) hd1 trivial ?_
  refine qp_br_E qp_ok25 (f := (0 : Int32) = 0) (ct := (17, [some (.ref 0), some (.int r), some (.int i), some (.int 0)], [], qp_mk I J)) (by with_unfolding_all rfl) (fun _ => ?_) (fun h => absurd (by decide) h)
  refine qp_run_E qp_ok25 5 (c' := (24, [some (.ref 0), some (.int r), some (.int i), some (.int 0)], [.int i, .int r, .ref 1, .ref 0], qp_mk I J)) (by with_unfolding_all rfl) hd1 trivial ?_
  refine qp_cV qp_ok25 (rest := [.ref 0]) (oj := 1) qp_f22 rfl rfl (qs_get1 l G r i I J hk1 (Nat.le_refl 3)) rfl rfl rfl rfl (Nat.le_trans (by decide) hd) ?_
  refine qp_cV qp_ok25 (rest := []) (oj := 0) qp_f24 rfl rfl (qx_tell l G (if ((0 ≤ r ∧ r < 6) ∧ 0 ≤ i ∧ i < (I 2 (Int32.toNatClampNeg r))) then (I 3 (40 * (Int32.toNatClampNeg r) + (Int32.toNatClampNeg i))) else 0) I J  (Nat.le_refl 1)) rfl rfl rfl rfl (Nat.le_trans (by decide) hd) ?_
  exact qp_retI_E qp_ok25 rfl qp_r25.1 ⟨rfl, rfl⟩ ⟨rfl, by rw [if_pos ⟨hp, hi⟩]⟩

theorem qx_layB (l : Launch) (G : qp_G) (r : Int32) (i : Int32) (v : Int32) (I : Nat → Nat → Int32) (J : Nat → Nat → Int64) (hk1 : qs_ok 1 2 6 40 I) (hp : ¬ (0 ≤ r ∧ r < 6)) {d : Nat} (hd : 7 ≤ d) : qp_Met l G d 16 [.ref 0, .int r, .int i, .int v] (qp_mk I J) 0 0 (qp_R8 (some (.int (-1))) I J) := by
  have hd1 : Nat.ble 1 d = true := Nat.ble_eq_true_of_le (Nat.le_trans (by decide) hd)
  refine qp_Met_of (by decide) (by rw [qp_r16.2]; rfl) [some (.ref 0), some (.int r), some (.int i), some (.int v), none, none] (by rw [qp_r16.2]; rfl) ?_
  refine qp_run_E qp_ok16 5 (c' := (7, [some (.ref 0), some (.int r), some (.int i), some (.int v), none, none], [.int i, .int r, .ref 1, .ref 0], qp_mk I J)) (by with_unfolding_all rfl) hd1 trivial ?_
  refine qp_cV qp_ok16 (rest := []) (oj := 0) qp_f17 rfl rfl (qx_rplB1 l G r i I J (by first | assumption | grind) (Nat.le_refl 6)) rfl rfl rfl rfl (Nat.le_trans (by decide) hd) ?_
  refine qp_run_E qp_ok16 2 (c' := (14, [some (.ref 0), some (.int r), some (.int i), some (.int v), some (.int (-1)), none], [.int (-1)], qp_mk I J)) (by with_unfolding_all rfl) hd1 trivial ?_
  refine qp_br_E qp_ok16 (f := ((-1) : Int32) = 0) (cf := (17, [some (.ref 0), some (.int r), some (.int i), some (.int v), some (.int (-1)), none], [], qp_mk I J)) (by with_unfolding_all rfl) (fun h => absurd h (by decide)) (fun _ => ?_)
  refine qp_run_E qp_ok16 1 (c' := (19, [some (.ref 0), some (.int r), some (.int i), some (.int v), some (.int (-1)), none], [.int (-1)], qp_mk I J)) (by with_unfolding_all rfl) hd1 trivial ?_
  exact qp_retI_E qp_ok16 rfl qp_r16.1 ⟨rfl, rfl⟩ ⟨rfl, rfl⟩

theorem qx_layN (l : Launch) (G : qp_G) (r : Int32) (i : Int32) (v : Int32) (I : Nat → Nat → Int32) (J : Nat → Nat → Int64) (hk1 : qs_ok 1 2 6 40 I) (hp : (0 ≤ r ∧ r < 6)) (hn : I 2 (Int32.toNatClampNeg r) = -1) {d : Nat} (hd : 7 ≤ d) : qp_Met l G d 16 [.ref 0, .int r, .int i, .int v] (qp_mk I J) 0 0 (qp_R8 (some (.int (-3))) (qp_up (qp_up I 0 10 1) 35 1 ((I 35 1) + 1)) J) := by
  have hd1 : Nat.ble 1 d = true := Nat.ble_eq_true_of_le (Nat.le_trans (by decide) hd)
  refine qp_Met_of (by decide) (by rw [qp_r16.2]; rfl) [some (.ref 0), some (.int r), some (.int i), some (.int v), none, none] (by rw [qp_r16.2]; rfl) ?_
  refine qp_run_E qp_ok16 5 (c' := (7, [some (.ref 0), some (.int r), some (.int i), some (.int v), none, none], [.int i, .int r, .ref 1, .ref 0], qp_mk I J)) (by with_unfolding_all rfl) hd1 trivial ?_
  refine qp_cV qp_ok16 (rest := []) (oj := 0) qp_f17 rfl rfl (qx_rplN1 l G r i I J (by first | assumption | grind) (by first | assumption | grind) (Nat.le_refl 6)) rfl rfl rfl rfl (Nat.le_trans (by decide) hd) ?_
  refine qp_run_E qp_ok16 2 (c' := (14, [some (.ref 0), some (.int r), some (.int i), some (.int v), some (.int (-3)), none], [.int (-3)], qp_mk (qp_up (qp_up I 0 10 1) 35 1 ((I 35 1) + 1)) J)) (by with_unfolding_all rfl) hd1 trivial ?_
  refine qp_br_E qp_ok16 (f := ((-3) : Int32) = 0) (cf := (17, [some (.ref 0), some (.int r), some (.int i), some (.int v), some (.int (-3)), none], [], qp_mk (qp_up (qp_up I 0 10 1) 35 1 ((I 35 1) + 1)) J)) (by with_unfolding_all rfl) (fun h => absurd h (by decide)) (fun _ => ?_)
  refine qp_run_E qp_ok16 1 (c' := (19, [some (.ref 0), some (.int r), some (.int i), some (.int v), some (.int (-3)), none], [.int (-3)], qp_mk (qp_up (qp_up I 0 10 1) 35 1 ((I 35 1) + 1)) J)) (by with_unfolding_all rfl) hd1 trivial ?_
  exact qp_retI_E qp_ok16 rfl qp_r16.1 ⟨rfl, rfl⟩ ⟨rfl, rfl⟩

theorem qx_layY (l : Launch) (G : qp_G) (r : Int32) (i : Int32) (v : Int32) (I : Nat → Nat → Int32) (J : Nat → Nat → Int64) (hk1 : qs_ok 1 2 6 40 I) (hp : (0 ≤ r ∧ r < 6)) (hn : ¬ I 2 (Int32.toNatClampNeg r) = -1) (hi : ¬ (0 ≤ i ∧ i < I 2 (Int32.toNatClampNeg r))) {d : Nat} (hd : 7 ≤ d) : qp_Met l G d 16 [.ref 0, .int r, .int i, .int v] (qp_mk I J) 0 0 (qp_R8 (some (.int (-3))) (qp_up (qp_up I 0 10 2) 35 2 ((I 35 2) + 1)) J) := by
  have hd1 : Nat.ble 1 d = true := Nat.ble_eq_true_of_le (Nat.le_trans (by decide) hd)
  refine qp_Met_of (by decide) (by rw [qp_r16.2]; rfl) [some (.ref 0), some (.int r), some (.int i), some (.int v), none, none] (by rw [qp_r16.2]; rfl) ?_
  refine qp_run_E qp_ok16 5 (c' := (7, [some (.ref 0), some (.int r), some (.int i), some (.int v), none, none], [.int i, .int r, .ref 1, .ref 0], qp_mk I J)) (by with_unfolding_all rfl) hd1 trivial ?_
  refine qp_cV qp_ok16 (rest := []) (oj := 0) qp_f17 rfl rfl (qx_rplY1 l G r i I J (by first | assumption | grind) (by first | assumption | grind) (by first | assumption | grind) (Nat.le_refl 6)) rfl rfl rfl rfl (Nat.le_trans (by decide) hd) ?_
  refine qp_run_E qp_ok16 2 (c' := (14, [some (.ref 0), some (.int r), some (.int i), some (.int v), some (.int (-3)), none], [.int (-3)], qp_mk (qp_up (qp_up I 0 10 2) 35 2 ((I 35 2) + 1)) J)) (by with_unfolding_all rfl) hd1 trivial ?_
  refine qp_br_E qp_ok16 (f := ((-3) : Int32) = 0) (cf := (17, [some (.ref 0), some (.int r), some (.int i), some (.int v), some (.int (-3)), none], [], qp_mk (qp_up (qp_up I 0 10 2) 35 2 ((I 35 2) + 1)) J)) (by with_unfolding_all rfl) (fun h => absurd h (by decide)) (fun _ => ?_)
  refine qp_run_E qp_ok16 1 (c' := (19, [some (.ref 0), some (.int r), some (.int i), some (.int v), some (.int (-3)), none], [.int (-3)], qp_mk (qp_up (qp_up I 0 10 2) 35 2 ((I 35 2) + 1)) J)) (by with_unfolding_all rfl) hd1 trivial ?_
  exact qp_retI_E qp_ok16 rfl qp_r16.1 ⟨rfl, rfl⟩ ⟨rfl, rfl⟩

theorem qx_layF (l : Launch) (G : qp_G) (r : Int32) (i : Int32) (v : Int32) (I : Nat → Nat → Int32) (J : Nat → Nat → Int64) (hk1 : qs_ok 1 2 6 40 I) (hp : (0 ≤ r ∧ r < 6)) (hn : ¬ I 2 (Int32.toNatClampNeg r) = -1) (hi : 0 ≤ i ∧ i < I 2 (Int32.toNatClampNeg r)) {d : Nat} (hd : 7 ≤ d) : qp_Met l G d 16 [.ref 0, .int r, .int i, .int v] (qp_mk I J) 0 0 (qp_R8 (some (.int 1)) (qp_up (qp_up I 3 (40 * (Int32.toNatClampNeg r) + (Int32.toNatClampNeg i)) v) 0 11 (I 3 (40 * (Int32.toNatClampNeg r) + (Int32.toNatClampNeg i)))) J) := by
  have hd1 : Nat.ble 1 d = true := Nat.ble_eq_true_of_le (Nat.le_trans (by decide) hd)
  refine qp_Met_of (by decide) (by rw [qp_r16.2]; rfl) [some (.ref 0), some (.int r), some (.int i), some (.int v), none, none] (by rw [qp_r16.2]; rfl) ?_
  refine qp_run_E qp_ok16 5 (c' := (7, [some (.ref 0), some (.int r), some (.int i), some (.int v), none, none], [.int i, .int r, .ref 1, .ref 0], qp_mk I J)) (by with_unfolding_all rfl) hd1 trivial ?_
  refine qp_cV qp_ok16 (rest := []) (oj := 0) qp_f17 rfl rfl (qx_rplF1 l G r i I J (by first | assumption | grind) (by first | assumption | grind) (by first | assumption | grind) (Nat.le_refl 6)) rfl rfl rfl rfl (Nat.le_trans (by decide) hd) ?_
  refine qp_run_E qp_ok16 2 (c' := (14, [some (.ref 0), some (.int r), some (.int i), some (.int v), some (.int 0), none], [.int 0], qp_mk I J)) (by with_unfolding_all rfl) hd1 trivial ?_
  refine qp_br_E qp_ok16 (f := (0 : Int32) = 0) (ct := (20, [some (.ref 0), some (.int r), some (.int i), some (.int v), some (.int 0), none], [], qp_mk I J)) (by with_unfolding_all rfl) (fun _ => ?_) (fun h => absurd (by decide) h)
  refine qp_run_E qp_ok16 4 (c' := (26, [some (.ref 0), some (.int r), some (.int i), some (.int v), some (.int 0), none], [.int i, .int r, .ref 1], qp_mk I J)) (by with_unfolding_all rfl) hd1 trivial ?_
  refine qp_cV qp_ok16 (rest := []) (oj := 1) qp_f22 rfl rfl (qs_get1 l G r i I J hk1 (Nat.le_refl 3)) rfl rfl rfl rfl (Nat.le_trans (by decide) hd) ?_
  refine qp_run_E qp_ok16 6 (c' := (38, [some (.ref 0), some (.int r), some (.int i), some (.int v), some (.int 0), some (.int (if ((0 ≤ r ∧ r < 6) ∧ 0 ≤ i ∧ i < (I 2 (Int32.toNatClampNeg r))) then (I 3 (40 * (Int32.toNatClampNeg r) + (Int32.toNatClampNeg i))) else 0))], [.int v, .int i, .int r, .ref 1], qp_mk I J)) (by with_unfolding_all rfl) hd1 trivial ?_
  refine qp_cV qp_ok16 (rest := []) (oj := 1) qp_f23 rfl rfl (qs_set1 l G r i v I J hk1 (by first | assumption | grind) (Nat.le_refl 3)) rfl rfl rfl rfl (Nat.le_trans (by decide) hd) ?_
  refine qp_run_E qp_ok16 2 (c' := (44, [some (.ref 0), some (.int r), some (.int i), some (.int v), some (.int 0), some (.int (if ((0 ≤ r ∧ r < 6) ∧ 0 ≤ i ∧ i < (I 2 (Int32.toNatClampNeg r))) then (I 3 (40 * (Int32.toNatClampNeg r) + (Int32.toNatClampNeg i))) else 0))], [.int (if ((0 ≤ r ∧ r < 6) ∧ 0 ≤ i ∧ i < (I 2 (Int32.toNatClampNeg r))) then (I 3 (40 * (Int32.toNatClampNeg r) + (Int32.toNatClampNeg i))) else 0), .ref 0], qp_mk (qp_up I 3 (40 * (Int32.toNatClampNeg r) + (Int32.toNatClampNeg i)) v) J)) (by with_unfolding_all rfl) hd1 trivial ?_
  refine qp_cV qp_ok16 (rest := []) (oj := 0) qp_f24 rfl rfl (qx_tell l G (if ((0 ≤ r ∧ r < 6) ∧ 0 ≤ i ∧ i < (I 2 (Int32.toNatClampNeg r))) then (I 3 (40 * (Int32.toNatClampNeg r) + (Int32.toNatClampNeg i))) else 0) (qp_up I 3 (40 * (Int32.toNatClampNeg r) + (Int32.toNatClampNeg i)) v) J  (Nat.le_refl 1)) rfl rfl rfl rfl (Nat.le_trans (by decide) hd) ?_
  exact qp_retI_E qp_ok16 rfl qp_r16.1 ⟨rfl, rfl⟩ ⟨rfl, by rw [if_pos ⟨hp, hi⟩]⟩

theorem qx_putB (l : Launch) (G : qp_G) (r : Int32) (i : Int32) (v : Int32) (I : Nat → Nat → Int32) (J : Nat → Nat → Int64) (hk4 : qs_ok 4 5 4 60 I) (hp : ¬ (0 ≤ r ∧ r < 4)) {d : Nat} (hd : 7 ≤ d) : qp_Met l G d 34 [.ref 0, .int r, .int i, .int v] (qp_mk I J) 0 0 (qp_R8 (some (.int (-1))) I J) := by
  have hd1 : Nat.ble 1 d = true := Nat.ble_eq_true_of_le (Nat.le_trans (by decide) hd)
  refine qp_Met_of (by decide) (by rw [qp_r34.2]; rfl) [some (.ref 0), some (.int r), some (.int i), some (.int v), none, none] (by rw [qp_r34.2]; rfl) ?_
  refine qp_run_E qp_ok34 5 (c' := (7, [some (.ref 0), some (.int r), some (.int i), some (.int v), none, none], [.int i, .int r, .ref 4, .ref 0], qp_mk I J)) (by with_unfolding_all rfl) hd1 trivial ?_
  refine qp_cV qp_ok34 (rest := []) (oj := 0) qp_f17 rfl rfl (qx_rplB4 l G r i I J (by first | assumption | grind) (Nat.le_refl 6)) rfl rfl rfl rfl (Nat.le_trans (by decide) hd) ?_
  refine qp_run_E qp_ok34 2 (c' := (14, [some (.ref 0), some (.int r), some (.int i), some (.int v), some (.int (-1)), none], [.int (-1)], qp_mk I J)) (by with_unfolding_all rfl) hd1 trivial ?_
  refine qp_br_E qp_ok34 (f := ((-1) : Int32) = 0) (cf := (17, [some (.ref 0), some (.int r), some (.int i), some (.int v), some (.int (-1)), none], [], qp_mk I J)) (by with_unfolding_all rfl) (fun h => absurd h (by decide)) (fun _ => ?_)
  refine qp_run_E qp_ok34 1 (c' := (19, [some (.ref 0), some (.int r), some (.int i), some (.int v), some (.int (-1)), none], [.int (-1)], qp_mk I J)) (by with_unfolding_all rfl) hd1 trivial ?_
  exact qp_retI_E qp_ok34 rfl qp_r34.1 ⟨rfl, rfl⟩ ⟨rfl, rfl⟩

theorem qx_putN (l : Launch) (G : qp_G) (r : Int32) (i : Int32) (v : Int32) (I : Nat → Nat → Int32) (J : Nat → Nat → Int64) (hk4 : qs_ok 4 5 4 60 I) (hp : (0 ≤ r ∧ r < 4)) (hn : I 5 (Int32.toNatClampNeg r) = -1) {d : Nat} (hd : 7 ≤ d) : qp_Met l G d 34 [.ref 0, .int r, .int i, .int v] (qp_mk I J) 0 0 (qp_R8 (some (.int (-3))) (qp_up (qp_up I 0 10 1) 35 1 ((I 35 1) + 1)) J) := by
  have hd1 : Nat.ble 1 d = true := Nat.ble_eq_true_of_le (Nat.le_trans (by decide) hd)
  refine qp_Met_of (by decide) (by rw [qp_r34.2]; rfl) [some (.ref 0), some (.int r), some (.int i), some (.int v), none, none] (by rw [qp_r34.2]; rfl) ?_
  refine qp_run_E qp_ok34 5 (c' := (7, [some (.ref 0), some (.int r), some (.int i), some (.int v), none, none], [.int i, .int r, .ref 4, .ref 0], qp_mk I J)) (by with_unfolding_all rfl) hd1 trivial ?_
  refine qp_cV qp_ok34 (rest := []) (oj := 0) qp_f17 rfl rfl (qx_rplN4 l G r i I J (by first | assumption | grind) (by first | assumption | grind) (Nat.le_refl 6)) rfl rfl rfl rfl (Nat.le_trans (by decide) hd) ?_
  refine qp_run_E qp_ok34 2 (c' := (14, [some (.ref 0), some (.int r), some (.int i), some (.int v), some (.int (-3)), none], [.int (-3)], qp_mk (qp_up (qp_up I 0 10 1) 35 1 ((I 35 1) + 1)) J)) (by with_unfolding_all rfl) hd1 trivial ?_
  refine qp_br_E qp_ok34 (f := ((-3) : Int32) = 0) (cf := (17, [some (.ref 0), some (.int r), some (.int i), some (.int v), some (.int (-3)), none], [], qp_mk (qp_up (qp_up I 0 10 1) 35 1 ((I 35 1) + 1)) J)) (by with_unfolding_all rfl) (fun h => absurd h (by decide)) (fun _ => ?_)
  refine qp_run_E qp_ok34 1 (c' := (19, [some (.ref 0), some (.int r), some (.int i), some (.int v), some (.int (-3)), none], [.int (-3)], qp_mk (qp_up (qp_up I 0 10 1) 35 1 ((I 35 1) + 1)) J)) (by with_unfolding_all rfl) hd1 trivial ?_
  exact qp_retI_E qp_ok34 rfl qp_r34.1 ⟨rfl, rfl⟩ ⟨rfl, rfl⟩

theorem qx_putY (l : Launch) (G : qp_G) (r : Int32) (i : Int32) (v : Int32) (I : Nat → Nat → Int32) (J : Nat → Nat → Int64) (hk4 : qs_ok 4 5 4 60 I) (hp : (0 ≤ r ∧ r < 4)) (hn : ¬ I 5 (Int32.toNatClampNeg r) = -1) (hi : ¬ (0 ≤ i ∧ i < I 5 (Int32.toNatClampNeg r))) {d : Nat} (hd : 7 ≤ d) : qp_Met l G d 34 [.ref 0, .int r, .int i, .int v] (qp_mk I J) 0 0 (qp_R8 (some (.int (-3))) (qp_up (qp_up I 0 10 2) 35 2 ((I 35 2) + 1)) J) := by
  have hd1 : Nat.ble 1 d = true := Nat.ble_eq_true_of_le (Nat.le_trans (by decide) hd)
  refine qp_Met_of (by decide) (by rw [qp_r34.2]; rfl) [some (.ref 0), some (.int r), some (.int i), some (.int v), none, none] (by rw [qp_r34.2]; rfl) ?_
  refine qp_run_E qp_ok34 5 (c' := (7, [some (.ref 0), some (.int r), some (.int i), some (.int v), none, none], [.int i, .int r, .ref 4, .ref 0], qp_mk I J)) (by with_unfolding_all rfl) hd1 trivial ?_
  refine qp_cV qp_ok34 (rest := []) (oj := 0) qp_f17 rfl rfl (qx_rplY4 l G r i I J (by first | assumption | grind) (by first | assumption | grind) (by first | assumption | grind) (Nat.le_refl 6)) rfl rfl rfl rfl (Nat.le_trans (by decide) hd) ?_
  refine qp_run_E qp_ok34 2 (c' := (14, [some (.ref 0), some (.int r), some (.int i), some (.int v), some (.int (-3)), none], [.int (-3)], qp_mk (qp_up (qp_up I 0 10 2) 35 2 ((I 35 2) + 1)) J)) (by with_unfolding_all rfl) hd1 trivial ?_
  refine qp_br_E qp_ok34 (f := ((-3) : Int32) = 0) (cf := (17, [some (.ref 0), some (.int r), some (.int i), some (.int v), some (.int (-3)), none], [], qp_mk (qp_up (qp_up I 0 10 2) 35 2 ((I 35 2) + 1)) J)) (by with_unfolding_all rfl) (fun h => absurd h (by decide)) (fun _ => ?_)
  refine qp_run_E qp_ok34 1 (c' := (19, [some (.ref 0), some (.int r), some (.int i), some (.int v), some (.int (-3)), none], [.int (-3)], qp_mk (qp_up (qp_up I 0 10 2) 35 2 ((I 35 2) + 1)) J)) (by with_unfolding_all rfl) hd1 trivial ?_
  exact qp_retI_E qp_ok34 rfl qp_r34.1 ⟨rfl, rfl⟩ ⟨rfl, rfl⟩

theorem qx_putF (l : Launch) (G : qp_G) (r : Int32) (i : Int32) (v : Int32) (I : Nat → Nat → Int32) (J : Nat → Nat → Int64) (hk4 : qs_ok 4 5 4 60 I) (hp : (0 ≤ r ∧ r < 4)) (hn : ¬ I 5 (Int32.toNatClampNeg r) = -1) (hi : 0 ≤ i ∧ i < I 5 (Int32.toNatClampNeg r)) {d : Nat} (hd : 7 ≤ d) : qp_Met l G d 34 [.ref 0, .int r, .int i, .int v] (qp_mk I J) 0 0 (qp_R8 (some (.int ((I 6 (60 * (Int32.toNatClampNeg r) + (Int32.toNatClampNeg i))) + 1000))) (qp_up I 6 (60 * (Int32.toNatClampNeg r) + (Int32.toNatClampNeg i)) ((Int32.toInt8 v).toInt32)) J) := by
  have hd1 : Nat.ble 1 d = true := Nat.ble_eq_true_of_le (Nat.le_trans (by decide) hd)
  refine qp_Met_of (by decide) (by rw [qp_r34.2]; rfl) [some (.ref 0), some (.int r), some (.int i), some (.int v), none, none] (by rw [qp_r34.2]; rfl) ?_
  refine qp_run_E qp_ok34 5 (c' := (7, [some (.ref 0), some (.int r), some (.int i), some (.int v), none, none], [.int i, .int r, .ref 4, .ref 0], qp_mk I J)) (by with_unfolding_all rfl) hd1 trivial ?_
  refine qp_cV qp_ok34 (rest := []) (oj := 0) qp_f17 rfl rfl (qx_rplF4 l G r i I J (by first | assumption | grind) (by first | assumption | grind) (by first | assumption | grind) (Nat.le_refl 6)) rfl rfl rfl rfl (Nat.le_trans (by decide) hd) ?_
  refine qp_run_E qp_ok34 2 (c' := (14, [some (.ref 0), some (.int r), some (.int i), some (.int v), some (.int 0), none], [.int 0], qp_mk I J)) (by with_unfolding_all rfl) hd1 trivial ?_
  refine qp_br_E qp_ok34 (f := (0 : Int32) = 0) (ct := (20, [some (.ref 0), some (.int r), some (.int i), some (.int v), some (.int 0), none], [], qp_mk I J)) (by with_unfolding_all rfl) (fun _ => ?_) (fun h => absurd (by decide) h)
  refine qp_run_E qp_ok34 4 (c' := (26, [some (.ref 0), some (.int r), some (.int i), some (.int v), some (.int 0), none], [.int i, .int r, .ref 4], qp_mk I J)) (by with_unfolding_all rfl) hd1 trivial ?_
  refine qp_cV qp_ok34 (rest := []) (oj := 1) qp_f22 rfl rfl (qs_get4 l G r i I J hk4 (Nat.le_refl 3)) rfl rfl rfl rfl (Nat.le_trans (by decide) hd) ?_
  refine qp_run_E qp_ok34 7 (c' := (39, [some (.ref 0), some (.int r), some (.int i), some (.int v), some (.int 0), some (.int (if ((0 ≤ r ∧ r < 4) ∧ 0 ≤ i ∧ i < (I 5 (Int32.toNatClampNeg r))) then (I 6 (60 * (Int32.toNatClampNeg r) + (Int32.toNatClampNeg i))) else 0))], [.int ((Int32.toInt8 v).toInt32), .int i, .int r, .ref 4], qp_mk I J)) (by with_unfolding_all rfl) hd1 trivial ?_
  refine qp_cV qp_ok34 (rest := []) (oj := 1) qp_f23 rfl rfl (qs_set4 l G r i ((Int32.toInt8 v).toInt32) I J hk4 (by first | assumption | grind) (Nat.le_refl 3)) rfl rfl rfl rfl (Nat.le_trans (by decide) hd) ?_
  refine qp_run_E qp_ok34 3 (c' := (48, [some (.ref 0), some (.int r), some (.int i), some (.int v), some (.int 0), some (.int (if ((0 ≤ r ∧ r < 4) ∧ 0 ≤ i ∧ i < (I 5 (Int32.toNatClampNeg r))) then (I 6 (60 * (Int32.toNatClampNeg r) + (Int32.toNatClampNeg i))) else 0))], [.int ((if ((0 ≤ r ∧ r < 4) ∧ 0 ≤ i ∧ i < (I 5 (Int32.toNatClampNeg r))) then (I 6 (60 * (Int32.toNatClampNeg r) + (Int32.toNatClampNeg i))) else 0) + 1000)], qp_mk (qp_up I 6 (60 * (Int32.toNatClampNeg r) + (Int32.toNatClampNeg i)) ((Int32.toInt8 v).toInt32)) J)) (by with_unfolding_all rfl) hd1 trivial ?_
  exact qp_retI_E qp_ok34 rfl qp_r34.1 ⟨rfl, rfl⟩ ⟨by rw [if_pos ⟨hp, hi⟩], rfl⟩

theorem qx_tearB (l : Launch) (G : qp_G) (r : Int32) (I : Nat → Nat → Int32) (J : Nat → Nat → Int64) (hp : ¬ (0 ≤ r ∧ r < 6)) {d : Nat} (hd : 6 ≤ d) : qp_Met l G d 26 [.ref 0, .int r] (qp_mk I J) 0 0 (qp_R8 (some (.int (-1))) I J) := by
  have hd1 : Nat.ble 1 d = true := Nat.ble_eq_true_of_le (Nat.le_trans (by decide) hd)
  refine qp_Met_of (by decide) (by rw [qp_r26.2]; rfl) [some (.ref 0), some (.int r), none] (by rw [qp_r26.2]; rfl) ?_
  refine qp_run_E qp_ok26 4 (c' := (6, [some (.ref 0), some (.int r), none], [.int r, .ref 1, .ref 0], qp_mk I J)) (by with_unfolding_all rfl) hd1 trivial ?_
  refine qp_cV qp_ok26 (rest := []) (oj := 0) qp_f18 rfl rfl (qx_refB1 l G r I J (by first | assumption | grind) (Nat.le_refl 5)) rfl rfl rfl rfl (Nat.le_trans (by decide) hd) ?_
  refine qp_run_E qp_ok26 2 (c' := (11, [some (.ref 0), some (.int r), some (.int (-1))], [.int (-1)], qp_mk I J)) (by with_unfolding_all rfl) hd1 trivial ?_
  refine qp_br_E qp_ok26 (f := ((-1) : Int32) = 0) (cf := (14, [some (.ref 0), some (.int r), some (.int (-1))], [], qp_mk I J)) (by with_unfolding_all rfl) (fun h => absurd h (by decide)) (fun _ => ?_)
  refine qp_run_E qp_ok26 1 (c' := (15, [some (.ref 0), some (.int r), some (.int (-1))], [.int (-1)], qp_mk I J)) (by with_unfolding_all rfl) hd1 trivial ?_
  exact qp_retI_E qp_ok26 rfl qp_r26.1 ⟨rfl, rfl⟩ ⟨rfl, rfl⟩

theorem qx_tearN (l : Launch) (G : qp_G) (r : Int32) (I : Nat → Nat → Int32) (J : Nat → Nat → Int64) (hp : (0 ≤ r ∧ r < 6)) (hn : I 2 (Int32.toNatClampNeg r) = -1) {d : Nat} (hd : 6 ≤ d) : qp_Met l G d 26 [.ref 0, .int r] (qp_mk I J) 0 0 (qp_R8 (some (.int (-3))) (qp_up (qp_up I 0 10 1) 35 1 ((I 35 1) + 1)) J) := by
  have hd1 : Nat.ble 1 d = true := Nat.ble_eq_true_of_le (Nat.le_trans (by decide) hd)
  refine qp_Met_of (by decide) (by rw [qp_r26.2]; rfl) [some (.ref 0), some (.int r), none] (by rw [qp_r26.2]; rfl) ?_
  refine qp_run_E qp_ok26 4 (c' := (6, [some (.ref 0), some (.int r), none], [.int r, .ref 1, .ref 0], qp_mk I J)) (by with_unfolding_all rfl) hd1 trivial ?_
  refine qp_cV qp_ok26 (rest := []) (oj := 0) qp_f18 rfl rfl (qx_refN1 l G r I J (by first | assumption | grind) (by first | assumption | grind) (Nat.le_refl 5)) rfl rfl rfl rfl (Nat.le_trans (by decide) hd) ?_
  refine qp_run_E qp_ok26 2 (c' := (11, [some (.ref 0), some (.int r), some (.int (-3))], [.int (-3)], qp_mk (qp_up (qp_up I 0 10 1) 35 1 ((I 35 1) + 1)) J)) (by with_unfolding_all rfl) hd1 trivial ?_
  refine qp_br_E qp_ok26 (f := ((-3) : Int32) = 0) (cf := (14, [some (.ref 0), some (.int r), some (.int (-3))], [], qp_mk (qp_up (qp_up I 0 10 1) 35 1 ((I 35 1) + 1)) J)) (by with_unfolding_all rfl) (fun h => absurd h (by decide)) (fun _ => ?_)
  refine qp_run_E qp_ok26 1 (c' := (15, [some (.ref 0), some (.int r), some (.int (-3))], [.int (-3)], qp_mk (qp_up (qp_up I 0 10 1) 35 1 ((I 35 1) + 1)) J)) (by with_unfolding_all rfl) hd1 trivial ?_
  exact qp_retI_E qp_ok26 rfl qp_r26.1 ⟨rfl, rfl⟩ ⟨rfl, rfl⟩

theorem qx_tearF (l : Launch) (G : qp_G) (r : Int32) (I : Nat → Nat → Int32) (J : Nat → Nat → Int64) (hp : (0 ≤ r ∧ r < 6)) (hn : ¬ I 2 (Int32.toNatClampNeg r) = -1) {d : Nat} (hd : 6 ≤ d) : qp_Met l G d 26 [.ref 0, .int r] (qp_mk I J) 0 0 (qp_R8 (some (.int 1)) (qp_up I 2 (Int32.toNatClampNeg r) (-1)) J) := by
  have hd1 : Nat.ble 1 d = true := Nat.ble_eq_true_of_le (Nat.le_trans (by decide) hd)
  refine qp_Met_of (by decide) (by rw [qp_r26.2]; rfl) [some (.ref 0), some (.int r), none] (by rw [qp_r26.2]; rfl) ?_
  refine qp_run_E qp_ok26 4 (c' := (6, [some (.ref 0), some (.int r), none], [.int r, .ref 1, .ref 0], qp_mk I J)) (by with_unfolding_all rfl) hd1 trivial ?_
  refine qp_cV qp_ok26 (rest := []) (oj := 0) qp_f18 rfl rfl (qx_refF1 l G r I J (by first | assumption | grind) (by first | assumption | grind) (Nat.le_refl 5)) rfl rfl rfl rfl (Nat.le_trans (by decide) hd) ?_
  refine qp_run_E qp_ok26 2 (c' := (11, [some (.ref 0), some (.int r), some (.int 0)], [.int 0], qp_mk I J)) (by with_unfolding_all rfl) hd1 trivial ?_
  refine qp_br_E qp_ok26 (f := (0 : Int32) = 0) (ct := (16, [some (.ref 0), some (.int r), some (.int 0)], [], qp_mk I J)) (by with_unfolding_all rfl) (fun _ => ?_) (fun h => absurd (by decide) h)
  refine qp_run_E qp_ok26 3 (c' := (21, [some (.ref 0), some (.int r), some (.int 0)], [.int r, .ref 1], qp_mk I J)) (by with_unfolding_all rfl) hd1 trivial ?_
  refine qp_cV qp_ok26 (rest := []) (oj := 1) qp_f27 rfl rfl (qs_drop1 l G r I J (by first | assumption | grind) (Nat.le_refl 2)) rfl rfl rfl rfl (Nat.le_trans (by decide) hd) ?_
  refine qp_run_E qp_ok26 1 (c' := (25, [some (.ref 0), some (.int r), some (.int 0)], [.int 1], qp_mk (qp_up I 2 (Int32.toNatClampNeg r) (-1)) J)) (by with_unfolding_all rfl) hd1 trivial ?_
  exact qp_retI_E qp_ok26 rfl qp_r26.1 ⟨rfl, rfl⟩ ⟨rfl, rfl⟩

theorem qx_findings (l : Launch) (G : qp_G) (f : Int32) (I : Nat → Nat → Int32) (J : Nat → Nat → Int64)  {d : Nat} (hd : 1 ≤ d) : qp_Met l G d 143 [.ref 0, .int f] (qp_mk I J) 0 0 (qp_R8 (some (.int (if 1 ≤ f ∧ f ≤ 5 then I 35 (Int32.toNatClampNeg f) else -1))) I J) := by
  have hd1 : Nat.ble 1 d = true := Nat.ble_eq_true_of_le (Nat.le_trans (by decide) hd)
  refine qp_Met_of (by decide) (by rw [qp_r143.2]; rfl) [some (.ref 0), some (.int f)] (by rw [qp_r143.2]; rfl) ?_
  refine qp_run_E qp_ok143 2 (c' := (2, [some (.ref 0), some (.int f)], [.int 1, .int f], qp_mk I J)) (by with_unfolding_all rfl) hd1 trivial ?_
  refine qp_br_E qp_ok143 (f := f < 1) (ct := (19, [some (.ref 0), some (.int f)], [], qp_mk I J)) (cf := (5, [some (.ref 0), some (.int f)], [], qp_mk I J)) (by with_unfolding_all rfl) (fun h1 => ?_) (fun h1 => ?_)
  · refine qp_run_E qp_ok143 1 (c' := (20, [some (.ref 0), some (.int f)], [.int (-1)], qp_mk I J)) (by with_unfolding_all rfl) hd1 trivial ?_
    exact qp_retI_E qp_ok143 rfl qp_r143.1 ⟨rfl, rfl⟩ ⟨congrArg (fun z => some (Value.int z)) (by first | rw [if_pos (by grind)] | rw [if_neg (by grind)]), rfl⟩
  · refine qp_run_E qp_ok143 2 (c' := (7, [some (.ref 0), some (.int f)], [.int 5, .int f], qp_mk I J)) (by with_unfolding_all rfl) hd1 trivial ?_
    refine qp_br_E qp_ok143 (f := 5 < f) (ct := (19, [some (.ref 0), some (.int f)], [], qp_mk I J)) (cf := (10, [some (.ref 0), some (.int f)], [], qp_mk I J)) (by with_unfolding_all rfl) (fun h2 => ?_) (fun h2 => ?_)
    · refine qp_run_E qp_ok143 1 (c' := (20, [some (.ref 0), some (.int f)], [.int (-1)], qp_mk I J)) (by with_unfolding_all rfl) hd1 trivial ?_
      exact qp_retI_E qp_ok143 rfl qp_r143.1 ⟨rfl, rfl⟩ ⟨congrArg (fun z => some (Value.int z)) (by first | rw [if_pos (by grind)] | rw [if_neg (by grind)]), rfl⟩
    · refine qp_run_E qp_ok143 5 (f := vp_in f 6 ∧ True) (c' := (20, [some (.ref 0), some (.int f)], [.int (I 35 (Int32.toNatClampNeg f))], qp_mk I J)) (by with_unfolding_all rfl) hd1 ⟨(qp_vin (c := 6) (by decide) (by grind) (by grind)), trivial⟩ ?_
      exact qp_retI_E qp_ok143 rfl qp_r143.1 ⟨rfl, rfl⟩ ⟨congrArg (fun z => some (Value.int z)) (by first | rw [if_pos (by grind)] | rw [if_neg (by grind)]), rfl⟩


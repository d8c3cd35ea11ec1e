/-! methods as functions: 16.f 1 -/
def fC_patienceOf_11 (p1 : Int32) (I : Nat → Nat → Int32) (J : Nat → Nat → Int64) : Option (Int32 × (Nat → Nat → Int32) × (Nat → Nat → Int64)) :=
  if p1 < 0 then (
    some (0, I, J)
  ) else (
    if 6 ≤ p1 then (
      some (0, I, J)
    ) else (
      qp_gd ((0 ≤ p1 ∧ p1 < 6)) <|
      some ((I 13 (Int32.toNatClampNeg p1)), I, J)
    )
  )
set_option maxRecDepth 8000 in
theorem gC_patienceOf_11 (l : Launch) (G : qp_G) (p1 : Int32) (I : Nat → Nat → Int32) (J : Nat → Nat → Int64) {v : Int32} {I' : Nat → Nat → Int32} {J' : Nat → Nat → Int64} (h : fC_patienceOf_11 p1 I J = some (v, I', J')) {d : Nat} (hd : 1 ≤ d) : qp_Met l G d 37 [.ref 11, .int p1] (qp_mk I J) 0 0 (qp_R8 (some (.int v)) I' J') := by
  have hd1 : Nat.ble 1 d = true := Nat.ble_eq_true_of_le (Nat.le_trans (by decide) hd)
  refine qp_Met_of (by decide) (by rw [qp_r37.2]; rfl) [some (.ref 11), some (.int p1)] (by rw [qp_r37.2]; rfl) ?_
  unfold fC_patienceOf_11 at h
  refine qp_run_E qp_ok37 1 (c' := (1, [some (.ref 11), some (.int p1)], [.int p1], qp_mk I J)) (by with_unfolding_all rfl) hd1 trivial ?_
  refine qp_br_E qp_ok37 (f := p1 < 0) (ct := (22, [some (.ref 11), some (.int p1)], [], qp_mk I J)) (cf := (4, [some (.ref 11), some (.int p1)], [], qp_mk I J)) (by with_unfolding_all rfl) (fun h1 => ?_) (fun h1 => ?_)
  · replace h := qp_ift h1 h
    refine qp_run_E qp_ok37 1 (c' := (23, [some (.ref 11), some (.int p1)], [.int 0], qp_mk I J)) (by with_unfolding_all rfl) hd1 trivial ?_
    obtain ⟨rfl, rfl, rfl⟩ := qp_some3 h
    exact qp_retI_E qp_ok37 rfl qp_r37.1 ⟨rfl, rfl⟩ ⟨rfl, rfl⟩
  · replace h := qp_iff h1 h
    refine qp_run_E qp_ok37 4 (c' := (10, [some (.ref 11), some (.int p1)], [.int 6, .int p1], qp_mk I J)) (by with_unfolding_all rfl) hd1 trivial ?_
    refine qp_br_E qp_ok37 (f := 6 ≤ p1) (ct := (22, [some (.ref 11), some (.int p1)], [], qp_mk I J)) (cf := (13, [some (.ref 11), some (.int p1)], [], qp_mk I J)) (by with_unfolding_all rfl) (fun h2 => ?_) (fun h2 => ?_)
    · replace h := qp_ift h2 h
      refine qp_run_E qp_ok37 1 (c' := (23, [some (.ref 11), some (.int p1)], [.int 0], qp_mk I J)) (by with_unfolding_all rfl) hd1 trivial ?_
      obtain ⟨rfl, rfl, rfl⟩ := qp_some3 h
      exact qp_retI_E qp_ok37 rfl qp_r37.1 ⟨rfl, rfl⟩ ⟨rfl, rfl⟩
    · replace h := qp_iff h2 h
      obtain ⟨h3, h⟩ := qp_gd_s h
      refine qp_run_E qp_ok37 5 (f := vp_in p1 6 ∧ True) (c' := (23, [some (.ref 11), some (.int p1)], [.int (I 13 (Int32.toNatClampNeg p1))], qp_mk I J)) (by with_unfolding_all rfl) hd1 ⟨(qp_vin (c := 6) (by decide) h3.1 h3.2), trivial⟩ ?_
      obtain ⟨rfl, rfl, rfl⟩ := qp_some3 h
      exact qp_retI_E qp_ok37 rfl qp_r37.1 ⟨rfl, rfl⟩ ⟨rfl, rfl⟩
def fC_add_15 (p1 : Int32) (p2 : Int32) (I : Nat → Nat → Int32) (J : Nat → Nat → Int64) : Option (Unit × (Nat → Nat → Int32) × (Nat → Nat → Int64)) :=
  if (I 15 0) < 0 then (
    some ((), I, J)
  ) else (
    if 6 ≤ (I 15 0) then (
      some ((), I, J)
    ) else (
      if 6 ≤ (I 15 0) then (
        some ((), I, J)
      ) else (
        qp_gd ((0 ≤ (I 15 0) ∧ (I 15 0) < 6)) <|
        some ((), (qp_up (qp_up (qp_up I 16 (Int32.toNatClampNeg (I 15 0)) p1) 17 (Int32.toNatClampNeg (I 15 0)) p2) 15 0 ((I 15 0) + 1)), J)
      )
    )
  )
set_option maxRecDepth 8000 in
theorem gC_add_15 (l : Launch) (G : qp_G) (p1 : Int32) (p2 : Int32) (I : Nat → Nat → Int32) (J : Nat → Nat → Int64) {v : Unit} {I' : Nat → Nat → Int32} {J' : Nat → Nat → Int64} (h : fC_add_15 p1 p2 I J = some (v, I', J')) {d : Nat} (hd : 1 ≤ d) : qp_Met l G d 34 [.ref 15, .int p1, .int p2] (qp_mk I J) 0 0 (qp_R8 none I' J') := by
  have hd1 : Nat.ble 1 d = true := Nat.ble_eq_true_of_le (Nat.le_trans (by decide) hd)
  refine qp_Met_of (by decide) (by rw [qp_r34.2]; rfl) [some (.ref 15), some (.int p1), some (.int p2)] (by rw [qp_r34.2]; rfl) ?_
  unfold fC_add_15 at h
  refine qp_run_E qp_ok34 2 (c' := (4, [some (.ref 15), some (.int p1), some (.int p2)], [.int (I 15 0)], qp_mk I J)) (by with_unfolding_all rfl) hd1 trivial ?_
  refine qp_br_E qp_ok34 (f := (I 15 0) < 0) (ct := (61, [some (.ref 15), some (.int p1), some (.int p2)], [], qp_mk I J)) (cf := (7, [some (.ref 15), some (.int p1), some (.int p2)], [], qp_mk I J)) (by with_unfolding_all rfl) (fun h1 => ?_) (fun h1 => ?_)
  · replace h := qp_ift h1 h
    obtain ⟨rfl, rfl, rfl⟩ := qp_some3 h
    exact qp_retV_E qp_ok34 rfl qp_r34.1 ⟨rfl, rfl⟩ ⟨rfl, rfl⟩
  · replace h := qp_iff h1 h
    refine qp_run_E qp_ok34 5 (c' := (16, [some (.ref 15), some (.int p1), some (.int p2)], [.int 6, .int (I 15 0)], qp_mk I J)) (by with_unfolding_all rfl) hd1 trivial ?_
    refine qp_br_E qp_ok34 (f := 6 ≤ (I 15 0)) (ct := (61, [some (.ref 15), some (.int p1), some (.int p2)], [], qp_mk I J)) (cf := (19, [some (.ref 15), some (.int p1), some (.int p2)], [], qp_mk I J)) (by with_unfolding_all rfl) (fun h2 => ?_) (fun h2 => ?_)
    · replace h := qp_ift h2 h
      obtain ⟨rfl, rfl, rfl⟩ := qp_some3 h
      exact qp_retV_E qp_ok34 rfl qp_r34.1 ⟨rfl, rfl⟩ ⟨rfl, rfl⟩
    · replace h := qp_iff h2 h
      refine qp_run_E qp_ok34 5 (c' := (28, [some (.ref 15), some (.int p1), some (.int p2)], [.int 6, .int (I 15 0)], qp_mk I J)) (by with_unfolding_all rfl) hd1 trivial ?_
      refine qp_br_E qp_ok34 (f := 6 ≤ (I 15 0)) (ct := (61, [some (.ref 15), some (.int p1), some (.int p2)], [], qp_mk I J)) (cf := (31, [some (.ref 15), some (.int p1), some (.int p2)], [], qp_mk I J)) (by with_unfolding_all rfl) (fun h3 => ?_) (fun h3 => ?_)
      · replace h := qp_ift h3 h
        obtain ⟨rfl, rfl, rfl⟩ := qp_some3 h
        exact qp_retV_E qp_ok34 rfl qp_r34.1 ⟨rfl, rfl⟩ ⟨rfl, rfl⟩
      · replace h := qp_iff h3 h
        obtain ⟨h4, h⟩ := qp_gd_s h
        refine qp_run_E qp_ok34 18 (f := vp_in (I 15 0) 6 ∧ vp_in (I 15 0) 6 ∧ True) (c' := (61, [some (.ref 15), some (.int p1), some (.int p2)], [], qp_mk (qp_up (qp_up (qp_up I 16 (Int32.toNatClampNeg (I 15 0)) p1) 17 (Int32.toNatClampNeg (I 15 0)) p2) 15 0 ((I 15 0) + 1)) J)) (by with_unfolding_all rfl) hd1 ⟨(qp_vin (c := 6) (by decide) h4.1 h4.2), (qp_vin (c := 6) (by decide) h4.1 h4.2), trivial⟩ ?_
        obtain ⟨rfl, rfl, rfl⟩ := qp_some3 h
        exact qp_retV_E qp_ok34 rfl qp_r34.1 ⟨rfl, rfl⟩ ⟨rfl, rfl⟩
def fC_take_15_11_b14  : Nat → Int32 → (Nat → Nat → Int32) → (Nat → Nat → Int64) → Option (Unit × (Nat → Nat → Int32) × (Nat → Nat → Int64))
  | 0, _, _, _ => none
  | n + 1, a2, I, J =>
    if (I 11 0) ≤ a2 then (
      some ((), I, J)
    ) else (
      qp_bd (fC_kindOf_11 a2 I J) fun v1 I1 J1 =>
      qp_bd (fC_patienceOf_11 a2 I1 J1) fun v2 I2 J2 =>
      qp_bd (fC_add_15 v1 v2 I2 J2) fun _u I3 J3 =>
      fC_take_15_11_b14 n (a2 + 1) I3 J3
    )
set_option maxRecDepth 8000 in
theorem gC_take_15_11_b14 {l : Launch} {G : qp_G} {d : Nat} (hd : 2 ≤ d) {r : (Unit × (Nat → Nat → Int32) × (Nat → Nat → Int64))} {I0 : Nat → Nat → Int32} {J0 : Nat → Nat → Int64}   : ∀ (n : Nat) (a2 : Int32) (I : Nat → Nat → Int32) (J : Nat → Nat → Int64), fC_take_15_11_b14  n a2 I J = some r → qp_E l G d 35 (qp_mk I0 J0) 0 0 (qp_R8 none r.2.1 r.2.2) (14, [some (.ref 15), some (.ref 11), some (.int a2)], [], qp_mk I J) := by
  have hd1 : Nat.ble 1 d = true := Nat.ble_eq_true_of_le (Nat.le_trans (by decide) hd)
  intro n
  induction n with
  | zero => intro a2 I J h; exact absurd h (by simp [fC_take_15_11_b14])
  | succ n ih =>
    intro a2 I J h
    rw [fC_take_15_11_b14] at h
    refine qp_run_E qp_ok35 3 (c' := (19, [some (.ref 15), some (.ref 11), some (.int a2)], [.int (I 11 0), .int a2], qp_mk I J)) (by with_unfolding_all rfl) hd1 trivial ?_
    refine qp_br_E qp_ok35 (f := (I 11 0) ≤ a2) (ct := (42, [some (.ref 15), some (.ref 11), some (.int a2)], [], qp_mk I J)) (cf := (22, [some (.ref 15), some (.ref 11), some (.int a2)], [], qp_mk I J)) (by with_unfolding_all rfl) (fun h1 => ?_) (fun h1 => ?_)
    · replace h := qp_ift h1 h
      obtain rfl := Option.some.inj h
      exact qp_retV_E qp_ok35 rfl qp_r35.1 ⟨rfl, rfl⟩ ⟨rfl, rfl⟩
    · replace h := qp_iff h1 h
      refine qp_run_E qp_ok35 3 (c' := (25, [some (.ref 15), some (.ref 11), some (.int a2)], [.int a2, .ref 11, .ref 15], qp_mk I J)) (by with_unfolding_all rfl) hd1 trivial ?_
      obtain ⟨v1, I1, J1, e1, h⟩ := qp_bd_s h
      refine qp_cV qp_ok35 (rest := [.ref 15]) (oj := 3) qp_f36 rfl rfl (gC_kindOf_11 l G a2 I J e1 (Nat.le_refl 1)) rfl rfl rfl rfl (Nat.le_trans (by decide) hd) ?_
      refine qp_run_E qp_ok35 2 (c' := (30, [some (.ref 15), some (.ref 11), some (.int a2)], [.int a2, .ref 11, .int v1, .ref 15], qp_mk I1 J1)) (by with_unfolding_all rfl) hd1 trivial ?_
      obtain ⟨v2, I2, J2, e2, h⟩ := qp_bd_s h
      refine qp_cV qp_ok35 (rest := [.int v1, .ref 15]) (oj := 3) qp_f37 rfl rfl (gC_patienceOf_11 l G a2 I1 J1 e2 (Nat.le_refl 1)) rfl rfl rfl rfl (Nat.le_trans (by decide) hd) ?_
      obtain ⟨v3, I3, J3, e3, h⟩ := qp_bd_s h
      refine qp_cV qp_ok35 (rest := []) (oj := 3) qp_f34 rfl rfl (gC_add_15 l G v1 v2 I2 J2 e3 (Nat.le_refl 1)) rfl rfl rfl rfl (Nat.le_trans (by decide) hd) ?_
      refine qp_run_E qp_ok35 2 (c' := (14, [some (.ref 15), some (.ref 11), some (.int (a2 + 1))], [], qp_mk I3 J3)) (by with_unfolding_all rfl) hd1 trivial ?_
      exact ih (a2 + 1) I3 J3 h
def fC_take_15_11  (I : Nat → Nat → Int32) (J : Nat → Nat → Int64) : Option (Unit × (Nat → Nat → Int32) × (Nat → Nat → Int64)) :=
  qp_bd (fC_clear_15 I J) fun _u I1 J1 =>
  fC_take_15_11_b14 100000 0 (qp_up I1 15 1 (I1 11 1)) J1
set_option maxRecDepth 8000 in
theorem gC_take_15_11 (l : Launch) (G : qp_G)  (I : Nat → Nat → Int32) (J : Nat → Nat → Int64) {v : Unit} {I' : Nat → Nat → Int32} {J' : Nat → Nat → Int64} (h : fC_take_15_11  I J = some (v, I', J')) {d : Nat} (hd : 2 ≤ d) : qp_Met l G d 35 [.ref 15, .ref 11] (qp_mk I J) 0 0 (qp_R8 none I' J') := by
  have hd1 : Nat.ble 1 d = true := Nat.ble_eq_true_of_le (Nat.le_trans (by decide) hd)
  refine qp_Met_of (by decide) (by rw [qp_r35.2]; rfl) [some (.ref 15), some (.ref 11), none] (by rw [qp_r35.2]; rfl) ?_
  unfold fC_take_15_11 at h
  refine qp_run_E qp_ok35 1 (c' := (1, [some (.ref 15), some (.ref 11), none], [.ref 15], qp_mk I J)) (by with_unfolding_all rfl) hd1 trivial ?_
  obtain ⟨v1, I1, J1, e1, h⟩ := qp_bd_s h
  refine qp_cV qp_ok35 (rest := []) (oj := 3) qp_f28 rfl rfl (gC_clear_15 l G I J e1 (Nat.le_refl 1)) rfl rfl rfl rfl (Nat.le_trans (by decide) hd) ?_
  refine qp_run_E qp_ok35 6 (c' := (14, [some (.ref 15), some (.ref 11), some (.int 0)], [], qp_mk (qp_up I1 15 1 (I1 11 1)) J1)) (by with_unfolding_all rfl) hd1 trivial ?_
  exact gC_take_15_11_b14 hd 100000 0 (qp_up I1 15 1 (I1 11 1)) J1 h
def fD_with (p0 : Int32) (p1 : Int32) (p2 : Int32) (I : Nat → Nat → Int32) (J : Nat → Nat → Int64) : Option (Int32 × (Nat → Nat → Int32) × (Nat → Nat → Int64)) :=
  some ((p0 ||| (p2 <<< (((3 : Int32) * p1) &&& 31))), I, J)
set_option maxRecDepth 8000 in
theorem gD_with (l : Launch) (G : qp_G) (p0 : Int32) (p1 : Int32) (p2 : Int32) (I : Nat → Nat → Int32) (J : Nat → Nat → Int64) {v : Int32} {I' : Nat → Nat → Int32} {J' : Nat → Nat → Int64} (h : fD_with p0 p1 p2 I J = some (v, I', J')) {d : Nat} (hd : 1 ≤ d) : qp_Met l G d 40 [.int p0, .int p1, .int p2] (qp_mk I J) 0 0 (qp_R8 (some (.int v)) I' J') := by
  have hd1 : Nat.ble 1 d = true := Nat.ble_eq_true_of_le (Nat.le_trans (by decide) hd)
  refine qp_Met_of (by decide) (by rw [qp_r40.2]; rfl) [some (.int p0), some (.int p1), some (.int p2)] (by rw [qp_r40.2]; rfl) ?_
  unfold fD_with at h
  refine qp_run_E qp_ok40 7 (c' := (7, [some (.int p0), some (.int p1), some (.int p2)], [.int (p0 ||| (p2 <<< (((3 : Int32) * p1) &&& 31)))], qp_mk I J)) (by with_unfolding_all rfl) hd1 trivial ?_
  obtain ⟨rfl, rfl, rfl⟩ := qp_some3 h
  exact qp_retI_E qp_ok40 rfl qp_r40.1 ⟨rfl, rfl⟩ ⟨rfl, rfl⟩
def fD_first_b4  : Nat → Int32 → Int32 → Int32 → (Nat → Nat → Int32) → (Nat → Nat → Int64) → Option (Int32 × (Nat → Nat → Int32) × (Nat → Nat → Int64))
  | 0, _, _, _, _, _ => none
  | n + 1, a0, a1, a2, I, J =>
    if a0 ≤ a2 then (
      some (a1, I, J)
    ) else (
      qp_bd (fD_with a1 a2 a2 I J) fun v1 I1 J1 =>
      fD_first_b4 n a0 v1 (a2 + 1) I1 J1
    )
set_option maxRecDepth 8000 in
theorem gD_first_b4 {l : Launch} {G : qp_G} {d : Nat} (hd : 2 ≤ d) {r : (Int32 × (Nat → Nat → Int32) × (Nat → Nat → Int64))} {I0 : Nat → Nat → Int32} {J0 : Nat → Nat → Int64}   : ∀ (n : Nat) (a0 : Int32) (a1 : Int32) (a2 : Int32) (I : Nat → Nat → Int32) (J : Nat → Nat → Int64), fD_first_b4  n a0 a1 a2 I J = some r → qp_E l G d 39 (qp_mk I0 J0) 0 0 (qp_R8 (some (.int r.1)) r.2.1 r.2.2) (4, [some (.int a0), some (.int a1), some (.int a2)], [], qp_mk I J) := by
  have hd1 : Nat.ble 1 d = true := Nat.ble_eq_true_of_le (Nat.le_trans (by decide) hd)
  intro n
  induction n with
  | zero => intro a0 a1 a2 I J h; exact absurd h (by simp [fD_first_b4])
  | succ n ih =>
    intro a0 a1 a2 I J h
    rw [fD_first_b4] at h
    refine qp_run_E qp_ok39 2 (c' := (6, [some (.int a0), some (.int a1), some (.int a2)], [.int a0, .int a2], qp_mk I J)) (by with_unfolding_all rfl) hd1 trivial ?_
    refine qp_br_E qp_ok39 (f := a0 ≤ a2) (ct := (22, [some (.int a0), some (.int a1), some (.int a2)], [], qp_mk I J)) (cf := (9, [some (.int a0), some (.int a1), some (.int a2)], [], qp_mk I J)) (by with_unfolding_all rfl) (fun h1 => ?_) (fun h1 => ?_)
    · replace h := qp_ift h1 h
      refine qp_run_E qp_ok39 1 (c' := (23, [some (.int a0), some (.int a1), some (.int a2)], [.int a1], qp_mk I J)) (by with_unfolding_all rfl) hd1 trivial ?_
      obtain rfl := Option.some.inj h
      exact qp_retI_E qp_ok39 rfl qp_r39.1 ⟨rfl, rfl⟩ ⟨rfl, rfl⟩
    · replace h := qp_iff h1 h
      refine qp_run_E qp_ok39 3 (c' := (12, [some (.int a0), some (.int a1), some (.int a2)], [.int a2, .int a2, .int a1], qp_mk I J)) (by with_unfolding_all rfl) hd1 trivial ?_
      obtain ⟨v1, I1, J1, e1, h⟩ := qp_bd_s h
      refine qp_cS qp_ok39 (rest := []) (oj := 10) qp_f40 rfl rfl (gD_with l G a1 a2 a2 I J e1 (Nat.le_refl 1)) rfl rfl rfl (Nat.le_trans (by decide) hd) ?_
      refine qp_run_E qp_ok39 3 (c' := (4, [some (.int a0), some (.int v1), some (.int (a2 + 1))], [], qp_mk I1 J1)) (by with_unfolding_all rfl) hd1 trivial ?_
      exact ih a0 v1 (a2 + 1) I1 J1 h
def fD_first (p0 : Int32) (I : Nat → Nat → Int32) (J : Nat → Nat → Int64) : Option (Int32 × (Nat → Nat → Int32) × (Nat → Nat → Int64)) :=
  fD_first_b4 100000 p0 0 0 I J
set_option maxRecDepth 8000 in
theorem gD_first (l : Launch) (G : qp_G) (p0 : Int32) (I : Nat → Nat → Int32) (J : Nat → Nat → Int64) {v : Int32} {I' : Nat → Nat → Int32} {J' : Nat → Nat → Int64} (h : fD_first p0 I J = some (v, I', J')) {d : Nat} (hd : 2 ≤ d) : qp_Met l G d 39 [.int p0] (qp_mk I J) 0 0 (qp_R8 (some (.int v)) I' J') := by
  have hd1 : Nat.ble 1 d = true := Nat.ble_eq_true_of_le (Nat.le_trans (by decide) hd)
  refine qp_Met_of (by decide) (by rw [qp_r39.2]; rfl) [some (.int p0), none, none] (by rw [qp_r39.2]; rfl) ?_
  unfold fD_first at h
  refine qp_run_E qp_ok39 4 (c' := (4, [some (.int p0), some (.int 0), some (.int 0)], [], qp_mk I J)) (by with_unfolding_all rfl) hd1 trivial ?_
  exact gD_first_b4 hd 100000 p0 0 0 I J h
def fL_restart  (I : Nat → Nat → Int32) (J : Nat → Nat → Int64) : Option (Unit × (Nat → Nat → Int32) × (Nat → Nat → Int64)) :=
  qp_bd (fD_first (I 15 0) I J) fun v1 I1 J1 =>
  some ((), (qp_up (qp_up (qp_up (qp_up I1 14 2 v1) 14 3 (I1 15 1)) 14 4 0) 14 5 0), J1)
set_option maxRecDepth 8000 in
theorem gL_restart (l : Launch) (G : qp_G)  (I : Nat → Nat → Int32) (J : Nat → Nat → Int64) {v : Unit} {I' : Nat → Nat → Int32} {J' : Nat → Nat → Int64} (h : fL_restart  I J = some (v, I', J')) {d : Nat} (hd : 3 ≤ d) : qp_Met l G d 38 [.ref 14] (qp_mk I J) 0 0 (qp_R8 none I' J') := by
  have hd1 : Nat.ble 1 d = true := Nat.ble_eq_true_of_le (Nat.le_trans (by decide) hd)
  refine qp_Met_of (by decide) (by rw [qp_r38.2]; rfl) [some (.ref 14)] (by rw [qp_r38.2]; rfl) ?_
  unfold fL_restart at h
  refine qp_run_E qp_ok38 4 (c' := (8, [some (.ref 14)], [.int (I 15 0), .ref 14], qp_mk I J)) (by with_unfolding_all rfl) hd1 trivial ?_
  obtain ⟨v1, I1, J1, e1, h⟩ := qp_bd_s h
  refine qp_cS qp_ok38 (rest := [.ref 14]) (oj := 10) qp_f39 rfl rfl (gD_first l G (I 15 0) I J e1 (Nat.le_refl 2)) rfl rfl rfl (Nat.le_trans (by decide) hd) ?_
  refine qp_run_E qp_ok38 12 (c' := (35, [some (.ref 14)], [], qp_mk (qp_up (qp_up (qp_up (qp_up I1 14 2 v1) 14 3 (I1 15 1)) 14 4 0) 14 5 0) J1)) (by with_unfolding_all rfl) hd1 trivial ?_
  obtain ⟨rfl, rfl, rfl⟩ := qp_some3 h
  exact qp_retV_E qp_ok38 rfl qp_r38.1 ⟨rfl, rfl⟩ ⟨rfl, rfl⟩
def fS_isNumber_7 (p1 : Int32) (I : Nat → Nat → Int32) (J : Nat → Nat → Int64) : Option (Int32 × (Nat → Nat → Int32) × (Nat → Nat → Int64)) :=
  if p1 < 0 then (
    some (0, I, J)
  ) else (
    if 3 ≤ p1 then (
      some (0, I, J)
    ) else (
      some (1, I, J)
    )
  )
set_option maxRecDepth 8000 in
theorem gS_isNumber_7 (l : Launch) (G : qp_G) (p1 : Int32) (I : Nat → Nat → Int32) (J : Nat → Nat → Int64) {v : Int32} {I' : Nat → Nat → Int32} {J' : Nat → Nat → Int64} (h : fS_isNumber_7 p1 I J = some (v, I', J')) {d : Nat} (hd : 1 ≤ d) : qp_Met l G d 13 [.ref 7, .int p1] (qp_mk I J) 0 0 (qp_R8 (some (.int v)) I' J') := by
  have hd1 : Nat.ble 1 d = true := Nat.ble_eq_true_of_le (Nat.le_trans (by decide) hd)
  refine qp_Met_of (by decide) (by rw [qp_r13.2]; rfl) [some (.ref 7), some (.int p1)] (by rw [qp_r13.2]; rfl) ?_
  unfold fS_isNumber_7 at h
  refine qp_run_E qp_ok13 1 (c' := (1, [some (.ref 7), some (.int p1)], [.int p1], qp_mk I J)) (by with_unfolding_all rfl) hd1 trivial ?_
  refine qp_br_E qp_ok13 (f := p1 < 0) (ct := (17, [some (.ref 7), some (.int p1)], [], qp_mk I J)) (cf := (4, [some (.ref 7), some (.int p1)], [], qp_mk I J)) (by with_unfolding_all rfl) (fun h1 => ?_) (fun h1 => ?_)
  · replace h := qp_ift h1 h
    refine qp_run_E qp_ok13 1 (c' := (18, [some (.ref 7), some (.int p1)], [.int 0], qp_mk I J)) (by with_unfolding_all rfl) hd1 trivial ?_
    obtain ⟨rfl, rfl, rfl⟩ := qp_some3 h
    exact qp_retZ_E qp_ok13 rfl qp_r13.1 rfl ⟨rfl, rfl⟩ ⟨rfl, rfl⟩
  · replace h := qp_iff h1 h
    refine qp_run_E qp_ok13 4 (c' := (10, [some (.ref 7), some (.int p1)], [.int 3, .int p1], qp_mk I J)) (by with_unfolding_all rfl) hd1 trivial ?_
    refine qp_br_E qp_ok13 (f := 3 ≤ p1) (ct := (17, [some (.ref 7), some (.int p1)], [], qp_mk I J)) (cf := (13, [some (.ref 7), some (.int p1)], [], qp_mk I J)) (by with_unfolding_all rfl) (fun h2 => ?_) (fun h2 => ?_)
    · replace h := qp_ift h2 h
      refine qp_run_E qp_ok13 1 (c' := (18, [some (.ref 7), some (.int p1)], [.int 0], qp_mk I J)) (by with_unfolding_all rfl) hd1 trivial ?_
      obtain ⟨rfl, rfl, rfl⟩ := qp_some3 h
      exact qp_retZ_E qp_ok13 rfl qp_r13.1 rfl ⟨rfl, rfl⟩ ⟨rfl, rfl⟩
    · replace h := qp_iff h2 h
      refine qp_run_E qp_ok13 2 (c' := (18, [some (.ref 7), some (.int p1)], [.int 1], qp_mk I J)) (by with_unfolding_all rfl) hd1 trivial ?_
      obtain ⟨rfl, rfl, rfl⟩ := qp_some3 h
      exact qp_retZ_E qp_ok13 rfl qp_r13.1 rfl ⟨rfl, rfl⟩ ⟨rfl, rfl⟩
def fS_drop_7 (p1 : Int32) (I : Nat → Nat → Int32) (J : Nat → Nat → Int64) : Option (Unit × (Nat → Nat → Int32) × (Nat → Nat → Int64)) :=
  qp_bd (fS_isNumber_7 p1 I J) fun v1 I1 J1 =>
  if v1 = 0 then (
    some ((), I1, J1)
  ) else (
    qp_gd ((0 ≤ p1 ∧ p1 < 3)) <|
    some ((), (qp_up I1 8 (Int32.toNatClampNeg p1) (-1)), J1)
  )
set_option maxRecDepth 8000 in
theorem gS_drop_7 (l : Launch) (G : qp_G) (p1 : Int32) (I : Nat → Nat → Int32) (J : Nat → Nat → Int64) {v : Unit} {I' : Nat → Nat → Int32} {J' : Nat → Nat → Int64} (h : fS_drop_7 p1 I J = some (v, I', J')) {d : Nat} (hd : 2 ≤ d) : qp_Met l G d 41 [.ref 7, .int p1] (qp_mk I J) 0 0 (qp_R8 none I' J') := by
  have hd1 : Nat.ble 1 d = true := Nat.ble_eq_true_of_le (Nat.le_trans (by decide) hd)
  refine qp_Met_of (by decide) (by rw [qp_r41.2]; rfl) [some (.ref 7), some (.int p1)] (by rw [qp_r41.2]; rfl) ?_
  unfold fS_drop_7 at h
  refine qp_run_E qp_ok41 2 (c' := (2, [some (.ref 7), some (.int p1)], [.int p1, .ref 7], qp_mk I J)) (by with_unfolding_all rfl) hd1 trivial ?_
  obtain ⟨v1, I1, J1, e1, h⟩ := qp_bd_s h
  refine qp_cV qp_ok41 (rest := []) (oj := 1) qp_f13 rfl rfl (gS_isNumber_7 l G p1 I J e1 (Nat.le_refl 1)) rfl rfl rfl rfl (Nat.le_trans (by decide) hd) ?_
  refine qp_br_E qp_ok41 (f := v1 = 0) (ct := (15, [some (.ref 7), some (.int p1)], [], qp_mk I1 J1)) (cf := (8, [some (.ref 7), some (.int p1)], [], qp_mk I1 J1)) (by with_unfolding_all rfl) (fun h1 => ?_) (fun h1 => ?_)
  · replace h := qp_ift h1 h
    obtain ⟨rfl, rfl, rfl⟩ := qp_some3 h
    exact qp_retV_E qp_ok41 rfl qp_r41.1 ⟨rfl, rfl⟩ ⟨rfl, rfl⟩
  · replace h := qp_iff h1 h
    obtain ⟨h2, h⟩ := qp_gd_s h
    refine qp_run_E qp_ok41 5 (f := vp_in p1 3 ∧ True) (c' := (15, [some (.ref 7), some (.int p1)], [], qp_mk (qp_up I1 8 (Int32.toNatClampNeg p1) (-1)) J1)) (by with_unfolding_all rfl) hd1 ⟨(qp_vin (c := 3) (by decide) h2.1 h2.2), trivial⟩ ?_
    obtain ⟨rfl, rfl, rfl⟩ := qp_some3 h
    exact qp_retV_E qp_ok41 rfl qp_r41.1 ⟨rfl, rfl⟩ ⟨rfl, rfl⟩
def fX_line_b58  : Nat → Int32 → (Nat → Nat → Int32) → (Nat → Nat → Int64) → Option (Int32 × (Nat → Nat → Int32) × (Nat → Nat → Int64))
  | 0, _, _, _ => none
  | n + 1, a3, I, J =>
    if 3 ≤ a3 then (
      some ((I 15 0), I, J)
    ) else (
      qp_bd (fS_drop_7 a3 I J) fun _u I1 J1 =>
      fX_line_b58 n (a3 + 1) I1 J1
    )
set_option maxRecDepth 8000 in
theorem gX_line_b58 {l : Launch} {G : qp_G} {d : Nat} (hd : 7 ≤ d) {r : (Int32 × (Nat → Nat → Int32) × (Nat → Nat → Int64))} {I0 : Nat → Nat → Int32} {J0 : Nat → Nat → Int64}   : ∀ (n : Nat) (a3 : Int32) (I : Nat → Nat → Int32) (J : Nat → Nat → Int64), fX_line_b58  n a3 I J = some r → qp_E l G d 26 (qp_mk I0 J0) 0 0 (qp_R8 (some (.int r.1)) r.2.1 r.2.2) (58, [some (.ref 0), none, none, some (.int a3)], [], qp_mk I J) := by
  have hd1 : Nat.ble 1 d = true := Nat.ble_eq_true_of_le (Nat.le_trans (by decide) hd)
  intro n
  induction n with
  | zero => intro a3 I J h; exact absurd h (by simp [fX_line_b58])
  | succ n ih =>
    intro a3 I J h
    rw [fX_line_b58] at h
    refine qp_run_E qp_ok26 2 (c' := (60, [some (.ref 0), none, none, some (.int a3)], [.int 3, .int a3], qp_mk I J)) (by with_unfolding_all rfl) hd1 trivial ?_
    refine qp_br_E qp_ok26 (f := 3 ≤ a3) (ct := (77, [some (.ref 0), none, none, some (.int a3)], [], qp_mk I J)) (cf := (63, [some (.ref 0), none, none, some (.int a3)], [], qp_mk I J)) (by with_unfolding_all rfl) (fun h1 => ?_) (fun h1 => ?_)
    · replace h := qp_ift h1 h
      refine qp_run_E qp_ok26 4 (c' := (87, [some (.ref 0), none, none, some (.int a3)], [.int (I 15 0)], qp_mk I J)) (by with_unfolding_all rfl) hd1 trivial ?_
      obtain rfl := Option.some.inj h
      exact qp_retI_E qp_ok26 rfl qp_r26.1 ⟨rfl, rfl⟩ ⟨rfl, rfl⟩
    · replace h := qp_iff h1 h
      refine qp_run_E qp_ok26 3 (c' := (68, [some (.ref 0), none, none, some (.int a3)], [.int a3, .ref 7], qp_mk I J)) (by with_unfolding_all rfl) hd1 trivial ?_
      obtain ⟨v1, I1, J1, e1, h⟩ := qp_bd_s h
      refine qp_cV qp_ok26 (rest := []) (oj := 1) qp_f41 rfl rfl (gS_drop_7 l G a3 I J e1 (Nat.le_refl 2)) rfl rfl rfl rfl (Nat.le_trans (by decide) hd) ?_
      refine qp_run_E qp_ok26 2 (c' := (58, [some (.ref 0), none, none, some (.int (a3 + 1))], [], qp_mk I1 J1)) (by with_unfolding_all rfl) hd1 trivial ?_
      exact ih (a3 + 1) I1 J1 h
def fX_line (p1 : Int32) (I : Nat → Nat → Int32) (J : Nat → Nat → Int64) : Option (Int32 × (Nat → Nat → Int32) × (Nat → Nat → Int64)) :=
  qp_bd (fX_refusalOf_0_4 p1 I J) fun v1 I1 J1 =>
  if v1 = 0 then (
    qp_bd (fR_read p1 I1 J1) fun v2 I2 J2 =>
    if v2 = (-9) then (
      qp_bd (fC_take_15_11 I2 J2) fun _u I3 J3 =>
      qp_bd (fL_restart I3 J3) fun _u I4 J4 =>
      fX_line_b58 100000 0 I4 J4
    ) else (
      some ((-4), I2, J2)
    )
  ) else (
    some (v1, I1, J1)
  )
set_option maxRecDepth 8000 in
theorem gX_line (l : Launch) (G : qp_G) (p1 : Int32) (I : Nat → Nat → Int32) (J : Nat → Nat → Int64) {v : Int32} {I' : Nat → Nat → Int32} {J' : Nat → Nat → Int64} (h : fX_line p1 I J = some (v, I', J')) {d : Nat} (hd : 7 ≤ d) : qp_Met l G d 26 [.ref 0, .int p1] (qp_mk I J) 0 0 (qp_R8 (some (.int v)) I' J') := by
  have hd1 : Nat.ble 1 d = true := Nat.ble_eq_true_of_le (Nat.le_trans (by decide) hd)
  refine qp_Met_of (by decide) (by rw [qp_r26.2]; rfl) [some (.ref 0), some (.int p1), none, none] (by rw [qp_r26.2]; rfl) ?_
  unfold fX_line at h
  refine qp_run_E qp_ok26 4 (c' := (6, [some (.ref 0), some (.int p1), none, none], [.int p1, .ref 4, .ref 0], qp_mk I J)) (by with_unfolding_all rfl) hd1 trivial ?_
  obtain ⟨v1, I1, J1, e1, h⟩ := qp_bd_s h
  refine qp_cV qp_ok26 (rest := []) (oj := 0) qp_f20 rfl rfl (gX_refusalOf_0_4 l G p1 I J e1 (Nat.le_refl 4)) rfl rfl rfl rfl (Nat.le_trans (by decide) hd) ?_
  refine qp_run_E qp_ok26 2 (c' := (11, [some (.ref 0), some (.int p1), some (.int v1), none], [.int v1], qp_mk I1 J1)) (by with_unfolding_all rfl) hd1 trivial ?_
  refine qp_br_E qp_ok26 (f := v1 = 0) (ct := (16, [some (.ref 0), some (.int p1), some (.int v1), none], [], qp_mk I1 J1)) (cf := (14, [some (.ref 0), some (.int p1), some (.int v1), none], [], qp_mk I1 J1)) (by with_unfolding_all rfl) (fun h1 => ?_) (fun h1 => ?_)
  · replace h := qp_ift h1 h
    refine qp_run_E qp_ok26 3 (c' := (21, [some (.ref 0), some (.int p1), some (.int v1), none], [.int p1, .ref 10], qp_mk I1 J1)) (by with_unfolding_all rfl) hd1 trivial ?_
    obtain ⟨v2, I2, J2, e2, h⟩ := qp_bd_s h
    refine qp_cV qp_ok26 (rest := []) (oj := 2) qp_f27 rfl rfl (gR_read l G p1 I1 J1 e2 (Nat.le_refl 6)) rfl rfl rfl rfl (Nat.le_trans (by decide) hd) ?_
    refine qp_run_E qp_ok26 1 (c' := (26, [some (.ref 0), some (.int p1), some (.int v1), none], [.int (-9), .int v2], qp_mk I2 J2)) (by with_unfolding_all rfl) hd1 trivial ?_
    refine qp_br_E qp_ok26 (f := v2 = (-9)) (ct := (32, [some (.ref 0), some (.int p1), some (.int v1), none], [], qp_mk I2 J2)) (cf := (29, [some (.ref 0), some (.int p1), some (.int v1), none], [], qp_mk I2 J2)) (by with_unfolding_all rfl) (fun h2 => ?_) (fun h2 => ?_)
    · replace h := qp_ift h2 h
      refine qp_run_E qp_ok26 6 (c' := (46, [some (.ref 0), some (.int p1), some (.int v1), none], [.ref 11, .ref 15], qp_mk I2 J2)) (by with_unfolding_all rfl) hd1 trivial ?_
      obtain ⟨v3, I3, J3, e3, h⟩ := qp_bd_s h
      refine qp_cV qp_ok26 (rest := []) (oj := 3) qp_f35 rfl rfl (gC_take_15_11 l G I2 J2 e3 (Nat.le_refl 2)) rfl rfl rfl rfl (Nat.le_trans (by decide) hd) ?_
      refine qp_run_E qp_ok26 2 (c' := (53, [some (.ref 0), some (.int p1), some (.int v1), none], [.ref 14], qp_mk I3 J3)) (by with_unfolding_all rfl) hd1 trivial ?_
      obtain ⟨v4, I4, J4, e4, h⟩ := qp_bd_s h
      refine qp_cV qp_ok26 (rest := []) (oj := 4) qp_f38 rfl rfl (gL_restart l G I3 J3 e4 (Nat.le_refl 3)) rfl rfl rfl rfl (Nat.le_trans (by decide) hd) ?_
      refine qp_run_E qp_ok26 2 (c' := (58, [some (.ref 0), some (.int p1), some (.int v1), some (.int 0)], [], qp_mk I4 J4)) (by with_unfolding_all rfl) hd1 trivial ?_
      exact qp_E_fg [true, false, false, true] (gX_line_b58 hd 100000 0 I4 J4 h)
    · replace h := qp_iff h2 h
      refine qp_run_E qp_ok26 1 (c' := (31, [some (.ref 0), some (.int p1), some (.int v1), none], [.int (-4)], qp_mk I2 J2)) (by with_unfolding_all rfl) hd1 trivial ?_
      obtain ⟨rfl, rfl, rfl⟩ := qp_some3 h
      exact qp_retI_E qp_ok26 rfl qp_r26.1 ⟨rfl, rfl⟩ ⟨rfl, rfl⟩
  · replace h := qp_iff h1 h
    refine qp_run_E qp_ok26 1 (c' := (15, [some (.ref 0), some (.int p1), some (.int v1), none], [.int v1], qp_mk I1 J1)) (by with_unfolding_all rfl) hd1 trivial ?_
    obtain ⟨rfl, rfl, rfl⟩ := qp_some3 h
    exact qp_retI_E qp_ok26 rfl qp_r26.1 ⟨rfl, rfl⟩ ⟨rfl, rfl⟩
def fC_has_15 (p1 : Int32) (I : Nat → Nat → Int32) (J : Nat → Nat → Int64) : Option (Int32 × (Nat → Nat → Int32) × (Nat → Nat → Int64)) :=
  if p1 < 0 then (
    some (0, I, J)
  ) else (
    if (I 15 0) ≤ p1 then (
      some (0, I, J)
    ) else (
      some (1, I, J)
    )
  )
set_option maxRecDepth 8000 in
theorem gC_has_15 (l : Launch) (G : qp_G) (p1 : Int32) (I : Nat → Nat → Int32) (J : Nat → Nat → Int64) {v : Int32} {I' : Nat → Nat → Int32} {J' : Nat → Nat → Int64} (h : fC_has_15 p1 I J = some (v, I', J')) {d : Nat} (hd : 1 ≤ d) : qp_Met l G d 43 [.ref 15, .int p1] (qp_mk I J) 0 0 (qp_R8 (some (.int v)) I' J') := by
  have hd1 : Nat.ble 1 d = true := Nat.ble_eq_true_of_le (Nat.le_trans (by decide) hd)
  refine qp_Met_of (by decide) (by rw [qp_r43.2]; rfl) [some (.ref 15), some (.int p1)] (by rw [qp_r43.2]; rfl) ?_
  unfold fC_has_15 at h
  refine qp_run_E qp_ok43 1 (c' := (1, [some (.ref 15), some (.int p1)], [.int p1], qp_mk I J)) (by with_unfolding_all rfl) hd1 trivial ?_
  refine qp_br_E qp_ok43 (f := p1 < 0) (ct := (16, [some (.ref 15), some (.int p1)], [], qp_mk I J)) (cf := (4, [some (.ref 15), some (.int p1)], [], qp_mk I J)) (by with_unfolding_all rfl) (fun h1 => ?_) (fun h1 => ?_)
  · replace h := qp_ift h1 h
    refine qp_run_E qp_ok43 1 (c' := (17, [some (.ref 15), some (.int p1)], [.int 0], qp_mk I J)) (by with_unfolding_all rfl) hd1 trivial ?_
    obtain ⟨rfl, rfl, rfl⟩ := qp_some3 h
    exact qp_retZ_E qp_ok43 rfl qp_r43.1 rfl ⟨rfl, rfl⟩ ⟨rfl, rfl⟩
  · replace h := qp_iff h1 h
    refine qp_run_E qp_ok43 3 (c' := (9, [some (.ref 15), some (.int p1)], [.int (I 15 0), .int p1], qp_mk I J)) (by with_unfolding_all rfl) hd1 trivial ?_
    refine qp_br_E qp_ok43 (f := (I 15 0) ≤ p1) (ct := (16, [some (.ref 15), some (.int p1)], [], qp_mk I J)) (cf := (12, [some (.ref 15), some (.int p1)], [], qp_mk I J)) (by with_unfolding_all rfl) (fun h2 => ?_) (fun h2 => ?_)
    · replace h := qp_ift h2 h
      refine qp_run_E qp_ok43 1 (c' := (17, [some (.ref 15), some (.int p1)], [.int 0], qp_mk I J)) (by with_unfolding_all rfl) hd1 trivial ?_
      obtain ⟨rfl, rfl, rfl⟩ := qp_some3 h
      exact qp_retZ_E qp_ok43 rfl qp_r43.1 rfl ⟨rfl, rfl⟩ ⟨rfl, rfl⟩
    · replace h := qp_iff h2 h
      refine qp_run_E qp_ok43 2 (c' := (17, [some (.ref 15), some (.int p1)], [.int 1], qp_mk I J)) (by with_unfolding_all rfl) hd1 trivial ?_
      obtain ⟨rfl, rfl, rfl⟩ := qp_some3 h
      exact qp_retZ_E qp_ok43 rfl qp_r43.1 rfl ⟨rfl, rfl⟩ ⟨rfl, rfl⟩
def fD_whoAt (p0 : Int32) (p1 : Int32) (I : Nat → Nat → Int32) (J : Nat → Nat → Int64) : Option (Int32 × (Nat → Nat → Int32) × (Nat → Nat → Int64)) :=
  some (((p0 >>> (((3 : Int32) * p1) &&& 31)) &&& 7), I, J)
set_option maxRecDepth 8000 in
theorem gD_whoAt (l : Launch) (G : qp_G) (p0 : Int32) (p1 : Int32) (I : Nat → Nat → Int32) (J : Nat → Nat → Int64) {v : Int32} {I' : Nat → Nat → Int32} {J' : Nat → Nat → Int64} (h : fD_whoAt p0 p1 I J = some (v, I', J')) {d : Nat} (hd : 1 ≤ d) : qp_Met l G d 47 [.int p0, .int p1] (qp_mk I J) 0 0 (qp_R8 (some (.int v)) I' J') := by
  have hd1 : Nat.ble 1 d = true := Nat.ble_eq_true_of_le (Nat.le_trans (by decide) hd)
  refine qp_Met_of (by decide) (by rw [qp_r47.2]; rfl) [some (.int p0), some (.int p1)] (by rw [qp_r47.2]; rfl) ?_
  unfold fD_whoAt at h
  refine qp_run_E qp_ok47 7 (c' := (8, [some (.int p0), some (.int p1)], [.int ((p0 >>> (((3 : Int32) * p1) &&& 31)) &&& 7)], qp_mk I J)) (by with_unfolding_all rfl) hd1 trivial ?_
  obtain ⟨rfl, rfl, rfl⟩ := qp_some3 h
  exact qp_retI_E qp_ok47 rfl qp_r47.1 ⟨rfl, rfl⟩ ⟨rfl, rfl⟩
def fC_kindOf_15 (p1 : Int32) (I : Nat → Nat → Int32) (J : Nat → Nat → Int64) : Option (Int32 × (Nat → Nat → Int32) × (Nat → Nat → Int64)) :=
  if p1 < 0 then (
    some (0, I, J)
  ) else (
    if 6 ≤ p1 then (
      some (0, I, J)
    ) else (
      qp_gd ((0 ≤ p1 ∧ p1 < 6)) <|
      some ((I 16 (Int32.toNatClampNeg p1)), I, J)
    )
  )
set_option maxRecDepth 8000 in
theorem gC_kindOf_15 (l : Launch) (G : qp_G) (p1 : Int32) (I : Nat → Nat → Int32) (J : Nat → Nat → Int64) {v : Int32} {I' : Nat → Nat → Int32} {J' : Nat → Nat → Int64} (h : fC_kindOf_15 p1 I J = some (v, I', J')) {d : Nat} (hd : 1 ≤ d) : qp_Met l G d 36 [.ref 15, .int p1] (qp_mk I J) 0 0 (qp_R8 (some (.int v)) I' J') := by
  have hd1 : Nat.ble 1 d = true := Nat.ble_eq_true_of_le (Nat.le_trans (by decide) hd)
  refine qp_Met_of (by decide) (by rw [qp_r36.2]; rfl) [some (.ref 15), some (.int p1)] (by rw [qp_r36.2]; rfl) ?_
  unfold fC_kindOf_15 at h
  refine qp_run_E qp_ok36 1 (c' := (1, [some (.ref 15), some (.int p1)], [.int p1], qp_mk I J)) (by with_unfolding_all rfl) hd1 trivial ?_
  refine qp_br_E qp_ok36 (f := p1 < 0) (ct := (22, [some (.ref 15), some (.int p1)], [], qp_mk I J)) (cf := (4, [some (.ref 15), some (.int p1)], [], qp_mk I J)) (by with_unfolding_all rfl) (fun h1 => ?_) (fun h1 => ?_)
  · replace h := qp_ift h1 h
    refine qp_run_E qp_ok36 1 (c' := (23, [some (.ref 15), some (.int p1)], [.int 0], qp_mk I J)) (by with_unfolding_all rfl) hd1 trivial ?_
    obtain ⟨rfl, rfl, rfl⟩ := qp_some3 h
    exact qp_retI_E qp_ok36 rfl qp_r36.1 ⟨rfl, rfl⟩ ⟨rfl, rfl⟩
  · replace h := qp_iff h1 h
    refine qp_run_E qp_ok36 4 (c' := (10, [some (.ref 15), some (.int p1)], [.int 6, .int p1], qp_mk I J)) (by with_unfolding_all rfl) hd1 trivial ?_
    refine qp_br_E qp_ok36 (f := 6 ≤ p1) (ct := (22, [some (.ref 15), some (.int p1)], [], qp_mk I J)) (cf := (13, [some (.ref 15), some (.int p1)], [], qp_mk I J)) (by with_unfolding_all rfl) (fun h2 => ?_) (fun h2 => ?_)
    · replace h := qp_ift h2 h
      refine qp_run_E qp_ok36 1 (c' := (23, [some (.ref 15), some (.int p1)], [.int 0], qp_mk I J)) (by with_unfolding_all rfl) hd1 trivial ?_
      obtain ⟨rfl, rfl, rfl⟩ := qp_some3 h
      exact qp_retI_E qp_ok36 rfl qp_r36.1 ⟨rfl, rfl⟩ ⟨rfl, rfl⟩
    · replace h := qp_iff h2 h
      obtain ⟨h3, h⟩ := qp_gd_s h
      refine qp_run_E qp_ok36 5 (f := vp_in p1 6 ∧ True) (c' := (23, [some (.ref 15), some (.int p1)], [.int (I 16 (Int32.toNatClampNeg p1))], qp_mk I J)) (by with_unfolding_all rfl) hd1 ⟨(qp_vin (c := 6) (by decide) h3.1 h3.2), trivial⟩ ?_
      obtain ⟨rfl, rfl, rfl⟩ := qp_some3 h
      exact qp_retI_E qp_ok36 rfl qp_r36.1 ⟨rfl, rfl⟩ ⟨rfl, rfl⟩
def fC_isKindOf (p0 : Int32) (p1 : Int32) (I : Nat → Nat → Int32) (J : Nat → Nat → Int64) : Option (Int32 × (Nat → Nat → Int32) × (Nat → Nat → Int64)) :=
  if p0 = p1 then (
    some (1, I, J)
  ) else (
    if ¬ p0 = 4 then (
      if ¬ p0 = 5 then (
        some (0, I, J)
      ) else (
        if ¬ p1 = 2 then (
          some (0, I, J)
        ) else (
          some (1, I, J)
        )
      )
    ) else (
      if p1 = 1 then (
        some (1, I, J)
      ) else (
        if ¬ p0 = 5 then (
          some (0, I, J)
        ) else (
          if ¬ p1 = 2 then (
            some (0, I, J)
          ) else (
            some (1, I, J)
          )
        )
      )
    )
  )
set_option maxRecDepth 8000 in
theorem gC_isKindOf (l : Launch) (G : qp_G) (p0 : Int32) (p1 : Int32) (I : Nat → Nat → Int32) (J : Nat → Nat → Int64) {v : Int32} {I' : Nat → Nat → Int32} {J' : Nat → Nat → Int64} (h : fC_isKindOf p0 p1 I J = some (v, I', J')) {d : Nat} (hd : 1 ≤ d) : qp_Met l G d 69 [.int p0, .int p1] (qp_mk I J) 0 0 (qp_R8 (some (.int v)) I' J') := by
  have hd1 : Nat.ble 1 d = true := Nat.ble_eq_true_of_le (Nat.le_trans (by decide) hd)
  refine qp_Met_of (by decide) (by rw [qp_r69.2]; rfl) [some (.int p0), some (.int p1)] (by rw [qp_r69.2]; rfl) ?_
  unfold fC_isKindOf at h
  refine qp_run_E qp_ok69 2 (c' := (2, [some (.int p0), some (.int p1)], [.int p1, .int p0], qp_mk I J)) (by with_unfolding_all rfl) hd1 trivial ?_
  refine qp_br_E qp_ok69 (f := p0 = p1) (ct := (25, [some (.int p0), some (.int p1)], [], qp_mk I J)) (cf := (5, [some (.int p0), some (.int p1)], [], qp_mk I J)) (by with_unfolding_all rfl) (fun h1 => ?_) (fun h1 => ?_)
  · replace h := qp_ift h1 h
    refine qp_run_E qp_ok69 2 (c' := (30, [some (.int p0), some (.int p1)], [.int 1], qp_mk I J)) (by with_unfolding_all rfl) hd1 trivial ?_
    obtain ⟨rfl, rfl, rfl⟩ := qp_some3 h
    exact qp_retZ_E qp_ok69 rfl qp_r69.1 rfl ⟨rfl, rfl⟩ ⟨rfl, rfl⟩
  · replace h := qp_iff h1 h
    refine qp_run_E qp_ok69 2 (c' := (7, [some (.int p0), some (.int p1)], [.int 4, .int p0], qp_mk I J)) (by with_unfolding_all rfl) hd1 trivial ?_
    refine qp_br_E qp_ok69 (f := ¬ p0 = 4) (ct := (15, [some (.int p0), some (.int p1)], [], qp_mk I J)) (cf := (10, [some (.int p0), some (.int p1)], [], qp_mk I J)) (by with_unfolding_all rfl) (fun h2 => ?_) (fun h2 => ?_)
    · replace h := qp_ift h2 h
      refine qp_run_E qp_ok69 2 (c' := (17, [some (.int p0), some (.int p1)], [.int 5, .int p0], qp_mk I J)) (by with_unfolding_all rfl) hd1 trivial ?_
      refine qp_br_E qp_ok69 (f := ¬ p0 = 5) (ct := (29, [some (.int p0), some (.int p1)], [], qp_mk I J)) (cf := (20, [some (.int p0), some (.int p1)], [], qp_mk I J)) (by with_unfolding_all rfl) (fun h3 => ?_) (fun h3 => ?_)
      · replace h := qp_ift h3 h
        refine qp_run_E qp_ok69 1 (c' := (30, [some (.int p0), some (.int p1)], [.int 0], qp_mk I J)) (by with_unfolding_all rfl) hd1 trivial ?_
        obtain ⟨rfl, rfl, rfl⟩ := qp_some3 h
        exact qp_retZ_E qp_ok69 rfl qp_r69.1 rfl ⟨rfl, rfl⟩ ⟨rfl, rfl⟩
      · replace h := qp_iff h3 h
        refine qp_run_E qp_ok69 2 (c' := (22, [some (.int p0), some (.int p1)], [.int 2, .int p1], qp_mk I J)) (by with_unfolding_all rfl) hd1 trivial ?_
        refine qp_br_E qp_ok69 (f := ¬ p1 = 2) (ct := (29, [some (.int p0), some (.int p1)], [], qp_mk I J)) (cf := (25, [some (.int p0), some (.int p1)], [], qp_mk I J)) (by with_unfolding_all rfl) (fun h4 => ?_) (fun h4 => ?_)
        · replace h := qp_ift h4 h
          refine qp_run_E qp_ok69 1 (c' := (30, [some (.int p0), some (.int p1)], [.int 0], qp_mk I J)) (by with_unfolding_all rfl) hd1 trivial ?_
          obtain ⟨rfl, rfl, rfl⟩ := qp_some3 h
          exact qp_retZ_E qp_ok69 rfl qp_r69.1 rfl ⟨rfl, rfl⟩ ⟨rfl, rfl⟩
        · replace h := qp_iff h4 h
          refine qp_run_E qp_ok69 2 (c' := (30, [some (.int p0), some (.int p1)], [.int 1], qp_mk I J)) (by with_unfolding_all rfl) hd1 trivial ?_
          obtain ⟨rfl, rfl, rfl⟩ := qp_some3 h
          exact qp_retZ_E qp_ok69 rfl qp_r69.1 rfl ⟨rfl, rfl⟩ ⟨rfl, rfl⟩
    · replace h := qp_iff h2 h
      refine qp_run_E qp_ok69 2 (c' := (12, [some (.int p0), some (.int p1)], [.int 1, .int p1], qp_mk I J)) (by with_unfolding_all rfl) hd1 trivial ?_
      refine qp_br_E qp_ok69 (f := p1 = 1) (ct := (25, [some (.int p0), some (.int p1)], [], qp_mk I J)) (cf := (15, [some (.int p0), some (.int p1)], [], qp_mk I J)) (by with_unfolding_all rfl) (fun h5 => ?_) (fun h5 => ?_)
      · replace h := qp_ift h5 h
        refine qp_run_E qp_ok69 2 (c' := (30, [some (.int p0), some (.int p1)], [.int 1], qp_mk I J)) (by with_unfolding_all rfl) hd1 trivial ?_
        obtain ⟨rfl, rfl, rfl⟩ := qp_some3 h
        exact qp_retZ_E qp_ok69 rfl qp_r69.1 rfl ⟨rfl, rfl⟩ ⟨rfl, rfl⟩
      · replace h := qp_iff h5 h
        refine qp_run_E qp_ok69 2 (c' := (17, [some (.int p0), some (.int p1)], [.int 5, .int p0], qp_mk I J)) (by with_unfolding_all rfl) hd1 trivial ?_
        refine qp_br_E qp_ok69 (f := ¬ p0 = 5) (ct := (29, [some (.int p0), some (.int p1)], [], qp_mk I J)) (cf := (20, [some (.int p0), some (.int p1)], [], qp_mk I J)) (by with_unfolding_all rfl) (fun h6 => ?_) (fun h6 => ?_)
        · replace h := qp_ift h6 h
          refine qp_run_E qp_ok69 1 (c' := (30, [some (.int p0), some (.int p1)], [.int 0], qp_mk I J)) (by with_unfolding_all rfl) hd1 trivial ?_
          obtain ⟨rfl, rfl, rfl⟩ := qp_some3 h
          exact qp_retZ_E qp_ok69 rfl qp_r69.1 rfl ⟨rfl, rfl⟩ ⟨rfl, rfl⟩
        · replace h := qp_iff h6 h
          refine qp_run_E qp_ok69 2 (c' := (22, [some (.int p0), some (.int p1)], [.int 2, .int p1], qp_mk I J)) (by with_unfolding_all rfl) hd1 trivial ?_
          refine qp_br_E qp_ok69 (f := ¬ p1 = 2) (ct := (29, [some (.int p0), some (.int p1)], [], qp_mk I J)) (cf := (25, [some (.int p0), some (.int p1)], [], qp_mk I J)) (by with_unfolding_all rfl) (fun h7 => ?_) (fun h7 => ?_)
          · replace h := qp_ift h7 h
            refine qp_run_E qp_ok69 1 (c' := (30, [some (.int p0), some (.int p1)], [.int 0], qp_mk I J)) (by with_unfolding_all rfl) hd1 trivial ?_
            obtain ⟨rfl, rfl, rfl⟩ := qp_some3 h
            exact qp_retZ_E qp_ok69 rfl qp_r69.1 rfl ⟨rfl, rfl⟩ ⟨rfl, rfl⟩
          · replace h := qp_iff h7 h
            refine qp_run_E qp_ok69 2 (c' := (30, [some (.int p0), some (.int p1)], [.int 1], qp_mk I J)) (by with_unfolding_all rfl) hd1 trivial ?_
            obtain ⟨rfl, rfl, rfl⟩ := qp_some3 h
            exact qp_retZ_E qp_ok69 rfl qp_r69.1 rfl ⟨rfl, rfl⟩ ⟨rfl, rfl⟩
def fC_wantOf (p0 : Int32) (p1 : Int32) (I : Nat → Nat → Int32) (J : Nat → Nat → Int64) : Option (Int32 × (Nat → Nat → Int32) × (Nat → Nat → Int64)) :=
  if p0 = 2 then (
    some (0, I, J)
  ) else
  if p0 = 3 then (
    some (2, I, J)
  ) else
  if p0 = 4 then (
    some (3, I, J)
  ) else
  if p0 = 5 then (
    if p1 = 0 then (
      some (0, I, J)
    ) else (
      some (1, I, J)
    )
  ) else
  some (1, I, J)
set_option maxRecDepth 8000 in
theorem gC_wantOf (l : Launch) (G : qp_G) (p0 : Int32) (p1 : Int32) (I : Nat → Nat → Int32) (J : Nat → Nat → Int64) {v : Int32} {I' : Nat → Nat → Int32} {J' : Nat → Nat → Int64} (h : fC_wantOf p0 p1 I J = some (v, I', J')) {d : Nat} (hd : 1 ≤ d) : qp_Met l G d 64 [.int p0, .int p1] (qp_mk I J) 0 0 (qp_R8 (some (.int v)) I' J') := by
  have hd1 : Nat.ble 1 d = true := Nat.ble_eq_true_of_le (Nat.le_trans (by decide) hd)
  refine qp_Met_of (by decide) (by rw [qp_r64.2]; rfl) [some (.int p0), some (.int p1)] (by rw [qp_r64.2]; rfl) ?_
  unfold fC_wantOf at h
  refine qp_run_E qp_ok64 1 (c' := (1, [some (.int p0), some (.int p1)], [.int p0], qp_mk I J)) (by with_unfolding_all rfl) hd1 trivial ?_
  by_cases h1 : p0 = 2
  · replace h := qp_ift h1 h
    refine qp_run_E qp_ok64 1 (c' := (qp_swt 47 2 5 #[31, 33, 35, 37] 1 p0, [some (.int p0), some (.int p1)], [], qp_mk I J)) (by with_unfolding_all rfl) hd1 trivial ?_
    refine qp_E_pc (pc' := 32) (by rw [h1]; rfl) ?_
    refine qp_run_E qp_ok64 1 (c' := (33, [some (.int p0), some (.int p1)], [.int 0], qp_mk I J)) (by with_unfolding_all rfl) hd1 trivial ?_
    obtain ⟨rfl, rfl, rfl⟩ := qp_some3 h
    exact qp_retI_E qp_ok64 rfl qp_r64.1 ⟨rfl, rfl⟩ ⟨rfl, rfl⟩
  replace h := qp_iff h1 h
  by_cases h2 : p0 = 3
  · replace h := qp_ift h2 h
    refine qp_run_E qp_ok64 1 (c' := (qp_swt 47 2 5 #[31, 33, 35, 37] 1 p0, [some (.int p0), some (.int p1)], [], qp_mk I J)) (by with_unfolding_all rfl) hd1 trivial ?_
    refine qp_E_pc (pc' := 34) (by rw [h2]; rfl) ?_
    refine qp_run_E qp_ok64 1 (c' := (35, [some (.int p0), some (.int p1)], [.int 2], qp_mk I J)) (by with_unfolding_all rfl) hd1 trivial ?_
    obtain ⟨rfl, rfl, rfl⟩ := qp_some3 h
    exact qp_retI_E qp_ok64 rfl qp_r64.1 ⟨rfl, rfl⟩ ⟨rfl, rfl⟩
  replace h := qp_iff h2 h
  by_cases h3 : p0 = 4
  · replace h := qp_ift h3 h
    refine qp_run_E qp_ok64 1 (c' := (qp_swt 47 2 5 #[31, 33, 35, 37] 1 p0, [some (.int p0), some (.int p1)], [], qp_mk I J)) (by with_unfolding_all rfl) hd1 trivial ?_
    refine qp_E_pc (pc' := 36) (by rw [h3]; rfl) ?_
    refine qp_run_E qp_ok64 1 (c' := (37, [some (.int p0), some (.int p1)], [.int 3], qp_mk I J)) (by with_unfolding_all rfl) hd1 trivial ?_
    obtain ⟨rfl, rfl, rfl⟩ := qp_some3 h
    exact qp_retI_E qp_ok64 rfl qp_r64.1 ⟨rfl, rfl⟩ ⟨rfl, rfl⟩
  replace h := qp_iff h3 h
  by_cases h4 : p0 = 5
  · replace h := qp_ift h4 h
    refine qp_run_E qp_ok64 1 (c' := (qp_swt 47 2 5 #[31, 33, 35, 37] 1 p0, [some (.int p0), some (.int p1)], [], qp_mk I J)) (by with_unfolding_all rfl) hd1 trivial ?_
    refine qp_E_pc (pc' := 38) (by rw [h4]; rfl) ?_
    refine qp_run_E qp_ok64 1 (c' := (39, [some (.int p0), some (.int p1)], [.int p1], qp_mk I J)) (by with_unfolding_all rfl) hd1 trivial ?_
    refine qp_br_E qp_ok64 (f := p1 = 0) (ct := (46, [some (.int p0), some (.int p1)], [], qp_mk I J)) (cf := (42, [some (.int p0), some (.int p1)], [], qp_mk I J)) (by with_unfolding_all rfl) (fun h5 => ?_) (fun h5 => ?_)
    · replace h := qp_ift h5 h
      refine qp_run_E qp_ok64 1 (c' := (47, [some (.int p0), some (.int p1)], [.int 0], qp_mk I J)) (by with_unfolding_all rfl) hd1 trivial ?_
      obtain ⟨rfl, rfl, rfl⟩ := qp_some3 h
      exact qp_retI_E qp_ok64 rfl qp_r64.1 ⟨rfl, rfl⟩ ⟨rfl, rfl⟩
    · replace h := qp_iff h5 h
      refine qp_run_E qp_ok64 2 (c' := (47, [some (.int p0), some (.int p1)], [.int 1], qp_mk I J)) (by with_unfolding_all rfl) hd1 trivial ?_
      obtain ⟨rfl, rfl, rfl⟩ := qp_some3 h
      exact qp_retI_E qp_ok64 rfl qp_r64.1 ⟨rfl, rfl⟩ ⟨rfl, rfl⟩
  replace h := qp_iff h4 h
  refine qp_run_E qp_ok64 1 (c' := (qp_swt 47 2 5 #[31, 33, 35, 37] 1 p0, [some (.int p0), some (.int p1)], [], qp_mk I J)) (by with_unfolding_all rfl) hd1 trivial ?_
  refine qp_E_pc (pc' := 48) (qp_swt_df (lo' := 2) (hi' := 5) (by decide) (by decide) (by clear h; grind)) ?_
  refine qp_run_E qp_ok64 1 (c' := (49, [some (.int p0), some (.int p1)], [.int 1], qp_mk I J)) (by with_unfolding_all rfl) hd1 trivial ?_
  obtain ⟨rfl, rfl, rfl⟩ := qp_some3 h
  exact qp_retI_E qp_ok64 rfl qp_r64.1 ⟨rfl, rfl⟩ ⟨rfl, rfl⟩
def fC_patienceOf_15 (p1 : Int32) (I : Nat → Nat → Int32) (J : Nat → Nat → Int64) : Option (Int32 × (Nat → Nat → Int32) × (Nat → Nat → Int64)) :=
  if p1 < 0 then (
    some (0, I, J)
  ) else (
    if 6 ≤ p1 then (
      some (0, I, J)
    ) else (
      qp_gd ((0 ≤ p1 ∧ p1 < 6)) <|
      some ((I 17 (Int32.toNatClampNeg p1)), I, J)
    )
  )
set_option maxRecDepth 8000 in
theorem gC_patienceOf_15 (l : Launch) (G : qp_G) (p1 : Int32) (I : Nat → Nat → Int32) (J : Nat → Nat → Int64) {v : Int32} {I' : Nat → Nat → Int32} {J' : Nat → Nat → Int64} (h : fC_patienceOf_15 p1 I J = some (v, I', J')) {d : Nat} (hd : 1 ≤ d) : qp_Met l G d 37 [.ref 15, .int p1] (qp_mk I J) 0 0 (qp_R8 (some (.int v)) I' J') := by
  have hd1 : Nat.ble 1 d = true := Nat.ble_eq_true_of_le (Nat.le_trans (by decide) hd)
  refine qp_Met_of (by decide) (by rw [qp_r37.2]; rfl) [some (.ref 15), some (.int p1)] (by rw [qp_r37.2]; rfl) ?_
  unfold fC_patienceOf_15 at h
  refine qp_run_E qp_ok37 1 (c' := (1, [some (.ref 15), some (.int p1)], [.int p1], qp_mk I J)) (by with_unfolding_all rfl) hd1 trivial ?_
  refine qp_br_E qp_ok37 (f := p1 < 0) (ct := (22, [some (.ref 15), some (.int p1)], [], qp_mk I J)) (cf := (4, [some (.ref 15), some (.int p1)], [], qp_mk I J)) (by with_unfolding_all rfl) (fun h1 => ?_) (fun h1 => ?_)
  · replace h := qp_ift h1 h
    refine qp_run_E qp_ok37 1 (c' := (23, [some (.ref 15), some (.int p1)], [.int 0], qp_mk I J)) (by with_unfolding_all rfl) hd1 trivial ?_
    obtain ⟨rfl, rfl, rfl⟩ := qp_some3 h
    exact qp_retI_E qp_ok37 rfl qp_r37.1 ⟨rfl, rfl⟩ ⟨rfl, rfl⟩
  · replace h := qp_iff h1 h
    refine qp_run_E qp_ok37 4 (c' := (10, [some (.ref 15), some (.int p1)], [.int 6, .int p1], qp_mk I J)) (by with_unfolding_all rfl) hd1 trivial ?_
    refine qp_br_E qp_ok37 (f := 6 ≤ p1) (ct := (22, [some (.ref 15), some (.int p1)], [], qp_mk I J)) (cf := (13, [some (.ref 15), some (.int p1)], [], qp_mk I J)) (by with_unfolding_all rfl) (fun h2 => ?_) (fun h2 => ?_)
    · replace h := qp_ift h2 h
      refine qp_run_E qp_ok37 1 (c' := (23, [some (.ref 15), some (.int p1)], [.int 0], qp_mk I J)) (by with_unfolding_all rfl) hd1 trivial ?_
      obtain ⟨rfl, rfl, rfl⟩ := qp_some3 h
      exact qp_retI_E qp_ok37 rfl qp_r37.1 ⟨rfl, rfl⟩ ⟨rfl, rfl⟩
    · replace h := qp_iff h2 h
      obtain ⟨h3, h⟩ := qp_gd_s h
      refine qp_run_E qp_ok37 5 (f := vp_in p1 6 ∧ True) (c' := (23, [some (.ref 15), some (.int p1)], [.int (I 17 (Int32.toNatClampNeg p1))], qp_mk I J)) (by with_unfolding_all rfl) hd1 ⟨(qp_vin (c := 6) (by decide) h3.1 h3.2), trivial⟩ ?_
      obtain ⟨rfl, rfl, rfl⟩ := qp_some3 h
      exact qp_retI_E qp_ok37 rfl qp_r37.1 ⟨rfl, rfl⟩ ⟨rfl, rfl⟩
def fJ_min (p0 : Int32) (p1 : Int32) (I : Nat → Nat → Int32) (J : Nat → Nat → Int64) : Option (Int32 × (Nat → Nat → Int32) × (Nat → Nat → Int64)) :=
  if p1 < p0 then (
    some (p1, I, J)
  ) else (
    some (p0, I, J)
  )
set_option maxRecDepth 8000 in
theorem gJ_min (l : Launch) (G : qp_G) (p0 : Int32) (p1 : Int32) (I : Nat → Nat → Int32) (J : Nat → Nat → Int64) {v : Int32} {I' : Nat → Nat → Int32} {J' : Nat → Nat → Int64} (h : fJ_min p0 p1 I J = some (v, I', J')) {d : Nat} (hd : 1 ≤ d) : qp_Met l G d 71 [.int p0, .int p1] (qp_mk I J) 0 0 (qp_R8 (some (.int v)) I' J') := by
  have hd1 : Nat.ble 1 d = true := Nat.ble_eq_true_of_le (Nat.le_trans (by decide) hd)
  refine qp_Met_of (by decide) (by rw [qp_r71.2]; rfl) [some (.int p0), some (.int p1)] (by rw [qp_r71.2]; rfl) ?_
  unfold fJ_min at h
  refine qp_run_E qp_ok71 2 (c' := (2, [some (.int p0), some (.int p1)], [.int p1, .int p0], qp_mk I J)) (by with_unfolding_all rfl) hd1 trivial ?_
  refine qp_br_E qp_ok71 (f := p1 < p0) (ct := (9, [some (.int p0), some (.int p1)], [], qp_mk I J)) (cf := (5, [some (.int p0), some (.int p1)], [], qp_mk I J)) (by with_unfolding_all rfl) (fun h1 => ?_) (fun h1 => ?_)
  · replace h := qp_ift h1 h
    refine qp_run_E qp_ok71 1 (c' := (10, [some (.int p0), some (.int p1)], [.int p1], qp_mk I J)) (by with_unfolding_all rfl) hd1 trivial ?_
    obtain ⟨rfl, rfl, rfl⟩ := qp_some3 h
    exact qp_retI_E qp_ok71 rfl qp_r71.1 ⟨rfl, rfl⟩ ⟨rfl, rfl⟩
  · replace h := qp_iff h1 h
    refine qp_run_E qp_ok71 2 (c' := (10, [some (.int p0), some (.int p1)], [.int p0], qp_mk I J)) (by with_unfolding_all rfl) hd1 trivial ?_
    obtain ⟨rfl, rfl, rfl⟩ := qp_some3 h
    exact qp_retI_E qp_ok71 rfl qp_r71.1 ⟨rfl, rfl⟩ ⟨rfl, rfl⟩
def fV_serveOne_b101   (a1 : Int32) (a2 : Int32) (a4 : Int32) (I : Nat → Nat → Int32) (J : Nat → Nat → Int64) : Option (Unit × (Nat → Nat → Int32) × (Nat → Nat → Int64)) :=
  if a2 ≤ 0 then (
    some ((), (qp_up (qp_up I 18 4 ((I 18 4) - a4)) 18 5 ((I 18 5) + 1)), J)
  ) else (
    if ¬ a4 = a2 then (
      some ((), (qp_up (qp_up I 18 4 ((I 18 4) - a4)) 18 5 ((I 18 5) + 1)), J)
    ) else (
      some ((), (qp_up (qp_up (qp_up I 18 1 ((I 18 1) ||| ((1 : Int32) <<< (a1 &&& 31)))) 18 4 ((I 18 4) - a4)) 18 5 ((I 18 5) + 1)), J)
    )
  )
set_option maxRecDepth 8000 in
theorem gV_serveOne_b101 {l : Launch} {G : qp_G} {d : Nat} (hd : 2 ≤ d) {r : (Unit × (Nat → Nat → Int32) × (Nat → Nat → Int64))} {I0 : Nat → Nat → Int32} {J0 : Nat → Nat → Int64}   : ∀ (a1 : Int32) (a2 : Int32) (a4 : Int32) (I : Nat → Nat → Int32) (J : Nat → Nat → Int64), fV_serveOne_b101  a1 a2 a4 I J = some r → qp_E l G d 70 (qp_mk I0 J0) 0 0 (qp_R8 none r.2.1 r.2.2) (101, [some (.ref 18), some (.int a1), some (.int a2), none, some (.int a4)], [], qp_mk I J) := by
  have hd1 : Nat.ble 1 d = true := Nat.ble_eq_true_of_le (Nat.le_trans (by decide) hd)
  intro a1 a2 a4 I J h
  unfold fV_serveOne_b101 at h
  refine qp_run_E qp_ok70 1 (c' := (102, [some (.ref 18), some (.int a1), some (.int a2), none, some (.int a4)], [.int a2], qp_mk I J)) (by with_unfolding_all rfl) hd1 trivial ?_
  refine qp_br_E qp_ok70 (f := a2 ≤ 0) (ct := (123, [some (.ref 18), some (.int a1), some (.int a2), none, some (.int a4)], [], qp_mk I J)) (cf := (105, [some (.ref 18), some (.int a1), some (.int a2), none, some (.int a4)], [], qp_mk I J)) (by with_unfolding_all rfl) (fun h1 => ?_) (fun h1 => ?_)
  · replace h := qp_ift h1 h
    refine qp_run_E qp_ok70 12 (c' := (144, [some (.ref 18), some (.int a1), some (.int a2), none, some (.int a4)], [], qp_mk (qp_up (qp_up I 18 4 ((I 18 4) - a4)) 18 5 ((I 18 5) + 1)) J)) (by with_unfolding_all rfl) hd1 trivial ?_
    obtain rfl := Option.some.inj h
    exact qp_retV_E qp_ok70 rfl qp_r70.1 ⟨rfl, rfl⟩ ⟨rfl, rfl⟩
  · replace h := qp_iff h1 h
    refine qp_run_E qp_ok70 2 (c' := (108, [some (.ref 18), some (.int a1), some (.int a2), none, some (.int a4)], [.int a2, .int a4], qp_mk I J)) (by with_unfolding_all rfl) hd1 trivial ?_
    refine qp_br_E qp_ok70 (f := ¬ a4 = a2) (ct := (123, [some (.ref 18), some (.int a1), some (.int a2), none, some (.int a4)], [], qp_mk I J)) (cf := (111, [some (.ref 18), some (.int a1), some (.int a2), none, some (.int a4)], [], qp_mk I J)) (by with_unfolding_all rfl) (fun h2 => ?_) (fun h2 => ?_)
    · replace h := qp_ift h2 h
      refine qp_run_E qp_ok70 12 (c' := (144, [some (.ref 18), some (.int a1), some (.int a2), none, some (.int a4)], [], qp_mk (qp_up (qp_up I 18 4 ((I 18 4) - a4)) 18 5 ((I 18 5) + 1)) J)) (by with_unfolding_all rfl) hd1 trivial ?_
      obtain rfl := Option.some.inj h
      exact qp_retV_E qp_ok70 rfl qp_r70.1 ⟨rfl, rfl⟩ ⟨rfl, rfl⟩
    · replace h := qp_iff h2 h
      refine qp_run_E qp_ok70 20 (c' := (144, [some (.ref 18), some (.int a1), some (.int a2), none, some (.int a4)], [], qp_mk (qp_up (qp_up (qp_up I 18 1 ((I 18 1) ||| ((1 : Int32) <<< (a1 &&& 31)))) 18 4 ((I 18 4) - a4)) 18 5 ((I 18 5) + 1)) J)) (by with_unfolding_all rfl) hd1 trivial ?_
      obtain rfl := Option.some.inj h
      exact qp_retV_E qp_ok70 rfl qp_r70.1 ⟨rfl, rfl⟩ ⟨rfl, rfl⟩
def fV_serveOne_b48   (a1 : Int32) (a2 : Int32) (a3 : Int32) (s0 : Int32) (I : Nat → Nat → Int32) (J : Nat → Nat → Int64) : Option (Unit × (Nat → Nat → Int32) × (Nat → Nat → Int64)) :=
  qp_gd ((0 ≤ a1 ∧ a1 < 6)) <|
  if a3 = 0 then (
    fV_serveOne_b101 a1 a2 s0 (qp_up (qp_up (qp_up (qp_up I 19 (Int32.toNatClampNeg a1) a2) 20 (Int32.toNatClampNeg a1) s0) 21 (Int32.toNatClampNeg a1) (I 18 5)) 22 (Int32.toNatClampNeg a1) (I 18 4)) J
  ) else (
    fV_serveOne_b101 a1 a2 s0 (qp_up (qp_up (qp_up (qp_up (qp_up I 19 (Int32.toNatClampNeg a1) a2) 20 (Int32.toNatClampNeg a1) s0) 21 (Int32.toNatClampNeg a1) (I 18 5)) 22 (Int32.toNatClampNeg a1) (I 18 4)) 18 0 ((I 18 0) ||| ((1 : Int32) <<< (a1 &&& 31)))) J
  )
set_option maxRecDepth 8000 in
theorem gV_serveOne_b48 {l : Launch} {G : qp_G} {d : Nat} (hd : 2 ≤ d) {r : (Unit × (Nat → Nat → Int32) × (Nat → Nat → Int64))} {I0 : Nat → Nat → Int32} {J0 : Nat → Nat → Int64}   : ∀ (a1 : Int32) (a2 : Int32) (a3 : Int32) (s0 : Int32) (I : Nat → Nat → Int32) (J : Nat → Nat → Int64), fV_serveOne_b48  a1 a2 a3 s0 I J = some r → qp_E l G d 70 (qp_mk I0 J0) 0 0 (qp_R8 none r.2.1 r.2.2) (48, [some (.ref 18), some (.int a1), some (.int a2), some (.int a3), none], [.int s0], qp_mk I J) := by
  have hd1 : Nat.ble 1 d = true := Nat.ble_eq_true_of_le (Nat.le_trans (by decide) hd)
  intro a1 a2 a3 s0 I J h
  unfold fV_serveOne_b48 at h
  obtain ⟨h1, h⟩ := qp_gd_s h
  refine qp_run_E qp_ok70 24 (f := vp_in a1 6 ∧ vp_in a1 6 ∧ vp_in a1 6 ∧ vp_in a1 6 ∧ True) (c' := (86, [some (.ref 18), some (.int a1), some (.int a2), some (.int a3), some (.int s0)], [.int a3], qp_mk (qp_up (qp_up (qp_up (qp_up I 19 (Int32.toNatClampNeg a1) a2) 20 (Int32.toNatClampNeg a1) s0) 21 (Int32.toNatClampNeg a1) (I 18 5)) 22 (Int32.toNatClampNeg a1) (I 18 4)) J)) (by with_unfolding_all rfl) hd1 ⟨(qp_vin (c := 6) (by decide) h1.1 h1.2), (qp_vin (c := 6) (by decide) h1.1 h1.2), (qp_vin (c := 6) (by decide) h1.1 h1.2), (qp_vin (c := 6) (by decide) h1.1 h1.2), trivial⟩ ?_
  refine qp_br_E qp_ok70 (f := a3 = 0) (ct := (101, [some (.ref 18), some (.int a1), some (.int a2), some (.int a3), some (.int s0)], [], qp_mk (qp_up (qp_up (qp_up (qp_up I 19 (Int32.toNatClampNeg a1) a2) 20 (Int32.toNatClampNeg a1) s0) 21 (Int32.toNatClampNeg a1) (I 18 5)) 22 (Int32.toNatClampNeg a1) (I 18 4)) J)) (cf := (89, [some (.ref 18), some (.int a1), some (.int a2), some (.int a3), some (.int s0)], [], qp_mk (qp_up (qp_up (qp_up (qp_up I 19 (Int32.toNatClampNeg a1) a2) 20 (Int32.toNatClampNeg a1) s0) 21 (Int32.toNatClampNeg a1) (I 18 5)) 22 (Int32.toNatClampNeg a1) (I 18 4)) J)) (by with_unfolding_all rfl) (fun h2 => ?_) (fun h2 => ?_)
  · replace h := qp_ift h2 h
    exact qp_E_fg [true, true, true, false, true] (gV_serveOne_b101 hd a1 a2 s0 (qp_up (qp_up (qp_up (qp_up I 19 (Int32.toNatClampNeg a1) a2) 20 (Int32.toNatClampNeg a1) s0) 21 (Int32.toNatClampNeg a1) (I 18 5)) 22 (Int32.toNatClampNeg a1) (I 18 4)) J h)
  · replace h := qp_iff h2 h
    refine qp_run_E qp_ok70 8 (c' := (101, [some (.ref 18), some (.int a1), some (.int a2), some (.int a3), some (.int s0)], [], qp_mk (qp_up (qp_up (qp_up (qp_up (qp_up I 19 (Int32.toNatClampNeg a1) a2) 20 (Int32.toNatClampNeg a1) s0) 21 (Int32.toNatClampNeg a1) (I 18 5)) 22 (Int32.toNatClampNeg a1) (I 18 4)) 18 0 ((I 18 0) ||| ((1 : Int32) <<< (a1 &&& 31)))) J)) (by with_unfolding_all rfl) hd1 trivial ?_
    exact qp_E_fg [true, true, true, false, true] (gV_serveOne_b101 hd a1 a2 s0 (qp_up (qp_up (qp_up (qp_up (qp_up I 19 (Int32.toNatClampNeg a1) a2) 20 (Int32.toNatClampNeg a1) s0) 21 (Int32.toNatClampNeg a1) (I 18 5)) 22 (Int32.toNatClampNeg a1) (I 18 4)) 18 0 ((I 18 0) ||| ((1 : Int32) <<< (a1 &&& 31)))) J h)
def fV_serveOne_b31   (a1 : Int32) (a2 : Int32) (s0 : Int32) (I : Nat → Nat → Int32) (J : Nat → Nat → Int64) : Option (Unit × (Nat → Nat → Int32) × (Nat → Nat → Int64)) :=
  if s0 = 0 then (
    qp_bd (fJ_min a2 (I 18 4) I J) fun v1 I1 J1 =>
    fV_serveOne_b48 a1 a2 s0 v1 I1 J1
  ) else (
    fV_serveOne_b48 a1 a2 s0 0 I J
  )
set_option maxRecDepth 8000 in
theorem gV_serveOne_b31 {l : Launch} {G : qp_G} {d : Nat} (hd : 2 ≤ d) {r : (Unit × (Nat → Nat → Int32) × (Nat → Nat → Int64))} {I0 : Nat → Nat → Int32} {J0 : Nat → Nat → Int64}   : ∀ (a1 : Int32) (a2 : Int32) (s0 : Int32) (I : Nat → Nat → Int32) (J : Nat → Nat → Int64), fV_serveOne_b31  a1 a2 s0 I J = some r → qp_E l G d 70 (qp_mk I0 J0) 0 0 (qp_R8 none r.2.1 r.2.2) (31, [some (.ref 18), some (.int a1), some (.int a2), none, none], [.int s0], qp_mk I J) := by
  have hd1 : Nat.ble 1 d = true := Nat.ble_eq_true_of_le (Nat.le_trans (by decide) hd)
  intro a1 a2 s0 I J h
  unfold fV_serveOne_b31 at h
  refine qp_run_E qp_ok70 2 (c' := (33, [some (.ref 18), some (.int a1), some (.int a2), some (.int s0), none], [.int s0], qp_mk I J)) (by with_unfolding_all rfl) hd1 trivial ?_
  refine qp_br_E qp_ok70 (f := s0 = 0) (ct := (40, [some (.ref 18), some (.int a1), some (.int a2), some (.int s0), none], [], qp_mk I J)) (cf := (36, [some (.ref 18), some (.int a1), some (.int a2), some (.int s0), none], [], qp_mk I J)) (by with_unfolding_all rfl) (fun h1 => ?_) (fun h1 => ?_)
  · replace h := qp_ift h1 h
    refine qp_run_E qp_ok70 3 (c' := (45, [some (.ref 18), some (.int a1), some (.int a2), some (.int s0), none], [.int (I 18 4), .int a2], qp_mk I J)) (by with_unfolding_all rfl) hd1 trivial ?_
    obtain ⟨v1, I1, J1, e1, h⟩ := qp_bd_s h
    refine qp_cS qp_ok70 (rest := []) (oj := 12) qp_f71 rfl rfl (gJ_min l G a2 (I 18 4) I J e1 (Nat.le_refl 1)) rfl rfl rfl (Nat.le_trans (by decide) hd) ?_
    exact gV_serveOne_b48 hd a1 a2 s0 v1 I1 J1 h
  · replace h := qp_iff h1 h
    refine qp_run_E qp_ok70 2 (c' := (48, [some (.ref 18), some (.int a1), some (.int a2), some (.int s0), none], [.int 0], qp_mk I J)) (by with_unfolding_all rfl) hd1 trivial ?_
    exact gV_serveOne_b48 hd a1 a2 s0 0 I J h
def fV_serveOne (p1 : Int32) (p2 : Int32) (I : Nat → Nat → Int32) (J : Nat → Nat → Int64) : Option (Unit × (Nat → Nat → Int32) × (Nat → Nat → Int64)) :=
  if p1 < 0 then (
    some ((), I, J)
  ) else (
    if p1 < 6 then (
      qp_bd (fC_patienceOf_15 p1 I J) fun v1 I1 J1 =>
      if (I 18 5) ≤ v1 then (
        fV_serveOne_b31 p1 p2 0 I1 J1
      ) else (
        fV_serveOne_b31 p1 p2 1 I1 J1
      )
    ) else (
      some ((), I, J)
    )
  )
set_option maxRecDepth 8000 in
theorem gV_serveOne (l : Launch) (G : qp_G) (p1 : Int32) (p2 : Int32) (I : Nat → Nat → Int32) (J : Nat → Nat → Int64) {v : Unit} {I' : Nat → Nat → Int32} {J' : Nat → Nat → Int64} (h : fV_serveOne p1 p2 I J = some (v, I', J')) {d : Nat} (hd : 2 ≤ d) : qp_Met l G d 70 [.ref 18, .int p1, .int p2] (qp_mk I J) 0 0 (qp_R8 none I' J') := by
  have hd1 : Nat.ble 1 d = true := Nat.ble_eq_true_of_le (Nat.le_trans (by decide) hd)
  refine qp_Met_of (by decide) (by rw [qp_r70.2]; rfl) [some (.ref 18), some (.int p1), some (.int p2), none, none] (by rw [qp_r70.2]; rfl) ?_
  unfold fV_serveOne at h
  refine qp_run_E qp_ok70 1 (c' := (1, [some (.ref 18), some (.int p1), some (.int p2), none, none], [.int p1], qp_mk I J)) (by with_unfolding_all rfl) hd1 trivial ?_
  refine qp_br_E qp_ok70 (f := p1 < 0) (ct := (10, [some (.ref 18), some (.int p1), some (.int p2), none, none], [], qp_mk I J)) (cf := (4, [some (.ref 18), some (.int p1), some (.int p2), none, none], [], qp_mk I J)) (by with_unfolding_all rfl) (fun h1 => ?_) (fun h1 => ?_)
  · replace h := qp_ift h1 h
    obtain ⟨rfl, rfl, rfl⟩ := qp_some3 h
    exact qp_retV_E qp_ok70 rfl qp_r70.1 ⟨rfl, rfl⟩ ⟨rfl, rfl⟩
  · replace h := qp_iff h1 h
    refine qp_run_E qp_ok70 2 (c' := (7, [some (.ref 18), some (.int p1), some (.int p2), none, none], [.int 6, .int p1], qp_mk I J)) (by with_unfolding_all rfl) hd1 trivial ?_
    refine qp_br_E qp_ok70 (f := p1 < 6) (ct := (11, [some (.ref 18), some (.int p1), some (.int p2), none, none], [], qp_mk I J)) (cf := (10, [some (.ref 18), some (.int p1), some (.int p2), none, none], [], qp_mk I J)) (by with_unfolding_all rfl) (fun h2 => ?_) (fun h2 => ?_)
    · replace h := qp_ift h2 h
      refine qp_run_E qp_ok70 5 (c' := (20, [some (.ref 18), some (.int p1), some (.int p2), none, none], [.int p1, .ref 15, .int (I 18 5)], qp_mk I J)) (by with_unfolding_all rfl) hd1 trivial ?_
      obtain ⟨v1, I1, J1, e1, h⟩ := qp_bd_s h
      refine qp_cV qp_ok70 (rest := [.int (I 18 5)]) (oj := 3) qp_f37 rfl rfl (gC_patienceOf_15 l G p1 I J e1 (Nat.le_refl 1)) rfl rfl rfl rfl (Nat.le_trans (by decide) hd) ?_
      refine qp_br_E qp_ok70 (f := (I 18 5) ≤ v1) (ct := (30, [some (.ref 18), some (.int p1), some (.int p2), none, none], [], qp_mk I1 J1)) (cf := (26, [some (.ref 18), some (.int p1), some (.int p2), none, none], [], qp_mk I1 J1)) (by with_unfolding_all rfl) (fun h3 => ?_) (fun h3 => ?_)
      · replace h := qp_ift h3 h
        refine qp_run_E qp_ok70 1 (c' := (31, [some (.ref 18), some (.int p1), some (.int p2), none, none], [.int 0], qp_mk I1 J1)) (by with_unfolding_all rfl) hd1 trivial ?_
        exact gV_serveOne_b31 hd p1 p2 0 I1 J1 h
      · replace h := qp_iff h3 h
        refine qp_run_E qp_ok70 2 (c' := (31, [some (.ref 18), some (.int p1), some (.int p2), none, none], [.int 1], qp_mk I1 J1)) (by with_unfolding_all rfl) hd1 trivial ?_
        exact gV_serveOne_b31 hd p1 p2 1 I1 J1 h
    · replace h := qp_iff h2 h
      obtain ⟨rfl, rfl, rfl⟩ := qp_some3 h
      exact qp_retV_E qp_ok70 rfl qp_r70.1 ⟨rfl, rfl⟩ ⟨rfl, rfl⟩
def fV_serve_b78  (k37 : Int32 → Int32 → Int32 → Int32 → (Nat → Nat → Int32) → (Nat → Nat → Int64) → Option (Unit × (Nat → Nat → Int32) × (Nat → Nat → Int64))) (a1 : Int32) (a2 : Int32) (a4 : Int32) (a5 : Int32) (a6 : Int32) (a7 : Int32) (s0 : Int32) (s1 : Int32) (I : Nat → Nat → Int32) (J : Nat → Nat → Int64) : Option (Unit × (Nat → Nat → Int32) × (Nat → Nat → Int64)) :=
  if ¬ s1 = s0 then (
    k37 a1 a2 a4 (a5 + 1) I J
  ) else (
    if ¬ a5 = (a2 - 1) then (
      qp_bd (fC_wantOf a7 0 I J) fun v1 I1 J1 =>
      qp_bd (fV_serveOne a6 v1 I1 J1) fun _u I2 J2 =>
      k37 a1 a2 a4 (a5 + 1) I2 J2
    ) else (
      qp_bd (fC_wantOf a7 1 I J) fun v3 I3 J3 =>
      qp_bd (fV_serveOne a6 v3 I3 J3) fun _u I4 J4 =>
      k37 a1 a2 a4 (a5 + 1) I4 J4
    )
  )
set_option maxRecDepth 8000 in
theorem gV_serve_b78 {l : Launch} {G : qp_G} {d : Nat} (hd : 3 ≤ d) {r : (Unit × (Nat → Nat → Int32) × (Nat → Nat → Int64))} {I0 : Nat → Nat → Int32} {J0 : Nat → Nat → Int64}  (k37 : Int32 → Int32 → Int32 → Int32 → (Nat → Nat → Int32) → (Nat → Nat → Int64) → Option (Unit × (Nat → Nat → Int32) × (Nat → Nat → Int64))) (hk37 : ∀ a1 a2 a4 a5 I J, k37 a1 a2 a4 a5 I J = some r → qp_E l G d 68 (qp_mk I0 J0) 0 0 (qp_R8 none r.2.1 r.2.2) (37, [some (.ref 18), some (.int a1), some (.int a2), none, some (.int a4), some (.int a5), none, none], [], qp_mk I J)) : ∀ (a1 : Int32) (a2 : Int32) (a4 : Int32) (a5 : Int32) (a6 : Int32) (a7 : Int32) (s0 : Int32) (s1 : Int32) (I : Nat → Nat → Int32) (J : Nat → Nat → Int64), fV_serve_b78 k37 a1 a2 a4 a5 a6 a7 s0 s1 I J = some r → qp_E l G d 68 (qp_mk I0 J0) 0 0 (qp_R8 none r.2.1 r.2.2) (78, [some (.ref 18), some (.int a1), some (.int a2), none, some (.int a4), some (.int a5), some (.int a6), some (.int a7)], [.int s0, .int s1], qp_mk I J) := by
  have hd1 : Nat.ble 1 d = true := Nat.ble_eq_true_of_le (Nat.le_trans (by decide) hd)
  intro a1 a2 a4 a5 a6 a7 s0 s1 I J h
  unfold fV_serve_b78 at h
  refine qp_br_E qp_ok68 (f := ¬ s1 = s0) (ct := (105, [some (.ref 18), some (.int a1), some (.int a2), none, some (.int a4), some (.int a5), some (.int a6), some (.int a7)], [], qp_mk I J)) (cf := (81, [some (.ref 18), some (.int a1), some (.int a2), none, some (.int a4), some (.int a5), some (.int a6), some (.int a7)], [], qp_mk I J)) (by with_unfolding_all rfl) (fun h1 => ?_) (fun h1 => ?_)
  · replace h := qp_ift h1 h
    refine qp_run_E qp_ok68 2 (c' := (37, [some (.ref 18), some (.int a1), some (.int a2), none, some (.int a4), some (.int (a5 + 1)), some (.int a6), some (.int a7)], [], qp_mk I J)) (by with_unfolding_all rfl) hd1 trivial ?_
    exact qp_E_fg [true, true, true, false, true, true, false, false] (hk37 a1 a2 a4 (a5 + 1) I J h)
  · replace h := qp_iff h1 h
    refine qp_run_E qp_ok68 7 (c' := (91, [some (.ref 18), some (.int a1), some (.int a2), none, some (.int a4), some (.int a5), some (.int a6), some (.int a7)], [.int (a2 - 1), .int a5, .int a7, .int a6, .ref 18], qp_mk I J)) (by with_unfolding_all rfl) hd1 trivial ?_
    refine qp_br_E qp_ok68 (f := ¬ a5 = (a2 - 1)) (ct := (98, [some (.ref 18), some (.int a1), some (.int a2), none, some (.int a4), some (.int a5), some (.int a6), some (.int a7)], [.int a7, .int a6, .ref 18], qp_mk I J)) (cf := (94, [some (.ref 18), some (.int a1), some (.int a2), none, some (.int a4), some (.int a5), some (.int a6), some (.int a7)], [.int a7, .int a6, .ref 18], qp_mk I J)) (by with_unfolding_all rfl) (fun h2 => ?_) (fun h2 => ?_)
    · replace h := qp_ift h2 h
      refine qp_run_E qp_ok68 1 (c' := (99, [some (.ref 18), some (.int a1), some (.int a2), none, some (.int a4), some (.int a5), some (.int a6), some (.int a7)], [.int 0, .int a7, .int a6, .ref 18], qp_mk I J)) (by with_unfolding_all rfl) hd1 trivial ?_
      obtain ⟨v1, I1, J1, e1, h⟩ := qp_bd_s h
      refine qp_cS qp_ok68 (rest := [.int a6, .ref 18]) (oj := 3) qp_f64 rfl rfl (gC_wantOf l G a7 0 I J e1 (Nat.le_refl 1)) rfl rfl rfl (Nat.le_trans (by decide) hd) ?_
      obtain ⟨v2, I2, J2, e2, h⟩ := qp_bd_s h
      refine qp_cV qp_ok68 (rest := []) (oj := 5) qp_f70 rfl rfl (gV_serveOne l G a6 v1 I1 J1 e2 (Nat.le_refl 2)) rfl rfl rfl rfl (Nat.le_trans (by decide) hd) ?_
      refine qp_run_E qp_ok68 2 (c' := (37, [some (.ref 18), some (.int a1), some (.int a2), none, some (.int a4), some (.int (a5 + 1)), some (.int a6), some (.int a7)], [], qp_mk I2 J2)) (by with_unfolding_all rfl) hd1 trivial ?_
      exact qp_E_fg [true, true, true, false, true, true, false, false] (hk37 a1 a2 a4 (a5 + 1) I2 J2 h)
    · replace h := qp_iff h2 h
      refine qp_run_E qp_ok68 2 (c' := (99, [some (.ref 18), some (.int a1), some (.int a2), none, some (.int a4), some (.int a5), some (.int a6), some (.int a7)], [.int 1, .int a7, .int a6, .ref 18], qp_mk I J)) (by with_unfolding_all rfl) hd1 trivial ?_
      obtain ⟨v3, I3, J3, e3, h⟩ := qp_bd_s h
      refine qp_cS qp_ok68 (rest := [.int a6, .ref 18]) (oj := 3) qp_f64 rfl rfl (gC_wantOf l G a7 1 I J e3 (Nat.le_refl 1)) rfl rfl rfl (Nat.le_trans (by decide) hd) ?_
      obtain ⟨v4, I4, J4, e4, h⟩ := qp_bd_s h
      refine qp_cV qp_ok68 (rest := []) (oj := 5) qp_f70 rfl rfl (gV_serveOne l G a6 v3 I3 J3 e4 (Nat.le_refl 2)) rfl rfl rfl rfl (Nat.le_trans (by decide) hd) ?_
      refine qp_run_E qp_ok68 2 (c' := (37, [some (.ref 18), some (.int a1), some (.int a2), none, some (.int a4), some (.int (a5 + 1)), some (.int a6), some (.int a7)], [], qp_mk I4 J4)) (by with_unfolding_all rfl) hd1 trivial ?_
      exact qp_E_fg [true, true, true, false, true, true, false, false] (hk37 a1 a2 a4 (a5 + 1) I4 J4 h)
def fV_serve_b37  (k28 : Int32 → Int32 → Int32 → (Nat → Nat → Int32) → (Nat → Nat → Int64) → Option (Unit × (Nat → Nat → Int32) × (Nat → Nat → Int64))) : Nat → Int32 → Int32 → Int32 → Int32 → (Nat → Nat → Int32) → (Nat → Nat → Int64) → Option (Unit × (Nat → Nat → Int32) × (Nat → Nat → Int64))
  | 0, _, _, _, _, _, _ => none
  | n + 1, a1, a2, a4, a5, I, J =>
    if a2 ≤ a5 then (
      k28 a1 a2 (a4 + 1) I J
    ) else (
      qp_bd (fD_whoAt a1 a5 I J) fun v1 I1 J1 =>
      qp_bd (fC_kindOf_15 v1 I1 J1) fun v2 I2 J2 =>
      qp_bd (fC_isKindOf v2 1 I2 J2) fun v3 I3 J3 =>
      if ¬ a4 = 0 then (
        fV_serve_b78 (fun a0 a1 a2 a3 I J => fV_serve_b37 k28 n a0 a1 a2 a3 I J) a1 a2 a4 a5 v1 v2 0 v3 I3 J3
      ) else (
        fV_serve_b78 (fun a0 a1 a2 a3 I J => fV_serve_b37 k28 n a0 a1 a2 a3 I J) a1 a2 a4 a5 v1 v2 1 v3 I3 J3
      )
    )
set_option maxRecDepth 8000 in
theorem gV_serve_b37 {l : Launch} {G : qp_G} {d : Nat} (hd : 3 ≤ d) {r : (Unit × (Nat → Nat → Int32) × (Nat → Nat → Int64))} {I0 : Nat → Nat → Int32} {J0 : Nat → Nat → Int64}  (k28 : Int32 → Int32 → Int32 → (Nat → Nat → Int32) → (Nat → Nat → Int64) → Option (Unit × (Nat → Nat → Int32) × (Nat → Nat → Int64))) (hk28 : ∀ a1 a2 a4 I J, k28 a1 a2 a4 I J = some r → qp_E l G d 68 (qp_mk I0 J0) 0 0 (qp_R8 none r.2.1 r.2.2) (28, [some (.ref 18), some (.int a1), some (.int a2), none, some (.int a4), none, none, none], [], qp_mk I J)) : ∀ (n : Nat) (a1 : Int32) (a2 : Int32) (a4 : Int32) (a5 : Int32) (I : Nat → Nat → Int32) (J : Nat → Nat → Int64), fV_serve_b37 k28 n a1 a2 a4 a5 I J = some r → qp_E l G d 68 (qp_mk I0 J0) 0 0 (qp_R8 none r.2.1 r.2.2) (37, [some (.ref 18), some (.int a1), some (.int a2), none, some (.int a4), some (.int a5), none, none], [], qp_mk I J) := by
  have hd1 : Nat.ble 1 d = true := Nat.ble_eq_true_of_le (Nat.le_trans (by decide) hd)
  intro n
  induction n with
  | zero => intro a1 a2 a4 a5 I J h; exact absurd h (by simp [fV_serve_b37])
  | succ n ih =>
    intro a1 a2 a4 a5 I J h
    rw [fV_serve_b37] at h
    refine qp_run_E qp_ok68 2 (c' := (40, [some (.ref 18), some (.int a1), some (.int a2), none, some (.int a4), some (.int a5), none, none], [.int a2, .int a5], qp_mk I J)) (by with_unfolding_all rfl) hd1 trivial ?_
    refine qp_br_E qp_ok68 (f := a2 ≤ a5) (ct := (111, [some (.ref 18), some (.int a1), some (.int a2), none, some (.int a4), some (.int a5), none, none], [], qp_mk I J)) (cf := (43, [some (.ref 18), some (.int a1), some (.int a2), none, some (.int a4), some (.int a5), none, none], [], qp_mk I J)) (by with_unfolding_all rfl) (fun h1 => ?_) (fun h1 => ?_)
    · replace h := qp_ift h1 h
      refine qp_run_E qp_ok68 2 (c' := (28, [some (.ref 18), some (.int a1), some (.int a2), none, some (.int (a4 + 1)), some (.int a5), none, none], [], qp_mk I J)) (by with_unfolding_all rfl) hd1 trivial ?_
      exact qp_E_fg [true, true, true, false, true, false, false, false] (hk28 a1 a2 (a4 + 1) I J h)
    · replace h := qp_iff h1 h
      refine qp_run_E qp_ok68 2 (c' := (46, [some (.ref 18), some (.int a1), some (.int a2), none, some (.int a4), some (.int a5), none, none], [.int a5, .int a1], qp_mk I J)) (by with_unfolding_all rfl) hd1 trivial ?_
      obtain ⟨v1, I1, J1, e1, h⟩ := qp_bd_s h
      refine qp_cS qp_ok68 (rest := []) (oj := 10) qp_f47 rfl rfl (gD_whoAt l G a1 a5 I J e1 (Nat.le_refl 1)) rfl rfl rfl (Nat.le_trans (by decide) hd) ?_
      refine qp_run_E qp_ok68 4 (c' := (57, [some (.ref 18), some (.int a1), some (.int a2), none, some (.int a4), some (.int a5), some (.int v1), none], [.int v1, .ref 15], qp_mk I1 J1)) (by with_unfolding_all rfl) hd1 trivial ?_
      obtain ⟨v2, I2, J2, e2, h⟩ := qp_bd_s h
      refine qp_cV qp_ok68 (rest := []) (oj := 3) qp_f36 rfl rfl (gC_kindOf_15 l G v1 I1 J1 e2 (Nat.le_refl 1)) rfl rfl rfl rfl (Nat.le_trans (by decide) hd) ?_
      refine qp_run_E qp_ok68 3 (c' := (65, [some (.ref 18), some (.int a1), some (.int a2), none, some (.int a4), some (.int a5), some (.int v1), some (.int v2)], [.int 1, .int v2], qp_mk I2 J2)) (by with_unfolding_all rfl) hd1 trivial ?_
      obtain ⟨v3, I3, J3, e3, h⟩ := qp_bd_s h
      refine qp_cS qp_ok68 (rest := []) (oj := 3) qp_f69 rfl rfl (gC_isKindOf l G v2 1 I2 J2 e3 (Nat.le_refl 1)) rfl rfl rfl (Nat.le_trans (by decide) hd) ?_
      refine qp_run_E qp_ok68 1 (c' := (70, [some (.ref 18), some (.int a1), some (.int a2), none, some (.int a4), some (.int a5), some (.int v1), some (.int v2)], [.int a4, .int v3], qp_mk I3 J3)) (by with_unfolding_all rfl) hd1 trivial ?_
      refine qp_br_E qp_ok68 (f := ¬ a4 = 0) (ct := (77, [some (.ref 18), some (.int a1), some (.int a2), none, some (.int a4), some (.int a5), some (.int v1), some (.int v2)], [.int v3], qp_mk I3 J3)) (cf := (73, [some (.ref 18), some (.int a1), some (.int a2), none, some (.int a4), some (.int a5), some (.int v1), some (.int v2)], [.int v3], qp_mk I3 J3)) (by with_unfolding_all rfl) (fun h2 => ?_) (fun h2 => ?_)
      · replace h := qp_ift h2 h
        refine qp_run_E qp_ok68 1 (c' := (78, [some (.ref 18), some (.int a1), some (.int a2), none, some (.int a4), some (.int a5), some (.int v1), some (.int v2)], [.int 0, .int v3], qp_mk I3 J3)) (by with_unfolding_all rfl) hd1 trivial ?_
        exact gV_serve_b78 hd (fun a0 a1 a2 a3 I J => fV_serve_b37 k28 n a0 a1 a2 a3 I J) (fun a0 a1 a2 a3 I J h => ih a0 a1 a2 a3 I J h) a1 a2 a4 a5 v1 v2 0 v3 I3 J3 h
      · replace h := qp_iff h2 h
        refine qp_run_E qp_ok68 2 (c' := (78, [some (.ref 18), some (.int a1), some (.int a2), none, some (.int a4), some (.int a5), some (.int v1), some (.int v2)], [.int 1, .int v3], qp_mk I3 J3)) (by with_unfolding_all rfl) hd1 trivial ?_
        exact gV_serve_b78 hd (fun a0 a1 a2 a3 I J => fV_serve_b37 k28 n a0 a1 a2 a3 I J) (fun a0 a1 a2 a3 I J h => ih a0 a1 a2 a3 I J h) a1 a2 a4 a5 v1 v2 1 v3 I3 J3 h
def fV_serve_b28  : Nat → Int32 → Int32 → Int32 → (Nat → Nat → Int32) → (Nat → Nat → Int64) → Option (Unit × (Nat → Nat → Int32) × (Nat → Nat → Int64))
  | 0, _, _, _, _, _ => none
  | n + 1, a1, a2, a4, I, J =>
    if 2 ≤ a4 then (
      some ((), I, J)
    ) else (
      fV_serve_b37 (fun a0 a1 a2 I J => fV_serve_b28 n a0 a1 a2 I J) 100000 a1 a2 a4 0 I J
    )
set_option maxRecDepth 8000 in
theorem gV_serve_b28 {l : Launch} {G : qp_G} {d : Nat} (hd : 3 ≤ d) {r : (Unit × (Nat → Nat → Int32) × (Nat → Nat → Int64))} {I0 : Nat → Nat → Int32} {J0 : Nat → Nat → Int64}   : ∀ (n : Nat) (a1 : Int32) (a2 : Int32) (a4 : Int32) (I : Nat → Nat → Int32) (J : Nat → Nat → Int64), fV_serve_b28  n a1 a2 a4 I J = some r → qp_E l G d 68 (qp_mk I0 J0) 0 0 (qp_R8 none r.2.1 r.2.2) (28, [some (.ref 18), some (.int a1), some (.int a2), none, some (.int a4), none, none, none], [], qp_mk I J) := by
  have hd1 : Nat.ble 1 d = true := Nat.ble_eq_true_of_le (Nat.le_trans (by decide) hd)
  intro n
  induction n with
  | zero => intro a1 a2 a4 I J h; exact absurd h (by simp [fV_serve_b28])
  | succ n ih =>
    intro a1 a2 a4 I J h
    rw [fV_serve_b28] at h
    refine qp_run_E qp_ok68 2 (c' := (31, [some (.ref 18), some (.int a1), some (.int a2), none, some (.int a4), none, none, none], [.int 2, .int a4], qp_mk I J)) (by with_unfolding_all rfl) hd1 trivial ?_
    refine qp_br_E qp_ok68 (f := 2 ≤ a4) (ct := (117, [some (.ref 18), some (.int a1), some (.int a2), none, some (.int a4), none, none, none], [], qp_mk I J)) (cf := (34, [some (.ref 18), some (.int a1), some (.int a2), none, some (.int a4), none, none, none], [], qp_mk I J)) (by with_unfolding_all rfl) (fun h1 => ?_) (fun h1 => ?_)
    · replace h := qp_ift h1 h
      obtain rfl := Option.some.inj h
      exact qp_retV_E qp_ok68 rfl qp_r68.1 ⟨rfl, rfl⟩ ⟨rfl, rfl⟩
    · replace h := qp_iff h1 h
      refine qp_run_E qp_ok68 2 (c' := (37, [some (.ref 18), some (.int a1), some (.int a2), none, some (.int a4), some (.int 0), none, none], [], qp_mk I J)) (by with_unfolding_all rfl) hd1 trivial ?_
      exact gV_serve_b37 hd (fun a0 a1 a2 I J => fV_serve_b28 n a0 a1 a2 I J) (fun a0 a1 a2 I J h => ih a0 a1 a2 I J h) 100000 a1 a2 a4 0 I J h
def fV_serve (p1 : Int32) (p2 : Int32) (p3 : Int32) (I : Nat → Nat → Int32) (J : Nat → Nat → Int64) : Option (Unit × (Nat → Nat → Int32) × (Nat → Nat → Int64)) :=
  fV_serve_b28 100000 p1 p2 0 (qp_up (qp_up (qp_up (qp_up (qp_up I 18 3 p3) 18 4 p3) 18 5 0) 18 0 0) 18 1 0) J
set_option maxRecDepth 8000 in
theorem gV_serve (l : Launch) (G : qp_G) (p1 : Int32) (p2 : Int32) (p3 : Int32) (I : Nat → Nat → Int32) (J : Nat → Nat → Int64) {v : Unit} {I' : Nat → Nat → Int32} {J' : Nat → Nat → Int64} (h : fV_serve p1 p2 p3 I J = some (v, I', J')) {d : Nat} (hd : 3 ≤ d) : qp_Met l G d 68 [.ref 18, .int p1, .int p2, .int p3] (qp_mk I J) 0 0 (qp_R8 none I' J') := by
  have hd1 : Nat.ble 1 d = true := Nat.ble_eq_true_of_le (Nat.le_trans (by decide) hd)
  refine qp_Met_of (by decide) (by rw [qp_r68.2]; rfl) [some (.ref 18), some (.int p1), some (.int p2), some (.int p3), none, none, none, none] (by rw [qp_r68.2]; rfl) ?_
  unfold fV_serve at h
  refine qp_run_E qp_ok68 17 (c' := (28, [some (.ref 18), some (.int p1), some (.int p2), some (.int p3), some (.int 0), none, none, none], [], qp_mk (qp_up (qp_up (qp_up (qp_up (qp_up I 18 3 p3) 18 4 p3) 18 5 0) 18 0 0) 18 1 0) J)) (by with_unfolding_all rfl) hd1 trivial ?_
  exact qp_E_fg [true, true, true, false, true, false, false, false] (gV_serve_b28 hd 100000 p1 p2 0 (qp_up (qp_up (qp_up (qp_up (qp_up I 18 3 p3) 18 4 p3) 18 5 0) 18 0 0) 18 1 0) J h)
def fL_serve (p1 : Int32) (I : Nat → Nat → Int32) (J : Nat → Nat → Int64) : Option (Unit × (Nat → Nat → Int32) × (Nat → Nat → Int64)) :=
  qp_bd (fV_serve p1 (I 15 0) (I 14 3) I J) fun _u I1 J1 =>
  some ((), I1, J1)
set_option maxRecDepth 8000 in
theorem gL_serve (l : Launch) (G : qp_G) (p1 : Int32) (I : Nat → Nat → Int32) (J : Nat → Nat → Int64) {v : Unit} {I' : Nat → Nat → Int32} {J' : Nat → Nat → Int64} (h : fL_serve p1 I J = some (v, I', J')) {d : Nat} (hd : 4 ≤ d) : qp_Met l G d 67 [.ref 14, .int p1] (qp_mk I J) 0 0 (qp_R8 none I' J') := by
  have hd1 : Nat.ble 1 d = true := Nat.ble_eq_true_of_le (Nat.le_trans (by decide) hd)
  refine qp_Met_of (by decide) (by rw [qp_r67.2]; rfl) [some (.ref 14), some (.int p1)] (by rw [qp_r67.2]; rfl) ?_
  unfold fL_serve at h
  refine qp_run_E qp_ok67 8 (c' := (16, [some (.ref 14), some (.int p1)], [.int (I 14 3), .int (I 15 0), .int p1, .ref 18], qp_mk I J)) (by with_unfolding_all rfl) hd1 trivial ?_
  obtain ⟨v1, I1, J1, e1, h⟩ := qp_bd_s h
  refine qp_cV qp_ok67 (rest := []) (oj := 5) qp_f68 rfl rfl (gV_serve l G p1 (I 15 0) (I 14 3) I J e1 (Nat.le_refl 3)) rfl rfl rfl rfl (Nat.le_trans (by decide) hd) ?_
  obtain ⟨rfl, rfl, rfl⟩ := qp_some3 h
  exact qp_retV_E qp_ok67 rfl qp_r67.1 ⟨rfl, rfl⟩ ⟨rfl, rfl⟩
def fD_placeOf_b2  : Nat → Int32 → Int32 → Int32 → Int32 → (Nat → Nat → Int32) → (Nat → Nat → Int64) → Option (Int32 × (Nat → Nat → Int32) × (Nat → Nat → Int64))
  | 0, _, _, _, _, _, _ => none
  | n + 1, a0, a1, a2, a3, I, J =>
    if a1 ≤ a3 then (
      some (a3, I, J)
    ) else (
      qp_bd (fD_whoAt a0 a3 I J) fun v1 I1 J1 =>
      if v1 = a2 then (
        some (a3, I1, J1)
      ) else (
        fD_placeOf_b2 n a0 a1 a2 (a3 + 1) I1 J1
      )
    )
set_option maxRecDepth 8000 in
theorem gD_placeOf_b2 {l : Launch} {G : qp_G} {d : Nat} (hd : 2 ≤ d) {r : (Int32 × (Nat → Nat → Int32) × (Nat → Nat → Int64))} {I0 : Nat → Nat → Int32} {J0 : Nat → Nat → Int64}   : ∀ (n : Nat) (a0 : Int32) (a1 : Int32) (a2 : Int32) (a3 : Int32) (I : Nat → Nat → Int32) (J : Nat → Nat → Int64), fD_placeOf_b2  n a0 a1 a2 a3 I J = some r → qp_E l G d 46 (qp_mk I0 J0) 0 0 (qp_R8 (some (.int r.1)) r.2.1 r.2.2) (2, [some (.int a0), some (.int a1), some (.int a2), some (.int a3)], [], qp_mk I J) := by
  have hd1 : Nat.ble 1 d = true := Nat.ble_eq_true_of_le (Nat.le_trans (by decide) hd)
  intro n
  induction n with
  | zero => intro a0 a1 a2 a3 I J h; exact absurd h (by simp [fD_placeOf_b2])
  | succ n ih =>
    intro a0 a1 a2 a3 I J h
    rw [fD_placeOf_b2] at h
    refine qp_run_E qp_ok46 2 (c' := (4, [some (.int a0), some (.int a1), some (.int a2), some (.int a3)], [.int a1, .int a3], qp_mk I J)) (by with_unfolding_all rfl) hd1 trivial ?_
    refine qp_br_E qp_ok46 (f := a1 ≤ a3) (ct := (22, [some (.int a0), some (.int a1), some (.int a2), some (.int a3)], [], qp_mk I J)) (cf := (7, [some (.int a0), some (.int a1), some (.int a2), some (.int a3)], [], qp_mk I J)) (by with_unfolding_all rfl) (fun h1 => ?_) (fun h1 => ?_)
    · replace h := qp_ift h1 h
      refine qp_run_E qp_ok46 1 (c' := (23, [some (.int a0), some (.int a1), some (.int a2), some (.int a3)], [.int a3], qp_mk I J)) (by with_unfolding_all rfl) hd1 trivial ?_
      obtain rfl := Option.some.inj h
      exact qp_retI_E qp_ok46 rfl qp_r46.1 ⟨rfl, rfl⟩ ⟨rfl, rfl⟩
    · replace h := qp_iff h1 h
      refine qp_run_E qp_ok46 2 (c' := (9, [some (.int a0), some (.int a1), some (.int a2), some (.int a3)], [.int a3, .int a0], qp_mk I J)) (by with_unfolding_all rfl) hd1 trivial ?_
      obtain ⟨v1, I1, J1, e1, h⟩ := qp_bd_s h
      refine qp_cS qp_ok46 (rest := []) (oj := 10) qp_f47 rfl rfl (gD_whoAt l G a0 a3 I J e1 (Nat.le_refl 1)) rfl rfl rfl (Nat.le_trans (by decide) hd) ?_
      refine qp_run_E qp_ok46 1 (c' := (13, [some (.int a0), some (.int a1), some (.int a2), some (.int a3)], [.int a2, .int v1], qp_mk I1 J1)) (by with_unfolding_all rfl) hd1 trivial ?_
      refine qp_br_E qp_ok46 (f := v1 = a2) (ct := (22, [some (.int a0), some (.int a1), some (.int a2), some (.int a3)], [], qp_mk I1 J1)) (cf := (16, [some (.int a0), some (.int a1), some (.int a2), some (.int a3)], [], qp_mk I1 J1)) (by with_unfolding_all rfl) (fun h2 => ?_) (fun h2 => ?_)
      · replace h := qp_ift h2 h
        refine qp_run_E qp_ok46 1 (c' := (23, [some (.int a0), some (.int a1), some (.int a2), some (.int a3)], [.int a3], qp_mk I1 J1)) (by with_unfolding_all rfl) hd1 trivial ?_
        obtain rfl := Option.some.inj h
        exact qp_retI_E qp_ok46 rfl qp_r46.1 ⟨rfl, rfl⟩ ⟨rfl, rfl⟩
      · replace h := qp_iff h2 h
        refine qp_run_E qp_ok46 2 (c' := (2, [some (.int a0), some (.int a1), some (.int a2), some (.int (a3 + 1))], [], qp_mk I1 J1)) (by with_unfolding_all rfl) hd1 trivial ?_
        exact ih a0 a1 a2 (a3 + 1) I1 J1 h
def fD_placeOf (p0 : Int32) (p1 : Int32) (p2 : Int32) (I : Nat → Nat → Int32) (J : Nat → Nat → Int64) : Option (Int32 × (Nat → Nat → Int32) × (Nat → Nat → Int64)) :=
  fD_placeOf_b2 100000 p0 p1 p2 0 I J
set_option maxRecDepth 8000 in
theorem gD_placeOf (l : Launch) (G : qp_G) (p0 : Int32) (p1 : Int32) (p2 : Int32) (I : Nat → Nat → Int32) (J : Nat → Nat → Int64) {v : Int32} {I' : Nat → Nat → Int32} {J' : Nat → Nat → Int64} (h : fD_placeOf p0 p1 p2 I J = some (v, I', J')) {d : Nat} (hd : 2 ≤ d) : qp_Met l G d 46 [.int p0, .int p1, .int p2] (qp_mk I J) 0 0 (qp_R8 (some (.int v)) I' J') := by
  have hd1 : Nat.ble 1 d = true := Nat.ble_eq_true_of_le (Nat.le_trans (by decide) hd)
  refine qp_Met_of (by decide) (by rw [qp_r46.2]; rfl) [some (.int p0), some (.int p1), some (.int p2), none] (by rw [qp_r46.2]; rfl) ?_
  unfold fD_placeOf at h
  refine qp_run_E qp_ok46 2 (c' := (2, [some (.int p0), some (.int p1), some (.int p2), some (.int 0)], [], qp_mk I J)) (by with_unfolding_all rfl) hd1 trivial ?_
  exact gD_placeOf_b2 hd 100000 p0 p1 p2 0 I J h
def fL_placeOf (p1 : Int32) (I : Nat → Nat → Int32) (J : Nat → Nat → Int64) : Option (Int32 × (Nat → Nat → Int32) × (Nat → Nat → Int64)) :=
  qp_bd (fD_placeOf (I 14 2) (I 15 0) p1 I J) fun v1 I1 J1 =>
  some (v1, I1, J1)
set_option maxRecDepth 8000 in
theorem gL_placeOf (l : Launch) (G : qp_G) (p1 : Int32) (I : Nat → Nat → Int32) (J : Nat → Nat → Int64) {v : Int32} {I' : Nat → Nat → Int32} {J' : Nat → Nat → Int64} (h : fL_placeOf p1 I J = some (v, I', J')) {d : Nat} (hd : 3 ≤ d) : qp_Met l G d 45 [.ref 14, .int p1] (qp_mk I J) 0 0 (qp_R8 (some (.int v)) I' J') := by
  have hd1 : Nat.ble 1 d = true := Nat.ble_eq_true_of_le (Nat.le_trans (by decide) hd)
  refine qp_Met_of (by decide) (by rw [qp_r45.2]; rfl) [some (.ref 14), some (.int p1)] (by rw [qp_r45.2]; rfl) ?_
  unfold fL_placeOf at h
  refine qp_run_E qp_ok45 6 (c' := (12, [some (.ref 14), some (.int p1)], [.int p1, .int (I 15 0), .int (I 14 2)], qp_mk I J)) (by with_unfolding_all rfl) hd1 trivial ?_
  obtain ⟨v1, I1, J1, e1, h⟩ := qp_bd_s h
  refine qp_cS qp_ok45 (rest := []) (oj := 10) qp_f46 rfl rfl (gD_placeOf l G (I 14 2) (I 15 0) p1 I J e1 (Nat.le_refl 2)) rfl rfl rfl (Nat.le_trans (by decide) hd) ?_
  obtain ⟨rfl, rfl, rfl⟩ := qp_some3 h
  exact qp_retI_E qp_ok45 rfl qp_r45.1 ⟨rfl, rfl⟩ ⟨rfl, rfl⟩
def fV_wantOf (p1 : Int32) (I : Nat → Nat → Int32) (J : Nat → Nat → Int64) : Option (Int32 × (Nat → Nat → Int32) × (Nat → Nat → Int64)) :=
  if p1 < 0 then (
    some (0, I, J)
  ) else (
    if 6 ≤ p1 then (
      some (0, I, J)
    ) else (
      qp_gd ((0 ≤ p1 ∧ p1 < 6)) <|
      some ((I 19 (Int32.toNatClampNeg p1)), I, J)
    )
  )
set_option maxRecDepth 8000 in
theorem gV_wantOf (l : Launch) (G : qp_G) (p1 : Int32) (I : Nat → Nat → Int32) (J : Nat → Nat → Int64) {v : Int32} {I' : Nat → Nat → Int32} {J' : Nat → Nat → Int64} (h : fV_wantOf p1 I J = some (v, I', J')) {d : Nat} (hd : 1 ≤ d) : qp_Met l G d 83 [.ref 18, .int p1] (qp_mk I J) 0 0 (qp_R8 (some (.int v)) I' J') := by
  have hd1 : Nat.ble 1 d = true := Nat.ble_eq_true_of_le (Nat.le_trans (by decide) hd)
  refine qp_Met_of (by decide) (by rw [qp_r83.2]; rfl) [some (.ref 18), some (.int p1)] (by rw [qp_r83.2]; rfl) ?_
  unfold fV_wantOf at h
  refine qp_run_E qp_ok83 1 (c' := (1, [some (.ref 18), some (.int p1)], [.int p1], qp_mk I J)) (by with_unfolding_all rfl) hd1 trivial ?_
  refine qp_br_E qp_ok83 (f := p1 < 0) (ct := (22, [some (.ref 18), some (.int p1)], [], qp_mk I J)) (cf := (4, [some (.ref 18), some (.int p1)], [], qp_mk I J)) (by with_unfolding_all rfl) (fun h1 => ?_) (fun h1 => ?_)
  · replace h := qp_ift h1 h
    refine qp_run_E qp_ok83 1 (c' := (23, [some (.ref 18), some (.int p1)], [.int 0], qp_mk I J)) (by with_unfolding_all rfl) hd1 trivial ?_
    obtain ⟨rfl, rfl, rfl⟩ := qp_some3 h
    exact qp_retI_E qp_ok83 rfl qp_r83.1 ⟨rfl, rfl⟩ ⟨rfl, rfl⟩
  · replace h := qp_iff h1 h
    refine qp_run_E qp_ok83 4 (c' := (10, [some (.ref 18), some (.int p1)], [.int 6, .int p1], qp_mk I J)) (by with_unfolding_all rfl) hd1 trivial ?_
    refine qp_br_E qp_ok83 (f := 6 ≤ p1) (ct := (22, [some (.ref 18), some (.int p1)], [], qp_mk I J)) (cf := (13, [some (.ref 18), some (.int p1)], [], qp_mk I J)) (by with_unfolding_all rfl) (fun h2 => ?_) (fun h2 => ?_)
    · replace h := qp_ift h2 h
      refine qp_run_E qp_ok83 1 (c' := (23, [some (.ref 18), some (.int p1)], [.int 0], qp_mk I J)) (by with_unfolding_all rfl) hd1 trivial ?_
      obtain ⟨rfl, rfl, rfl⟩ := qp_some3 h
      exact qp_retI_E qp_ok83 rfl qp_r83.1 ⟨rfl, rfl⟩ ⟨rfl, rfl⟩
    · replace h := qp_iff h2 h
      obtain ⟨h3, h⟩ := qp_gd_s h
      refine qp_run_E qp_ok83 5 (f := vp_in p1 6 ∧ True) (c' := (23, [some (.ref 18), some (.int p1)], [.int (I 19 (Int32.toNatClampNeg p1))], qp_mk I J)) (by with_unfolding_all rfl) hd1 ⟨(qp_vin (c := 6) (by decide) h3.1 h3.2), trivial⟩ ?_
      obtain ⟨rfl, rfl, rfl⟩ := qp_some3 h
      exact qp_retI_E qp_ok83 rfl qp_r83.1 ⟨rfl, rfl⟩ ⟨rfl, rfl⟩
def fV_gainOf (p1 : Int32) (I : Nat → Nat → Int32) (J : Nat → Nat → Int64) : Option (Int32 × (Nat → Nat → Int32) × (Nat → Nat → Int64)) :=
  if p1 < 0 then (
    some (0, I, J)
  ) else (
    if 6 ≤ p1 then (
      some (0, I, J)
    ) else (
      qp_gd ((0 ≤ p1 ∧ p1 < 6)) <|
      some ((I 20 (Int32.toNatClampNeg p1)), I, J)
    )
  )
set_option maxRecDepth 8000 in
theorem gV_gainOf (l : Launch) (G : qp_G) (p1 : Int32) (I : Nat → Nat → Int32) (J : Nat → Nat → Int64) {v : Int32} {I' : Nat → Nat → Int32} {J' : Nat → Nat → Int64} (h : fV_gainOf p1 I J = some (v, I', J')) {d : Nat} (hd : 1 ≤ d) : qp_Met l G d 72 [.ref 18, .int p1] (qp_mk I J) 0 0 (qp_R8 (some (.int v)) I' J') := by
  have hd1 : Nat.ble 1 d = true := Nat.ble_eq_true_of_le (Nat.le_trans (by decide) hd)
  refine qp_Met_of (by decide) (by rw [qp_r72.2]; rfl) [some (.ref 18), some (.int p1)] (by rw [qp_r72.2]; rfl) ?_
  unfold fV_gainOf at h
  refine qp_run_E qp_ok72 1 (c' := (1, [some (.ref 18), some (.int p1)], [.int p1], qp_mk I J)) (by with_unfolding_all rfl) hd1 trivial ?_
  refine qp_br_E qp_ok72 (f := p1 < 0) (ct := (22, [some (.ref 18), some (.int p1)], [], qp_mk I J)) (cf := (4, [some (.ref 18), some (.int p1)], [], qp_mk I J)) (by with_unfolding_all rfl) (fun h1 => ?_) (fun h1 => ?_)
  · replace h := qp_ift h1 h
    refine qp_run_E qp_ok72 1 (c' := (23, [some (.ref 18), some (.int p1)], [.int 0], qp_mk I J)) (by with_unfolding_all rfl) hd1 trivial ?_
    obtain ⟨rfl, rfl, rfl⟩ := qp_some3 h
    exact qp_retI_E qp_ok72 rfl qp_r72.1 ⟨rfl, rfl⟩ ⟨rfl, rfl⟩
  · replace h := qp_iff h1 h
    refine qp_run_E qp_ok72 4 (c' := (10, [some (.ref 18), some (.int p1)], [.int 6, .int p1], qp_mk I J)) (by with_unfolding_all rfl) hd1 trivial ?_
    refine qp_br_E qp_ok72 (f := 6 ≤ p1) (ct := (22, [some (.ref 18), some (.int p1)], [], qp_mk I J)) (cf := (13, [some (.ref 18), some (.int p1)], [], qp_mk I J)) (by with_unfolding_all rfl) (fun h2 => ?_) (fun h2 => ?_)
    · replace h := qp_ift h2 h
      refine qp_run_E qp_ok72 1 (c' := (23, [some (.ref 18), some (.int p1)], [.int 0], qp_mk I J)) (by with_unfolding_all rfl) hd1 trivial ?_
      obtain ⟨rfl, rfl, rfl⟩ := qp_some3 h
      exact qp_retI_E qp_ok72 rfl qp_r72.1 ⟨rfl, rfl⟩ ⟨rfl, rfl⟩
    · replace h := qp_iff h2 h
      obtain ⟨h3, h⟩ := qp_gd_s h
      refine qp_run_E qp_ok72 5 (f := vp_in p1 6 ∧ True) (c' := (23, [some (.ref 18), some (.int p1)], [.int (I 20 (Int32.toNatClampNeg p1))], qp_mk I J)) (by with_unfolding_all rfl) hd1 ⟨(qp_vin (c := 6) (by decide) h3.1 h3.2), trivial⟩ ?_
      obtain ⟨rfl, rfl, rfl⟩ := qp_some3 h
      exact qp_retI_E qp_ok72 rfl qp_r72.1 ⟨rfl, rfl⟩ ⟨rfl, rfl⟩
def fV_turnOf (p1 : Int32) (I : Nat → Nat → Int32) (J : Nat → Nat → Int64) : Option (Int32 × (Nat → Nat → Int32) × (Nat → Nat → Int64)) :=
  if p1 < 0 then (
    some (0, I, J)
  ) else (
    if 6 ≤ p1 then (
      some (0, I, J)
    ) else (
      qp_gd ((0 ≤ p1 ∧ p1 < 6)) <|
      some ((I 21 (Int32.toNatClampNeg p1)), I, J)
    )
  )
set_option maxRecDepth 8000 in
theorem gV_turnOf (l : Launch) (G : qp_G) (p1 : Int32) (I : Nat → Nat → Int32) (J : Nat → Nat → Int64) {v : Int32} {I' : Nat → Nat → Int32} {J' : Nat → Nat → Int64} (h : fV_turnOf p1 I J = some (v, I', J')) {d : Nat} (hd : 1 ≤ d) : qp_Met l G d 127 [.ref 18, .int p1] (qp_mk I J) 0 0 (qp_R8 (some (.int v)) I' J') := by
  have hd1 : Nat.ble 1 d = true := Nat.ble_eq_true_of_le (Nat.le_trans (by decide) hd)
  refine qp_Met_of (by decide) (by rw [qp_r127.2]; rfl) [some (.ref 18), some (.int p1)] (by rw [qp_r127.2]; rfl) ?_
  unfold fV_turnOf at h
  refine qp_run_E qp_ok127 1 (c' := (1, [some (.ref 18), some (.int p1)], [.int p1], qp_mk I J)) (by with_unfolding_all rfl) hd1 trivial ?_
  refine qp_br_E qp_ok127 (f := p1 < 0) (ct := (22, [some (.ref 18), some (.int p1)], [], qp_mk I J)) (cf := (4, [some (.ref 18), some (.int p1)], [], qp_mk I J)) (by with_unfolding_all rfl) (fun h1 => ?_) (fun h1 => ?_)
  · replace h := qp_ift h1 h
    refine qp_run_E qp_ok127 1 (c' := (23, [some (.ref 18), some (.int p1)], [.int 0], qp_mk I J)) (by with_unfolding_all rfl) hd1 trivial ?_
    obtain ⟨rfl, rfl, rfl⟩ := qp_some3 h
    exact qp_retI_E qp_ok127 rfl qp_r127.1 ⟨rfl, rfl⟩ ⟨rfl, rfl⟩
  · replace h := qp_iff h1 h
    refine qp_run_E qp_ok127 4 (c' := (10, [some (.ref 18), some (.int p1)], [.int 6, .int p1], qp_mk I J)) (by with_unfolding_all rfl) hd1 trivial ?_
    refine qp_br_E qp_ok127 (f := 6 ≤ p1) (ct := (22, [some (.ref 18), some (.int p1)], [], qp_mk I J)) (cf := (13, [some (.ref 18), some (.int p1)], [], qp_mk I J)) (by with_unfolding_all rfl) (fun h2 => ?_) (fun h2 => ?_)
    · replace h := qp_ift h2 h
      refine qp_run_E qp_ok127 1 (c' := (23, [some (.ref 18), some (.int p1)], [.int 0], qp_mk I J)) (by with_unfolding_all rfl) hd1 trivial ?_
      obtain ⟨rfl, rfl, rfl⟩ := qp_some3 h
      exact qp_retI_E qp_ok127 rfl qp_r127.1 ⟨rfl, rfl⟩ ⟨rfl, rfl⟩
    · replace h := qp_iff h2 h
      obtain ⟨h3, h⟩ := qp_gd_s h
      refine qp_run_E qp_ok127 5 (f := vp_in p1 6 ∧ True) (c' := (23, [some (.ref 18), some (.int p1)], [.int (I 21 (Int32.toNatClampNeg p1))], qp_mk I J)) (by with_unfolding_all rfl) hd1 ⟨(qp_vin (c := 6) (by decide) h3.1 h3.2), trivial⟩ ?_
      obtain ⟨rfl, rfl, rfl⟩ := qp_some3 h
      exact qp_retI_E qp_ok127 rfl qp_r127.1 ⟨rfl, rfl⟩ ⟨rfl, rfl⟩
def fJ_abs (p0 : Int32) (I : Nat → Nat → Int32) (J : Nat → Nat → Int64) : Option (Int32 × (Nat → Nat → Int32) × (Nat → Nat → Int64)) :=
  if 0 ≤ p0 then (
    some (p0, I, J)
  ) else (
    some ((-p0), I, J)
  )
set_option maxRecDepth 8000 in
theorem gJ_abs (l : Launch) (G : qp_G) (p0 : Int32) (I : Nat → Nat → Int32) (J : Nat → Nat → Int64) {v : Int32} {I' : Nat → Nat → Int32} {J' : Nat → Nat → Int64} (h : fJ_abs p0 I J = some (v, I', J')) {d : Nat} (hd : 1 ≤ d) : qp_Met l G d 82 [.int p0] (qp_mk I J) 0 0 (qp_R8 (some (.int v)) I' J') := by
  have hd1 : Nat.ble 1 d = true := Nat.ble_eq_true_of_le (Nat.le_trans (by decide) hd)
  refine qp_Met_of (by decide) (by rw [qp_r82.2]; rfl) [some (.int p0)] (by rw [qp_r82.2]; rfl) ?_
  unfold fJ_abs at h
  refine qp_run_E qp_ok82 1 (c' := (1, [some (.int p0)], [.int p0], qp_mk I J)) (by with_unfolding_all rfl) hd1 trivial ?_
  refine qp_br_E qp_ok82 (f := 0 ≤ p0) (ct := (9, [some (.int p0)], [], qp_mk I J)) (cf := (4, [some (.int p0)], [], qp_mk I J)) (by with_unfolding_all rfl) (fun h1 => ?_) (fun h1 => ?_)
  · replace h := qp_ift h1 h
    refine qp_run_E qp_ok82 1 (c' := (10, [some (.int p0)], [.int p0], qp_mk I J)) (by with_unfolding_all rfl) hd1 trivial ?_
    obtain ⟨rfl, rfl, rfl⟩ := qp_some3 h
    exact qp_retI_E qp_ok82 rfl qp_r82.1 ⟨rfl, rfl⟩ ⟨rfl, rfl⟩
  · replace h := qp_iff h1 h
    refine qp_run_E qp_ok82 3 (c' := (10, [some (.int p0)], [.int (-p0)], qp_mk I J)) (by with_unfolding_all rfl) hd1 trivial ?_
    obtain ⟨rfl, rfl, rfl⟩ := qp_some3 h
    exact qp_retI_E qp_ok82 rfl qp_r82.1 ⟨rfl, rfl⟩ ⟨rfl, rfl⟩
def fD_haveMet (p0 : Int32) (p1 : Int32) (p2 : Int32) (p3 : Int32) (I : Nat → Nat → Int32) (J : Nat → Nat → Int64) : Option (Int32 × (Nat → Nat → Int32) × (Nat → Nat → Int64)) :=
  qp_bd (fD_placeOf p0 p1 p2 I J) fun v1 I1 J1 =>
  qp_bd (fD_placeOf p0 p1 p3 I1 J1) fun v2 I2 J2 =>
  qp_bd (fJ_abs (v1 - v2) I2 J2) fun v3 I3 J3 =>
  if ¬ v3 = 1 then (
    some (0, I3, J3)
  ) else (
    some (1, I3, J3)
  )
set_option maxRecDepth 8000 in
theorem gD_haveMet (l : Launch) (G : qp_G) (p0 : Int32) (p1 : Int32) (p2 : Int32) (p3 : Int32) (I : Nat → Nat → Int32) (J : Nat → Nat → Int64) {v : Int32} {I' : Nat → Nat → Int32} {J' : Nat → Nat → Int64} (h : fD_haveMet p0 p1 p2 p3 I J = some (v, I', J')) {d : Nat} (hd : 3 ≤ d) : qp_Met l G d 81 [.int p0, .int p1, .int p2, .int p3] (qp_mk I J) 0 0 (qp_R8 (some (.int v)) I' J') := by
  have hd1 : Nat.ble 1 d = true := Nat.ble_eq_true_of_le (Nat.le_trans (by decide) hd)
  refine qp_Met_of (by decide) (by rw [qp_r81.2]; rfl) [some (.int p0), some (.int p1), some (.int p2), some (.int p3)] (by rw [qp_r81.2]; rfl) ?_
  unfold fD_haveMet at h
  refine qp_run_E qp_ok81 3 (c' := (3, [some (.int p0), some (.int p1), some (.int p2), some (.int p3)], [.int p2, .int p1, .int p0], qp_mk I J)) (by with_unfolding_all rfl) hd1 trivial ?_
  obtain ⟨v1, I1, J1, e1, h⟩ := qp_bd_s h
  refine qp_cS qp_ok81 (rest := []) (oj := 10) qp_f46 rfl rfl (gD_placeOf l G p0 p1 p2 I J e1 (Nat.le_refl 2)) rfl rfl rfl (Nat.le_trans (by decide) hd) ?_
  refine qp_run_E qp_ok81 3 (c' := (9, [some (.int p0), some (.int p1), some (.int p2), some (.int p3)], [.int p3, .int p1, .int p0, .int v1], qp_mk I1 J1)) (by with_unfolding_all rfl) hd1 trivial ?_
  obtain ⟨v2, I2, J2, e2, h⟩ := qp_bd_s h
  refine qp_cS qp_ok81 (rest := [.int v1]) (oj := 10) qp_f46 rfl rfl (gD_placeOf l G p0 p1 p3 I1 J1 e2 (Nat.le_refl 2)) rfl rfl rfl (Nat.le_trans (by decide) hd) ?_
  refine qp_run_E qp_ok81 1 (c' := (13, [some (.int p0), some (.int p1), some (.int p2), some (.int p3)], [.int (v1 - v2)], qp_mk I2 J2)) (by with_unfolding_all rfl) hd1 trivial ?_
  obtain ⟨v3, I3, J3, e3, h⟩ := qp_bd_s h
  refine qp_cS qp_ok81 (rest := []) (oj := 12) qp_f82 rfl rfl (gJ_abs l G (v1 - v2) I2 J2 e3 (Nat.le_refl 1)) rfl rfl rfl (Nat.le_trans (by decide) hd) ?_
  refine qp_run_E qp_ok81 1 (c' := (17, [some (.int p0), some (.int p1), some (.int p2), some (.int p3)], [.int 1, .int v3], qp_mk I3 J3)) (by with_unfolding_all rfl) hd1 trivial ?_
  refine qp_br_E qp_ok81 (f := ¬ v3 = 1) (ct := (24, [some (.int p0), some (.int p1), some (.int p2), some (.int p3)], [], qp_mk I3 J3)) (cf := (20, [some (.int p0), some (.int p1), some (.int p2), some (.int p3)], [], qp_mk I3 J3)) (by with_unfolding_all rfl) (fun h1 => ?_) (fun h1 => ?_)
  · replace h := qp_ift h1 h
    refine qp_run_E qp_ok81 1 (c' := (25, [some (.int p0), some (.int p1), some (.int p2), some (.int p3)], [.int 0], qp_mk I3 J3)) (by with_unfolding_all rfl) hd1 trivial ?_
    obtain ⟨rfl, rfl, rfl⟩ := qp_some3 h
    exact qp_retZ_E qp_ok81 rfl qp_r81.1 rfl ⟨rfl, rfl⟩ ⟨rfl, rfl⟩
  · replace h := qp_iff h1 h
    refine qp_run_E qp_ok81 2 (c' := (25, [some (.int p0), some (.int p1), some (.int p2), some (.int p3)], [.int 1], qp_mk I3 J3)) (by with_unfolding_all rfl) hd1 trivial ?_
    obtain ⟨rfl, rfl, rfl⟩ := qp_some3 h
    exact qp_retZ_E qp_ok81 rfl qp_r81.1 rfl ⟨rfl, rfl⟩ ⟨rfl, rfl⟩
def fL_metBy_b4  : Nat → Int32 → Int32 → Int32 → (Nat → Nat → Int32) → (Nat → Nat → Int64) → Option (Int32 × (Nat → Nat → Int32) × (Nat → Nat → Int64))
  | 0, _, _, _, _, _ => none
  | n + 1, a1, a2, a3, I, J =>
    if (I 15 0) ≤ a3 then (
      some (a2, I, J)
    ) else (
      qp_bd (fD_haveMet (I 14 2) (I 15 0) a1 a3 I J) fun v1 I1 J1 =>
      if v1 = 0 then (
        fL_metBy_b4 n a1 a2 (a3 + 1) I1 J1
      ) else (
        fL_metBy_b4 n a1 (a2 ||| ((1 : Int32) <<< (a3 &&& 31))) (a3 + 1) I1 J1
      )
    )
set_option maxRecDepth 8000 in
theorem gL_metBy_b4 {l : Launch} {G : qp_G} {d : Nat} (hd : 4 ≤ d) {r : (Int32 × (Nat → Nat → Int32) × (Nat → Nat → Int64))} {I0 : Nat → Nat → Int32} {J0 : Nat → Nat → Int64}   : ∀ (n : Nat) (a1 : Int32) (a2 : Int32) (a3 : Int32) (I : Nat → Nat → Int32) (J : Nat → Nat → Int64), fL_metBy_b4  n a1 a2 a3 I J = some r → qp_E l G d 128 (qp_mk I0 J0) 0 0 (qp_R8 (some (.int r.1)) r.2.1 r.2.2) (4, [some (.ref 14), some (.int a1), some (.int a2), some (.int a3)], [], qp_mk I J) := by
  have hd1 : Nat.ble 1 d = true := Nat.ble_eq_true_of_le (Nat.le_trans (by decide) hd)
  intro n
  induction n with
  | zero => intro a1 a2 a3 I J h; exact absurd h (by simp [fL_metBy_b4])
  | succ n ih =>
    intro a1 a2 a3 I J h
    rw [fL_metBy_b4] at h
    refine qp_run_E qp_ok128 4 (c' := (12, [some (.ref 14), some (.int a1), some (.int a2), some (.int a3)], [.int (I 15 0), .int a3], qp_mk I J)) (by with_unfolding_all rfl) hd1 trivial ?_
    refine qp_br_E qp_ok128 (f := (I 15 0) ≤ a3) (ct := (46, [some (.ref 14), some (.int a1), some (.int a2), some (.int a3)], [], qp_mk I J)) (cf := (15, [some (.ref 14), some (.int a1), some (.int a2), some (.int a3)], [], qp_mk I J)) (by with_unfolding_all rfl) (fun h1 => ?_) (fun h1 => ?_)
    · replace h := qp_ift h1 h
      refine qp_run_E qp_ok128 1 (c' := (47, [some (.ref 14), some (.int a1), some (.int a2), some (.int a3)], [.int a2], qp_mk I J)) (by with_unfolding_all rfl) hd1 trivial ?_
      obtain rfl := Option.some.inj h
      exact qp_retI_E qp_ok128 rfl qp_r128.1 ⟨rfl, rfl⟩ ⟨rfl, rfl⟩
    · replace h := qp_iff h1 h
      refine qp_run_E qp_ok128 7 (c' := (28, [some (.ref 14), some (.int a1), some (.int a2), some (.int a3)], [.int a3, .int a1, .int (I 15 0), .int (I 14 2)], qp_mk I J)) (by with_unfolding_all rfl) hd1 trivial ?_
      obtain ⟨v1, I1, J1, e1, h⟩ := qp_bd_s h
      refine qp_cS qp_ok128 (rest := []) (oj := 10) qp_f81 rfl rfl (gD_haveMet l G (I 14 2) (I 15 0) a1 a3 I J e1 (Nat.le_refl 3)) rfl rfl rfl (Nat.le_trans (by decide) hd) ?_
      refine qp_br_E qp_ok128 (f := v1 = 0) (ct := (40, [some (.ref 14), some (.int a1), some (.int a2), some (.int a3)], [], qp_mk I1 J1)) (cf := (34, [some (.ref 14), some (.int a1), some (.int a2), some (.int a3)], [], qp_mk I1 J1)) (by with_unfolding_all rfl) (fun h2 => ?_) (fun h2 => ?_)
      · replace h := qp_ift h2 h
        refine qp_run_E qp_ok128 2 (c' := (4, [some (.ref 14), some (.int a1), some (.int a2), some (.int (a3 + 1))], [], qp_mk I1 J1)) (by with_unfolding_all rfl) hd1 trivial ?_
        exact ih a1 a2 (a3 + 1) I1 J1 h
      · replace h := qp_iff h2 h
        refine qp_run_E qp_ok128 8 (c' := (4, [some (.ref 14), some (.int a1), some (.int (a2 ||| ((1 : Int32) <<< (a3 &&& 31)))), some (.int (a3 + 1))], [], qp_mk I1 J1)) (by with_unfolding_all rfl) hd1 trivial ?_
        exact ih a1 (a2 ||| ((1 : Int32) <<< (a3 &&& 31))) (a3 + 1) I1 J1 h
def fL_metBy (p1 : Int32) (I : Nat → Nat → Int32) (J : Nat → Nat → Int64) : Option (Int32 × (Nat → Nat → Int32) × (Nat → Nat → Int64)) :=
  fL_metBy_b4 100000 p1 0 0 I J
set_option maxRecDepth 8000 in
theorem gL_metBy (l : Launch) (G : qp_G) (p1 : Int32) (I : Nat → Nat → Int32) (J : Nat → Nat → Int64) {v : Int32} {I' : Nat → Nat → Int32} {J' : Nat → Nat → Int64} (h : fL_metBy p1 I J = some (v, I', J')) {d : Nat} (hd : 4 ≤ d) : qp_Met l G d 128 [.ref 14, .int p1] (qp_mk I J) 0 0 (qp_R8 (some (.int v)) I' J') := by
  have hd1 : Nat.ble 1 d = true := Nat.ble_eq_true_of_le (Nat.le_trans (by decide) hd)
  refine qp_Met_of (by decide) (by rw [qp_r128.2]; rfl) [some (.ref 14), some (.int p1), none, none] (by rw [qp_r128.2]; rfl) ?_
  unfold fL_metBy at h
  refine qp_run_E qp_ok128 4 (c' := (4, [some (.ref 14), some (.int p1), some (.int 0), some (.int 0)], [], qp_mk I J)) (by with_unfolding_all rfl) hd1 trivial ?_
  exact gL_metBy_b4 hd 100000 p1 0 0 I J h
def fX_trait (p1 : Int32) (p2 : Int32) (I : Nat → Nat → Int32) (J : Nat → Nat → Int64) : Option (Int32 × (Nat → Nat → Int32) × (Nat → Nat → Int64)) :=
  if p2 = 0 then (
    qp_bd (fC_kindOf_15 p1 I J) fun v1 I1 J1 =>
    some (v1, I1, J1)
  ) else
  if p2 = 1 then (
    qp_bd (fC_patienceOf_15 p1 I J) fun v2 I2 J2 =>
    some (v2, I2, J2)
  ) else
  if p2 = 2 then (
    qp_bd (fL_placeOf p1 I J) fun v3 I3 J3 =>
    some (v3, I3, J3)
  ) else
  if p2 = 3 then (
    qp_bd (fV_wantOf p1 I J) fun v4 I4 J4 =>
    some (v4, I4, J4)
  ) else
  if p2 = 4 then (
    qp_bd (fV_gainOf p1 I J) fun v5 I5 J5 =>
    some (v5, I5, J5)
  ) else
  if p2 = 5 then (
    qp_bd (fV_turnOf p1 I J) fun v6 I6 J6 =>
    some (v6, I6, J6)
  ) else
  qp_bd (fL_metBy p1 I J) fun v7 I7 J7 =>
  some (v7, I7, J7)
set_option maxRecDepth 8000 in
theorem gX_trait (l : Launch) (G : qp_G) (p1 : Int32) (p2 : Int32) (I : Nat → Nat → Int32) (J : Nat → Nat → Int64) {v : Int32} {I' : Nat → Nat → Int32} {J' : Nat → Nat → Int64} (h : fX_trait p1 p2 I J = some (v, I', J')) {d : Nat} (hd : 5 ≤ d) : qp_Met l G d 126 [.ref 0, .int p1, .int p2] (qp_mk I J) 0 0 (qp_R8 (some (.int v)) I' J') := by
  have hd1 : Nat.ble 1 d = true := Nat.ble_eq_true_of_le (Nat.le_trans (by decide) hd)
  refine qp_Met_of (by decide) (by rw [qp_r126.2]; rfl) [some (.ref 0), some (.int p1), some (.int p2)] (by rw [qp_r126.2]; rfl) ?_
  unfold fX_trait at h
  refine qp_run_E qp_ok126 1 (c' := (1, [some (.ref 0), some (.int p1), some (.int p2)], [.int p2], qp_mk I J)) (by with_unfolding_all rfl) hd1 trivial ?_
  by_cases h1 : p2 = 0
  · replace h := qp_ift h1 h
    refine qp_run_E qp_ok126 1 (c' := (qp_swt 108 0 5 #[39, 51, 63, 72, 84, 96] 1 p2, [some (.ref 0), some (.int p1), some (.int p2)], [], qp_mk I J)) (by with_unfolding_all rfl) hd1 trivial ?_
    refine qp_E_pc (pc' := 40) (by rw [h1]; rfl) ?_
    refine qp_run_E qp_ok126 4 (c' := (48, [some (.ref 0), some (.int p1), some (.int p2)], [.int p1, .ref 15], qp_mk I J)) (by with_unfolding_all rfl) hd1 trivial ?_
    obtain ⟨v1, I1, J1, e1, h⟩ := qp_bd_s h
    refine qp_cV qp_ok126 (rest := []) (oj := 3) qp_f36 rfl rfl (gC_kindOf_15 l G p1 I J e1 (Nat.le_refl 1)) rfl rfl rfl rfl (Nat.le_trans (by decide) hd) ?_
    obtain ⟨rfl, rfl, rfl⟩ := qp_some3 h
    exact qp_retI_E qp_ok126 rfl qp_r126.1 ⟨rfl, rfl⟩ ⟨rfl, rfl⟩
  replace h := qp_iff h1 h
  by_cases h2 : p2 = 1
  · replace h := qp_ift h2 h
    refine qp_run_E qp_ok126 1 (c' := (qp_swt 108 0 5 #[39, 51, 63, 72, 84, 96] 1 p2, [some (.ref 0), some (.int p1), some (.int p2)], [], qp_mk I J)) (by with_unfolding_all rfl) hd1 trivial ?_
    refine qp_E_pc (pc' := 52) (by rw [h2]; rfl) ?_
    refine qp_run_E qp_ok126 4 (c' := (60, [some (.ref 0), some (.int p1), some (.int p2)], [.int p1, .ref 15], qp_mk I J)) (by with_unfolding_all rfl) hd1 trivial ?_
    obtain ⟨v2, I2, J2, e2, h⟩ := qp_bd_s h
    refine qp_cV qp_ok126 (rest := []) (oj := 3) qp_f37 rfl rfl (gC_patienceOf_15 l G p1 I J e2 (Nat.le_refl 1)) rfl rfl rfl rfl (Nat.le_trans (by decide) hd) ?_
    obtain ⟨rfl, rfl, rfl⟩ := qp_some3 h
    exact qp_retI_E qp_ok126 rfl qp_r126.1 ⟨rfl, rfl⟩ ⟨rfl, rfl⟩
  replace h := qp_iff h2 h
  by_cases h3 : p2 = 2
  · replace h := qp_ift h3 h
    refine qp_run_E qp_ok126 1 (c' := (qp_swt 108 0 5 #[39, 51, 63, 72, 84, 96] 1 p2, [some (.ref 0), some (.int p1), some (.int p2)], [], qp_mk I J)) (by with_unfolding_all rfl) hd1 trivial ?_
    refine qp_E_pc (pc' := 64) (by rw [h3]; rfl) ?_
    refine qp_run_E qp_ok126 3 (c' := (69, [some (.ref 0), some (.int p1), some (.int p2)], [.int p1, .ref 14], qp_mk I J)) (by with_unfolding_all rfl) hd1 trivial ?_
    obtain ⟨v3, I3, J3, e3, h⟩ := qp_bd_s h
    refine qp_cV qp_ok126 (rest := []) (oj := 4) qp_f45 rfl rfl (gL_placeOf l G p1 I J e3 (Nat.le_refl 3)) rfl rfl rfl rfl (Nat.le_trans (by decide) hd) ?_
    obtain ⟨rfl, rfl, rfl⟩ := qp_some3 h
    exact qp_retI_E qp_ok126 rfl qp_r126.1 ⟨rfl, rfl⟩ ⟨rfl, rfl⟩
  replace h := qp_iff h3 h
  by_cases h4 : p2 = 3
  · replace h := qp_ift h4 h
    refine qp_run_E qp_ok126 1 (c' := (qp_swt 108 0 5 #[39, 51, 63, 72, 84, 96] 1 p2, [some (.ref 0), some (.int p1), some (.int p2)], [], qp_mk I J)) (by with_unfolding_all rfl) hd1 trivial ?_
    refine qp_E_pc (pc' := 73) (by rw [h4]; rfl) ?_
    refine qp_run_E qp_ok126 4 (c' := (81, [some (.ref 0), some (.int p1), some (.int p2)], [.int p1, .ref 18], qp_mk I J)) (by with_unfolding_all rfl) hd1 trivial ?_
    obtain ⟨v4, I4, J4, e4, h⟩ := qp_bd_s h
    refine qp_cV qp_ok126 (rest := []) (oj := 5) qp_f83 rfl rfl (gV_wantOf l G p1 I J e4 (Nat.le_refl 1)) rfl rfl rfl rfl (Nat.le_trans (by decide) hd) ?_
    obtain ⟨rfl, rfl, rfl⟩ := qp_some3 h
    exact qp_retI_E qp_ok126 rfl qp_r126.1 ⟨rfl, rfl⟩ ⟨rfl, rfl⟩
  replace h := qp_iff h4 h
  by_cases h5 : p2 = 4
  · replace h := qp_ift h5 h
    refine qp_run_E qp_ok126 1 (c' := (qp_swt 108 0 5 #[39, 51, 63, 72, 84, 96] 1 p2, [some (.ref 0), some (.int p1), some (.int p2)], [], qp_mk I J)) (by with_unfolding_all rfl) hd1 trivial ?_
    refine qp_E_pc (pc' := 85) (by rw [h5]; rfl) ?_
    refine qp_run_E qp_ok126 4 (c' := (93, [some (.ref 0), some (.int p1), some (.int p2)], [.int p1, .ref 18], qp_mk I J)) (by with_unfolding_all rfl) hd1 trivial ?_
    obtain ⟨v5, I5, J5, e5, h⟩ := qp_bd_s h
    refine qp_cV qp_ok126 (rest := []) (oj := 5) qp_f72 rfl rfl (gV_gainOf l G p1 I J e5 (Nat.le_refl 1)) rfl rfl rfl rfl (Nat.le_trans (by decide) hd) ?_
    obtain ⟨rfl, rfl, rfl⟩ := qp_some3 h
    exact qp_retI_E qp_ok126 rfl qp_r126.1 ⟨rfl, rfl⟩ ⟨rfl, rfl⟩
  replace h := qp_iff h5 h
  by_cases h6 : p2 = 5
  · replace h := qp_ift h6 h
    refine qp_run_E qp_ok126 1 (c' := (qp_swt 108 0 5 #[39, 51, 63, 72, 84, 96] 1 p2, [some (.ref 0), some (.int p1), some (.int p2)], [], qp_mk I J)) (by with_unfolding_all rfl) hd1 trivial ?_
    refine qp_E_pc (pc' := 97) (by rw [h6]; rfl) ?_
    refine qp_run_E qp_ok126 4 (c' := (105, [some (.ref 0), some (.int p1), some (.int p2)], [.int p1, .ref 18], qp_mk I J)) (by with_unfolding_all rfl) hd1 trivial ?_
    obtain ⟨v6, I6, J6, e6, h⟩ := qp_bd_s h
    refine qp_cV qp_ok126 (rest := []) (oj := 5) qp_f127 rfl rfl (gV_turnOf l G p1 I J e6 (Nat.le_refl 1)) rfl rfl rfl rfl (Nat.le_trans (by decide) hd) ?_
    obtain ⟨rfl, rfl, rfl⟩ := qp_some3 h
    exact qp_retI_E qp_ok126 rfl qp_r126.1 ⟨rfl, rfl⟩ ⟨rfl, rfl⟩
  replace h := qp_iff h6 h
  refine qp_run_E qp_ok126 1 (c' := (qp_swt 108 0 5 #[39, 51, 63, 72, 84, 96] 1 p2, [some (.ref 0), some (.int p1), some (.int p2)], [], qp_mk I J)) (by with_unfolding_all rfl) hd1 trivial ?_
  refine qp_E_pc (pc' := 109) (qp_swt_df (lo' := 0) (hi' := 5) (by decide) (by decide) (by clear h; grind)) ?_
  refine qp_run_E qp_ok126 3 (c' := (114, [some (.ref 0), some (.int p1), some (.int p2)], [.int p1, .ref 14], qp_mk I J)) (by with_unfolding_all rfl) hd1 trivial ?_
  obtain ⟨v7, I7, J7, e7, h⟩ := qp_bd_s h
  refine qp_cV qp_ok126 (rest := []) (oj := 4) qp_f128 rfl rfl (gL_metBy l G p1 I J e7 (Nat.le_refl 4)) rfl rfl rfl rfl (Nat.le_trans (by decide) hd) ?_
  obtain ⟨rfl, rfl, rfl⟩ := qp_some3 h
  exact qp_retI_E qp_ok126 rfl qp_r126.1 ⟨rfl, rfl⟩ ⟨rfl, rfl⟩
def fX_one (p1 : Int32) (p2 : Int32) (I : Nat → Nat → Int32) (J : Nat → Nat → Int64) : Option (Int32 × (Nat → Nat → Int32) × (Nat → Nat → Int64)) :=
  qp_bd (fC_has_15 p1 I J) fun v1 I1 J1 =>
  if v1 = 0 then (
    some ((-1), I1, J1)
  ) else (
    if p2 < 0 then (
      some ((-1), I1, J1)
    ) else (
      if p2 ≤ 6 then (
        qp_bd (fL_serve (I1 14 2) I1 J1) fun _u I2 J2 =>
        qp_bd (fX_trait p1 p2 I2 J2) fun v3 I3 J3 =>
        qp_bd (fX_tell v3 I3 J3) fun v4 I4 J4 =>
        some (v4, I4, J4)
      ) else (
        some ((-1), I1, J1)
      )
    )
  )
set_option maxRecDepth 8000 in
theorem gX_one (l : Launch) (G : qp_G) (p1 : Int32) (p2 : Int32) (I : Nat → Nat → Int32) (J : Nat → Nat → Int64) {v : Int32} {I' : Nat → Nat → Int32} {J' : Nat → Nat → Int64} (h : fX_one p1 p2 I J = some (v, I', J')) {d : Nat} (hd : 6 ≤ d) : qp_Met l G d 140 [.ref 0, .int p1, .int p2] (qp_mk I J) 0 0 (qp_R8 (some (.int v)) I' J') := by
  have hd1 : Nat.ble 1 d = true := Nat.ble_eq_true_of_le (Nat.le_trans (by decide) hd)
  refine qp_Met_of (by decide) (by rw [qp_r140.2]; rfl) [some (.ref 0), some (.int p1), some (.int p2)] (by rw [qp_r140.2]; rfl) ?_
  unfold fX_one at h
  refine qp_run_E qp_ok140 4 (c' := (8, [some (.ref 0), some (.int p1), some (.int p2)], [.int p1, .ref 15], qp_mk I J)) (by with_unfolding_all rfl) hd1 trivial ?_
  obtain ⟨v1, I1, J1, e1, h⟩ := qp_bd_s h
  refine qp_cV qp_ok140 (rest := []) (oj := 3) qp_f43 rfl rfl (gC_has_15 l G p1 I J e1 (Nat.le_refl 1)) rfl rfl rfl rfl (Nat.le_trans (by decide) hd) ?_
  refine qp_br_E qp_ok140 (f := v1 = 0) (ct := (24, [some (.ref 0), some (.int p1), some (.int p2)], [], qp_mk I1 J1)) (cf := (14, [some (.ref 0), some (.int p1), some (.int p2)], [], qp_mk I1 J1)) (by with_unfolding_all rfl) (fun h1 => ?_) (fun h1 => ?_)
  · replace h := qp_ift h1 h
    refine qp_run_E qp_ok140 1 (c' := (25, [some (.ref 0), some (.int p1), some (.int p2)], [.int (-1)], qp_mk I1 J1)) (by with_unfolding_all rfl) hd1 trivial ?_
    obtain ⟨rfl, rfl, rfl⟩ := qp_some3 h
    exact qp_retI_E qp_ok140 rfl qp_r140.1 ⟨rfl, rfl⟩ ⟨rfl, rfl⟩
  · replace h := qp_iff h1 h
    refine qp_run_E qp_ok140 1 (c' := (15, [some (.ref 0), some (.int p1), some (.int p2)], [.int p2], qp_mk I1 J1)) (by with_unfolding_all rfl) hd1 trivial ?_
    refine qp_br_E qp_ok140 (f := p2 < 0) (ct := (24, [some (.ref 0), some (.int p1), some (.int p2)], [], qp_mk I1 J1)) (cf := (18, [some (.ref 0), some (.int p1), some (.int p2)], [], qp_mk I1 J1)) (by with_unfolding_all rfl) (fun h2 => ?_) (fun h2 => ?_)
    · replace h := qp_ift h2 h
      refine qp_run_E qp_ok140 1 (c' := (25, [some (.ref 0), some (.int p1), some (.int p2)], [.int (-1)], qp_mk I1 J1)) (by with_unfolding_all rfl) hd1 trivial ?_
      obtain ⟨rfl, rfl, rfl⟩ := qp_some3 h
      exact qp_retI_E qp_ok140 rfl qp_r140.1 ⟨rfl, rfl⟩ ⟨rfl, rfl⟩
    · replace h := qp_iff h2 h
      refine qp_run_E qp_ok140 2 (c' := (21, [some (.ref 0), some (.int p1), some (.int p2)], [.int 6, .int p2], qp_mk I1 J1)) (by with_unfolding_all rfl) hd1 trivial ?_
      refine qp_br_E qp_ok140 (f := p2 ≤ 6) (ct := (26, [some (.ref 0), some (.int p1), some (.int p2)], [], qp_mk I1 J1)) (cf := (24, [some (.ref 0), some (.int p1), some (.int p2)], [], qp_mk I1 J1)) (by with_unfolding_all rfl) (fun h3 => ?_) (fun h3 => ?_)
      · replace h := qp_ift h3 h
        refine qp_run_E qp_ok140 5 (c' := (37, [some (.ref 0), some (.int p1), some (.int p2)], [.int (I1 14 2), .ref 14], qp_mk I1 J1)) (by with_unfolding_all rfl) hd1 trivial ?_
        obtain ⟨v2, I2, J2, e2, h⟩ := qp_bd_s h
        refine qp_cV qp_ok140 (rest := []) (oj := 4) qp_f67 rfl rfl (gL_serve l G (I1 14 2) I1 J1 e2 (Nat.le_refl 4)) rfl rfl rfl rfl (Nat.le_trans (by decide) hd) ?_
        refine qp_run_E qp_ok140 4 (c' := (44, [some (.ref 0), some (.int p1), some (.int p2)], [.int p2, .int p1, .ref 0, .ref 0], qp_mk I2 J2)) (by with_unfolding_all rfl) hd1 trivial ?_
        obtain ⟨v3, I3, J3, e3, h⟩ := qp_bd_s h
        refine qp_cV qp_ok140 (rest := [.ref 0]) (oj := 0) qp_f126 rfl rfl (gX_trait l G p1 p2 I2 J2 e3 (Nat.le_refl 5)) rfl rfl rfl rfl (Nat.le_trans (by decide) hd) ?_
        obtain ⟨v4, I4, J4, e4, h⟩ := qp_bd_s h
        refine qp_cV qp_ok140 (rest := []) (oj := 0) qp_f24 rfl rfl (gX_tell l G v3 I3 J3 e4 (Nat.le_refl 1)) rfl rfl rfl rfl (Nat.le_trans (by decide) hd) ?_
        obtain ⟨rfl, rfl, rfl⟩ := qp_some3 h
        exact qp_retI_E qp_ok140 rfl qp_r140.1 ⟨rfl, rfl⟩ ⟨rfl, rfl⟩
      · replace h := qp_iff h3 h
        refine qp_run_E qp_ok140 1 (c' := (25, [some (.ref 0), some (.int p1), some (.int p2)], [.int (-1)], qp_mk I1 J1)) (by with_unfolding_all rfl) hd1 trivial ?_
        obtain ⟨rfl, rfl, rfl⟩ := qp_some3 h
        exact qp_retI_E qp_ok140 rfl qp_r140.1 ⟨rfl, rfl⟩ ⟨rfl, rfl⟩
def fL_canSell (p1 : Int32) (I : Nat → Nat → Int32) (J : Nat → Nat → Int64) : Option (Int32 × (Nat → Nat → Int32) × (Nat → Nat → Int64)) :=
  if 12 ≤ (I 14 4) then (
    some (0, I, J)
  ) else (
    qp_bd (fL_placeOf (p1 / 8) I J) fun v1 I1 J1 =>
    if v1 = (p1 - p1 / 8 * 8) then (
      some (0, I1, J1)
    ) else (
      some (1, I1, J1)
    )
  )
set_option maxRecDepth 8000 in
theorem gL_canSell (l : Launch) (G : qp_G) (p1 : Int32) (I : Nat → Nat → Int32) (J : Nat → Nat → Int64) {v : Int32} {I' : Nat → Nat → Int32} {J' : Nat → Nat → Int64} (h : fL_canSell p1 I J = some (v, I', J')) {d : Nat} (hd : 4 ≤ d) : qp_Met l G d 44 [.ref 14, .int p1] (qp_mk I J) 0 0 (qp_R8 (some (.int v)) I' J') := by
  have hd1 : Nat.ble 1 d = true := Nat.ble_eq_true_of_le (Nat.le_trans (by decide) hd)
  refine qp_Met_of (by decide) (by rw [qp_r44.2]; rfl) [some (.ref 14), some (.int p1)] (by rw [qp_r44.2]; rfl) ?_
  unfold fL_canSell at h
  refine qp_run_E qp_ok44 3 (c' := (6, [some (.ref 14), some (.int p1)], [.int 12, .int (I 14 4)], qp_mk I J)) (by with_unfolding_all rfl) hd1 trivial ?_
  refine qp_br_E qp_ok44 (f := 12 ≤ (I 14 4)) (ct := (28, [some (.ref 14), some (.int p1)], [], qp_mk I J)) (cf := (9, [some (.ref 14), some (.int p1)], [], qp_mk I J)) (by with_unfolding_all rfl) (fun h1 => ?_) (fun h1 => ?_)
  · replace h := qp_ift h1 h
    refine qp_run_E qp_ok44 1 (c' := (29, [some (.ref 14), some (.int p1)], [.int 0], qp_mk I J)) (by with_unfolding_all rfl) hd1 trivial ?_
    obtain ⟨rfl, rfl, rfl⟩ := qp_some3 h
    exact qp_retZ_E qp_ok44 rfl qp_r44.1 rfl ⟨rfl, rfl⟩ ⟨rfl, rfl⟩
  · replace h := qp_iff h1 h
    refine qp_run_E qp_ok44 4 (f := ¬ (8 : Int32) = 0 ∧ True) (c' := (14, [some (.ref 14), some (.int p1)], [.int (p1 / 8), .ref 14], qp_mk I J)) (by with_unfolding_all rfl) hd1 ⟨(by decide), trivial⟩ ?_
    obtain ⟨v1, I1, J1, e1, h⟩ := qp_bd_s h
    refine qp_cV qp_ok44 (rest := []) (oj := 4) qp_f45 rfl rfl (gL_placeOf l G (p1 / 8) I J e1 (Nat.le_refl 3)) rfl rfl rfl rfl (Nat.le_trans (by decide) hd) ?_
    refine qp_run_E qp_ok44 3 (f := ¬ (8 : Int32) = 0 ∧ True) (c' := (21, [some (.ref 14), some (.int p1)], [.int (p1 - p1 / 8 * 8), .int v1], qp_mk I1 J1)) (by with_unfolding_all rfl) hd1 ⟨(by decide), trivial⟩ ?_
    refine qp_br_E qp_ok44 (f := v1 = (p1 - p1 / 8 * 8)) (ct := (28, [some (.ref 14), some (.int p1)], [], qp_mk I1 J1)) (cf := (24, [some (.ref 14), some (.int p1)], [], qp_mk I1 J1)) (by with_unfolding_all rfl) (fun h2 => ?_) (fun h2 => ?_)
    · replace h := qp_ift h2 h
      refine qp_run_E qp_ok44 1 (c' := (29, [some (.ref 14), some (.int p1)], [.int 0], qp_mk I1 J1)) (by with_unfolding_all rfl) hd1 trivial ?_
      obtain ⟨rfl, rfl, rfl⟩ := qp_some3 h
      exact qp_retZ_E qp_ok44 rfl qp_r44.1 rfl ⟨rfl, rfl⟩ ⟨rfl, rfl⟩
    · replace h := qp_iff h2 h
      refine qp_run_E qp_ok44 2 (c' := (29, [some (.ref 14), some (.int p1)], [.int 1], qp_mk I1 J1)) (by with_unfolding_all rfl) hd1 trivial ?_
      obtain ⟨rfl, rfl, rfl⟩ := qp_some3 h
      exact qp_retZ_E qp_ok44 rfl qp_r44.1 rfl ⟨rfl, rfl⟩ ⟨rfl, rfl⟩
def fD_ahead (p0 : Int32) (p1 : Int32) (I : Nat → Nat → Int32) (J : Nat → Nat → Int64) : Option (Int32 × (Nat → Nat → Int32) × (Nat → Nat → Int64)) :=
  some ((p0 &&& (((1 : Int32) <<< (((3 : Int32) * p1) &&& 31)) - 1)), I, J)
set_option maxRecDepth 8000 in
theorem gD_ahead (l : Launch) (G : qp_G) (p0 : Int32) (p1 : Int32) (I : Nat → Nat → Int32) (J : Nat → Nat → Int64) {v : Int32} {I' : Nat → Nat → Int32} {J' : Nat → Nat → Int64} (h : fD_ahead p0 p1 I J = some (v, I', J')) {d : Nat} (hd : 1 ≤ d) : qp_Met l G d 51 [.int p0, .int p1] (qp_mk I J) 0 0 (qp_R8 (some (.int v)) I' J') := by
  have hd1 : Nat.ble 1 d = true := Nat.ble_eq_true_of_le (Nat.le_trans (by decide) hd)
  refine qp_Met_of (by decide) (by rw [qp_r51.2]; rfl) [some (.int p0), some (.int p1)] (by rw [qp_r51.2]; rfl) ?_
  unfold fD_ahead at h
  refine qp_run_E qp_ok51 9 (c' := (9, [some (.int p0), some (.int p1)], [.int (p0 &&& (((1 : Int32) <<< (((3 : Int32) * p1) &&& 31)) - 1))], qp_mk I J)) (by with_unfolding_all rfl) hd1 trivial ?_
  obtain ⟨rfl, rfl, rfl⟩ := qp_some3 h
  exact qp_retI_E qp_ok51 rfl qp_r51.1 ⟨rfl, rfl⟩ ⟨rfl, rfl⟩
def fD_behind (p0 : Int32) (p1 : Int32) (I : Nat → Nat → Int32) (J : Nat → Nat → Int64) : Option (Int32 × (Nat → Nat → Int32) × (Nat → Nat → Int64)) :=
  some ((p0 >>> (((3 : Int32) * p1) &&& 31)), I, J)
set_option maxRecDepth 8000 in
theorem gD_behind (l : Launch) (G : qp_G) (p0 : Int32) (p1 : Int32) (I : Nat → Nat → Int32) (J : Nat → Nat → Int64) {v : Int32} {I' : Nat → Nat → Int32} {J' : Nat → Nat → Int64} (h : fD_behind p0 p1 I J = some (v, I', J')) {d : Nat} (hd : 1 ≤ d) : qp_Met l G d 52 [.int p0, .int p1] (qp_mk I J) 0 0 (qp_R8 (some (.int v)) I' J') := by
  have hd1 : Nat.ble 1 d = true := Nat.ble_eq_true_of_le (Nat.le_trans (by decide) hd)
  refine qp_Met_of (by decide) (by rw [qp_r52.2]; rfl) [some (.int p0), some (.int p1)] (by rw [qp_r52.2]; rfl) ?_
  unfold fD_behind at h
  refine qp_run_E qp_ok52 5 (c' := (5, [some (.int p0), some (.int p1)], [.int (p0 >>> (((3 : Int32) * p1) &&& 31))], qp_mk I J)) (by with_unfolding_all rfl) hd1 trivial ?_
  obtain ⟨rfl, rfl, rfl⟩ := qp_some3 h
  exact qp_retI_E qp_ok52 rfl qp_r52.1 ⟨rfl, rfl⟩ ⟨rfl, rfl⟩
def fD_by (p0 : Int32) (p1 : Int32) (p2 : Int32) (I : Nat → Nat → Int32) (J : Nat → Nat → Int64) : Option (Int32 × (Nat → Nat → Int32) × (Nat → Nat → Int64)) :=
  qp_bd (fD_placeOf p0 p1 (p2 / 8) I J) fun v1 I1 J1 =>
  if p1 ≤ v1 then (
    some (p0, I1, J1)
  ) else (
    if (p2 - p2 / 8 * 8) < p1 then (
      qp_bd (fD_ahead p0 v1 I1 J1) fun v2 I2 J2 =>
      qp_bd (fD_behind p0 (v1 + 1) I2 J2) fun v3 I3 J3 =>
      qp_bd (fD_ahead (v2 ||| (v3 <<< (((3 : Int32) * v1) &&& 31))) (p2 - p2 / 8 * 8) I3 J3) fun v4 I4 J4 =>
      qp_bd (fD_behind (v2 ||| (v3 <<< (((3 : Int32) * v1) &&& 31))) (p2 - p2 / 8 * 8) I4 J4) fun v5 I5 J5 =>
      some (((v4 ||| ((p2 / 8) <<< (((3 : Int32) * (p2 - p2 / 8 * 8)) &&& 31))) ||| (v5 <<< (((3 : Int32) * ((p2 - p2 / 8 * 8) + 1)) &&& 31))), I5, J5)
    ) else (
      some (p0, I1, J1)
    )
  )
set_option maxRecDepth 8000 in
theorem gD_by (l : Launch) (G : qp_G) (p0 : Int32) (p1 : Int32) (p2 : Int32) (I : Nat → Nat → Int32) (J : Nat → Nat → Int64) {v : Int32} {I' : Nat → Nat → Int32} {J' : Nat → Nat → Int64} (h : fD_by p0 p1 p2 I J = some (v, I', J')) {d : Nat} (hd : 3 ≤ d) : qp_Met l G d 50 [.int p0, .int p1, .int p2] (qp_mk I J) 0 0 (qp_R8 (some (.int v)) I' J') := by
  have hd1 : Nat.ble 1 d = true := Nat.ble_eq_true_of_le (Nat.le_trans (by decide) hd)
  refine qp_Met_of (by decide) (by rw [qp_r50.2]; rfl) [some (.int p0), some (.int p1), some (.int p2), none, none, none, none] (by rw [qp_r50.2]; rfl) ?_
  unfold fD_by at h
  refine qp_run_E qp_ok50 11 (f := ¬ (8 : Int32) = 0 ∧ ¬ (8 : Int32) = 0 ∧ True) (c' := (14, [some (.int p0), some (.int p1), some (.int p2), some (.int (p2 / 8)), some (.int (p2 - p2 / 8 * 8)), none, none], [.int (p2 / 8), .int p1, .int p0], qp_mk I J)) (by with_unfolding_all rfl) hd1 ⟨(by decide), (by decide), trivial⟩ ?_
  obtain ⟨v1, I1, J1, e1, h⟩ := qp_bd_s h
  refine qp_cS qp_ok50 (rest := []) (oj := 10) qp_f46 rfl rfl (gD_placeOf l G p0 p1 (p2 / 8) I J e1 (Nat.le_refl 2)) rfl rfl rfl (Nat.le_trans (by decide) hd) ?_
  refine qp_run_E qp_ok50 3 (c' := (22, [some (.int p0), some (.int p1), some (.int p2), some (.int (p2 / 8)), some (.int (p2 - p2 / 8 * 8)), some (.int v1), none], [.int p1, .int v1], qp_mk I1 J1)) (by with_unfolding_all rfl) hd1 trivial ?_
  refine qp_br_E qp_ok50 (f := p1 ≤ v1) (ct := (31, [some (.int p0), some (.int p1), some (.int p2), some (.int (p2 / 8)), some (.int (p2 - p2 / 8 * 8)), some (.int v1), none], [], qp_mk I1 J1)) (cf := (25, [some (.int p0), some (.int p1), some (.int p2), some (.int (p2 / 8)), some (.int (p2 - p2 / 8 * 8)), some (.int v1), none], [], qp_mk I1 J1)) (by with_unfolding_all rfl) (fun h1 => ?_) (fun h1 => ?_)
  · replace h := qp_ift h1 h
    refine qp_run_E qp_ok50 1 (c' := (32, [some (.int p0), some (.int p1), some (.int p2), some (.int (p2 / 8)), some (.int (p2 - p2 / 8 * 8)), some (.int v1), none], [.int p0], qp_mk I1 J1)) (by with_unfolding_all rfl) hd1 trivial ?_
    obtain ⟨rfl, rfl, rfl⟩ := qp_some3 h
    exact qp_retI_E qp_ok50 rfl qp_r50.1 ⟨rfl, rfl⟩ ⟨rfl, rfl⟩
  · replace h := qp_iff h1 h
    refine qp_run_E qp_ok50 2 (c' := (28, [some (.int p0), some (.int p1), some (.int p2), some (.int (p2 / 8)), some (.int (p2 - p2 / 8 * 8)), some (.int v1), none], [.int p1, .int (p2 - p2 / 8 * 8)], qp_mk I1 J1)) (by with_unfolding_all rfl) hd1 trivial ?_
    refine qp_br_E qp_ok50 (f := (p2 - p2 / 8 * 8) < p1) (ct := (33, [some (.int p0), some (.int p1), some (.int p2), some (.int (p2 / 8)), some (.int (p2 - p2 / 8 * 8)), some (.int v1), none], [], qp_mk I1 J1)) (cf := (31, [some (.int p0), some (.int p1), some (.int p2), some (.int (p2 / 8)), some (.int (p2 - p2 / 8 * 8)), some (.int v1), none], [], qp_mk I1 J1)) (by with_unfolding_all rfl) (fun h2 => ?_) (fun h2 => ?_)
    · replace h := qp_ift h2 h
      refine qp_run_E qp_ok50 2 (c' := (36, [some (.int p0), some (.int p1), some (.int p2), some (.int (p2 / 8)), some (.int (p2 - p2 / 8 * 8)), some (.int v1), none], [.int v1, .int p0], qp_mk I1 J1)) (by with_unfolding_all rfl) hd1 trivial ?_
      obtain ⟨v2, I2, J2, e2, h⟩ := qp_bd_s h
      refine qp_cS qp_ok50 (rest := []) (oj := 10) qp_f51 rfl rfl (gD_ahead l G p0 v1 I1 J1 e2 (Nat.le_refl 1)) rfl rfl rfl (Nat.le_trans (by decide) hd) ?_
      refine qp_run_E qp_ok50 4 (c' := (44, [some (.int p0), some (.int p1), some (.int p2), some (.int (p2 / 8)), some (.int (p2 - p2 / 8 * 8)), some (.int v1), none], [.int (v1 + 1), .int p0, .int v2], qp_mk I2 J2)) (by with_unfolding_all rfl) hd1 trivial ?_
      obtain ⟨v3, I3, J3, e3, h⟩ := qp_bd_s h
      refine qp_cS qp_ok50 (rest := [.int v2]) (oj := 10) qp_f52 rfl rfl (gD_behind l G p0 (v1 + 1) I2 J2 e3 (Nat.le_refl 1)) rfl rfl rfl (Nat.le_trans (by decide) hd) ?_
      refine qp_run_E qp_ok50 8 (c' := (59, [some (.int p0), some (.int p1), some (.int p2), some (.int (p2 / 8)), some (.int (p2 - p2 / 8 * 8)), some (.int v1), some (.int (v2 ||| (v3 <<< (((3 : Int32) * v1) &&& 31))))], [.int (p2 - p2 / 8 * 8), .int (v2 ||| (v3 <<< (((3 : Int32) * v1) &&& 31)))], qp_mk I3 J3)) (by with_unfolding_all rfl) hd1 trivial ?_
      obtain ⟨v4, I4, J4, e4, h⟩ := qp_bd_s h
      refine qp_cS qp_ok50 (rest := []) (oj := 10) qp_f51 rfl rfl (gD_ahead l G (v2 ||| (v3 <<< (((3 : Int32) * v1) &&& 31))) (p2 - p2 / 8 * 8) I3 J3 e4 (Nat.le_refl 1)) rfl rfl rfl (Nat.le_trans (by decide) hd) ?_
      refine qp_run_E qp_ok50 8 (c' := (73, [some (.int p0), some (.int p1), some (.int p2), some (.int (p2 / 8)), some (.int (p2 - p2 / 8 * 8)), some (.int v1), some (.int (v2 ||| (v3 <<< (((3 : Int32) * v1) &&& 31))))], [.int (p2 - p2 / 8 * 8), .int (v2 ||| (v3 <<< (((3 : Int32) * v1) &&& 31))), .int (v4 ||| ((p2 / 8) <<< (((3 : Int32) * (p2 - p2 / 8 * 8)) &&& 31)))], qp_mk I4 J4)) (by with_unfolding_all rfl) hd1 trivial ?_
      obtain ⟨v5, I5, J5, e5, h⟩ := qp_bd_s h
      refine qp_cS qp_ok50 (rest := [.int (v4 ||| ((p2 / 8) <<< (((3 : Int32) * (p2 - p2 / 8 * 8)) &&& 31)))]) (oj := 10) qp_f52 rfl rfl (gD_behind l G (v2 ||| (v3 <<< (((3 : Int32) * v1) &&& 31))) (p2 - p2 / 8 * 8) I4 J4 e5 (Nat.le_refl 1)) rfl rfl rfl (Nat.le_trans (by decide) hd) ?_
      refine qp_run_E qp_ok50 7 (c' := (84, [some (.int p0), some (.int p1), some (.int p2), some (.int (p2 / 8)), some (.int (p2 - p2 / 8 * 8)), some (.int v1), some (.int (v2 ||| (v3 <<< (((3 : Int32) * v1) &&& 31))))], [.int ((v4 ||| ((p2 / 8) <<< (((3 : Int32) * (p2 - p2 / 8 * 8)) &&& 31))) ||| (v5 <<< (((3 : Int32) * ((p2 - p2 / 8 * 8) + 1)) &&& 31)))], qp_mk I5 J5)) (by with_unfolding_all rfl) hd1 trivial ?_
      obtain ⟨rfl, rfl, rfl⟩ := qp_some3 h
      exact qp_retI_E qp_ok50 rfl qp_r50.1 ⟨rfl, rfl⟩ ⟨rfl, rfl⟩
    · replace h := qp_iff h2 h
      refine qp_run_E qp_ok50 1 (c' := (32, [some (.int p0), some (.int p1), some (.int p2), some (.int (p2 / 8)), some (.int (p2 - p2 / 8 * 8)), some (.int v1), none], [.int p0], qp_mk I1 J1)) (by with_unfolding_all rfl) hd1 trivial ?_
      obtain ⟨rfl, rfl, rfl⟩ := qp_some3 h
      exact qp_retI_E qp_ok50 rfl qp_r50.1 ⟨rfl, rfl⟩ ⟨rfl, rfl⟩
def fL_sell (p1 : Int32) (I : Nat → Nat → Int32) (J : Nat → Nat → Int64) : Option (Unit × (Nat → Nat → Int32) × (Nat → Nat → Int64)) :=
  if (I 14 4) < 0 then (
    some ((), I, J)
  ) else (
    if 12 ≤ (I 14 4) then (
      some ((), I, J)
    ) else (
      qp_gd ((0 ≤ (I 14 4) ∧ (I 14 4) < 12)) <|
      qp_bd (fD_by (I 14 2) (I 15 0) p1 (qp_up (qp_up I 23 (Int32.toNatClampNeg (I 14 4)) p1) 14 4 ((I 14 4) + 1)) J) fun v1 I1 J1 =>
      some ((), (qp_up I1 14 2 v1), J1)
    )
  )
set_option maxRecDepth 8000 in
theorem gL_sell (l : Launch) (G : qp_G) (p1 : Int32) (I : Nat → Nat → Int32) (J : Nat → Nat → Int64) {v : Unit} {I' : Nat → Nat → Int32} {J' : Nat → Nat → Int64} (h : fL_sell p1 I J = some (v, I', J')) {d : Nat} (hd : 4 ≤ d) : qp_Met l G d 49 [.ref 14, .int p1] (qp_mk I J) 0 0 (qp_R8 none I' J') := by
  have hd1 : Nat.ble 1 d = true := Nat.ble_eq_true_of_le (Nat.le_trans (by decide) hd)
  refine qp_Met_of (by decide) (by rw [qp_r49.2]; rfl) [some (.ref 14), some (.int p1)] (by rw [qp_r49.2]; rfl) ?_
  unfold fL_sell at h
  refine qp_run_E qp_ok49 2 (c' := (4, [some (.ref 14), some (.int p1)], [.int (I 14 4)], qp_mk I J)) (by with_unfolding_all rfl) hd1 trivial ?_
  refine qp_br_E qp_ok49 (f := (I 14 4) < 0) (ct := (58, [some (.ref 14), some (.int p1)], [], qp_mk I J)) (cf := (7, [some (.ref 14), some (.int p1)], [], qp_mk I J)) (by with_unfolding_all rfl) (fun h1 => ?_) (fun h1 => ?_)
  · replace h := qp_ift h1 h
    obtain ⟨rfl, rfl, rfl⟩ := qp_some3 h
    exact qp_retV_E qp_ok49 rfl qp_r49.1 ⟨rfl, rfl⟩ ⟨rfl, rfl⟩
  · replace h := qp_iff h1 h
    refine qp_run_E qp_ok49 5 (c' := (16, [some (.ref 14), some (.int p1)], [.int 12, .int (I 14 4)], qp_mk I J)) (by with_unfolding_all rfl) hd1 trivial ?_
    refine qp_br_E qp_ok49 (f := 12 ≤ (I 14 4)) (ct := (58, [some (.ref 14), some (.int p1)], [], qp_mk I J)) (cf := (19, [some (.ref 14), some (.int p1)], [], qp_mk I J)) (by with_unfolding_all rfl) (fun h2 => ?_) (fun h2 => ?_)
    · replace h := qp_ift h2 h
      obtain ⟨rfl, rfl, rfl⟩ := qp_some3 h
      exact qp_retV_E qp_ok49 rfl qp_r49.1 ⟨rfl, rfl⟩ ⟨rfl, rfl⟩
    · replace h := qp_iff h2 h
      obtain ⟨h3, h⟩ := qp_gd_s h
      refine qp_run_E qp_ok49 19 (f := vp_in (I 14 4) 12 ∧ True) (c' := (52, [some (.ref 14), some (.int p1)], [.int p1, .int (I 15 0), .int (I 14 2), .ref 14], qp_mk (qp_up (qp_up I 23 (Int32.toNatClampNeg (I 14 4)) p1) 14 4 ((I 14 4) + 1)) J)) (by with_unfolding_all rfl) hd1 ⟨(qp_vin (c := 12) (by decide) h3.1 h3.2), trivial⟩ ?_
      obtain ⟨v1, I1, J1, e1, h⟩ := qp_bd_s h
      refine qp_cS qp_ok49 (rest := [.ref 14]) (oj := 10) qp_f50 rfl rfl (gD_by l G (I 14 2) (I 15 0) p1 (qp_up (qp_up I 23 (Int32.toNatClampNeg (I 14 4)) p1) 14 4 ((I 14 4) + 1)) J e1 (Nat.le_refl 3)) rfl rfl rfl (Nat.le_trans (by decide) hd) ?_
      refine qp_run_E qp_ok49 1 (c' := (58, [some (.ref 14), some (.int p1)], [], qp_mk (qp_up I1 14 2 v1) J1)) (by with_unfolding_all rfl) hd1 trivial ?_
      obtain ⟨rfl, rfl, rfl⟩ := qp_some3 h
      exact qp_retV_E qp_ok49 rfl qp_r49.1 ⟨rfl, rfl⟩ ⟨rfl, rfl⟩

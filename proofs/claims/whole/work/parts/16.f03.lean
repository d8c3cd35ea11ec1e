/-! methods as functions, 3 -/
def fS_get_7 (p1 : Int32) (p2 : Int32) (I : Nat → Nat → Int32) (J : Nat → Nat → Int64) : Option (Int32 × (Nat → Nat → Int32) × (Nat → Nat → Int64)) :=
  qp_bd (fS_hasPlace_7 p1 p2 I J) fun v1 I1 J1 =>
  if v1 = 0 then (
    some (0, I1, J1)
  ) else (
    if ((p1 * (I 7 0)) + p2) < 0 then (
      some (0, I1, J1)
    ) else (
      if 120 ≤ ((p1 * (I 7 0)) + p2) then (
        some (0, I1, J1)
      ) else (
        qp_gd ((0 ≤ ((p1 * (I 7 0)) + p2) ∧ ((p1 * (I 7 0)) + p2) < 120)) <|
        some ((I1 9 (Int32.toNatClampNeg ((p1 * (I 7 0)) + p2))), I1, J1)
      )
    )
  )
set_option maxRecDepth 8000 in
theorem gS_get_7 (l : Launch) (G : qp_G) (p1 : Int32) (p2 : Int32) (I : Nat → Nat → Int32) (J : Nat → Nat → Int64) {v : Int32} {I' : Nat → Nat → Int32} {J' : Nat → Nat → Int64} (h : fS_get_7 p1 p2 I J = some (v, I', J')) {d : Nat} (hd : 3 ≤ d) : qp_Met l G d 23 [.ref 7, .int p1, .int p2] (qp_mk I J) 0 0 (qp_R8 (some (.int v)) I' J') := by
  have hd1 : Nat.ble 1 d = true := Nat.ble_eq_true_of_le (Nat.le_trans (by decide) hd)
  refine qp_Met_of (by decide) (by rw [qp_r23.2]; rfl) [some (.ref 7), some (.int p1), some (.int p2), none] (by rw [qp_r23.2]; rfl) ?_
  unfold fS_get_7 at h
  refine qp_run_E qp_ok23 10 (c' := (12, [some (.ref 7), some (.int p1), some (.int p2), some (.int ((p1 * (I 7 0)) + p2))], [.int p2, .int p1, .ref 7], qp_mk I J)) (by with_unfolding_all rfl) hd1 trivial ?_
  obtain ⟨v1, I1, J1, e1, h⟩ := qp_bd_s h
  refine qp_cV qp_ok23 (rest := []) (oj := 1) qp_f17 rfl rfl (gS_hasPlace_7 l G p1 p2 I J e1 (Nat.le_refl 2)) rfl rfl rfl rfl (Nat.le_trans (by decide) hd) ?_
  refine qp_br_E qp_ok23 (f := v1 = 0) (ct := (40, [some (.ref 7), some (.int p1), some (.int p2), some (.int ((p1 * (I 7 0)) + p2))], [], qp_mk I1 J1)) (cf := (18, [some (.ref 7), some (.int p1), some (.int p2), some (.int ((p1 * (I 7 0)) + p2))], [], qp_mk I1 J1)) (by with_unfolding_all rfl) (fun h1 => ?_) (fun h1 => ?_)
  · replace h := qp_ift h1 h
    refine qp_run_E qp_ok23 1 (c' := (41, [some (.ref 7), some (.int p1), some (.int p2), some (.int ((p1 * (I 7 0)) + p2))], [.int 0], qp_mk I1 J1)) (by with_unfolding_all rfl) hd1 trivial ?_
    obtain ⟨rfl, rfl, rfl⟩ := qp_some3 h
    exact qp_retI_E qp_ok23 rfl qp_r23.1 ⟨rfl, rfl⟩ ⟨rfl, rfl⟩
  · replace h := qp_iff h1 h
    refine qp_run_E qp_ok23 1 (c' := (19, [some (.ref 7), some (.int p1), some (.int p2), some (.int ((p1 * (I 7 0)) + p2))], [.int ((p1 * (I 7 0)) + p2)], qp_mk I1 J1)) (by with_unfolding_all rfl) hd1 trivial ?_
    refine qp_br_E qp_ok23 (f := ((p1 * (I 7 0)) + p2) < 0) (ct := (40, [some (.ref 7), some (.int p1), some (.int p2), some (.int ((p1 * (I 7 0)) + p2))], [], qp_mk I1 J1)) (cf := (22, [some (.ref 7), some (.int p1), some (.int p2), some (.int ((p1 * (I 7 0)) + p2))], [], qp_mk I1 J1)) (by with_unfolding_all rfl) (fun h2 => ?_) (fun h2 => ?_)
    · replace h := qp_ift h2 h
      refine qp_run_E qp_ok23 1 (c' := (41, [some (.ref 7), some (.int p1), some (.int p2), some (.int ((p1 * (I 7 0)) + p2))], [.int 0], qp_mk I1 J1)) (by with_unfolding_all rfl) hd1 trivial ?_
      obtain ⟨rfl, rfl, rfl⟩ := qp_some3 h
      exact qp_retI_E qp_ok23 rfl qp_r23.1 ⟨rfl, rfl⟩ ⟨rfl, rfl⟩
    · replace h := qp_iff h2 h
      refine qp_run_E qp_ok23 4 (c' := (28, [some (.ref 7), some (.int p1), some (.int p2), some (.int ((p1 * (I 7 0)) + p2))], [.int 120, .int ((p1 * (I 7 0)) + p2)], qp_mk I1 J1)) (by with_unfolding_all rfl) hd1 trivial ?_
      refine qp_br_E qp_ok23 (f := 120 ≤ ((p1 * (I 7 0)) + p2)) (ct := (40, [some (.ref 7), some (.int p1), some (.int p2), some (.int ((p1 * (I 7 0)) + p2))], [], qp_mk I1 J1)) (cf := (31, [some (.ref 7), some (.int p1), some (.int p2), some (.int ((p1 * (I 7 0)) + p2))], [], qp_mk I1 J1)) (by with_unfolding_all rfl) (fun h3 => ?_) (fun h3 => ?_)
      · replace h := qp_ift h3 h
        refine qp_run_E qp_ok23 1 (c' := (41, [some (.ref 7), some (.int p1), some (.int p2), some (.int ((p1 * (I 7 0)) + p2))], [.int 0], qp_mk I1 J1)) (by with_unfolding_all rfl) hd1 trivial ?_
        obtain ⟨rfl, rfl, rfl⟩ := qp_some3 h
        exact qp_retI_E qp_ok23 rfl qp_r23.1 ⟨rfl, rfl⟩ ⟨rfl, rfl⟩
      · replace h := qp_iff h3 h
        obtain ⟨h4, h⟩ := qp_gd_s h
        refine qp_run_E qp_ok23 5 (f := vp_in ((p1 * (I 7 0)) + p2) 120 ∧ True) (c' := (41, [some (.ref 7), some (.int p1), some (.int p2), some (.int ((p1 * (I 7 0)) + p2))], [.int (I1 9 (Int32.toNatClampNeg ((p1 * (I 7 0)) + p2)))], qp_mk I1 J1)) (by with_unfolding_all rfl) hd1 ⟨(qp_vin (c := 120) (by decide) h4.1 h4.2), trivial⟩ ?_
        obtain ⟨rfl, rfl, rfl⟩ := qp_some3 h
        exact qp_retI_E qp_ok23 rfl qp_r23.1 ⟨rfl, rfl⟩ ⟨rfl, rfl⟩
def fX_on_b35  : Nat → Int32 → Int32 → Int32 → (Nat → Nat → Int32) → (Nat → Nat → Int64) → Option (Int32 × (Nat → Nat → Int32) × (Nat → Nat → Int64))
  | 0, _, _, _, _, _ => none
  | n + 1, a1, a3, a4, I, J =>
    if a3 ≤ a4 then (
      some (a3, I, J)
    ) else (
      qp_bd (fS_get_7 a1 a4 I J) fun v1 I1 J1 =>
      qp_bd (fS_get_7 a1 a4 I1 J1) fun v2 I2 J2 =>
      qp_bd (fL_act (v1 / 64) (v2 - v2 / 64 * 64) I2 J2) fun _u I3 J3 =>
      fX_on_b35 n a1 a3 (a4 + 1) I3 J3
    )
set_option maxRecDepth 8000 in
theorem gX_on_b35 {l : Launch} {G : qp_G} {d : Nat} (hd : 6 ≤ d) {r : (Int32 × (Nat → Nat → Int32) × (Nat → Nat → Int64))} {I0 : Nat → Nat → Int32} {J0 : Nat → Nat → Int64}   : ∀ (n : Nat) (a1 : Int32) (a3 : Int32) (a4 : Int32) (I : Nat → Nat → Int32) (J : Nat → Nat → Int64), fX_on_b35  n a1 a3 a4 I J = some r → qp_E l G d 87 (qp_mk I0 J0) 0 0 (qp_R8 (some (.int r.1)) r.2.1 r.2.2) (35, [some (.ref 0), some (.int a1), none, some (.int a3), some (.int a4)], [], qp_mk I J) := by
  have hd1 : Nat.ble 1 d = true := Nat.ble_eq_true_of_le (Nat.le_trans (by decide) hd)
  intro n
  induction n with
  | zero => intro a1 a3 a4 I J h; exact absurd h (by simp [fX_on_b35])
  | succ n ih =>
    intro a1 a3 a4 I J h
    rw [fX_on_b35] at h
    refine qp_run_E qp_ok87 2 (c' := (38, [some (.ref 0), some (.int a1), none, some (.int a3), some (.int a4)], [.int a3, .int a4], qp_mk I J)) (by with_unfolding_all rfl) hd1 trivial ?_
    refine qp_br_E qp_ok87 (f := a3 ≤ a4) (ct := (80, [some (.ref 0), some (.int a1), none, some (.int a3), some (.int a4)], [], qp_mk I J)) (cf := (41, [some (.ref 0), some (.int a1), none, some (.int a3), some (.int a4)], [], qp_mk I J)) (by with_unfolding_all rfl) (fun h1 => ?_) (fun h1 => ?_)
    · replace h := qp_ift h1 h
      refine qp_run_E qp_ok87 1 (c' := (81, [some (.ref 0), some (.int a1), none, some (.int a3), some (.int a4)], [.int a3], qp_mk I J)) (by with_unfolding_all rfl) hd1 trivial ?_
      obtain rfl := Option.some.inj h
      exact qp_retI_E qp_ok87 rfl qp_r87.1 ⟨rfl, rfl⟩ ⟨rfl, rfl⟩
    · replace h := qp_iff h1 h
      refine qp_run_E qp_ok87 6 (c' := (52, [some (.ref 0), some (.int a1), none, some (.int a3), some (.int a4)], [.int a4, .int a1, .ref 7, .ref 14], qp_mk I J)) (by with_unfolding_all rfl) hd1 trivial ?_
      obtain ⟨v1, I1, J1, e1, h⟩ := qp_bd_s h
      refine qp_cV qp_ok87 (rest := [.ref 14]) (oj := 1) qp_f23 rfl rfl (gS_get_7 l G a1 a4 I J e1 (Nat.le_refl 3)) rfl rfl rfl rfl (Nat.le_trans (by decide) hd) ?_
      refine qp_run_E qp_ok87 6 (f := ¬ (64 : Int32) = 0 ∧ True) (c' := (65, [some (.ref 0), some (.int a1), none, some (.int a3), some (.int a4)], [.int a4, .int a1, .ref 7, .int (v1 / 64), .ref 14], qp_mk I1 J1)) (by with_unfolding_all rfl) hd1 ⟨(by decide), trivial⟩ ?_
      obtain ⟨v2, I2, J2, e2, h⟩ := qp_bd_s h
      refine qp_cV qp_ok87 (rest := [.int (v1 / 64), .ref 14]) (oj := 1) qp_f23 rfl rfl (gS_get_7 l G a1 a4 I1 J1 e2 (Nat.le_refl 3)) rfl rfl rfl rfl (Nat.le_trans (by decide) hd) ?_
      refine qp_run_E qp_ok87 2 (f := ¬ (64 : Int32) = 0 ∧ True) (c' := (71, [some (.ref 0), some (.int a1), none, some (.int a3), some (.int a4)], [.int (v2 - v2 / 64 * 64), .int (v1 / 64), .ref 14], qp_mk I2 J2)) (by with_unfolding_all rfl) hd1 ⟨(by decide), trivial⟩ ?_
      obtain ⟨v3, I3, J3, e3, h⟩ := qp_bd_s h
      refine qp_cV qp_ok87 (rest := []) (oj := 4) qp_f74 rfl rfl (gL_act l G (v1 / 64) (v2 - v2 / 64 * 64) I2 J2 e3 (Nat.le_refl 5)) rfl rfl rfl rfl (Nat.le_trans (by decide) hd) ?_
      refine qp_run_E qp_ok87 2 (c' := (35, [some (.ref 0), some (.int a1), none, some (.int a3), some (.int (a4 + 1))], [], qp_mk I3 J3)) (by with_unfolding_all rfl) hd1 trivial ?_
      exact ih a1 a3 (a4 + 1) I3 J3 h
def fX_on (p1 : Int32) (I : Nat → Nat → Int32) (J : Nat → Nat → Int64) : Option (Int32 × (Nat → Nat → Int32) × (Nat → Nat → Int64)) :=
  qp_bd (fX_refusalOf_0_7 p1 I J) fun v1 I1 J1 =>
  if v1 = 0 then (
    qp_bd (fL_restart I1 J1) fun _u I2 J2 =>
    qp_bd (fS_sizeOf_7 p1 I2 J2) fun v3 I3 J3 =>
    fX_on_b35 100000 p1 v3 0 I3 J3
  ) else (
    some (v1, I1, J1)
  )
set_option maxRecDepth 8000 in
theorem gX_on (l : Launch) (G : qp_G) (p1 : Int32) (I : Nat → Nat → Int32) (J : Nat → Nat → Int64) {v : Int32} {I' : Nat → Nat → Int32} {J' : Nat → Nat → Int64} (h : fX_on p1 I J = some (v, I', J')) {d : Nat} (hd : 6 ≤ d) : qp_Met l G d 87 [.ref 0, .int p1] (qp_mk I J) 0 0 (qp_R8 (some (.int v)) I' J') := by
  have hd1 : Nat.ble 1 d = true := Nat.ble_eq_true_of_le (Nat.le_trans (by decide) hd)
  refine qp_Met_of (by decide) (by rw [qp_r87.2]; rfl) [some (.ref 0), some (.int p1), none, none, none] (by rw [qp_r87.2]; rfl) ?_
  unfold fX_on at h
  refine qp_run_E qp_ok87 4 (c' := (6, [some (.ref 0), some (.int p1), none, none, none], [.int p1, .ref 7, .ref 0], qp_mk I J)) (by with_unfolding_all rfl) hd1 trivial ?_
  obtain ⟨v1, I1, J1, e1, h⟩ := qp_bd_s h
  refine qp_cV qp_ok87 (rest := []) (oj := 0) qp_f20 rfl rfl (gX_refusalOf_0_7 l G p1 I J e1 (Nat.le_refl 4)) rfl rfl rfl rfl (Nat.le_trans (by decide) hd) ?_
  refine qp_run_E qp_ok87 2 (c' := (11, [some (.ref 0), some (.int p1), some (.int v1), none, none], [.int v1], qp_mk I1 J1)) (by with_unfolding_all rfl) hd1 trivial ?_
  refine qp_br_E qp_ok87 (f := v1 = 0) (ct := (16, [some (.ref 0), some (.int p1), some (.int v1), none, none], [], qp_mk I1 J1)) (cf := (14, [some (.ref 0), some (.int p1), some (.int v1), none, none], [], qp_mk I1 J1)) (by with_unfolding_all rfl) (fun h1 => ?_) (fun h1 => ?_)
  · replace h := qp_ift h1 h
    refine qp_run_E qp_ok87 2 (c' := (20, [some (.ref 0), some (.int p1), some (.int v1), none, none], [.ref 14], qp_mk I1 J1)) (by with_unfolding_all rfl) hd1 trivial ?_
    obtain ⟨v2, I2, J2, e2, h⟩ := qp_bd_s h
    refine qp_cV qp_ok87 (rest := []) (oj := 4) qp_f49 rfl rfl (gL_restart l G I1 J1 e2 (Nat.le_refl 3)) rfl rfl rfl rfl (Nat.le_trans (by decide) hd) ?_
    refine qp_run_E qp_ok87 3 (c' := (28, [some (.ref 0), some (.int p1), some (.int v1), none, none], [.int p1, .ref 7], qp_mk I2 J2)) (by with_unfolding_all rfl) hd1 trivial ?_
    obtain ⟨v3, I3, J3, e3, h⟩ := qp_bd_s h
    refine qp_cV qp_ok87 (rest := []) (oj := 1) qp_f22 rfl rfl (gS_sizeOf_7 l G p1 I2 J2 e3 (Nat.le_refl 2)) rfl rfl rfl rfl (Nat.le_trans (by decide) hd) ?_
    refine qp_run_E qp_ok87 3 (c' := (35, [some (.ref 0), some (.int p1), some (.int v1), some (.int v3), some (.int 0)], [], qp_mk I3 J3)) (by with_unfolding_all rfl) hd1 trivial ?_
    exact qp_E_fg [true, true, false, true, true] (gX_on_b35 hd 100000 p1 v3 0 I3 J3 h)
  · replace h := qp_iff h1 h
    refine qp_run_E qp_ok87 1 (c' := (15, [some (.ref 0), some (.int p1), some (.int v1), none, none], [.int v1], qp_mk I1 J1)) (by with_unfolding_all rfl) hd1 trivial ?_
    obtain ⟨rfl, rfl, rfl⟩ := qp_some3 h
    exact qp_retI_E qp_ok87 rfl qp_r87.1 ⟨rfl, rfl⟩ ⟨rfl, rfl⟩
def fX_who (p1 : Int32) (I : Nat → Nat → Int32) (J : Nat → Nat → Int64) : Option (Int32 × (Nat → Nat → Int32) × (Nat → Nat → Int64)) :=
  qp_bd (fC_has_15 p1 I J) fun v1 I1 J1 =>
  if v1 = 0 then (
    some ((-1), I1, J1)
  ) else (
    qp_bd (fD_whoAt (I1 14 2) p1 I1 J1) fun v2 I2 J2 =>
    some (v2, I2, J2)
  )
set_option maxRecDepth 8000 in
theorem gX_who (l : Launch) (G : qp_G) (p1 : Int32) (I : Nat → Nat → Int32) (J : Nat → Nat → Int64) {v : Int32} {I' : Nat → Nat → Int32} {J' : Nat → Nat → Int64} (h : fX_who p1 I J = some (v, I', J')) {d : Nat} (hd : 2 ≤ d) : qp_Met l G d 88 [.ref 0, .int p1] (qp_mk I J) 0 0 (qp_R8 (some (.int v)) I' J') := by
  have hd1 : Nat.ble 1 d = true := Nat.ble_eq_true_of_le (Nat.le_trans (by decide) hd)
  refine qp_Met_of (by decide) (by rw [qp_r88.2]; rfl) [some (.ref 0), some (.int p1)] (by rw [qp_r88.2]; rfl) ?_
  unfold fX_who at h
  refine qp_run_E qp_ok88 4 (c' := (8, [some (.ref 0), some (.int p1)], [.int p1, .ref 15], qp_mk I J)) (by with_unfolding_all rfl) hd1 trivial ?_
  obtain ⟨v1, I1, J1, e1, h⟩ := qp_bd_s h
  refine qp_cV qp_ok88 (rest := []) (oj := 3) qp_f53 rfl rfl (gC_has_15 l G p1 I J e1 (Nat.le_refl 1)) rfl rfl rfl rfl (Nat.le_trans (by decide) hd) ?_
  refine qp_br_E qp_ok88 (f := v1 = 0) (ct := (28, [some (.ref 0), some (.int p1)], [], qp_mk I1 J1)) (cf := (14, [some (.ref 0), some (.int p1)], [], qp_mk I1 J1)) (by with_unfolding_all rfl) (fun h1 => ?_) (fun h1 => ?_)
  · replace h := qp_ift h1 h
    refine qp_run_E qp_ok88 1 (c' := (29, [some (.ref 0), some (.int p1)], [.int (-1)], qp_mk I1 J1)) (by with_unfolding_all rfl) hd1 trivial ?_
    obtain ⟨rfl, rfl, rfl⟩ := qp_some3 h
    exact qp_retI_E qp_ok88 rfl qp_r88.1 ⟨rfl, rfl⟩ ⟨rfl, rfl⟩
  · replace h := qp_iff h1 h
    refine qp_run_E qp_ok88 4 (c' := (22, [some (.ref 0), some (.int p1)], [.int p1, .int (I1 14 2)], qp_mk I1 J1)) (by with_unfolding_all rfl) hd1 trivial ?_
    obtain ⟨v2, I2, J2, e2, h⟩ := qp_bd_s h
    refine qp_cS qp_ok88 (rest := []) (oj := 11) qp_f56 rfl rfl (gD_whoAt l G (I1 14 2) p1 I1 J1 e2 (Nat.le_refl 1)) rfl rfl rfl (Nat.le_trans (by decide) hd) ?_
    refine qp_run_E qp_ok88 1 (c' := (29, [some (.ref 0), some (.int p1)], [.int v2], qp_mk I2 J2)) (by with_unfolding_all rfl) hd1 trivial ?_
    obtain ⟨rfl, rfl, rfl⟩ := qp_some3 h
    exact qp_retI_E qp_ok88 rfl qp_r88.1 ⟨rfl, rfl⟩ ⟨rfl, rfl⟩
def fL_saleOf (p1 : Int32) (I : Nat → Nat → Int32) (J : Nat → Nat → Int64) : Option (Int32 × (Nat → Nat → Int32) × (Nat → Nat → Int64)) :=
  if p1 < 0 then (
    some (0, I, J)
  ) else (
    if 12 ≤ p1 then (
      some (0, I, J)
    ) else (
      qp_gd ((0 ≤ p1 ∧ p1 < 12)) <|
      some ((I 23 (Int32.toNatClampNeg p1)), I, J)
    )
  )
set_option maxRecDepth 8000 in
theorem gL_saleOf (l : Launch) (G : qp_G) (p1 : Int32) (I : Nat → Nat → Int32) (J : Nat → Nat → Int64) {v : Int32} {I' : Nat → Nat → Int32} {J' : Nat → Nat → Int64} (h : fL_saleOf p1 I J = some (v, I', J')) {d : Nat} (hd : 1 ≤ d) : qp_Met l G d 90 [.ref 14, .int p1] (qp_mk I J) 0 0 (qp_R8 (some (.int v)) I' J') := by
  have hd1 : Nat.ble 1 d = true := Nat.ble_eq_true_of_le (Nat.le_trans (by decide) hd)
  refine qp_Met_of (by decide) (by rw [qp_r90.2]; rfl) [some (.ref 14), some (.int p1)] (by rw [qp_r90.2]; rfl) ?_
  unfold fL_saleOf at h
  refine qp_run_E qp_ok90 1 (c' := (1, [some (.ref 14), some (.int p1)], [.int p1], qp_mk I J)) (by with_unfolding_all rfl) hd1 trivial ?_
  refine qp_br_E qp_ok90 (f := p1 < 0) (ct := (22, [some (.ref 14), some (.int p1)], [], qp_mk I J)) (cf := (4, [some (.ref 14), some (.int p1)], [], qp_mk I J)) (by with_unfolding_all rfl) (fun h1 => ?_) (fun h1 => ?_)
  · replace h := qp_ift h1 h
    refine qp_run_E qp_ok90 1 (c' := (23, [some (.ref 14), some (.int p1)], [.int 0], qp_mk I J)) (by with_unfolding_all rfl) hd1 trivial ?_
    obtain ⟨rfl, rfl, rfl⟩ := qp_some3 h
    exact qp_retI_E qp_ok90 rfl qp_r90.1 ⟨rfl, rfl⟩ ⟨rfl, rfl⟩
  · replace h := qp_iff h1 h
    refine qp_run_E qp_ok90 4 (c' := (10, [some (.ref 14), some (.int p1)], [.int 12, .int p1], qp_mk I J)) (by with_unfolding_all rfl) hd1 trivial ?_
    refine qp_br_E qp_ok90 (f := 12 ≤ p1) (ct := (22, [some (.ref 14), some (.int p1)], [], qp_mk I J)) (cf := (13, [some (.ref 14), some (.int p1)], [], qp_mk I J)) (by with_unfolding_all rfl) (fun h2 => ?_) (fun h2 => ?_)
    · replace h := qp_ift h2 h
      refine qp_run_E qp_ok90 1 (c' := (23, [some (.ref 14), some (.int p1)], [.int 0], qp_mk I J)) (by with_unfolding_all rfl) hd1 trivial ?_
      obtain ⟨rfl, rfl, rfl⟩ := qp_some3 h
      exact qp_retI_E qp_ok90 rfl qp_r90.1 ⟨rfl, rfl⟩ ⟨rfl, rfl⟩
    · replace h := qp_iff h2 h
      obtain ⟨h3, h⟩ := qp_gd_s h
      refine qp_run_E qp_ok90 5 (f := vp_in p1 12 ∧ True) (c' := (23, [some (.ref 14), some (.int p1)], [.int (I 23 (Int32.toNatClampNeg p1))], qp_mk I J)) (by with_unfolding_all rfl) hd1 ⟨(qp_vin (c := 12) (by decide) h3.1 h3.2), trivial⟩ ?_
      obtain ⟨rfl, rfl, rfl⟩ := qp_some3 h
      exact qp_retI_E qp_ok90 rfl qp_r90.1 ⟨rfl, rfl⟩ ⟨rfl, rfl⟩
def fX_sold (p1 : Int32) (p2 : Int32) (I : Nat → Nat → Int32) (J : Nat → Nat → Int64) : Option (Int32 × (Nat → Nat → Int32) × (Nat → Nat → Int64)) :=
  qp_bd (fL_hasTicket p1 I J) fun v1 I1 J1 =>
  if v1 = 0 then (
    some ((-1), I1, J1)
  ) else (
    if p2 < 0 then (
      some ((-1), I1, J1)
    ) else (
      if p2 ≤ 1 then (
        if ¬ p2 = 0 then (
          qp_bd (fL_saleOf p1 I1 J1) fun v2 I2 J2 =>
          some ((v2 - v2 / 8 * 8), I2, J2)
        ) else (
          qp_bd (fL_saleOf p1 I1 J1) fun v3 I3 J3 =>
          some ((v3 / 8), I3, J3)
        )
      ) else (
        some ((-1), I1, J1)
      )
    )
  )
set_option maxRecDepth 8000 in
theorem gX_sold (l : Launch) (G : qp_G) (p1 : Int32) (p2 : Int32) (I : Nat → Nat → Int32) (J : Nat → Nat → Int64) {v : Int32} {I' : Nat → Nat → Int32} {J' : Nat → Nat → Int64} (h : fX_sold p1 p2 I J = some (v, I', J')) {d : Nat} (hd : 2 ≤ d) : qp_Met l G d 89 [.ref 0, .int p1, .int p2] (qp_mk I J) 0 0 (qp_R8 (some (.int v)) I' J') := by
  have hd1 : Nat.ble 1 d = true := Nat.ble_eq_true_of_le (Nat.le_trans (by decide) hd)
  refine qp_Met_of (by decide) (by rw [qp_r89.2]; rfl) [some (.ref 0), some (.int p1), some (.int p2)] (by rw [qp_r89.2]; rfl) ?_
  unfold fX_sold at h
  refine qp_run_E qp_ok89 3 (c' := (5, [some (.ref 0), some (.int p1), some (.int p2)], [.int p1, .ref 14], qp_mk I J)) (by with_unfolding_all rfl) hd1 trivial ?_
  obtain ⟨v1, I1, J1, e1, h⟩ := qp_bd_s h
  refine qp_cV qp_ok89 (rest := []) (oj := 4) qp_f81 rfl rfl (gL_hasTicket l G p1 I J e1 (Nat.le_refl 1)) rfl rfl rfl rfl (Nat.le_trans (by decide) hd) ?_
  refine qp_br_E qp_ok89 (f := v1 = 0) (ct := (20, [some (.ref 0), some (.int p1), some (.int p2)], [], qp_mk I1 J1)) (cf := (11, [some (.ref 0), some (.int p1), some (.int p2)], [], qp_mk I1 J1)) (by with_unfolding_all rfl) (fun h1 => ?_) (fun h1 => ?_)
  · replace h := qp_ift h1 h
    refine qp_run_E qp_ok89 1 (c' := (21, [some (.ref 0), some (.int p1), some (.int p2)], [.int (-1)], qp_mk I1 J1)) (by with_unfolding_all rfl) hd1 trivial ?_
    obtain ⟨rfl, rfl, rfl⟩ := qp_some3 h
    exact qp_retI_E qp_ok89 rfl qp_r89.1 ⟨rfl, rfl⟩ ⟨rfl, rfl⟩
  · replace h := qp_iff h1 h
    refine qp_run_E qp_ok89 1 (c' := (12, [some (.ref 0), some (.int p1), some (.int p2)], [.int p2], qp_mk I1 J1)) (by with_unfolding_all rfl) hd1 trivial ?_
    refine qp_br_E qp_ok89 (f := p2 < 0) (ct := (20, [some (.ref 0), some (.int p1), some (.int p2)], [], qp_mk I1 J1)) (cf := (15, [some (.ref 0), some (.int p1), some (.int p2)], [], qp_mk I1 J1)) (by with_unfolding_all rfl) (fun h2 => ?_) (fun h2 => ?_)
    · replace h := qp_ift h2 h
      refine qp_run_E qp_ok89 1 (c' := (21, [some (.ref 0), some (.int p1), some (.int p2)], [.int (-1)], qp_mk I1 J1)) (by with_unfolding_all rfl) hd1 trivial ?_
      obtain ⟨rfl, rfl, rfl⟩ := qp_some3 h
      exact qp_retI_E qp_ok89 rfl qp_r89.1 ⟨rfl, rfl⟩ ⟨rfl, rfl⟩
    · replace h := qp_iff h2 h
      refine qp_run_E qp_ok89 2 (c' := (17, [some (.ref 0), some (.int p1), some (.int p2)], [.int 1, .int p2], qp_mk I1 J1)) (by with_unfolding_all rfl) hd1 trivial ?_
      refine qp_br_E qp_ok89 (f := p2 ≤ 1) (ct := (22, [some (.ref 0), some (.int p1), some (.int p2)], [], qp_mk I1 J1)) (cf := (20, [some (.ref 0), some (.int p1), some (.int p2)], [], qp_mk I1 J1)) (by with_unfolding_all rfl) (fun h3 => ?_) (fun h3 => ?_)
      · replace h := qp_ift h3 h
        refine qp_run_E qp_ok89 1 (c' := (23, [some (.ref 0), some (.int p1), some (.int p2)], [.int p2], qp_mk I1 J1)) (by with_unfolding_all rfl) hd1 trivial ?_
        refine qp_br_E qp_ok89 (f := ¬ p2 = 0) (ct := (40, [some (.ref 0), some (.int p1), some (.int p2)], [], qp_mk I1 J1)) (cf := (26, [some (.ref 0), some (.int p1), some (.int p2)], [], qp_mk I1 J1)) (by with_unfolding_all rfl) (fun h4 => ?_) (fun h4 => ?_)
        · replace h := qp_ift h4 h
          refine qp_run_E qp_ok89 3 (c' := (45, [some (.ref 0), some (.int p1), some (.int p2)], [.int p1, .ref 14], qp_mk I1 J1)) (by with_unfolding_all rfl) hd1 trivial ?_
          obtain ⟨v2, I2, J2, e2, h⟩ := qp_bd_s h
          refine qp_cV qp_ok89 (rest := []) (oj := 4) qp_f90 rfl rfl (gL_saleOf l G p1 I1 J1 e2 (Nat.le_refl 1)) rfl rfl rfl rfl (Nat.le_trans (by decide) hd) ?_
          refine qp_run_E qp_ok89 2 (f := ¬ (8 : Int32) = 0 ∧ True) (c' := (51, [some (.ref 0), some (.int p1), some (.int p2)], [.int (v2 - v2 / 8 * 8)], qp_mk I2 J2)) (by with_unfolding_all rfl) hd1 ⟨(by decide), trivial⟩ ?_
          obtain ⟨rfl, rfl, rfl⟩ := qp_some3 h
          exact qp_retI_E qp_ok89 rfl qp_r89.1 ⟨rfl, rfl⟩ ⟨rfl, rfl⟩
        · replace h := qp_iff h4 h
          refine qp_run_E qp_ok89 3 (c' := (31, [some (.ref 0), some (.int p1), some (.int p2)], [.int p1, .ref 14], qp_mk I1 J1)) (by with_unfolding_all rfl) hd1 trivial ?_
          obtain ⟨v3, I3, J3, e3, h⟩ := qp_bd_s h
          refine qp_cV qp_ok89 (rest := []) (oj := 4) qp_f90 rfl rfl (gL_saleOf l G p1 I1 J1 e3 (Nat.le_refl 1)) rfl rfl rfl rfl (Nat.le_trans (by decide) hd) ?_
          refine qp_run_E qp_ok89 3 (f := ¬ (8 : Int32) = 0 ∧ True) (c' := (51, [some (.ref 0), some (.int p1), some (.int p2)], [.int (v3 / 8)], qp_mk I3 J3)) (by with_unfolding_all rfl) hd1 ⟨(by decide), trivial⟩ ?_
          obtain ⟨rfl, rfl, rfl⟩ := qp_some3 h
          exact qp_retI_E qp_ok89 rfl qp_r89.1 ⟨rfl, rfl⟩ ⟨rfl, rfl⟩
      · replace h := qp_iff h3 h
        refine qp_run_E qp_ok89 1 (c' := (21, [some (.ref 0), some (.int p1), some (.int p2)], [.int (-1)], qp_mk I1 J1)) (by with_unfolding_all rfl) hd1 trivial ?_
        obtain ⟨rfl, rfl, rfl⟩ := qp_some3 h
        exact qp_retI_E qp_ok89 rfl qp_r89.1 ⟨rfl, rfl⟩ ⟨rfl, rfl⟩
def fX_wants (p1 : Int32) (p2 : Int32) (I : Nat → Nat → Int32) (J : Nat → Nat → Int64) : Option (Int32 × (Nat → Nat → Int32) × (Nat → Nat → Int64)) :=
  qp_bd (fC_has_15 p1 I J) fun v1 I1 J1 =>
  if v1 = 0 then (
    some ((-1), I1, J1)
  ) else (
    qp_bd (fC_has_15 p2 I1 J1) fun v2 I2 J2 =>
    if ¬ v2 = 0 then (
      qp_bd (fC_kindOf_15 p1 I2 J2) fun v3 I3 J3 =>
      if ¬ p2 = ((I3 15 0) - 1) then (
        qp_bd (fC_wantOf v3 0 I3 J3) fun v4 I4 J4 =>
        some (v4, I4, J4)
      ) else (
        qp_bd (fC_wantOf v3 1 I3 J3) fun v5 I5 J5 =>
        some (v5, I5, J5)
      )
    ) else (
      some ((-1), I2, J2)
    )
  )
set_option maxRecDepth 8000 in
theorem gX_wants (l : Launch) (G : qp_G) (p1 : Int32) (p2 : Int32) (I : Nat → Nat → Int32) (J : Nat → Nat → Int64) {v : Int32} {I' : Nat → Nat → Int32} {J' : Nat → Nat → Int64} (h : fX_wants p1 p2 I J = some (v, I', J')) {d : Nat} (hd : 2 ≤ d) : qp_Met l G d 91 [.ref 0, .int p1, .int p2] (qp_mk I J) 0 0 (qp_R8 (some (.int v)) I' J') := by
  have hd1 : Nat.ble 1 d = true := Nat.ble_eq_true_of_le (Nat.le_trans (by decide) hd)
  refine qp_Met_of (by decide) (by rw [qp_r91.2]; rfl) [some (.ref 0), some (.int p1), some (.int p2)] (by rw [qp_r91.2]; rfl) ?_
  unfold fX_wants at h
  refine qp_run_E qp_ok91 4 (c' := (8, [some (.ref 0), some (.int p1), some (.int p2)], [.int p1, .ref 15], qp_mk I J)) (by with_unfolding_all rfl) hd1 trivial ?_
  obtain ⟨v1, I1, J1, e1, h⟩ := qp_bd_s h
  refine qp_cV qp_ok91 (rest := []) (oj := 3) qp_f53 rfl rfl (gC_has_15 l G p1 I J e1 (Nat.le_refl 1)) rfl rfl rfl rfl (Nat.le_trans (by decide) hd) ?_
  refine qp_br_E qp_ok91 (f := v1 = 0) (ct := (28, [some (.ref 0), some (.int p1), some (.int p2)], [], qp_mk I1 J1)) (cf := (14, [some (.ref 0), some (.int p1), some (.int p2)], [], qp_mk I1 J1)) (by with_unfolding_all rfl) (fun h1 => ?_) (fun h1 => ?_)
  · replace h := qp_ift h1 h
    refine qp_run_E qp_ok91 1 (c' := (29, [some (.ref 0), some (.int p1), some (.int p2)], [.int (-1)], qp_mk I1 J1)) (by with_unfolding_all rfl) hd1 trivial ?_
    obtain ⟨rfl, rfl, rfl⟩ := qp_some3 h
    exact qp_retI_E qp_ok91 rfl qp_r91.1 ⟨rfl, rfl⟩ ⟨rfl, rfl⟩
  · replace h := qp_iff h1 h
    refine qp_run_E qp_ok91 4 (c' := (22, [some (.ref 0), some (.int p1), some (.int p2)], [.int p2, .ref 15], qp_mk I1 J1)) (by with_unfolding_all rfl) hd1 trivial ?_
    obtain ⟨v2, I2, J2, e2, h⟩ := qp_bd_s h
    refine qp_cV qp_ok91 (rest := []) (oj := 3) qp_f53 rfl rfl (gC_has_15 l G p2 I1 J1 e2 (Nat.le_refl 1)) rfl rfl rfl rfl (Nat.le_trans (by decide) hd) ?_
    refine qp_br_E qp_ok91 (f := ¬ v2 = 0) (ct := (30, [some (.ref 0), some (.int p1), some (.int p2)], [], qp_mk I2 J2)) (cf := (28, [some (.ref 0), some (.int p1), some (.int p2)], [], qp_mk I2 J2)) (by with_unfolding_all rfl) (fun h2 => ?_) (fun h2 => ?_)
    · replace h := qp_ift h2 h
      refine qp_run_E qp_ok91 4 (c' := (38, [some (.ref 0), some (.int p1), some (.int p2)], [.int p1, .ref 15], qp_mk I2 J2)) (by with_unfolding_all rfl) hd1 trivial ?_
      obtain ⟨v3, I3, J3, e3, h⟩ := qp_bd_s h
      refine qp_cV qp_ok91 (rest := []) (oj := 3) qp_f47 rfl rfl (gC_kindOf_15 l G p1 I2 J2 e3 (Nat.le_refl 1)) rfl rfl rfl rfl (Nat.le_trans (by decide) hd) ?_
      refine qp_run_E qp_ok91 7 (c' := (54, [some (.ref 0), some (.int p1), some (.int p2)], [.int ((I3 15 0) - 1), .int p2, .int v3], qp_mk I3 J3)) (by with_unfolding_all rfl) hd1 trivial ?_
      refine qp_br_E qp_ok91 (f := ¬ p2 = ((I3 15 0) - 1)) (ct := (61, [some (.ref 0), some (.int p1), some (.int p2)], [.int v3], qp_mk I3 J3)) (cf := (57, [some (.ref 0), some (.int p1), some (.int p2)], [.int v3], qp_mk I3 J3)) (by with_unfolding_all rfl) (fun h3 => ?_) (fun h3 => ?_)
      · replace h := qp_ift h3 h
        refine qp_run_E qp_ok91 1 (c' := (62, [some (.ref 0), some (.int p1), some (.int p2)], [.int 0, .int v3], qp_mk I3 J3)) (by with_unfolding_all rfl) hd1 trivial ?_
        obtain ⟨v4, I4, J4, e4, h⟩ := qp_bd_s h
        refine qp_cS qp_ok91 (rest := []) (oj := 3) qp_f58 rfl rfl (gC_wantOf l G v3 0 I3 J3 e4 (Nat.le_refl 1)) rfl rfl rfl (Nat.le_trans (by decide) hd) ?_
        obtain ⟨rfl, rfl, rfl⟩ := qp_some3 h
        exact qp_retI_E qp_ok91 rfl qp_r91.1 ⟨rfl, rfl⟩ ⟨rfl, rfl⟩
      · replace h := qp_iff h3 h
        refine qp_run_E qp_ok91 2 (c' := (62, [some (.ref 0), some (.int p1), some (.int p2)], [.int 1, .int v3], qp_mk I3 J3)) (by with_unfolding_all rfl) hd1 trivial ?_
        obtain ⟨v5, I5, J5, e5, h⟩ := qp_bd_s h
        refine qp_cS qp_ok91 (rest := []) (oj := 3) qp_f58 rfl rfl (gC_wantOf l G v3 1 I3 J3 e5 (Nat.le_refl 1)) rfl rfl rfl (Nat.le_trans (by decide) hd) ?_
        obtain ⟨rfl, rfl, rfl⟩ := qp_some3 h
        exact qp_retI_E qp_ok91 rfl qp_r91.1 ⟨rfl, rfl⟩ ⟨rfl, rfl⟩
    · replace h := qp_iff h2 h
      refine qp_run_E qp_ok91 1 (c' := (29, [some (.ref 0), some (.int p1), some (.int p2)], [.int (-1)], qp_mk I2 J2)) (by with_unfolding_all rfl) hd1 trivial ?_
      obtain ⟨rfl, rfl, rfl⟩ := qp_some3 h
      exact qp_retI_E qp_ok91 rfl qp_r91.1 ⟨rfl, rfl⟩ ⟨rfl, rfl⟩
def fL_gainAt (p1 : Int32) (p2 : Int32) (I : Nat → Nat → Int32) (J : Nat → Nat → Int64) : Option (Int32 × (Nat → Nat → Int32) × (Nat → Nat → Int64)) :=
  qp_bd (fD_by (I 14 2) (I 15 0) (((8 : Int32) * p1) + p2) I J) fun v1 I1 J1 =>
  qp_bd (fL_serve v1 I1 J1) fun _u I2 J2 =>
  qp_bd (fV_gainOf p1 I2 J2) fun v3 I3 J3 =>
  some (v3, I3, J3)
set_option maxRecDepth 8000 in
theorem gL_gainAt (l : Launch) (G : qp_G) (p1 : Int32) (p2 : Int32) (I : Nat → Nat → Int32) (J : Nat → Nat → Int64) {v : Int32} {I' : Nat → Nat → Int32} {J' : Nat → Nat → Int64} (h : fL_gainAt p1 p2 I J = some (v, I', J')) {d : Nat} (hd : 5 ≤ d) : qp_Met l G d 93 [.ref 14, .int p1, .int p2] (qp_mk I J) 0 0 (qp_R8 (some (.int v)) I' J') := by
  have hd1 : Nat.ble 1 d = true := Nat.ble_eq_true_of_le (Nat.le_trans (by decide) hd)
  refine qp_Met_of (by decide) (by rw [qp_r93.2]; rfl) [some (.ref 14), some (.int p1), some (.int p2)] (by rw [qp_r93.2]; rfl) ?_
  unfold fL_gainAt at h
  refine qp_run_E qp_ok93 11 (c' := (18, [some (.ref 14), some (.int p1), some (.int p2)], [.int (((8 : Int32) * p1) + p2), .int (I 15 0), .int (I 14 2), .ref 14], qp_mk I J)) (by with_unfolding_all rfl) hd1 trivial ?_
  obtain ⟨v1, I1, J1, e1, h⟩ := qp_bd_s h
  refine qp_cS qp_ok93 (rest := [.ref 14]) (oj := 11) qp_f76 rfl rfl (gD_by l G (I 14 2) (I 15 0) (((8 : Int32) * p1) + p2) I J e1 (Nat.le_refl 3)) rfl rfl rfl (Nat.le_trans (by decide) hd) ?_
  obtain ⟨v2, I2, J2, e2, h⟩ := qp_bd_s h
  refine qp_cV qp_ok93 (rest := []) (oj := 4) qp_f54 rfl rfl (gL_serve l G v1 I1 J1 e2 (Nat.le_refl 4)) rfl rfl rfl rfl (Nat.le_trans (by decide) hd) ?_
  refine qp_run_E qp_ok93 3 (c' := (29, [some (.ref 14), some (.int p1), some (.int p2)], [.int p1, .ref 18], qp_mk I2 J2)) (by with_unfolding_all rfl) hd1 trivial ?_
  obtain ⟨v3, I3, J3, e3, h⟩ := qp_bd_s h
  refine qp_cV qp_ok93 (rest := []) (oj := 5) qp_f64 rfl rfl (gV_gainOf l G p1 I2 J2 e3 (Nat.le_refl 1)) rfl rfl rfl rfl (Nat.le_trans (by decide) hd) ?_
  obtain ⟨rfl, rfl, rfl⟩ := qp_some3 h
  exact qp_retI_E qp_ok93 rfl qp_r93.1 ⟨rfl, rfl⟩ ⟨rfl, rfl⟩
def fX_gets (p1 : Int32) (p2 : Int32) (I : Nat → Nat → Int32) (J : Nat → Nat → Int64) : Option (Int32 × (Nat → Nat → Int32) × (Nat → Nat → Int64)) :=
  qp_bd (fC_has_15 p1 I J) fun v1 I1 J1 =>
  if v1 = 0 then (
    some ((-1), I1, J1)
  ) else (
    qp_bd (fC_has_15 p2 I1 J1) fun v2 I2 J2 =>
    if ¬ v2 = 0 then (
      qp_bd (fL_gainAt p1 p2 I2 J2) fun v3 I3 J3 =>
      some (v3, I3, J3)
    ) else (
      some ((-1), I2, J2)
    )
  )
set_option maxRecDepth 8000 in
theorem gX_gets (l : Launch) (G : qp_G) (p1 : Int32) (p2 : Int32) (I : Nat → Nat → Int32) (J : Nat → Nat → Int64) {v : Int32} {I' : Nat → Nat → Int32} {J' : Nat → Nat → Int64} (h : fX_gets p1 p2 I J = some (v, I', J')) {d : Nat} (hd : 6 ≤ d) : qp_Met l G d 92 [.ref 0, .int p1, .int p2] (qp_mk I J) 0 0 (qp_R8 (some (.int v)) I' J') := by
  have hd1 : Nat.ble 1 d = true := Nat.ble_eq_true_of_le (Nat.le_trans (by decide) hd)
  refine qp_Met_of (by decide) (by rw [qp_r92.2]; rfl) [some (.ref 0), some (.int p1), some (.int p2)] (by rw [qp_r92.2]; rfl) ?_
  unfold fX_gets at h
  refine qp_run_E qp_ok92 4 (c' := (8, [some (.ref 0), some (.int p1), some (.int p2)], [.int p1, .ref 15], qp_mk I J)) (by with_unfolding_all rfl) hd1 trivial ?_
  obtain ⟨v1, I1, J1, e1, h⟩ := qp_bd_s h
  refine qp_cV qp_ok92 (rest := []) (oj := 3) qp_f53 rfl rfl (gC_has_15 l G p1 I J e1 (Nat.le_refl 1)) rfl rfl rfl rfl (Nat.le_trans (by decide) hd) ?_
  refine qp_br_E qp_ok92 (f := v1 = 0) (ct := (28, [some (.ref 0), some (.int p1), some (.int p2)], [], qp_mk I1 J1)) (cf := (14, [some (.ref 0), some (.int p1), some (.int p2)], [], qp_mk I1 J1)) (by with_unfolding_all rfl) (fun h1 => ?_) (fun h1 => ?_)
  · replace h := qp_ift h1 h
    refine qp_run_E qp_ok92 1 (c' := (29, [some (.ref 0), some (.int p1), some (.int p2)], [.int (-1)], qp_mk I1 J1)) (by with_unfolding_all rfl) hd1 trivial ?_
    obtain ⟨rfl, rfl, rfl⟩ := qp_some3 h
    exact qp_retI_E qp_ok92 rfl qp_r92.1 ⟨rfl, rfl⟩ ⟨rfl, rfl⟩
  · replace h := qp_iff h1 h
    refine qp_run_E qp_ok92 4 (c' := (22, [some (.ref 0), some (.int p1), some (.int p2)], [.int p2, .ref 15], qp_mk I1 J1)) (by with_unfolding_all rfl) hd1 trivial ?_
    obtain ⟨v2, I2, J2, e2, h⟩ := qp_bd_s h
    refine qp_cV qp_ok92 (rest := []) (oj := 3) qp_f53 rfl rfl (gC_has_15 l G p2 I1 J1 e2 (Nat.le_refl 1)) rfl rfl rfl rfl (Nat.le_trans (by decide) hd) ?_
    refine qp_br_E qp_ok92 (f := ¬ v2 = 0) (ct := (30, [some (.ref 0), some (.int p1), some (.int p2)], [], qp_mk I2 J2)) (cf := (28, [some (.ref 0), some (.int p1), some (.int p2)], [], qp_mk I2 J2)) (by with_unfolding_all rfl) (fun h2 => ?_) (fun h2 => ?_)
    · replace h := qp_ift h2 h
      refine qp_run_E qp_ok92 4 (c' := (36, [some (.ref 0), some (.int p1), some (.int p2)], [.int p2, .int p1, .ref 14], qp_mk I2 J2)) (by with_unfolding_all rfl) hd1 trivial ?_
      obtain ⟨v3, I3, J3, e3, h⟩ := qp_bd_s h
      refine qp_cV qp_ok92 (rest := []) (oj := 4) qp_f93 rfl rfl (gL_gainAt l G p1 p2 I2 J2 e3 (Nat.le_refl 5)) rfl rfl rfl rfl (Nat.le_trans (by decide) hd) ?_
      obtain ⟨rfl, rfl, rfl⟩ := qp_some3 h
      exact qp_retI_E qp_ok92 rfl qp_r92.1 ⟨rfl, rfl⟩ ⟨rfl, rfl⟩
    · replace h := qp_iff h2 h
      refine qp_run_E qp_ok92 1 (c' := (29, [some (.ref 0), some (.int p1), some (.int p2)], [.int (-1)], qp_mk I2 J2)) (by with_unfolding_all rfl) hd1 trivial ?_
      obtain ⟨rfl, rfl, rfl⟩ := qp_some3 h
      exact qp_retI_E qp_ok92 rfl qp_r92.1 ⟨rfl, rfl⟩ ⟨rfl, rfl⟩
def fX_best_b31  : Nat → Int32 → Int32 → Int32 → Int32 → (Nat → Nat → Int32) → (Nat → Nat → Int64) → Option (Int32 × (Nat → Nat → Int32) × (Nat → Nat → Int64))
  | 0, _, _, _, _, _, _ => none
  | n + 1, a1, a2, a3, a4, I, J =>
    if (I 15 0) ≤ a4 then (
      qp_bd (fX_tell a3 I J) fun v1 I1 J1 =>
      some (a2, I1, J1)
    ) else (
      qp_bd (fL_gainAt a1 a4 I J) fun v2 I2 J2 =>
      if v2 ≤ a3 then (
        fX_best_b31 n a1 a2 a3 (a4 + 1) I2 J2
      ) else (
        fX_best_b31 n a1 a4 v2 (a4 + 1) I2 J2
      )
    )
set_option maxRecDepth 8000 in
theorem gX_best_b31 {l : Launch} {G : qp_G} {d : Nat} (hd : 6 ≤ d) {r : (Int32 × (Nat → Nat → Int32) × (Nat → Nat → Int64))} {I0 : Nat → Nat → Int32} {J0 : Nat → Nat → Int64}   : ∀ (n : Nat) (a1 : Int32) (a2 : Int32) (a3 : Int32) (a4 : Int32) (I : Nat → Nat → Int32) (J : Nat → Nat → Int64), fX_best_b31  n a1 a2 a3 a4 I J = some r → qp_E l G d 94 (qp_mk I0 J0) 0 0 (qp_R8 (some (.int r.1)) r.2.1 r.2.2) (31, [some (.ref 0), some (.int a1), some (.int a2), some (.int a3), some (.int a4), none], [], qp_mk I J) := by
  have hd1 : Nat.ble 1 d = true := Nat.ble_eq_true_of_le (Nat.le_trans (by decide) hd)
  intro n
  induction n with
  | zero => intro a1 a2 a3 a4 I J h; exact absurd h (by simp [fX_best_b31])
  | succ n ih =>
    intro a1 a2 a3 a4 I J h
    rw [fX_best_b31] at h
    refine qp_run_E qp_ok94 5 (c' := (43, [some (.ref 0), some (.int a1), some (.int a2), some (.int a3), some (.int a4), none], [.int (I 15 0), .int a4], qp_mk I J)) (by with_unfolding_all rfl) hd1 trivial ?_
    refine qp_br_E qp_ok94 (f := (I 15 0) ≤ a4) (ct := (76, [some (.ref 0), some (.int a1), some (.int a2), some (.int a3), some (.int a4), none], [], qp_mk I J)) (cf := (46, [some (.ref 0), some (.int a1), some (.int a2), some (.int a3), some (.int a4), none], [], qp_mk I J)) (by with_unfolding_all rfl) (fun h1 => ?_) (fun h1 => ?_)
    · replace h := qp_ift h1 h
      refine qp_run_E qp_ok94 2 (c' := (78, [some (.ref 0), some (.int a1), some (.int a2), some (.int a3), some (.int a4), none], [.int a3, .ref 0], qp_mk I J)) (by with_unfolding_all rfl) hd1 trivial ?_
      obtain ⟨v1, I1, J1, e1, h⟩ := qp_bd_s h
      refine qp_cV qp_ok94 (rest := []) (oj := 0) qp_f24 rfl rfl (gX_tell l G a3 I J e1 (Nat.le_refl 1)) rfl rfl rfl rfl (Nat.le_trans (by decide) hd) ?_
      refine qp_run_E qp_ok94 2 (c' := (83, [some (.ref 0), some (.int a1), some (.int a2), some (.int a3), some (.int a4), none], [.int a2], qp_mk I1 J1)) (by with_unfolding_all rfl) hd1 trivial ?_
      obtain rfl := Option.some.inj h
      exact qp_retI_E qp_ok94 rfl qp_r94.1 ⟨rfl, rfl⟩ ⟨rfl, rfl⟩
    · replace h := qp_iff h1 h
      refine qp_run_E qp_ok94 4 (c' := (53, [some (.ref 0), some (.int a1), some (.int a2), some (.int a3), some (.int a4), none], [.int a4, .int a1, .ref 14], qp_mk I J)) (by with_unfolding_all rfl) hd1 trivial ?_
      obtain ⟨v2, I2, J2, e2, h⟩ := qp_bd_s h
      refine qp_cV qp_ok94 (rest := []) (oj := 4) qp_f93 rfl rfl (gL_gainAt l G a1 a4 I J e2 (Nat.le_refl 5)) rfl rfl rfl rfl (Nat.le_trans (by decide) hd) ?_
      refine qp_run_E qp_ok94 3 (c' := (61, [some (.ref 0), some (.int a1), some (.int a2), some (.int a3), some (.int a4), some (.int v2)], [.int a3, .int v2], qp_mk I2 J2)) (by with_unfolding_all rfl) hd1 trivial ?_
      refine qp_br_E qp_ok94 (f := v2 ≤ a3) (ct := (70, [some (.ref 0), some (.int a1), some (.int a2), some (.int a3), some (.int a4), some (.int v2)], [], qp_mk I2 J2)) (cf := (64, [some (.ref 0), some (.int a1), some (.int a2), some (.int a3), some (.int a4), some (.int v2)], [], qp_mk I2 J2)) (by with_unfolding_all rfl) (fun h2 => ?_) (fun h2 => ?_)
      · replace h := qp_ift h2 h
        refine qp_run_E qp_ok94 2 (c' := (31, [some (.ref 0), some (.int a1), some (.int a2), some (.int a3), some (.int (a4 + 1)), some (.int v2)], [], qp_mk I2 J2)) (by with_unfolding_all rfl) hd1 trivial ?_
        exact qp_E_fg [true, true, true, true, true, false] (ih a1 a2 a3 (a4 + 1) I2 J2 h)
      · replace h := qp_iff h2 h
        refine qp_run_E qp_ok94 6 (c' := (31, [some (.ref 0), some (.int a1), some (.int a4), some (.int v2), some (.int (a4 + 1)), some (.int v2)], [], qp_mk I2 J2)) (by with_unfolding_all rfl) hd1 trivial ?_
        exact qp_E_fg [true, true, true, true, true, false] (ih a1 a4 v2 (a4 + 1) I2 J2 h)
def fX_best (p1 : Int32) (I : Nat → Nat → Int32) (J : Nat → Nat → Int64) : Option (Int32 × (Nat → Nat → Int32) × (Nat → Nat → Int64)) :=
  qp_bd (fC_has_15 p1 I J) fun v1 I1 J1 =>
  if ¬ v1 = 0 then (
    qp_bd (fL_gainAt p1 0 I1 J1) fun v2 I2 J2 =>
    fX_best_b31 100000 p1 0 v2 1 I2 J2
  ) else (
    some ((-1), I1, J1)
  )
set_option maxRecDepth 8000 in
theorem gX_best (l : Launch) (G : qp_G) (p1 : Int32) (I : Nat → Nat → Int32) (J : Nat → Nat → Int64) {v : Int32} {I' : Nat → Nat → Int32} {J' : Nat → Nat → Int64} (h : fX_best p1 I J = some (v, I', J')) {d : Nat} (hd : 6 ≤ d) : qp_Met l G d 94 [.ref 0, .int p1] (qp_mk I J) 0 0 (qp_R8 (some (.int v)) I' J') := by
  have hd1 : Nat.ble 1 d = true := Nat.ble_eq_true_of_le (Nat.le_trans (by decide) hd)
  refine qp_Met_of (by decide) (by rw [qp_r94.2]; rfl) [some (.ref 0), some (.int p1), none, none, none, none] (by rw [qp_r94.2]; rfl) ?_
  unfold fX_best at h
  refine qp_run_E qp_ok94 4 (c' := (8, [some (.ref 0), some (.int p1), none, none, none, none], [.int p1, .ref 15], qp_mk I J)) (by with_unfolding_all rfl) hd1 trivial ?_
  obtain ⟨v1, I1, J1, e1, h⟩ := qp_bd_s h
  refine qp_cV qp_ok94 (rest := []) (oj := 3) qp_f53 rfl rfl (gC_has_15 l G p1 I J e1 (Nat.le_refl 1)) rfl rfl rfl rfl (Nat.le_trans (by decide) hd) ?_
  refine qp_br_E qp_ok94 (f := ¬ v1 = 0) (ct := (16, [some (.ref 0), some (.int p1), none, none, none, none], [], qp_mk I1 J1)) (cf := (14, [some (.ref 0), some (.int p1), none, none, none, none], [], qp_mk I1 J1)) (by with_unfolding_all rfl) (fun h1 => ?_) (fun h1 => ?_)
  · replace h := qp_ift h1 h
    refine qp_run_E qp_ok94 6 (c' := (24, [some (.ref 0), some (.int p1), some (.int 0), none, none, none], [.int 0, .int p1, .ref 14], qp_mk I1 J1)) (by with_unfolding_all rfl) hd1 trivial ?_
    obtain ⟨v2, I2, J2, e2, h⟩ := qp_bd_s h
    refine qp_cV qp_ok94 (rest := []) (oj := 4) qp_f93 rfl rfl (gL_gainAt l G p1 0 I1 J1 e2 (Nat.le_refl 5)) rfl rfl rfl rfl (Nat.le_trans (by decide) hd) ?_
    refine qp_run_E qp_ok94 3 (c' := (31, [some (.ref 0), some (.int p1), some (.int 0), some (.int v2), some (.int 1), none], [], qp_mk I2 J2)) (by with_unfolding_all rfl) hd1 trivial ?_
    exact gX_best_b31 hd 100000 p1 0 v2 1 I2 J2 h
  · replace h := qp_iff h1 h
    refine qp_run_E qp_ok94 1 (c' := (15, [some (.ref 0), some (.int p1), none, none, none, none], [.int (-1)], qp_mk I1 J1)) (by with_unfolding_all rfl) hd1 trivial ?_
    obtain ⟨rfl, rfl, rfl⟩ := qp_some3 h
    exact qp_retI_E qp_ok94 rfl qp_r94.1 ⟨rfl, rfl⟩ ⟨rfl, rfl⟩
def fX_falls (p1 : Int32) (I : Nat → Nat → Int32) (J : Nat → Nat → Int64) : Option (Int32 × (Nat → Nat → Int32) × (Nat → Nat → Int64)) :=
  qp_bd (fL_hasTicket p1 I J) fun v1 I1 J1 =>
  if v1 = 0 then (
    some ((-1), I1, J1)
  ) else (
    qp_bd (fL_without p1 0 I1 J1) fun v2 I2 J2 =>
    some (v2, I2, J2)
  )
set_option maxRecDepth 8000 in
theorem gX_falls (l : Launch) (G : qp_G) (p1 : Int32) (I : Nat → Nat → Int32) (J : Nat → Nat → Int64) {v : Int32} {I' : Nat → Nat → Int32} {J' : Nat → Nat → Int64} (h : fX_falls p1 I J = some (v, I', J')) {d : Nat} (hd : 5 ≤ d) : qp_Met l G d 95 [.ref 0, .int p1] (qp_mk I J) 0 0 (qp_R8 (some (.int v)) I' J') := by
  have hd1 : Nat.ble 1 d = true := Nat.ble_eq_true_of_le (Nat.le_trans (by decide) hd)
  refine qp_Met_of (by decide) (by rw [qp_r95.2]; rfl) [some (.ref 0), some (.int p1)] (by rw [qp_r95.2]; rfl) ?_
  unfold fX_falls at h
  refine qp_run_E qp_ok95 3 (c' := (5, [some (.ref 0), some (.int p1)], [.int p1, .ref 14], qp_mk I J)) (by with_unfolding_all rfl) hd1 trivial ?_
  obtain ⟨v1, I1, J1, e1, h⟩ := qp_bd_s h
  refine qp_cV qp_ok95 (rest := []) (oj := 4) qp_f81 rfl rfl (gL_hasTicket l G p1 I J e1 (Nat.le_refl 1)) rfl rfl rfl rfl (Nat.le_trans (by decide) hd) ?_
  refine qp_br_E qp_ok95 (f := v1 = 0) (ct := (23, [some (.ref 0), some (.int p1)], [], qp_mk I1 J1)) (cf := (11, [some (.ref 0), some (.int p1)], [], qp_mk I1 J1)) (by with_unfolding_all rfl) (fun h1 => ?_) (fun h1 => ?_)
  · replace h := qp_ift h1 h
    refine qp_run_E qp_ok95 1 (c' := (24, [some (.ref 0), some (.int p1)], [.int (-1)], qp_mk I1 J1)) (by with_unfolding_all rfl) hd1 trivial ?_
    obtain ⟨rfl, rfl, rfl⟩ := qp_some3 h
    exact qp_retI_E qp_ok95 rfl qp_r95.1 ⟨rfl, rfl⟩ ⟨rfl, rfl⟩
  · replace h := qp_iff h1 h
    refine qp_run_E qp_ok95 4 (c' := (17, [some (.ref 0), some (.int p1)], [.int 0, .int p1, .ref 14], qp_mk I1 J1)) (by with_unfolding_all rfl) hd1 trivial ?_
    obtain ⟨v2, I2, J2, e2, h⟩ := qp_bd_s h
    refine qp_cV qp_ok95 (rest := []) (oj := 4) qp_f79 rfl rfl (gL_without l G p1 0 I1 J1 e2 (Nat.le_refl 4)) rfl rfl rfl rfl (Nat.le_trans (by decide) hd) ?_
    refine qp_run_E qp_ok95 1 (c' := (24, [some (.ref 0), some (.int p1)], [.int v2], qp_mk I2 J2)) (by with_unfolding_all rfl) hd1 trivial ?_
    obtain ⟨rfl, rfl, rfl⟩ := qp_some3 h
    exact qp_retI_E qp_ok95 rfl qp_r95.1 ⟨rfl, rfl⟩ ⟨rfl, rfl⟩
def fJ_bitCount (p0 : Int32) (I : Nat → Nat → Int32) (J : Nat → Nat → Int64) : Option (Int32 × (Nat → Nat → Int32) × (Nat → Nat → Int64)) :=
  some (((((((((p0 - (((p0.toUInt32 >>> ((1 : Int32).toUInt32 &&& Int32.toUInt32 31)).toInt32) &&& 1431655765)) &&& 858993459) + ((((p0 - (((p0.toUInt32 >>> ((1 : Int32).toUInt32 &&& Int32.toUInt32 31)).toInt32) &&& 1431655765)).toUInt32 >>> ((2 : Int32).toUInt32 &&& Int32.toUInt32 31)).toInt32) &&& 858993459)) + (((((p0 - (((p0.toUInt32 >>> ((1 : Int32).toUInt32 &&& Int32.toUInt32 31)).toInt32) &&& 1431655765)) &&& 858993459) + ((((p0 - (((p0.toUInt32 >>> ((1 : Int32).toUInt32 &&& Int32.toUInt32 31)).toInt32) &&& 1431655765)).toUInt32 >>> ((2 : Int32).toUInt32 &&& Int32.toUInt32 31)).toInt32) &&& 858993459)).toUInt32 >>> ((4 : Int32).toUInt32 &&& Int32.toUInt32 31)).toInt32)) &&& 252645135) + (((((((p0 - (((p0.toUInt32 >>> ((1 : Int32).toUInt32 &&& Int32.toUInt32 31)).toInt32) &&& 1431655765)) &&& 858993459) + ((((p0 - (((p0.toUInt32 >>> ((1 : Int32).toUInt32 &&& Int32.toUInt32 31)).toInt32) &&& 1431655765)).toUInt32 >>> ((2 : Int32).toUInt32 &&& Int32.toUInt32 31)).toInt32) &&& 858993459)) + (((((p0 - (((p0.toUInt32 >>> ((1 : Int32).toUInt32 &&& Int32.toUInt32 31)).toInt32) &&& 1431655765)) &&& 858993459) + ((((p0 - (((p0.toUInt32 >>> ((1 : Int32).toUInt32 &&& Int32.toUInt32 31)).toInt32) &&& 1431655765)).toUInt32 >>> ((2 : Int32).toUInt32 &&& Int32.toUInt32 31)).toInt32) &&& 858993459)).toUInt32 >>> ((4 : Int32).toUInt32 &&& Int32.toUInt32 31)).toInt32)) &&& 252645135).toUInt32 >>> ((8 : Int32).toUInt32 &&& Int32.toUInt32 31)).toInt32)) + ((((((((p0 - (((p0.toUInt32 >>> ((1 : Int32).toUInt32 &&& Int32.toUInt32 31)).toInt32) &&& 1431655765)) &&& 858993459) + ((((p0 - (((p0.toUInt32 >>> ((1 : Int32).toUInt32 &&& Int32.toUInt32 31)).toInt32) &&& 1431655765)).toUInt32 >>> ((2 : Int32).toUInt32 &&& Int32.toUInt32 31)).toInt32) &&& 858993459)) + (((((p0 - (((p0.toUInt32 >>> ((1 : Int32).toUInt32 &&& Int32.toUInt32 31)).toInt32) &&& 1431655765)) &&& 858993459) + ((((p0 - (((p0.toUInt32 >>> ((1 : Int32).toUInt32 &&& Int32.toUInt32 31)).toInt32) &&& 1431655765)).toUInt32 >>> ((2 : Int32).toUInt32 &&& Int32.toUInt32 31)).toInt32) &&& 858993459)).toUInt32 >>> ((4 : Int32).toUInt32 &&& Int32.toUInt32 31)).toInt32)) &&& 252645135) + (((((((p0 - (((p0.toUInt32 >>> ((1 : Int32).toUInt32 &&& Int32.toUInt32 31)).toInt32) &&& 1431655765)) &&& 858993459) + ((((p0 - (((p0.toUInt32 >>> ((1 : Int32).toUInt32 &&& Int32.toUInt32 31)).toInt32) &&& 1431655765)).toUInt32 >>> ((2 : Int32).toUInt32 &&& Int32.toUInt32 31)).toInt32) &&& 858993459)) + (((((p0 - (((p0.toUInt32 >>> ((1 : Int32).toUInt32 &&& Int32.toUInt32 31)).toInt32) &&& 1431655765)) &&& 858993459) + ((((p0 - (((p0.toUInt32 >>> ((1 : Int32).toUInt32 &&& Int32.toUInt32 31)).toInt32) &&& 1431655765)).toUInt32 >>> ((2 : Int32).toUInt32 &&& Int32.toUInt32 31)).toInt32) &&& 858993459)).toUInt32 >>> ((4 : Int32).toUInt32 &&& Int32.toUInt32 31)).toInt32)) &&& 252645135).toUInt32 >>> ((8 : Int32).toUInt32 &&& Int32.toUInt32 31)).toInt32)).toUInt32 >>> ((16 : Int32).toUInt32 &&& Int32.toUInt32 31)).toInt32)) &&& 63), I, J)
set_option maxRecDepth 8000 in
theorem gJ_bitCount (l : Launch) (G : qp_G) (p0 : Int32) (I : Nat → Nat → Int32) (J : Nat → Nat → Int64) {v : Int32} {I' : Nat → Nat → Int32} {J' : Nat → Nat → Int64} (h : fJ_bitCount p0 I J = some (v, I', J')) {d : Nat} (hd : 1 ≤ d) : qp_Met l G d 100 [.int p0] (qp_mk I J) 0 0 (qp_R8 (some (.int v)) I' J') := by
  have hd1 : Nat.ble 1 d = true := Nat.ble_eq_true_of_le (Nat.le_trans (by decide) hd)
  refine qp_Met_of (by decide) (by rw [qp_r100.2]; rfl) [some (.int p0)] (by rw [qp_r100.2]; rfl) ?_
  unfold fJ_bitCount at h
  refine qp_run_E qp_ok100 41 (c' := (52, [some (.int (((((((p0 - (((p0.toUInt32 >>> ((1 : Int32).toUInt32 &&& Int32.toUInt32 31)).toInt32) &&& 1431655765)) &&& 858993459) + ((((p0 - (((p0.toUInt32 >>> ((1 : Int32).toUInt32 &&& Int32.toUInt32 31)).toInt32) &&& 1431655765)).toUInt32 >>> ((2 : Int32).toUInt32 &&& Int32.toUInt32 31)).toInt32) &&& 858993459)) + (((((p0 - (((p0.toUInt32 >>> ((1 : Int32).toUInt32 &&& Int32.toUInt32 31)).toInt32) &&& 1431655765)) &&& 858993459) + ((((p0 - (((p0.toUInt32 >>> ((1 : Int32).toUInt32 &&& Int32.toUInt32 31)).toInt32) &&& 1431655765)).toUInt32 >>> ((2 : Int32).toUInt32 &&& Int32.toUInt32 31)).toInt32) &&& 858993459)).toUInt32 >>> ((4 : Int32).toUInt32 &&& Int32.toUInt32 31)).toInt32)) &&& 252645135) + (((((((p0 - (((p0.toUInt32 >>> ((1 : Int32).toUInt32 &&& Int32.toUInt32 31)).toInt32) &&& 1431655765)) &&& 858993459) + ((((p0 - (((p0.toUInt32 >>> ((1 : Int32).toUInt32 &&& Int32.toUInt32 31)).toInt32) &&& 1431655765)).toUInt32 >>> ((2 : Int32).toUInt32 &&& Int32.toUInt32 31)).toInt32) &&& 858993459)) + (((((p0 - (((p0.toUInt32 >>> ((1 : Int32).toUInt32 &&& Int32.toUInt32 31)).toInt32) &&& 1431655765)) &&& 858993459) + ((((p0 - (((p0.toUInt32 >>> ((1 : Int32).toUInt32 &&& Int32.toUInt32 31)).toInt32) &&& 1431655765)).toUInt32 >>> ((2 : Int32).toUInt32 &&& Int32.toUInt32 31)).toInt32) &&& 858993459)).toUInt32 >>> ((4 : Int32).toUInt32 &&& Int32.toUInt32 31)).toInt32)) &&& 252645135).toUInt32 >>> ((8 : Int32).toUInt32 &&& Int32.toUInt32 31)).toInt32)) + ((((((((p0 - (((p0.toUInt32 >>> ((1 : Int32).toUInt32 &&& Int32.toUInt32 31)).toInt32) &&& 1431655765)) &&& 858993459) + ((((p0 - (((p0.toUInt32 >>> ((1 : Int32).toUInt32 &&& Int32.toUInt32 31)).toInt32) &&& 1431655765)).toUInt32 >>> ((2 : Int32).toUInt32 &&& Int32.toUInt32 31)).toInt32) &&& 858993459)) + (((((p0 - (((p0.toUInt32 >>> ((1 : Int32).toUInt32 &&& Int32.toUInt32 31)).toInt32) &&& 1431655765)) &&& 858993459) + ((((p0 - (((p0.toUInt32 >>> ((1 : Int32).toUInt32 &&& Int32.toUInt32 31)).toInt32) &&& 1431655765)).toUInt32 >>> ((2 : Int32).toUInt32 &&& Int32.toUInt32 31)).toInt32) &&& 858993459)).toUInt32 >>> ((4 : Int32).toUInt32 &&& Int32.toUInt32 31)).toInt32)) &&& 252645135) + (((((((p0 - (((p0.toUInt32 >>> ((1 : Int32).toUInt32 &&& Int32.toUInt32 31)).toInt32) &&& 1431655765)) &&& 858993459) + ((((p0 - (((p0.toUInt32 >>> ((1 : Int32).toUInt32 &&& Int32.toUInt32 31)).toInt32) &&& 1431655765)).toUInt32 >>> ((2 : Int32).toUInt32 &&& Int32.toUInt32 31)).toInt32) &&& 858993459)) + (((((p0 - (((p0.toUInt32 >>> ((1 : Int32).toUInt32 &&& Int32.toUInt32 31)).toInt32) &&& 1431655765)) &&& 858993459) + ((((p0 - (((p0.toUInt32 >>> ((1 : Int32).toUInt32 &&& Int32.toUInt32 31)).toInt32) &&& 1431655765)).toUInt32 >>> ((2 : Int32).toUInt32 &&& Int32.toUInt32 31)).toInt32) &&& 858993459)).toUInt32 >>> ((4 : Int32).toUInt32 &&& Int32.toUInt32 31)).toInt32)) &&& 252645135).toUInt32 >>> ((8 : Int32).toUInt32 &&& Int32.toUInt32 31)).toInt32)).toUInt32 >>> ((16 : Int32).toUInt32 &&& Int32.toUInt32 31)).toInt32)))], [.int ((((((((p0 - (((p0.toUInt32 >>> ((1 : Int32).toUInt32 &&& Int32.toUInt32 31)).toInt32) &&& 1431655765)) &&& 858993459) + ((((p0 - (((p0.toUInt32 >>> ((1 : Int32).toUInt32 &&& Int32.toUInt32 31)).toInt32) &&& 1431655765)).toUInt32 >>> ((2 : Int32).toUInt32 &&& Int32.toUInt32 31)).toInt32) &&& 858993459)) + (((((p0 - (((p0.toUInt32 >>> ((1 : Int32).toUInt32 &&& Int32.toUInt32 31)).toInt32) &&& 1431655765)) &&& 858993459) + ((((p0 - (((p0.toUInt32 >>> ((1 : Int32).toUInt32 &&& Int32.toUInt32 31)).toInt32) &&& 1431655765)).toUInt32 >>> ((2 : Int32).toUInt32 &&& Int32.toUInt32 31)).toInt32) &&& 858993459)).toUInt32 >>> ((4 : Int32).toUInt32 &&& Int32.toUInt32 31)).toInt32)) &&& 252645135) + (((((((p0 - (((p0.toUInt32 >>> ((1 : Int32).toUInt32 &&& Int32.toUInt32 31)).toInt32) &&& 1431655765)) &&& 858993459) + ((((p0 - (((p0.toUInt32 >>> ((1 : Int32).toUInt32 &&& Int32.toUInt32 31)).toInt32) &&& 1431655765)).toUInt32 >>> ((2 : Int32).toUInt32 &&& Int32.toUInt32 31)).toInt32) &&& 858993459)) + (((((p0 - (((p0.toUInt32 >>> ((1 : Int32).toUInt32 &&& Int32.toUInt32 31)).toInt32) &&& 1431655765)) &&& 858993459) + ((((p0 - (((p0.toUInt32 >>> ((1 : Int32).toUInt32 &&& Int32.toUInt32 31)).toInt32) &&& 1431655765)).toUInt32 >>> ((2 : Int32).toUInt32 &&& Int32.toUInt32 31)).toInt32) &&& 858993459)).toUInt32 >>> ((4 : Int32).toUInt32 &&& Int32.toUInt32 31)).toInt32)) &&& 252645135).toUInt32 >>> ((8 : Int32).toUInt32 &&& Int32.toUInt32 31)).toInt32)) + ((((((((p0 - (((p0.toUInt32 >>> ((1 : Int32).toUInt32 &&& Int32.toUInt32 31)).toInt32) &&& 1431655765)) &&& 858993459) + ((((p0 - (((p0.toUInt32 >>> ((1 : Int32).toUInt32 &&& Int32.toUInt32 31)).toInt32) &&& 1431655765)).toUInt32 >>> ((2 : Int32).toUInt32 &&& Int32.toUInt32 31)).toInt32) &&& 858993459)) + (((((p0 - (((p0.toUInt32 >>> ((1 : Int32).toUInt32 &&& Int32.toUInt32 31)).toInt32) &&& 1431655765)) &&& 858993459) + ((((p0 - (((p0.toUInt32 >>> ((1 : Int32).toUInt32 &&& Int32.toUInt32 31)).toInt32) &&& 1431655765)).toUInt32 >>> ((2 : Int32).toUInt32 &&& Int32.toUInt32 31)).toInt32) &&& 858993459)).toUInt32 >>> ((4 : Int32).toUInt32 &&& Int32.toUInt32 31)).toInt32)) &&& 252645135) + (((((((p0 - (((p0.toUInt32 >>> ((1 : Int32).toUInt32 &&& Int32.toUInt32 31)).toInt32) &&& 1431655765)) &&& 858993459) + ((((p0 - (((p0.toUInt32 >>> ((1 : Int32).toUInt32 &&& Int32.toUInt32 31)).toInt32) &&& 1431655765)).toUInt32 >>> ((2 : Int32).toUInt32 &&& Int32.toUInt32 31)).toInt32) &&& 858993459)) + (((((p0 - (((p0.toUInt32 >>> ((1 : Int32).toUInt32 &&& Int32.toUInt32 31)).toInt32) &&& 1431655765)) &&& 858993459) + ((((p0 - (((p0.toUInt32 >>> ((1 : Int32).toUInt32 &&& Int32.toUInt32 31)).toInt32) &&& 1431655765)).toUInt32 >>> ((2 : Int32).toUInt32 &&& Int32.toUInt32 31)).toInt32) &&& 858993459)).toUInt32 >>> ((4 : Int32).toUInt32 &&& Int32.toUInt32 31)).toInt32)) &&& 252645135).toUInt32 >>> ((8 : Int32).toUInt32 &&& Int32.toUInt32 31)).toInt32)).toUInt32 >>> ((16 : Int32).toUInt32 &&& Int32.toUInt32 31)).toInt32)) &&& 63)], qp_mk I J)) (by with_unfolding_all rfl) hd1 trivial ?_
  obtain ⟨rfl, rfl, rfl⟩ := qp_some3 h
  exact qp_retI_E qp_ok100 rfl qp_r100.1 ⟨rfl, rfl⟩ ⟨rfl, rfl⟩
def fD_rank_b7  : Nat → Int32 → Int32 → Int32 → Int32 → Int32 → (Nat → Nat → Int32) → (Nat → Nat → Int64) → Option (Int32 × (Nat → Nat → Int32) × (Nat → Nat → Int64))
  | 0, _, _, _, _, _, _, _ => none
  | n + 1, a0, a1, a2, a3, a4, I, J =>
    if a1 ≤ a4 then (
      some (a2, I, J)
    ) else (
      qp_bd (fD_whoAt a0 a4 I J) fun v1 I1 J1 =>
      qp_bd (fJ_bitCount (a3 &&& (((1 : Int32) <<< (v1 &&& 31)) - 1)) I1 J1) fun v2 I2 J2 =>
      fD_rank_b7 n a0 a1 (((a2 * (a1 - a4)) + v1) - v2) (a3 ||| ((1 : Int32) <<< (v1 &&& 31))) (a4 + 1) I2 J2
    )
set_option maxRecDepth 8000 in
theorem gD_rank_b7 {l : Launch} {G : qp_G} {d : Nat} (hd : 2 ≤ d) {r : (Int32 × (Nat → Nat → Int32) × (Nat → Nat → Int64))} {I0 : Nat → Nat → Int32} {J0 : Nat → Nat → Int64}   : ∀ (n : Nat) (a0 : Int32) (a1 : Int32) (a2 : Int32) (a3 : Int32) (a4 : Int32) (I : Nat → Nat → Int32) (J : Nat → Nat → Int64), fD_rank_b7  n a0 a1 a2 a3 a4 I J = some r → qp_E l G d 99 (qp_mk I0 J0) 0 0 (qp_R8 (some (.int r.1)) r.2.1 r.2.2) (7, [some (.int a0), some (.int a1), some (.int a2), some (.int a3), some (.int a4), none], [], qp_mk I J) := by
  have hd1 : Nat.ble 1 d = true := Nat.ble_eq_true_of_le (Nat.le_trans (by decide) hd)
  intro n
  induction n with
  | zero => intro a0 a1 a2 a3 a4 I J h; exact absurd h (by simp [fD_rank_b7])
  | succ n ih =>
    intro a0 a1 a2 a3 a4 I J h
    rw [fD_rank_b7] at h
    refine qp_run_E qp_ok99 2 (c' := (10, [some (.int a0), some (.int a1), some (.int a2), some (.int a3), some (.int a4), none], [.int a1, .int a4], qp_mk I J)) (by with_unfolding_all rfl) hd1 trivial ?_
    refine qp_br_E qp_ok99 (f := a1 ≤ a4) (ct := (56, [some (.int a0), some (.int a1), some (.int a2), some (.int a3), some (.int a4), none], [], qp_mk I J)) (cf := (13, [some (.int a0), some (.int a1), some (.int a2), some (.int a3), some (.int a4), none], [], qp_mk I J)) (by with_unfolding_all rfl) (fun h1 => ?_) (fun h1 => ?_)
    · replace h := qp_ift h1 h
      refine qp_run_E qp_ok99 1 (c' := (57, [some (.int a0), some (.int a1), some (.int a2), some (.int a3), some (.int a4), none], [.int a2], qp_mk I J)) (by with_unfolding_all rfl) hd1 trivial ?_
      obtain rfl := Option.some.inj h
      exact qp_retI_E qp_ok99 rfl qp_r99.1 ⟨rfl, rfl⟩ ⟨rfl, rfl⟩
    · replace h := qp_iff h1 h
      refine qp_run_E qp_ok99 2 (c' := (16, [some (.int a0), some (.int a1), some (.int a2), some (.int a3), some (.int a4), none], [.int a4, .int a0], qp_mk I J)) (by with_unfolding_all rfl) hd1 trivial ?_
      obtain ⟨v1, I1, J1, e1, h⟩ := qp_bd_s h
      refine qp_cS qp_ok99 (rest := []) (oj := 11) qp_f56 rfl rfl (gD_whoAt l G a0 a4 I J e1 (Nat.le_refl 1)) rfl rfl rfl (Nat.le_trans (by decide) hd) ?_
      refine qp_run_E qp_ok99 15 (c' := (38, [some (.int a0), some (.int a1), some (.int a2), some (.int a3), some (.int a4), some (.int v1)], [.int (a3 &&& (((1 : Int32) <<< (v1 &&& 31)) - 1)), .int ((a2 * (a1 - a4)) + v1)], qp_mk I1 J1)) (by with_unfolding_all rfl) hd1 trivial ?_
      obtain ⟨v2, I2, J2, e2, h⟩ := qp_bd_s h
      refine qp_cS qp_ok99 (rest := [.int ((a2 * (a1 - a4)) + v1)]) (oj := 12) qp_f100 rfl rfl (gJ_bitCount l G (a3 &&& (((1 : Int32) <<< (v1 &&& 31)) - 1)) I1 J1 e2 (Nat.le_refl 1)) rfl rfl rfl (Nat.le_trans (by decide) hd) ?_
      refine qp_run_E qp_ok99 10 (c' := (7, [some (.int a0), some (.int a1), some (.int (((a2 * (a1 - a4)) + v1) - v2)), some (.int (a3 ||| ((1 : Int32) <<< (v1 &&& 31)))), some (.int (a4 + 1)), some (.int v1)], [], qp_mk I2 J2)) (by with_unfolding_all rfl) hd1 trivial ?_
      exact qp_E_fg [true, true, true, true, true, false] (ih a0 a1 (((a2 * (a1 - a4)) + v1) - v2) (a3 ||| ((1 : Int32) <<< (v1 &&& 31))) (a4 + 1) I2 J2 h)
def fD_rank (p0 : Int32) (p1 : Int32) (I : Nat → Nat → Int32) (J : Nat → Nat → Int64) : Option (Int32 × (Nat → Nat → Int32) × (Nat → Nat → Int64)) :=
  fD_rank_b7 100000 p0 p1 0 0 0 I J
set_option maxRecDepth 8000 in
theorem gD_rank (l : Launch) (G : qp_G) (p0 : Int32) (p1 : Int32) (I : Nat → Nat → Int32) (J : Nat → Nat → Int64) {v : Int32} {I' : Nat → Nat → Int32} {J' : Nat → Nat → Int64} (h : fD_rank p0 p1 I J = some (v, I', J')) {d : Nat} (hd : 2 ≤ d) : qp_Met l G d 99 [.int p0, .int p1] (qp_mk I J) 0 0 (qp_R8 (some (.int v)) I' J') := by
  have hd1 : Nat.ble 1 d = true := Nat.ble_eq_true_of_le (Nat.le_trans (by decide) hd)
  refine qp_Met_of (by decide) (by rw [qp_r99.2]; rfl) [some (.int p0), some (.int p1), none, none, none, none] (by rw [qp_r99.2]; rfl) ?_
  unfold fD_rank at h
  refine qp_run_E qp_ok99 6 (c' := (7, [some (.int p0), some (.int p1), some (.int 0), some (.int 0), some (.int 0), none], [], qp_mk I J)) (by with_unfolding_all rfl) hd1 trivial ?_
  exact gD_rank_b7 hd 100000 p0 p1 0 0 0 I J h
def fH_reach (p1 : Int32) (p2 : Int32) (I : Nat → Nat → Int32) (J : Nat → Nat → Int64) : Option (Unit × (Nat → Nat → Int32) × (Nat → Nat → Int64)) :=
  qp_bd (fD_rank p1 (I 15 0) I J) fun v1 I1 J1 =>
  if v1 < 0 then (
    some ((), I1, J1)
  ) else (
    if 720 ≤ v1 then (
      some ((), I1, J1)
    ) else (
      qp_gd ((0 ≤ v1 ∧ v1 < 720)) <|
      if ¬ (I1 28 (Int32.toNatClampNeg v1)) = 0 then (
        some ((), I1, J1)
      ) else (
        if 720 ≤ (I1 25 4) then (
          some ((), I1, J1)
        ) else (
          qp_gd ((0 ≤ v1 ∧ v1 < 720) ∧ (0 ≤ (I1 25 4) ∧ (I1 25 4) < 720)) <|
          some ((), (qp_up (qp_up (qp_up (qp_up I1 28 (Int32.toNatClampNeg v1) 1) 26 (Int32.toNatClampNeg (I1 25 4)) p1) 27 (Int32.toNatClampNeg (I1 25 4)) p2) 25 4 ((I1 25 4) + 1)), J1)
        )
      )
    )
  )
set_option maxRecDepth 8000 in
theorem gH_reach (l : Launch) (G : qp_G) (p1 : Int32) (p2 : Int32) (I : Nat → Nat → Int32) (J : Nat → Nat → Int64) {v : Unit} {I' : Nat → Nat → Int32} {J' : Nat → Nat → Int64} (h : fH_reach p1 p2 I J = some (v, I', J')) {d : Nat} (hd : 3 ≤ d) : qp_Met l G d 98 [.ref 25, .int p1, .int p2] (qp_mk I J) 0 0 (qp_R8 none I' J') := by
  have hd1 : Nat.ble 1 d = true := Nat.ble_eq_true_of_le (Nat.le_trans (by decide) hd)
  refine qp_Met_of (by decide) (by rw [qp_r98.2]; rfl) [some (.ref 25), some (.int p1), some (.int p2), none] (by rw [qp_r98.2]; rfl) ?_
  unfold fH_reach at h
  refine qp_run_E qp_ok98 5 (c' := (11, [some (.ref 25), some (.int p1), some (.int p2), none], [.int (I 15 0), .int p1], qp_mk I J)) (by with_unfolding_all rfl) hd1 trivial ?_
  obtain ⟨v1, I1, J1, e1, h⟩ := qp_bd_s h
  refine qp_cS qp_ok98 (rest := []) (oj := 11) qp_f99 rfl rfl (gD_rank l G p1 (I 15 0) I J e1 (Nat.le_refl 2)) rfl rfl rfl (Nat.le_trans (by decide) hd) ?_
  refine qp_run_E qp_ok98 2 (c' := (16, [some (.ref 25), some (.int p1), some (.int p2), some (.int v1)], [.int v1], qp_mk I1 J1)) (by with_unfolding_all rfl) hd1 trivial ?_
  refine qp_br_E qp_ok98 (f := v1 < 0) (ct := (82, [some (.ref 25), some (.int p1), some (.int p2), some (.int v1)], [], qp_mk I1 J1)) (cf := (19, [some (.ref 25), some (.int p1), some (.int p2), some (.int v1)], [], qp_mk I1 J1)) (by with_unfolding_all rfl) (fun h1 => ?_) (fun h1 => ?_)
  · replace h := qp_ift h1 h
    obtain ⟨rfl, rfl, rfl⟩ := qp_some3 h
    exact qp_retV_E qp_ok98 rfl qp_r98.1 ⟨rfl, rfl⟩ ⟨rfl, rfl⟩
  · replace h := qp_iff h1 h
    refine qp_run_E qp_ok98 2 (c' := (23, [some (.ref 25), some (.int p1), some (.int p2), some (.int v1)], [.int 720, .int v1], qp_mk I1 J1)) (by with_unfolding_all rfl) hd1 trivial ?_
    refine qp_br_E qp_ok98 (f := 720 ≤ v1) (ct := (82, [some (.ref 25), some (.int p1), some (.int p2), some (.int v1)], [], qp_mk I1 J1)) (cf := (26, [some (.ref 25), some (.int p1), some (.int p2), some (.int v1)], [], qp_mk I1 J1)) (by with_unfolding_all rfl) (fun h2 => ?_) (fun h2 => ?_)
    · replace h := qp_ift h2 h
      obtain ⟨rfl, rfl, rfl⟩ := qp_some3 h
      exact qp_retV_E qp_ok98 rfl qp_r98.1 ⟨rfl, rfl⟩ ⟨rfl, rfl⟩
    · replace h := qp_iff h2 h
      obtain ⟨h3, h⟩ := qp_gd_s h
      refine qp_run_E qp_ok98 4 (f := vp_in v1 720 ∧ True) (c' := (32, [some (.ref 25), some (.int p1), some (.int p2), some (.int v1)], [.int (I1 28 (Int32.toNatClampNeg v1))], qp_mk I1 J1)) (by with_unfolding_all rfl) hd1 ⟨(qp_vin (c := 720) (by decide) h3.1 h3.2), trivial⟩ ?_
      refine qp_br_E qp_ok98 (f := ¬ (I1 28 (Int32.toNatClampNeg v1)) = 0) (ct := (82, [some (.ref 25), some (.int p1), some (.int p2), some (.int v1)], [], qp_mk I1 J1)) (cf := (35, [some (.ref 25), some (.int p1), some (.int p2), some (.int v1)], [], qp_mk I1 J1)) (by with_unfolding_all rfl) (fun h4 => ?_) (fun h4 => ?_)
      · replace h := qp_ift h4 h
        obtain ⟨rfl, rfl, rfl⟩ := qp_some3 h
        exact qp_retV_E qp_ok98 rfl qp_r98.1 ⟨rfl, rfl⟩ ⟨rfl, rfl⟩
      · replace h := qp_iff h4 h
        refine qp_run_E qp_ok98 3 (c' := (42, [some (.ref 25), some (.int p1), some (.int p2), some (.int v1)], [.int 720, .int (I1 25 4)], qp_mk I1 J1)) (by with_unfolding_all rfl) hd1 trivial ?_
        refine qp_br_E qp_ok98 (f := 720 ≤ (I1 25 4)) (ct := (82, [some (.ref 25), some (.int p1), some (.int p2), some (.int v1)], [], qp_mk I1 J1)) (cf := (45, [some (.ref 25), some (.int p1), some (.int p2), some (.int v1)], [], qp_mk I1 J1)) (by with_unfolding_all rfl) (fun h5 => ?_) (fun h5 => ?_)
        · replace h := qp_ift h5 h
          obtain ⟨rfl, rfl, rfl⟩ := qp_some3 h
          exact qp_retV_E qp_ok98 rfl qp_r98.1 ⟨rfl, rfl⟩ ⟨rfl, rfl⟩
        · replace h := qp_iff h5 h
          obtain ⟨h6, h⟩ := qp_gd_s h
          refine qp_run_E qp_ok98 23 (f := (vp_in v1 720 ∧ vp_nar .boolean 1 = 1) ∧ vp_in (I1 25 4) 720 ∧ vp_in (I1 25 4) 720 ∧ True) (c' := (82, [some (.ref 25), some (.int p1), some (.int p2), some (.int v1)], [], qp_mk (qp_up (qp_up (qp_up (qp_up I1 28 (Int32.toNatClampNeg v1) 1) 26 (Int32.toNatClampNeg (I1 25 4)) p1) 27 (Int32.toNatClampNeg (I1 25 4)) p2) 25 4 ((I1 25 4) + 1)) J1)) (by with_unfolding_all rfl) hd1 ⟨⟨(qp_vin (c := 720) (by decide) h6.1.1 h6.1.2), by rfl⟩, (qp_vin (c := 720) (by decide) h6.2.1 h6.2.2), (qp_vin (c := 720) (by decide) h6.2.1 h6.2.2), trivial⟩ ?_
          obtain ⟨rfl, rfl, rfl⟩ := qp_some3 h
          exact qp_retV_E qp_ok98 rfl qp_r98.1 ⟨rfl, rfl⟩ ⟨rfl, rfl⟩
def fH_goOn_b23  (k14 : Int32 → Int32 → Int32 → Int32 → (Nat → Nat → Int32) → (Nat → Nat → Int64) → Option (Unit × (Nat → Nat → Int32) × (Nat → Nat → Int64))) : Nat → Int32 → Int32 → Int32 → Int32 → Int32 → (Nat → Nat → Int32) → (Nat → Nat → Int64) → Option (Unit × (Nat → Nat → Int32) × (Nat → Nat → Int64))
  | 0, _, _, _, _, _, _, _ => none
  | n + 1, a1, a2, a3, a4, a5, I, J =>
    if a3 ≤ a5 then (
      k14 a1 a2 a3 (a4 + 1) I J
    ) else (
      qp_bd (fD_by a1 a3 (((8 : Int32) * a4) + a5) I J) fun v1 I1 J1 =>
      qp_bd (fH_reach v1 ((a2 <<< ((6 : Int32) &&& 31)) ||| (((8 : Int32) * a4) + a5)) I1 J1) fun _u I2 J2 =>
      fH_goOn_b23 k14 n a1 a2 a3 a4 (a5 + 1) I2 J2
    )
set_option maxRecDepth 8000 in
theorem gH_goOn_b23 {l : Launch} {G : qp_G} {d : Nat} (hd : 4 ≤ d) {r : (Unit × (Nat → Nat → Int32) × (Nat → Nat → Int64))} {I0 : Nat → Nat → Int32} {J0 : Nat → Nat → Int64}  (k14 : Int32 → Int32 → Int32 → Int32 → (Nat → Nat → Int32) → (Nat → Nat → Int64) → Option (Unit × (Nat → Nat → Int32) × (Nat → Nat → Int64))) (hk14 : ∀ a1 a2 a3 a4 I J, k14 a1 a2 a3 a4 I J = some r → qp_E l G d 102 (qp_mk I0 J0) 0 0 (qp_R8 none r.2.1 r.2.2) (14, [some (.ref 25), some (.int a1), some (.int a2), some (.int a3), some (.int a4), none], [], qp_mk I J)) : ∀ (n : Nat) (a1 : Int32) (a2 : Int32) (a3 : Int32) (a4 : Int32) (a5 : Int32) (I : Nat → Nat → Int32) (J : Nat → Nat → Int64), fH_goOn_b23 k14 n a1 a2 a3 a4 a5 I J = some r → qp_E l G d 102 (qp_mk I0 J0) 0 0 (qp_R8 none r.2.1 r.2.2) (23, [some (.ref 25), some (.int a1), some (.int a2), some (.int a3), some (.int a4), some (.int a5)], [], qp_mk I J) := by
  have hd1 : Nat.ble 1 d = true := Nat.ble_eq_true_of_le (Nat.le_trans (by decide) hd)
  intro n
  induction n with
  | zero => intro a1 a2 a3 a4 a5 I J h; exact absurd h (by simp [fH_goOn_b23])
  | succ n ih =>
    intro a1 a2 a3 a4 a5 I J h
    rw [fH_goOn_b23] at h
    refine qp_run_E qp_ok102 2 (c' := (26, [some (.ref 25), some (.int a1), some (.int a2), some (.int a3), some (.int a4), some (.int a5)], [.int a3, .int a5], qp_mk I J)) (by with_unfolding_all rfl) hd1 trivial ?_
    refine qp_br_E qp_ok102 (f := a3 ≤ a5) (ct := (65, [some (.ref 25), some (.int a1), some (.int a2), some (.int a3), some (.int a4), some (.int a5)], [], qp_mk I J)) (cf := (29, [some (.ref 25), some (.int a1), some (.int a2), some (.int a3), some (.int a4), some (.int a5)], [], qp_mk I J)) (by with_unfolding_all rfl) (fun h1 => ?_) (fun h1 => ?_)
    · replace h := qp_ift h1 h
      refine qp_run_E qp_ok102 2 (c' := (14, [some (.ref 25), some (.int a1), some (.int a2), some (.int a3), some (.int (a4 + 1)), some (.int a5)], [], qp_mk I J)) (by with_unfolding_all rfl) hd1 trivial ?_
      exact qp_E_fg [true, true, true, true, true, false] (hk14 a1 a2 a3 (a4 + 1) I J h)
    · replace h := qp_iff h1 h
      refine qp_run_E qp_ok102 8 (c' := (40, [some (.ref 25), some (.int a1), some (.int a2), some (.int a3), some (.int a4), some (.int a5)], [.int (((8 : Int32) * a4) + a5), .int a3, .int a1, .ref 25], qp_mk I J)) (by with_unfolding_all rfl) hd1 trivial ?_
      obtain ⟨v1, I1, J1, e1, h⟩ := qp_bd_s h
      refine qp_cS qp_ok102 (rest := [.ref 25]) (oj := 11) qp_f76 rfl rfl (gD_by l G a1 a3 (((8 : Int32) * a4) + a5) I J e1 (Nat.le_refl 3)) rfl rfl rfl (Nat.le_trans (by decide) hd) ?_
      refine qp_run_E qp_ok102 9 (c' := (56, [some (.ref 25), some (.int a1), some (.int a2), some (.int a3), some (.int a4), some (.int a5)], [.int ((a2 <<< ((6 : Int32) &&& 31)) ||| (((8 : Int32) * a4) + a5)), .int v1, .ref 25], qp_mk I1 J1)) (by with_unfolding_all rfl) hd1 trivial ?_
      obtain ⟨v2, I2, J2, e2, h⟩ := qp_bd_s h
      refine qp_cV qp_ok102 (rest := []) (oj := 6) qp_f98 rfl rfl (gH_reach l G v1 ((a2 <<< ((6 : Int32) &&& 31)) ||| (((8 : Int32) * a4) + a5)) I1 J1 e2 (Nat.le_refl 3)) rfl rfl rfl rfl (Nat.le_trans (by decide) hd) ?_
      refine qp_run_E qp_ok102 2 (c' := (23, [some (.ref 25), some (.int a1), some (.int a2), some (.int a3), some (.int a4), some (.int (a5 + 1))], [], qp_mk I2 J2)) (by with_unfolding_all rfl) hd1 trivial ?_
      exact ih a1 a2 a3 a4 (a5 + 1) I2 J2 h
def fH_goOn_b14  : Nat → Int32 → Int32 → Int32 → Int32 → (Nat → Nat → Int32) → (Nat → Nat → Int64) → Option (Unit × (Nat → Nat → Int32) × (Nat → Nat → Int64))
  | 0, _, _, _, _, _, _ => none
  | n + 1, a1, a2, a3, a4, I, J =>
    if a3 ≤ a4 then (
      some ((), I, J)
    ) else (
      fH_goOn_b23 (fun a0 a1 a2 a3 I J => fH_goOn_b14 n a0 a1 a2 a3 I J) 100000 a1 a2 a3 a4 0 I J
    )
set_option maxRecDepth 8000 in
theorem gH_goOn_b14 {l : Launch} {G : qp_G} {d : Nat} (hd : 4 ≤ d) {r : (Unit × (Nat → Nat → Int32) × (Nat → Nat → Int64))} {I0 : Nat → Nat → Int32} {J0 : Nat → Nat → Int64}   : ∀ (n : Nat) (a1 : Int32) (a2 : Int32) (a3 : Int32) (a4 : Int32) (I : Nat → Nat → Int32) (J : Nat → Nat → Int64), fH_goOn_b14  n a1 a2 a3 a4 I J = some r → qp_E l G d 102 (qp_mk I0 J0) 0 0 (qp_R8 none r.2.1 r.2.2) (14, [some (.ref 25), some (.int a1), some (.int a2), some (.int a3), some (.int a4), none], [], qp_mk I J) := by
  have hd1 : Nat.ble 1 d = true := Nat.ble_eq_true_of_le (Nat.le_trans (by decide) hd)
  intro n
  induction n with
  | zero => intro a1 a2 a3 a4 I J h; exact absurd h (by simp [fH_goOn_b14])
  | succ n ih =>
    intro a1 a2 a3 a4 I J h
    rw [fH_goOn_b14] at h
    refine qp_run_E qp_ok102 2 (c' := (17, [some (.ref 25), some (.int a1), some (.int a2), some (.int a3), some (.int a4), none], [.int a3, .int a4], qp_mk I J)) (by with_unfolding_all rfl) hd1 trivial ?_
    refine qp_br_E qp_ok102 (f := a3 ≤ a4) (ct := (71, [some (.ref 25), some (.int a1), some (.int a2), some (.int a3), some (.int a4), none], [], qp_mk I J)) (cf := (20, [some (.ref 25), some (.int a1), some (.int a2), some (.int a3), some (.int a4), none], [], qp_mk I J)) (by with_unfolding_all rfl) (fun h1 => ?_) (fun h1 => ?_)
    · replace h := qp_ift h1 h
      obtain rfl := Option.some.inj h
      exact qp_retV_E qp_ok102 rfl qp_r102.1 ⟨rfl, rfl⟩ ⟨rfl, rfl⟩
    · replace h := qp_iff h1 h
      refine qp_run_E qp_ok102 2 (c' := (23, [some (.ref 25), some (.int a1), some (.int a2), some (.int a3), some (.int a4), some (.int 0)], [], qp_mk I J)) (by with_unfolding_all rfl) hd1 trivial ?_
      exact gH_goOn_b23 hd (fun a0 a1 a2 a3 I J => fH_goOn_b14 n a0 a1 a2 a3 I J) (fun a0 a1 a2 a3 I J h => ih a0 a1 a2 a3 I J h) 100000 a1 a2 a3 a4 0 I J h
def fH_goOn (p1 : Int32) (p2 : Int32) (I : Nat → Nat → Int32) (J : Nat → Nat → Int64) : Option (Unit × (Nat → Nat → Int32) × (Nat → Nat → Int64)) :=
  fH_goOn_b14 100000 p1 p2 (I 15 0) 0 I J
set_option maxRecDepth 8000 in
theorem gH_goOn (l : Launch) (G : qp_G) (p1 : Int32) (p2 : Int32) (I : Nat → Nat → Int32) (J : Nat → Nat → Int64) {v : Unit} {I' : Nat → Nat → Int32} {J' : Nat → Nat → Int64} (h : fH_goOn p1 p2 I J = some (v, I', J')) {d : Nat} (hd : 4 ≤ d) : qp_Met l G d 102 [.ref 25, .int p1, .int p2] (qp_mk I J) 0 0 (qp_R8 none I' J') := by
  have hd1 : Nat.ble 1 d = true := Nat.ble_eq_true_of_le (Nat.le_trans (by decide) hd)
  refine qp_Met_of (by decide) (by rw [qp_r102.2]; rfl) [some (.ref 25), some (.int p1), some (.int p2), none, none, none] (by rw [qp_r102.2]; rfl) ?_
  unfold fH_goOn at h
  refine qp_run_E qp_ok102 7 (c' := (14, [some (.ref 25), some (.int p1), some (.int p2), some (.int (I 15 0)), some (.int 0), none], [], qp_mk I J)) (by with_unfolding_all rfl) hd1 trivial ?_
  exact gH_goOn_b14 hd 100000 p1 p2 (I 15 0) 0 I J h
def fH_fits (p1 : Int32) (p2 : Int32) (p3 : Int32) (p4 : Int32) (I : Nat → Nat → Int32) (J : Nat → Nat → Int64) : Option (Int32 × (Nat → Nat → Int32) × (Nat → Nat → Int64)) :=
  qp_bd (fD_haveMet p1 (I 15 0) p2 p3 I J) fun v1 I1 J1 =>
  if ¬ v1 = 0 then (
    qp_bd (fL_serve p1 I1 J1) fun _u I2 J2 =>
    qp_bd (fV_gainOf p4 I2 J2) fun v3 I3 J3 =>
    qp_bd (fV_wantOf p4 I3 J3) fun v4 I4 J4 =>
    if ¬ v3 = v4 then (
      some (0, I4, J4)
    ) else (
      some (1, I4, J4)
    )
  ) else (
    some (0, I1, J1)
  )
set_option maxRecDepth 8000 in
theorem gH_fits (l : Launch) (G : qp_G) (p1 : Int32) (p2 : Int32) (p3 : Int32) (p4 : Int32) (I : Nat → Nat → Int32) (J : Nat → Nat → Int64) {v : Int32} {I' : Nat → Nat → Int32} {J' : Nat → Nat → Int64} (h : fH_fits p1 p2 p3 p4 I J = some (v, I', J')) {d : Nat} (hd : 5 ≤ d) : qp_Met l G d 101 [.ref 25, .int p1, .int p2, .int p3, .int p4] (qp_mk I J) 0 0 (qp_R8 (some (.int v)) I' J') := by
  have hd1 : Nat.ble 1 d = true := Nat.ble_eq_true_of_le (Nat.le_trans (by decide) hd)
  refine qp_Met_of (by decide) (by rw [qp_r101.2]; rfl) [some (.ref 25), some (.int p1), some (.int p2), some (.int p3), some (.int p4)] (by rw [qp_r101.2]; rfl) ?_
  unfold fH_fits at h
  refine qp_run_E qp_ok101 7 (c' := (13, [some (.ref 25), some (.int p1), some (.int p2), some (.int p3), some (.int p4)], [.int p3, .int p2, .int (I 15 0), .int p1], qp_mk I J)) (by with_unfolding_all rfl) hd1 trivial ?_
  obtain ⟨v1, I1, J1, e1, h⟩ := qp_bd_s h
  refine qp_cS qp_ok101 (rest := []) (oj := 11) qp_f67 rfl rfl (gD_haveMet l G p1 (I 15 0) p2 p3 I J e1 (Nat.le_refl 3)) rfl rfl rfl (Nat.le_trans (by decide) hd) ?_
  refine qp_br_E qp_ok101 (f := ¬ v1 = 0) (ct := (21, [some (.ref 25), some (.int p1), some (.int p2), some (.int p3), some (.int p4)], [], qp_mk I1 J1)) (cf := (19, [some (.ref 25), some (.int p1), some (.int p2), some (.int p3), some (.int p4)], [], qp_mk I1 J1)) (by with_unfolding_all rfl) (fun h1 => ?_) (fun h1 => ?_)
  · replace h := qp_ift h1 h
    refine qp_run_E qp_ok101 3 (c' := (26, [some (.ref 25), some (.int p1), some (.int p2), some (.int p3), some (.int p4)], [.int p1, .ref 14], qp_mk I1 J1)) (by with_unfolding_all rfl) hd1 trivial ?_
    obtain ⟨v2, I2, J2, e2, h⟩ := qp_bd_s h
    refine qp_cV qp_ok101 (rest := []) (oj := 4) qp_f54 rfl rfl (gL_serve l G p1 I1 J1 e2 (Nat.le_refl 4)) rfl rfl rfl rfl (Nat.le_trans (by decide) hd) ?_
    refine qp_run_E qp_ok101 4 (c' := (38, [some (.ref 25), some (.int p1), some (.int p2), some (.int p3), some (.int p4)], [.int p4, .ref 18], qp_mk I2 J2)) (by with_unfolding_all rfl) hd1 trivial ?_
    obtain ⟨v3, I3, J3, e3, h⟩ := qp_bd_s h
    refine qp_cV qp_ok101 (rest := []) (oj := 5) qp_f64 rfl rfl (gV_gainOf l G p4 I2 J2 e3 (Nat.le_refl 1)) rfl rfl rfl rfl (Nat.le_trans (by decide) hd) ?_
    refine qp_run_E qp_ok101 4 (c' := (50, [some (.ref 25), some (.int p1), some (.int p2), some (.int p3), some (.int p4)], [.int p4, .ref 18, .int v3], qp_mk I3 J3)) (by with_unfolding_all rfl) hd1 trivial ?_
    obtain ⟨v4, I4, J4, e4, h⟩ := qp_bd_s h
    refine qp_cV qp_ok101 (rest := [.int v3]) (oj := 5) qp_f63 rfl rfl (gV_wantOf l G p4 I3 J3 e4 (Nat.le_refl 1)) rfl rfl rfl rfl (Nat.le_trans (by decide) hd) ?_
    refine qp_br_E qp_ok101 (f := ¬ v3 = v4) (ct := (60, [some (.ref 25), some (.int p1), some (.int p2), some (.int p3), some (.int p4)], [], qp_mk I4 J4)) (cf := (56, [some (.ref 25), some (.int p1), some (.int p2), some (.int p3), some (.int p4)], [], qp_mk I4 J4)) (by with_unfolding_all rfl) (fun h2 => ?_) (fun h2 => ?_)
    · replace h := qp_ift h2 h
      refine qp_run_E qp_ok101 1 (c' := (61, [some (.ref 25), some (.int p1), some (.int p2), some (.int p3), some (.int p4)], [.int 0], qp_mk I4 J4)) (by with_unfolding_all rfl) hd1 trivial ?_
      obtain ⟨rfl, rfl, rfl⟩ := qp_some3 h
      exact qp_retZ_E qp_ok101 rfl qp_r101.1 rfl ⟨rfl, rfl⟩ ⟨rfl, rfl⟩
    · replace h := qp_iff h2 h
      refine qp_run_E qp_ok101 2 (c' := (61, [some (.ref 25), some (.int p1), some (.int p2), some (.int p3), some (.int p4)], [.int 1], qp_mk I4 J4)) (by with_unfolding_all rfl) hd1 trivial ?_
      obtain ⟨rfl, rfl, rfl⟩ := qp_some3 h
      exact qp_retZ_E qp_ok101 rfl qp_r101.1 rfl ⟨rfl, rfl⟩ ⟨rfl, rfl⟩
  · replace h := qp_iff h1 h
    refine qp_run_E qp_ok101 1 (c' := (20, [some (.ref 25), some (.int p1), some (.int p2), some (.int p3), some (.int p4)], [.int 0], qp_mk I1 J1)) (by with_unfolding_all rfl) hd1 trivial ?_
    obtain ⟨rfl, rfl, rfl⟩ := qp_some3 h
    exact qp_retZ_E qp_ok101 rfl qp_r101.1 rfl ⟨rfl, rfl⟩ ⟨rfl, rfl⟩
def fH_fewest_b122  (k50 : Int32 → Int32 → Int32 → Int32 → Int32 → (Nat → Nat → Int32) → (Nat → Nat → Int64) → Option (Int32 × (Nat → Nat → Int32) × (Nat → Nat → Int64))) : Nat → Int32 → Int32 → Int32 → Int32 → Int32 → Int32 → (Nat → Nat → Int32) → (Nat → Nat → Int64) → Option (Int32 × (Nat → Nat → Int32) × (Nat → Nat → Int64))
  | 0, _, _, _, _, _, _, _, _ => none
  | n + 1, a1, a2, a3, a5, a6, a7, I, J =>
    if a6 ≤ a7 then (
      k50 a1 a2 a3 a6 (a5 + 1) I J
    ) else (
      if 720 ≤ a7 then (
        k50 a1 a2 a3 a6 (a5 + 1) I J
      ) else (
        if 3 ≤ a5 then (
          k50 a1 a2 a3 a6 (a5 + 1) I J
        ) else (
          qp_gd ((0 ≤ a7 ∧ a7 < 720)) <|
          qp_bd (fH_goOn (I 26 (Int32.toNatClampNeg a7)) (I 27 (Int32.toNatClampNeg a7)) I J) fun _u I1 J1 =>
          fH_fewest_b122 k50 n a1 a2 a3 a5 a6 (a7 + 1) I1 J1
        )
      )
    )
set_option maxRecDepth 8000 in
theorem gH_fewest_b122 {l : Launch} {G : qp_G} {d : Nat} (hd : 6 ≤ d) {r : (Int32 × (Nat → Nat → Int32) × (Nat → Nat → Int64))} {I0 : Nat → Nat → Int32} {J0 : Nat → Nat → Int64}  (k50 : Int32 → Int32 → Int32 → Int32 → Int32 → (Nat → Nat → Int32) → (Nat → Nat → Int64) → Option (Int32 × (Nat → Nat → Int32) × (Nat → Nat → Int64))) (hk50 : ∀ a1 a2 a3 a4 a5 I J, k50 a1 a2 a3 a4 a5 I J = some r → qp_E l G d 97 (qp_mk I0 J0) 0 0 (qp_R8 (some (.int r.1)) r.2.1 r.2.2) (50, [some (.ref 25), some (.int a1), some (.int a2), some (.int a3), some (.int a4), some (.int a5), none, none], [], qp_mk I J)) : ∀ (n : Nat) (a1 : Int32) (a2 : Int32) (a3 : Int32) (a5 : Int32) (a6 : Int32) (a7 : Int32) (I : Nat → Nat → Int32) (J : Nat → Nat → Int64), fH_fewest_b122 k50 n a1 a2 a3 a5 a6 a7 I J = some r → qp_E l G d 97 (qp_mk I0 J0) 0 0 (qp_R8 (some (.int r.1)) r.2.1 r.2.2) (122, [some (.ref 25), some (.int a1), some (.int a2), some (.int a3), none, some (.int a5), some (.int a6), some (.int a7)], [], qp_mk I J) := by
  have hd1 : Nat.ble 1 d = true := Nat.ble_eq_true_of_le (Nat.le_trans (by decide) hd)
  intro n
  induction n with
  | zero => intro a1 a2 a3 a5 a6 a7 I J h; exact absurd h (by simp [fH_fewest_b122])
  | succ n ih =>
    intro a1 a2 a3 a5 a6 a7 I J h
    rw [fH_fewest_b122] at h
    refine qp_run_E qp_ok97 2 (c' := (126, [some (.ref 25), some (.int a1), some (.int a2), some (.int a3), none, some (.int a5), some (.int a6), some (.int a7)], [.int a6, .int a7], qp_mk I J)) (by with_unfolding_all rfl) hd1 trivial ?_
    refine qp_br_E qp_ok97 (f := a6 ≤ a7) (ct := (167, [some (.ref 25), some (.int a1), some (.int a2), some (.int a3), none, some (.int a5), some (.int a6), some (.int a7)], [], qp_mk I J)) (cf := (129, [some (.ref 25), some (.int a1), some (.int a2), some (.int a3), none, some (.int a5), some (.int a6), some (.int a7)], [], qp_mk I J)) (by with_unfolding_all rfl) (fun h1 => ?_) (fun h1 => ?_)
    · replace h := qp_ift h1 h
      refine qp_run_E qp_ok97 4 (c' := (50, [some (.ref 25), some (.int a1), some (.int a2), some (.int a3), some (.int a6), some (.int (a5 + 1)), some (.int a6), some (.int a7)], [], qp_mk I J)) (by with_unfolding_all rfl) hd1 trivial ?_
      exact qp_E_fg [true, true, true, true, true, true, false, false] (hk50 a1 a2 a3 a6 (a5 + 1) I J h)
    · replace h := qp_iff h1 h
      refine qp_run_E qp_ok97 2 (c' := (134, [some (.ref 25), some (.int a1), some (.int a2), some (.int a3), none, some (.int a5), some (.int a6), some (.int a7)], [.int 720, .int a7], qp_mk I J)) (by with_unfolding_all rfl) hd1 trivial ?_
      refine qp_br_E qp_ok97 (f := 720 ≤ a7) (ct := (167, [some (.ref 25), some (.int a1), some (.int a2), some (.int a3), none, some (.int a5), some (.int a6), some (.int a7)], [], qp_mk I J)) (cf := (137, [some (.ref 25), some (.int a1), some (.int a2), some (.int a3), none, some (.int a5), some (.int a6), some (.int a7)], [], qp_mk I J)) (by with_unfolding_all rfl) (fun h2 => ?_) (fun h2 => ?_)
      · replace h := qp_ift h2 h
        refine qp_run_E qp_ok97 4 (c' := (50, [some (.ref 25), some (.int a1), some (.int a2), some (.int a3), some (.int a6), some (.int (a5 + 1)), some (.int a6), some (.int a7)], [], qp_mk I J)) (by with_unfolding_all rfl) hd1 trivial ?_
        exact qp_E_fg [true, true, true, true, true, true, false, false] (hk50 a1 a2 a3 a6 (a5 + 1) I J h)
      · replace h := qp_iff h2 h
        refine qp_run_E qp_ok97 2 (c' := (140, [some (.ref 25), some (.int a1), some (.int a2), some (.int a3), none, some (.int a5), some (.int a6), some (.int a7)], [.int 3, .int a5], qp_mk I J)) (by with_unfolding_all rfl) hd1 trivial ?_
        refine qp_br_E qp_ok97 (f := 3 ≤ a5) (ct := (167, [some (.ref 25), some (.int a1), some (.int a2), some (.int a3), none, some (.int a5), some (.int a6), some (.int a7)], [], qp_mk I J)) (cf := (143, [some (.ref 25), some (.int a1), some (.int a2), some (.int a3), none, some (.int a5), some (.int a6), some (.int a7)], [], qp_mk I J)) (by with_unfolding_all rfl) (fun h3 => ?_) (fun h3 => ?_)
        · replace h := qp_ift h3 h
          refine qp_run_E qp_ok97 4 (c' := (50, [some (.ref 25), some (.int a1), some (.int a2), some (.int a3), some (.int a6), some (.int (a5 + 1)), some (.int a6), some (.int a7)], [], qp_mk I J)) (by with_unfolding_all rfl) hd1 trivial ?_
          exact qp_E_fg [true, true, true, true, true, true, false, false] (hk50 a1 a2 a3 a6 (a5 + 1) I J h)
        · replace h := qp_iff h3 h
          obtain ⟨h4, h⟩ := qp_gd_s h
          refine qp_run_E qp_ok97 9 (f := vp_in a7 720 ∧ vp_in a7 720 ∧ True) (c' := (158, [some (.ref 25), some (.int a1), some (.int a2), some (.int a3), none, some (.int a5), some (.int a6), some (.int a7)], [.int (I 27 (Int32.toNatClampNeg a7)), .int (I 26 (Int32.toNatClampNeg a7)), .ref 25], qp_mk I J)) (by with_unfolding_all rfl) hd1 ⟨(qp_vin (c := 720) (by decide) h4.1 h4.2), (qp_vin (c := 720) (by decide) h4.1 h4.2), trivial⟩ ?_
          obtain ⟨v1, I1, J1, e1, h⟩ := qp_bd_s h
          refine qp_cV qp_ok97 (rest := []) (oj := 6) qp_f102 rfl rfl (gH_goOn l G (I 26 (Int32.toNatClampNeg a7)) (I 27 (Int32.toNatClampNeg a7)) I J e1 (Nat.le_refl 4)) rfl rfl rfl rfl (Nat.le_trans (by decide) hd) ?_
          refine qp_run_E qp_ok97 2 (c' := (122, [some (.ref 25), some (.int a1), some (.int a2), some (.int a3), none, some (.int a5), some (.int a6), some (.int (a7 + 1))], [], qp_mk I1 J1)) (by with_unfolding_all rfl) hd1 trivial ?_
          exact ih a1 a2 a3 a5 a6 (a7 + 1) I1 J1 h
def fH_fewest_b66  (k50 : Int32 → Int32 → Int32 → Int32 → Int32 → (Nat → Nat → Int32) → (Nat → Nat → Int64) → Option (Int32 × (Nat → Nat → Int32) × (Nat → Nat → Int64))) : Nat → Int32 → Int32 → Int32 → Int32 → Int32 → Int32 → Int32 → (Nat → Nat → Int32) → (Nat → Nat → Int64) → Option (Int32 × (Nat → Nat → Int32) × (Nat → Nat → Int64))
  | 0, _, _, _, _, _, _, _, _, _ => none
  | n + 1, a1, a2, a3, a4, a5, a6, a7, I, J =>
    if a6 ≤ a7 then (
      fH_fewest_b122 k50 100000 a1 a2 a3 a5 a6 a4 I J
    ) else (
      if 720 ≤ a7 then (
        fH_fewest_b122 k50 100000 a1 a2 a3 a5 a6 a4 I J
      ) else (
        qp_gd ((0 ≤ a7 ∧ a7 < 720)) <|
        qp_bd (fH_fits (I 26 (Int32.toNatClampNeg a7)) a1 a2 a3 I J) fun v1 I1 J1 =>
        if v1 = 0 then (
          fH_fewest_b66 k50 n a1 a2 a3 a4 a5 a6 (a7 + 1) I1 J1
        ) else (
          qp_gd ((0 ≤ a7 ∧ a7 < 720)) <|
          some (a5, (qp_up I1 25 5 (I1 27 (Int32.toNatClampNeg a7))), J1)
        )
      )
    )
set_option maxRecDepth 8000 in
theorem gH_fewest_b66 {l : Launch} {G : qp_G} {d : Nat} (hd : 6 ≤ d) {r : (Int32 × (Nat → Nat → Int32) × (Nat → Nat → Int64))} {I0 : Nat → Nat → Int32} {J0 : Nat → Nat → Int64}  (k50 : Int32 → Int32 → Int32 → Int32 → Int32 → (Nat → Nat → Int32) → (Nat → Nat → Int64) → Option (Int32 × (Nat → Nat → Int32) × (Nat → Nat → Int64))) (hk50 : ∀ a1 a2 a3 a4 a5 I J, k50 a1 a2 a3 a4 a5 I J = some r → qp_E l G d 97 (qp_mk I0 J0) 0 0 (qp_R8 (some (.int r.1)) r.2.1 r.2.2) (50, [some (.ref 25), some (.int a1), some (.int a2), some (.int a3), some (.int a4), some (.int a5), none, none], [], qp_mk I J)) : ∀ (n : Nat) (a1 : Int32) (a2 : Int32) (a3 : Int32) (a4 : Int32) (a5 : Int32) (a6 : Int32) (a7 : Int32) (I : Nat → Nat → Int32) (J : Nat → Nat → Int64), fH_fewest_b66 k50 n a1 a2 a3 a4 a5 a6 a7 I J = some r → qp_E l G d 97 (qp_mk I0 J0) 0 0 (qp_R8 (some (.int r.1)) r.2.1 r.2.2) (66, [some (.ref 25), some (.int a1), some (.int a2), some (.int a3), some (.int a4), some (.int a5), some (.int a6), some (.int a7)], [], qp_mk I J) := by
  have hd1 : Nat.ble 1 d = true := Nat.ble_eq_true_of_le (Nat.le_trans (by decide) hd)
  intro n
  induction n with
  | zero => intro a1 a2 a3 a4 a5 a6 a7 I J h; exact absurd h (by simp [fH_fewest_b66])
  | succ n ih =>
    intro a1 a2 a3 a4 a5 a6 a7 I J h
    rw [fH_fewest_b66] at h
    refine qp_run_E qp_ok97 2 (c' := (70, [some (.ref 25), some (.int a1), some (.int a2), some (.int a3), some (.int a4), some (.int a5), some (.int a6), some (.int a7)], [.int a6, .int a7], qp_mk I J)) (by with_unfolding_all rfl) hd1 trivial ?_
    refine qp_br_E qp_ok97 (f := a6 ≤ a7) (ct := (118, [some (.ref 25), some (.int a1), some (.int a2), some (.int a3), some (.int a4), some (.int a5), some (.int a6), some (.int a7)], [], qp_mk I J)) (cf := (73, [some (.ref 25), some (.int a1), some (.int a2), some (.int a3), some (.int a4), some (.int a5), some (.int a6), some (.int a7)], [], qp_mk I J)) (by with_unfolding_all rfl) (fun h1 => ?_) (fun h1 => ?_)
    · replace h := qp_ift h1 h
      refine qp_run_E qp_ok97 2 (c' := (122, [some (.ref 25), some (.int a1), some (.int a2), some (.int a3), some (.int a4), some (.int a5), some (.int a6), some (.int a4)], [], qp_mk I J)) (by with_unfolding_all rfl) hd1 trivial ?_
      exact qp_E_fg [true, true, true, true, false, true, true, true] (gH_fewest_b122 hd k50 hk50 100000 a1 a2 a3 a5 a6 a4 I J h)
    · replace h := qp_iff h1 h
      refine qp_run_E qp_ok97 2 (c' := (78, [some (.ref 25), some (.int a1), some (.int a2), some (.int a3), some (.int a4), some (.int a5), some (.int a6), some (.int a7)], [.int 720, .int a7], qp_mk I J)) (by with_unfolding_all rfl) hd1 trivial ?_
      refine qp_br_E qp_ok97 (f := 720 ≤ a7) (ct := (118, [some (.ref 25), some (.int a1), some (.int a2), some (.int a3), some (.int a4), some (.int a5), some (.int a6), some (.int a7)], [], qp_mk I J)) (cf := (81, [some (.ref 25), some (.int a1), some (.int a2), some (.int a3), some (.int a4), some (.int a5), some (.int a6), some (.int a7)], [], qp_mk I J)) (by with_unfolding_all rfl) (fun h2 => ?_) (fun h2 => ?_)
      · replace h := qp_ift h2 h
        refine qp_run_E qp_ok97 2 (c' := (122, [some (.ref 25), some (.int a1), some (.int a2), some (.int a3), some (.int a4), some (.int a5), some (.int a6), some (.int a4)], [], qp_mk I J)) (by with_unfolding_all rfl) hd1 trivial ?_
        exact qp_E_fg [true, true, true, true, false, true, true, true] (gH_fewest_b122 hd k50 hk50 100000 a1 a2 a3 a5 a6 a4 I J h)
      · replace h := qp_iff h2 h
        obtain ⟨h3, h⟩ := qp_gd_s h
        refine qp_run_E qp_ok97 8 (f := vp_in a7 720 ∧ True) (c' := (92, [some (.ref 25), some (.int a1), some (.int a2), some (.int a3), some (.int a4), some (.int a5), some (.int a6), some (.int a7)], [.int a3, .int a2, .int a1, .int (I 26 (Int32.toNatClampNeg a7)), .ref 25], qp_mk I J)) (by with_unfolding_all rfl) hd1 ⟨(qp_vin (c := 720) (by decide) h3.1 h3.2), trivial⟩ ?_
        obtain ⟨v1, I1, J1, e1, h⟩ := qp_bd_s h
        refine qp_cV qp_ok97 (rest := []) (oj := 6) qp_f101 rfl rfl (gH_fits l G (I 26 (Int32.toNatClampNeg a7)) a1 a2 a3 I J e1 (Nat.le_refl 5)) rfl rfl rfl rfl (Nat.le_trans (by decide) hd) ?_
        refine qp_br_E qp_ok97 (f := v1 = 0) (ct := (112, [some (.ref 25), some (.int a1), some (.int a2), some (.int a3), some (.int a4), some (.int a5), some (.int a6), some (.int a7)], [], qp_mk I1 J1)) (cf := (98, [some (.ref 25), some (.int a1), some (.int a2), some (.int a3), some (.int a4), some (.int a5), some (.int a6), some (.int a7)], [], qp_mk I1 J1)) (by with_unfolding_all rfl) (fun h4 => ?_) (fun h4 => ?_)
        · replace h := qp_ift h4 h
          refine qp_run_E qp_ok97 2 (c' := (66, [some (.ref 25), some (.int a1), some (.int a2), some (.int a3), some (.int a4), some (.int a5), some (.int a6), some (.int (a7 + 1))], [], qp_mk I1 J1)) (by with_unfolding_all rfl) hd1 trivial ?_
          exact ih a1 a2 a3 a4 a5 a6 (a7 + 1) I1 J1 h
        · replace h := qp_iff h4 h
          obtain ⟨h5, h⟩ := qp_gd_s h
          refine qp_run_E qp_ok97 7 (f := vp_in a7 720 ∧ True) (c' := (111, [some (.ref 25), some (.int a1), some (.int a2), some (.int a3), some (.int a4), some (.int a5), some (.int a6), some (.int a7)], [.int a5], qp_mk (qp_up I1 25 5 (I1 27 (Int32.toNatClampNeg a7))) J1)) (by with_unfolding_all rfl) hd1 ⟨(qp_vin (c := 720) (by decide) h5.1 h5.2), trivial⟩ ?_
          obtain rfl := Option.some.inj h
          exact qp_retI_E qp_ok97 rfl qp_r97.1 ⟨rfl, rfl⟩ ⟨rfl, rfl⟩
def fH_fewest_b50  : Nat → Int32 → Int32 → Int32 → Int32 → Int32 → (Nat → Nat → Int32) → (Nat → Nat → Int64) → Option (Int32 × (Nat → Nat → Int32) × (Nat → Nat → Int64))
  | 0, _, _, _, _, _, _, _ => none
  | n + 1, a1, a2, a3, a4, a5, I, J =>
    if 3 < a5 then (
      some ((-9), I, J)
    ) else (
      fH_fewest_b66 (fun a0 a1 a2 a3 a4 I J => fH_fewest_b50 n a0 a1 a2 a3 a4 I J) 100000 a1 a2 a3 a4 a5 (I 25 4) a4 I J
    )
set_option maxRecDepth 8000 in
theorem gH_fewest_b50 {l : Launch} {G : qp_G} {d : Nat} (hd : 6 ≤ d) {r : (Int32 × (Nat → Nat → Int32) × (Nat → Nat → Int64))} {I0 : Nat → Nat → Int32} {J0 : Nat → Nat → Int64}   : ∀ (n : Nat) (a1 : Int32) (a2 : Int32) (a3 : Int32) (a4 : Int32) (a5 : Int32) (I : Nat → Nat → Int32) (J : Nat → Nat → Int64), fH_fewest_b50  n a1 a2 a3 a4 a5 I J = some r → qp_E l G d 97 (qp_mk I0 J0) 0 0 (qp_R8 (some (.int r.1)) r.2.1 r.2.2) (50, [some (.ref 25), some (.int a1), some (.int a2), some (.int a3), some (.int a4), some (.int a5), none, none], [], qp_mk I J) := by
  have hd1 : Nat.ble 1 d = true := Nat.ble_eq_true_of_le (Nat.le_trans (by decide) hd)
  intro n
  induction n with
  | zero => intro a1 a2 a3 a4 a5 I J h; exact absurd h (by simp [fH_fewest_b50])
  | succ n ih =>
    intro a1 a2 a3 a4 a5 I J h
    rw [fH_fewest_b50] at h
    refine qp_run_E qp_ok97 2 (c' := (53, [some (.ref 25), some (.int a1), some (.int a2), some (.int a3), some (.int a4), some (.int a5), none, none], [.int 3, .int a5], qp_mk I J)) (by with_unfolding_all rfl) hd1 trivial ?_
    refine qp_br_E qp_ok97 (f := 3 < a5) (ct := (177, [some (.ref 25), some (.int a1), some (.int a2), some (.int a3), some (.int a4), some (.int a5), none, none], [], qp_mk I J)) (cf := (56, [some (.ref 25), some (.int a1), some (.int a2), some (.int a3), some (.int a4), some (.int a5), none, none], [], qp_mk I J)) (by with_unfolding_all rfl) (fun h1 => ?_) (fun h1 => ?_)
    · replace h := qp_ift h1 h
      refine qp_run_E qp_ok97 1 (c' := (179, [some (.ref 25), some (.int a1), some (.int a2), some (.int a3), some (.int a4), some (.int a5), none, none], [.int (-9)], qp_mk I J)) (by with_unfolding_all rfl) hd1 trivial ?_
      obtain rfl := Option.some.inj h
      exact qp_retI_E qp_ok97 rfl qp_r97.1 ⟨rfl, rfl⟩ ⟨rfl, rfl⟩
    · replace h := qp_iff h1 h
      refine qp_run_E qp_ok97 5 (c' := (66, [some (.ref 25), some (.int a1), some (.int a2), some (.int a3), some (.int a4), some (.int a5), some (.int (I 25 4)), some (.int a4)], [], qp_mk I J)) (by with_unfolding_all rfl) hd1 trivial ?_
      exact gH_fewest_b66 hd (fun a0 a1 a2 a3 a4 I J => fH_fewest_b50 n a0 a1 a2 a3 a4 I J) (fun a0 a1 a2 a3 a4 I J h => ih a0 a1 a2 a3 a4 I J h) 100000 a1 a2 a3 a4 a5 (I 25 4) a4 I J h
def fH_fewest_b3  : Nat → Int32 → Int32 → Int32 → Int32 → (Nat → Nat → Int32) → (Nat → Nat → Int64) → Option (Int32 × (Nat → Nat → Int32) × (Nat → Nat → Int64))
  | 0, _, _, _, _, _, _ => none
  | n + 1, a1, a2, a3, a4, I, J =>
    if 720 ≤ a4 then (
      qp_bd (fH_reach (I 14 2) 0 (qp_up I 25 4 0) J) fun _u I1 J1 =>
      fH_fewest_b50 100000 a1 a2 a3 0 0 I1 J1
    ) else (
      qp_gd ((0 ≤ a4 ∧ a4 < 720)) <|
      fH_fewest_b3 n a1 a2 a3 (a4 + 1) (qp_up I 28 (Int32.toNatClampNeg a4) 0) J
    )
set_option maxRecDepth 8000 in
theorem gH_fewest_b3 {l : Launch} {G : qp_G} {d : Nat} (hd : 6 ≤ d) {r : (Int32 × (Nat → Nat → Int32) × (Nat → Nat → Int64))} {I0 : Nat → Nat → Int32} {J0 : Nat → Nat → Int64}   : ∀ (n : Nat) (a1 : Int32) (a2 : Int32) (a3 : Int32) (a4 : Int32) (I : Nat → Nat → Int32) (J : Nat → Nat → Int64), fH_fewest_b3  n a1 a2 a3 a4 I J = some r → qp_E l G d 97 (qp_mk I0 J0) 0 0 (qp_R8 (some (.int r.1)) r.2.1 r.2.2) (3, [some (.ref 25), some (.int a1), some (.int a2), some (.int a3), some (.int a4), none, none, none], [], qp_mk I J) := by
  have hd1 : Nat.ble 1 d = true := Nat.ble_eq_true_of_le (Nat.le_trans (by decide) hd)
  intro n
  induction n with
  | zero => intro a1 a2 a3 a4 I J h; exact absurd h (by simp [fH_fewest_b3])
  | succ n ih =>
    intro a1 a2 a3 a4 I J h
    rw [fH_fewest_b3] at h
    refine qp_run_E qp_ok97 4 (c' := (10, [some (.ref 25), some (.int a1), some (.int a2), some (.int a3), some (.int a4), none, none, none], [.int 720, .int a4], qp_mk I J)) (by with_unfolding_all rfl) hd1 trivial ?_
    refine qp_br_E qp_ok97 (f := 720 ≤ a4) (ct := (27, [some (.ref 25), some (.int a1), some (.int a2), some (.int a3), some (.int a4), none, none, none], [], qp_mk I J)) (cf := (13, [some (.ref 25), some (.int a1), some (.int a2), some (.int a3), some (.int a4), none, none, none], [], qp_mk I J)) (by with_unfolding_all rfl) (fun h1 => ?_) (fun h1 => ?_)
    · replace h := qp_ift h1 h
      refine qp_run_E qp_ok97 8 (c' := (41, [some (.ref 25), some (.int a1), some (.int a2), some (.int a3), some (.int a4), none, none, none], [.int 0, .int (I 14 2), .ref 25], qp_mk (qp_up I 25 4 0) J)) (by with_unfolding_all rfl) hd1 trivial ?_
      obtain ⟨v1, I1, J1, e1, h⟩ := qp_bd_s h
      refine qp_cV qp_ok97 (rest := []) (oj := 6) qp_f98 rfl rfl (gH_reach l G (I 14 2) 0 (qp_up I 25 4 0) J e1 (Nat.le_refl 3)) rfl rfl rfl rfl (Nat.le_trans (by decide) hd) ?_
      refine qp_run_E qp_ok97 4 (c' := (50, [some (.ref 25), some (.int a1), some (.int a2), some (.int a3), some (.int 0), some (.int 0), none, none], [], qp_mk I1 J1)) (by with_unfolding_all rfl) hd1 trivial ?_
      exact gH_fewest_b50 hd 100000 a1 a2 a3 0 0 I1 J1 h
    · replace h := qp_iff h1 h
      obtain ⟨h2, h⟩ := qp_gd_s h
      refine qp_run_E qp_ok97 7 (f := (vp_in a4 720 ∧ vp_nar .boolean 0 = 0) ∧ True) (c' := (3, [some (.ref 25), some (.int a1), some (.int a2), some (.int a3), some (.int (a4 + 1)), none, none, none], [], qp_mk (qp_up I 28 (Int32.toNatClampNeg a4) 0) J)) (by with_unfolding_all rfl) hd1 ⟨⟨(qp_vin (c := 720) (by decide) h2.1 h2.2), by rfl⟩, trivial⟩ ?_
      exact ih a1 a2 a3 (a4 + 1) (qp_up I 28 (Int32.toNatClampNeg a4) 0) J h
def fH_fewest (p1 : Int32) (p2 : Int32) (p3 : Int32) (I : Nat → Nat → Int32) (J : Nat → Nat → Int64) : Option (Int32 × (Nat → Nat → Int32) × (Nat → Nat → Int64)) :=
  fH_fewest_b3 100000 p1 p2 p3 0 I J
set_option maxRecDepth 8000 in
theorem gH_fewest (l : Launch) (G : qp_G) (p1 : Int32) (p2 : Int32) (p3 : Int32) (I : Nat → Nat → Int32) (J : Nat → Nat → Int64) {v : Int32} {I' : Nat → Nat → Int32} {J' : Nat → Nat → Int64} (h : fH_fewest p1 p2 p3 I J = some (v, I', J')) {d : Nat} (hd : 6 ≤ d) : qp_Met l G d 97 [.ref 25, .int p1, .int p2, .int p3] (qp_mk I J) 0 0 (qp_R8 (some (.int v)) I' J') := by
  have hd1 : Nat.ble 1 d = true := Nat.ble_eq_true_of_le (Nat.le_trans (by decide) hd)
  refine qp_Met_of (by decide) (by rw [qp_r97.2]; rfl) [some (.ref 25), some (.int p1), some (.int p2), some (.int p3), none, none, none, none] (by rw [qp_r97.2]; rfl) ?_
  unfold fH_fewest at h
  refine qp_run_E qp_ok97 2 (c' := (3, [some (.ref 25), some (.int p1), some (.int p2), some (.int p3), some (.int 0), none, none, none], [], qp_mk I J)) (by with_unfolding_all rfl) hd1 trivial ?_
  exact gH_fewest_b3 hd 100000 p1 p2 p3 0 I J h
def fH_step (p1 : Int32) (p2 : Int32) (I : Nat → Nat → Int32) (J : Nat → Nat → Int64) : Option (Int32 × (Nat → Nat → Int32) × (Nat → Nat → Int64)) :=
  some ((((I 25 5) >>> (((6 : Int32) * ((p2 - 1) - p1)) &&& 31)) &&& 63), I, J)
set_option maxRecDepth 8000 in
theorem gH_step (l : Launch) (G : qp_G) (p1 : Int32) (p2 : Int32) (I : Nat → Nat → Int32) (J : Nat → Nat → Int64) {v : Int32} {I' : Nat → Nat → Int32} {J' : Nat → Nat → Int64} (h : fH_step p1 p2 I J = some (v, I', J')) {d : Nat} (hd : 1 ≤ d) : qp_Met l G d 103 [.ref 25, .int p1, .int p2] (qp_mk I J) 0 0 (qp_R8 (some (.int v)) I' J') := by
  have hd1 : Nat.ble 1 d = true := Nat.ble_eq_true_of_le (Nat.le_trans (by decide) hd)
  refine qp_Met_of (by decide) (by rw [qp_r103.2]; rfl) [some (.ref 25), some (.int p1), some (.int p2)] (by rw [qp_r103.2]; rfl) ?_
  unfold fH_step at h
  refine qp_run_E qp_ok103 12 (c' := (16, [some (.ref 25), some (.int p1), some (.int p2)], [.int (((I 25 5) >>> (((6 : Int32) * ((p2 - 1) - p1)) &&& 31)) &&& 63)], qp_mk I J)) (by with_unfolding_all rfl) hd1 trivial ?_
  obtain ⟨rfl, rfl, rfl⟩ := qp_some3 h
  exact qp_retI_E qp_ok103 rfl qp_r103.1 ⟨rfl, rfl⟩ ⟨rfl, rfl⟩
def fX_wish_b92  : Nat → Int32 → Int32 → Int32 → (Nat → Nat → Int32) → (Nat → Nat → Int64) → Option (Int32 × (Nat → Nat → Int32) × (Nat → Nat → Int64))
  | 0, _, _, _, _, _ => none
  | n + 1, a4, a6, a7, I, J =>
    if a6 ≤ a7 then (
      some (a6, I, J)
    ) else (
      qp_bd (fH_step a7 a6 I J) fun v1 I1 J1 =>
      qp_bd (fS_set_1 a4 a7 v1 I1 J1) fun _u I2 J2 =>
      fX_wish_b92 n a4 a6 (a7 + 1) I2 J2
    )
set_option maxRecDepth 8000 in
theorem gX_wish_b92 {l : Launch} {G : qp_G} {d : Nat} (hd : 7 ≤ d) {r : (Int32 × (Nat → Nat → Int32) × (Nat → Nat → Int64))} {I0 : Nat → Nat → Int32} {J0 : Nat → Nat → Int64}   : ∀ (n : Nat) (a4 : Int32) (a6 : Int32) (a7 : Int32) (I : Nat → Nat → Int32) (J : Nat → Nat → Int64), fX_wish_b92  n a4 a6 a7 I J = some r → qp_E l G d 96 (qp_mk I0 J0) 0 0 (qp_R8 (some (.int r.1)) r.2.1 r.2.2) (92, [some (.ref 0), none, none, none, some (.int a4), none, some (.int a6), some (.int a7)], [], qp_mk I J) := by
  have hd1 : Nat.ble 1 d = true := Nat.ble_eq_true_of_le (Nat.le_trans (by decide) hd)
  intro n
  induction n with
  | zero => intro a4 a6 a7 I J h; exact absurd h (by simp [fX_wish_b92])
  | succ n ih =>
    intro a4 a6 a7 I J h
    rw [fX_wish_b92] at h
    refine qp_run_E qp_ok96 2 (c' := (96, [some (.ref 0), none, none, none, some (.int a4), none, some (.int a6), some (.int a7)], [.int a6, .int a7], qp_mk I J)) (by with_unfolding_all rfl) hd1 trivial ?_
    refine qp_br_E qp_ok96 (f := a6 ≤ a7) (ct := (127, [some (.ref 0), none, none, none, some (.int a4), none, some (.int a6), some (.int a7)], [], qp_mk I J)) (cf := (99, [some (.ref 0), none, none, none, some (.int a4), none, some (.int a6), some (.int a7)], [], qp_mk I J)) (by with_unfolding_all rfl) (fun h1 => ?_) (fun h1 => ?_)
    · replace h := qp_ift h1 h
      refine qp_run_E qp_ok96 1 (c' := (129, [some (.ref 0), none, none, none, some (.int a4), none, some (.int a6), some (.int a7)], [.int a6], qp_mk I J)) (by with_unfolding_all rfl) hd1 trivial ?_
      obtain rfl := Option.some.inj h
      exact qp_retI_E qp_ok96 rfl qp_r96.1 ⟨rfl, rfl⟩ ⟨rfl, rfl⟩
    · replace h := qp_iff h1 h
      refine qp_run_E qp_ok96 8 (c' := (115, [some (.ref 0), none, none, none, some (.int a4), none, some (.int a6), some (.int a7)], [.int a6, .int a7, .ref 25, .int a7, .int a4, .ref 1], qp_mk I J)) (by with_unfolding_all rfl) hd1 trivial ?_
      obtain ⟨v1, I1, J1, e1, h⟩ := qp_bd_s h
      refine qp_cV qp_ok96 (rest := [.int a7, .int a4, .ref 1]) (oj := 6) qp_f103 rfl rfl (gH_step l G a7 a6 I J e1 (Nat.le_refl 1)) rfl rfl rfl rfl (Nat.le_trans (by decide) hd) ?_
      obtain ⟨v2, I2, J2, e2, h⟩ := qp_bd_s h
      refine qp_cV qp_ok96 (rest := []) (oj := 1) qp_f16 rfl rfl (gS_set_1 l G a4 a7 v1 I1 J1 e2 (Nat.le_refl 3)) rfl rfl rfl rfl (Nat.le_trans (by decide) hd) ?_
      refine qp_run_E qp_ok96 2 (c' := (92, [some (.ref 0), none, none, none, some (.int a4), none, some (.int a6), some (.int (a7 + 1))], [], qp_mk I2 J2)) (by with_unfolding_all rfl) hd1 trivial ?_
      exact ih a4 a6 (a7 + 1) I2 J2 h
def fX_wish (p1 : Int32) (p2 : Int32) (p3 : Int32) (p4 : Int32) (I : Nat → Nat → Int32) (J : Nat → Nat → Int64) : Option (Int32 × (Nat → Nat → Int32) × (Nat → Nat → Int64)) :=
  qp_bd (fC_has_15 p1 I J) fun v1 I1 J1 =>
  if v1 = 0 then (
    some ((-1), I1, J1)
  ) else (
    qp_bd (fC_has_15 p2 I1 J1) fun v2 I2 J2 =>
    if v2 = 0 then (
      some ((-1), I2, J2)
    ) else (
      qp_bd (fC_has_15 p3 I2 J2) fun v3 I3 J3 =>
      if v3 = 0 then (
        some ((-1), I3, J3)
      ) else (
        if p1 = p2 then (
          some ((-1), I3, J3)
        ) else (
          qp_bd (fS_isNumber_1 p4 I3 J3) fun v4 I4 J4 =>
          if ¬ v4 = 0 then (
            qp_bd (fH_fewest p1 p2 p3 I4 J4) fun v5 I5 J5 =>
            if ¬ v5 = (-9) then (
              qp_bd (fS_fresh_1 p4 v5 0 I5 J5) fun _u I6 J6 =>
              fX_wish_b92 100000 p4 v5 0 I6 J6
            ) else (
              some ((-9), I5, J5)
            )
          ) else (
            some ((-1), I4, J4)
          )
        )
      )
    )
  )
set_option maxRecDepth 8000 in
theorem gX_wish (l : Launch) (G : qp_G) (p1 : Int32) (p2 : Int32) (p3 : Int32) (p4 : Int32) (I : Nat → Nat → Int32) (J : Nat → Nat → Int64) {v : Int32} {I' : Nat → Nat → Int32} {J' : Nat → Nat → Int64} (h : fX_wish p1 p2 p3 p4 I J = some (v, I', J')) {d : Nat} (hd : 7 ≤ d) : qp_Met l G d 96 [.ref 0, .int p1, .int p2, .int p3, .int p4] (qp_mk I J) 0 0 (qp_R8 (some (.int v)) I' J') := by
  have hd1 : Nat.ble 1 d = true := Nat.ble_eq_true_of_le (Nat.le_trans (by decide) hd)
  refine qp_Met_of (by decide) (by rw [qp_r96.2]; rfl) [some (.ref 0), some (.int p1), some (.int p2), some (.int p3), some (.int p4), none, none, none] (by rw [qp_r96.2]; rfl) ?_
  unfold fX_wish at h
  refine qp_run_E qp_ok96 6 (c' := (12, [some (.ref 0), some (.int p1), some (.int p2), some (.int p3), some (.int p4), some (.ref 15), none, none], [.int p1, .ref 15], qp_mk I J)) (by with_unfolding_all rfl) hd1 trivial ?_
  obtain ⟨v1, I1, J1, e1, h⟩ := qp_bd_s h
  refine qp_cV qp_ok96 (rest := []) (oj := 3) qp_f53 rfl rfl (gC_has_15 l G p1 I J e1 (Nat.le_refl 1)) rfl rfl rfl rfl (Nat.le_trans (by decide) hd) ?_
  refine qp_br_E qp_ok96 (f := v1 = 0) (ct := (53, [some (.ref 0), some (.int p1), some (.int p2), some (.int p3), some (.int p4), some (.ref 15), none, none], [], qp_mk I1 J1)) (cf := (18, [some (.ref 0), some (.int p1), some (.int p2), some (.int p3), some (.int p4), some (.ref 15), none, none], [], qp_mk I1 J1)) (by with_unfolding_all rfl) (fun h1 => ?_) (fun h1 => ?_)
  · replace h := qp_ift h1 h
    refine qp_run_E qp_ok96 1 (c' := (54, [some (.ref 0), some (.int p1), some (.int p2), some (.int p3), some (.int p4), some (.ref 15), none, none], [.int (-1)], qp_mk I1 J1)) (by with_unfolding_all rfl) hd1 trivial ?_
    obtain ⟨rfl, rfl, rfl⟩ := qp_some3 h
    exact qp_retI_E qp_ok96 rfl qp_r96.1 ⟨rfl, rfl⟩ ⟨rfl, rfl⟩
  · replace h := qp_iff h1 h
    refine qp_run_E qp_ok96 2 (c' := (21, [some (.ref 0), some (.int p1), some (.int p2), some (.int p3), some (.int p4), some (.ref 15), none, none], [.int p2, .ref 15], qp_mk I1 J1)) (by with_unfolding_all rfl) hd1 trivial ?_
    obtain ⟨v2, I2, J2, e2, h⟩ := qp_bd_s h
    refine qp_cV qp_ok96 (rest := []) (oj := 3) qp_f53 rfl rfl (gC_has_15 l G p2 I1 J1 e2 (Nat.le_refl 1)) rfl rfl rfl rfl (Nat.le_trans (by decide) hd) ?_
    refine qp_br_E qp_ok96 (f := v2 = 0) (ct := (53, [some (.ref 0), some (.int p1), some (.int p2), some (.int p3), some (.int p4), some (.ref 15), none, none], [], qp_mk I2 J2)) (cf := (27, [some (.ref 0), some (.int p1), some (.int p2), some (.int p3), some (.int p4), some (.ref 15), none, none], [], qp_mk I2 J2)) (by with_unfolding_all rfl) (fun h2 => ?_) (fun h2 => ?_)
    · replace h := qp_ift h2 h
      refine qp_run_E qp_ok96 1 (c' := (54, [some (.ref 0), some (.int p1), some (.int p2), some (.int p3), some (.int p4), some (.ref 15), none, none], [.int (-1)], qp_mk I2 J2)) (by with_unfolding_all rfl) hd1 trivial ?_
      obtain ⟨rfl, rfl, rfl⟩ := qp_some3 h
      exact qp_retI_E qp_ok96 rfl qp_r96.1 ⟨rfl, rfl⟩ ⟨rfl, rfl⟩
    · replace h := qp_iff h2 h
      refine qp_run_E qp_ok96 2 (c' := (30, [some (.ref 0), some (.int p1), some (.int p2), some (.int p3), some (.int p4), some (.ref 15), none, none], [.int p3, .ref 15], qp_mk I2 J2)) (by with_unfolding_all rfl) hd1 trivial ?_
      obtain ⟨v3, I3, J3, e3, h⟩ := qp_bd_s h
      refine qp_cV qp_ok96 (rest := []) (oj := 3) qp_f53 rfl rfl (gC_has_15 l G p3 I2 J2 e3 (Nat.le_refl 1)) rfl rfl rfl rfl (Nat.le_trans (by decide) hd) ?_
      refine qp_br_E qp_ok96 (f := v3 = 0) (ct := (53, [some (.ref 0), some (.int p1), some (.int p2), some (.int p3), some (.int p4), some (.ref 15), none, none], [], qp_mk I3 J3)) (cf := (36, [some (.ref 0), some (.int p1), some (.int p2), some (.int p3), some (.int p4), some (.ref 15), none, none], [], qp_mk I3 J3)) (by with_unfolding_all rfl) (fun h3 => ?_) (fun h3 => ?_)
      · replace h := qp_ift h3 h
        refine qp_run_E qp_ok96 1 (c' := (54, [some (.ref 0), some (.int p1), some (.int p2), some (.int p3), some (.int p4), some (.ref 15), none, none], [.int (-1)], qp_mk I3 J3)) (by with_unfolding_all rfl) hd1 trivial ?_
        obtain ⟨rfl, rfl, rfl⟩ := qp_some3 h
        exact qp_retI_E qp_ok96 rfl qp_r96.1 ⟨rfl, rfl⟩ ⟨rfl, rfl⟩
      · replace h := qp_iff h3 h
        refine qp_run_E qp_ok96 2 (c' := (38, [some (.ref 0), some (.int p1), some (.int p2), some (.int p3), some (.int p4), some (.ref 15), none, none], [.int p2, .int p1], qp_mk I3 J3)) (by with_unfolding_all rfl) hd1 trivial ?_
        refine qp_br_E qp_ok96 (f := p1 = p2) (ct := (53, [some (.ref 0), some (.int p1), some (.int p2), some (.int p3), some (.int p4), some (.ref 15), none, none], [], qp_mk I3 J3)) (cf := (41, [some (.ref 0), some (.int p1), some (.int p2), some (.int p3), some (.int p4), some (.ref 15), none, none], [], qp_mk I3 J3)) (by with_unfolding_all rfl) (fun h4 => ?_) (fun h4 => ?_)
        · replace h := qp_ift h4 h
          refine qp_run_E qp_ok96 1 (c' := (54, [some (.ref 0), some (.int p1), some (.int p2), some (.int p3), some (.int p4), some (.ref 15), none, none], [.int (-1)], qp_mk I3 J3)) (by with_unfolding_all rfl) hd1 trivial ?_
          obtain ⟨rfl, rfl, rfl⟩ := qp_some3 h
          exact qp_retI_E qp_ok96 rfl qp_r96.1 ⟨rfl, rfl⟩ ⟨rfl, rfl⟩
        · replace h := qp_iff h4 h
          refine qp_run_E qp_ok96 3 (c' := (47, [some (.ref 0), some (.int p1), some (.int p2), some (.int p3), some (.int p4), some (.ref 15), none, none], [.int p4, .ref 1], qp_mk I3 J3)) (by with_unfolding_all rfl) hd1 trivial ?_
          obtain ⟨v4, I4, J4, e4, h⟩ := qp_bd_s h
          refine qp_cV qp_ok96 (rest := []) (oj := 1) qp_f13 rfl rfl (gS_isNumber_1 l G p4 I3 J3 e4 (Nat.le_refl 1)) rfl rfl rfl rfl (Nat.le_trans (by decide) hd) ?_
          refine qp_br_E qp_ok96 (f := ¬ v4 = 0) (ct := (55, [some (.ref 0), some (.int p1), some (.int p2), some (.int p3), some (.int p4), some (.ref 15), none, none], [], qp_mk I4 J4)) (cf := (53, [some (.ref 0), some (.int p1), some (.int p2), some (.int p3), some (.int p4), some (.ref 15), none, none], [], qp_mk I4 J4)) (by with_unfolding_all rfl) (fun h5 => ?_) (fun h5 => ?_)
          · replace h := qp_ift h5 h
            refine qp_run_E qp_ok96 5 (c' := (62, [some (.ref 0), some (.int p1), some (.int p2), some (.int p3), some (.int p4), some (.ref 15), none, none], [.int p3, .int p2, .int p1, .ref 25], qp_mk I4 J4)) (by with_unfolding_all rfl) hd1 trivial ?_
            obtain ⟨v5, I5, J5, e5, h⟩ := qp_bd_s h
            refine qp_cV qp_ok96 (rest := []) (oj := 6) qp_f97 rfl rfl (gH_fewest l G p1 p2 p3 I4 J4 e5 (Nat.le_refl 6)) rfl rfl rfl rfl (Nat.le_trans (by decide) hd) ?_
            refine qp_run_E qp_ok96 3 (c' := (71, [some (.ref 0), some (.int p1), some (.int p2), some (.int p3), some (.int p4), some (.ref 15), some (.int v5), none], [.int (-9), .int v5], qp_mk I5 J5)) (by with_unfolding_all rfl) hd1 trivial ?_
            refine qp_br_E qp_ok96 (f := ¬ v5 = (-9)) (ct := (77, [some (.ref 0), some (.int p1), some (.int p2), some (.int p3), some (.int p4), some (.ref 15), some (.int v5), none], [], qp_mk I5 J5)) (cf := (74, [some (.ref 0), some (.int p1), some (.int p2), some (.int p3), some (.int p4), some (.ref 15), some (.int v5), none], [], qp_mk I5 J5)) (by with_unfolding_all rfl) (fun h6 => ?_) (fun h6 => ?_)
            · replace h := qp_ift h6 h
              refine qp_run_E qp_ok96 5 (c' := (86, [some (.ref 0), some (.int p1), some (.int p2), some (.int p3), some (.int p4), some (.ref 15), some (.int v5), none], [.int 0, .int v5, .int p4, .ref 1], qp_mk I5 J5)) (by with_unfolding_all rfl) hd1 trivial ?_
              obtain ⟨v6, I6, J6, e6, h⟩ := qp_bd_s h
              refine qp_cV qp_ok96 (rest := []) (oj := 1) qp_f15 rfl rfl (gS_fresh_1 l G p4 v5 0 I5 J5 e6 (Nat.le_refl 4)) rfl rfl rfl rfl (Nat.le_trans (by decide) hd) ?_
              refine qp_run_E qp_ok96 2 (c' := (92, [some (.ref 0), some (.int p1), some (.int p2), some (.int p3), some (.int p4), some (.ref 15), some (.int v5), some (.int 0)], [], qp_mk I6 J6)) (by with_unfolding_all rfl) hd1 trivial ?_
              exact qp_E_fg [true, false, false, false, true, false, true, true] (gX_wish_b92 hd 100000 p4 v5 0 I6 J6 h)
            · replace h := qp_iff h6 h
              refine qp_run_E qp_ok96 1 (c' := (76, [some (.ref 0), some (.int p1), some (.int p2), some (.int p3), some (.int p4), some (.ref 15), some (.int v5), none], [.int (-9)], qp_mk I5 J5)) (by with_unfolding_all rfl) hd1 trivial ?_
              obtain ⟨rfl, rfl, rfl⟩ := qp_some3 h
              exact qp_retI_E qp_ok96 rfl qp_r96.1 ⟨rfl, rfl⟩ ⟨rfl, rfl⟩
          · replace h := qp_iff h5 h
            refine qp_run_E qp_ok96 1 (c' := (54, [some (.ref 0), some (.int p1), some (.int p2), some (.int p3), some (.int p4), some (.ref 15), none, none], [.int (-1)], qp_mk I4 J4)) (by with_unfolding_all rfl) hd1 trivial ?_
            obtain ⟨rfl, rfl, rfl⟩ := qp_some3 h
            exact qp_retI_E qp_ok96 rfl qp_r96.1 ⟨rfl, rfl⟩ ⟨rfl, rfl⟩
def fX_refusalOfPairs_b46  : Nat → Int32 → Int32 → Int32 → (Nat → Nat → Int32) → (Nat → Nat → Int64) → Option (Int32 × (Nat → Nat → Int32) × (Nat → Nat → Int64))
  | 0, _, _, _, _, _ => none
  | n + 1, a1, a3, a4, I, J =>
    if a3 ≤ a4 then (
      some (0, I, J)
    ) else (
      qp_bd (fS_get_1 a1 (a4 + 1) I J) fun v1 I1 J1 =>
      qp_bd (fS_get_1 a1 a4 I1 J1) fun v2 I2 J2 =>
      qp_bd (fC_has_15 v2 I2 J2) fun v3 I3 J3 =>
      if v3 = 0 then (
        qp_bd (fX_found 3 I3 J3) fun v4 I4 J4 =>
        some (v4, I4, J4)
      ) else (
        if v1 < 0 then (
          qp_bd (fX_found 3 I3 J3) fun v5 I5 J5 =>
          some (v5, I5, J5)
        ) else (
          if v1 ≤ 9 then (
            fX_refusalOfPairs_b46 n a1 a3 (a4 + 2) I3 J3
          ) else (
            qp_bd (fX_found 3 I3 J3) fun v6 I6 J6 =>
            some (v6, I6, J6)
          )
        )
      )
    )
set_option maxRecDepth 8000 in
theorem gX_refusalOfPairs_b46 {l : Launch} {G : qp_G} {d : Nat} (hd : 5 ≤ d) {r : (Int32 × (Nat → Nat → Int32) × (Nat → Nat → Int64))} {I0 : Nat → Nat → Int32} {J0 : Nat → Nat → Int64}   : ∀ (n : Nat) (a1 : Int32) (a3 : Int32) (a4 : Int32) (I : Nat → Nat → Int32) (J : Nat → Nat → Int64), fX_refusalOfPairs_b46  n a1 a3 a4 I J = some r → qp_E l G d 105 (qp_mk I0 J0) 0 0 (qp_R8 (some (.int r.1)) r.2.1 r.2.2) (46, [some (.ref 0), some (.int a1), none, some (.int a3), some (.int a4), none], [], qp_mk I J) := by
  have hd1 : Nat.ble 1 d = true := Nat.ble_eq_true_of_le (Nat.le_trans (by decide) hd)
  intro n
  induction n with
  | zero => intro a1 a3 a4 I J h; exact absurd h (by simp [fX_refusalOfPairs_b46])
  | succ n ih =>
    intro a1 a3 a4 I J h
    rw [fX_refusalOfPairs_b46] at h
    refine qp_run_E qp_ok105 2 (c' := (49, [some (.ref 0), some (.int a1), none, some (.int a3), some (.int a4), none], [.int a3, .int a4], qp_mk I J)) (by with_unfolding_all rfl) hd1 trivial ?_
    refine qp_br_E qp_ok105 (f := a3 ≤ a4) (ct := (113, [some (.ref 0), some (.int a1), none, some (.int a3), some (.int a4), none], [], qp_mk I J)) (cf := (52, [some (.ref 0), some (.int a1), none, some (.int a3), some (.int a4), none], [], qp_mk I J)) (by with_unfolding_all rfl) (fun h1 => ?_) (fun h1 => ?_)
    · replace h := qp_ift h1 h
      refine qp_run_E qp_ok105 1 (c' := (114, [some (.ref 0), some (.int a1), none, some (.int a3), some (.int a4), none], [.int 0], qp_mk I J)) (by with_unfolding_all rfl) hd1 trivial ?_
      obtain rfl := Option.some.inj h
      exact qp_retI_E qp_ok105 rfl qp_r105.1 ⟨rfl, rfl⟩ ⟨rfl, rfl⟩
    · replace h := qp_iff h1 h
      refine qp_run_E qp_ok105 6 (c' := (61, [some (.ref 0), some (.int a1), none, some (.int a3), some (.int a4), none], [.int (a4 + 1), .int a1, .ref 1], qp_mk I J)) (by with_unfolding_all rfl) hd1 trivial ?_
      obtain ⟨v1, I1, J1, e1, h⟩ := qp_bd_s h
      refine qp_cV qp_ok105 (rest := []) (oj := 1) qp_f23 rfl rfl (gS_get_1 l G a1 (a4 + 1) I J e1 (Nat.le_refl 3)) rfl rfl rfl rfl (Nat.le_trans (by decide) hd) ?_
      refine qp_run_E qp_ok105 8 (c' := (80, [some (.ref 0), some (.int a1), none, some (.int a3), some (.int a4), some (.int v1)], [.int a4, .int a1, .ref 1, .ref 15], qp_mk I1 J1)) (by with_unfolding_all rfl) hd1 trivial ?_
      obtain ⟨v2, I2, J2, e2, h⟩ := qp_bd_s h
      refine qp_cV qp_ok105 (rest := [.ref 15]) (oj := 1) qp_f23 rfl rfl (gS_get_1 l G a1 a4 I1 J1 e2 (Nat.le_refl 3)) rfl rfl rfl rfl (Nat.le_trans (by decide) hd) ?_
      obtain ⟨v3, I3, J3, e3, h⟩ := qp_bd_s h
      refine qp_cV qp_ok105 (rest := []) (oj := 3) qp_f53 rfl rfl (gC_has_15 l G v2 I2 J2 e3 (Nat.le_refl 1)) rfl rfl rfl rfl (Nat.le_trans (by decide) hd) ?_
      refine qp_br_E qp_ok105 (f := v3 = 0) (ct := (101, [some (.ref 0), some (.int a1), none, some (.int a3), some (.int a4), some (.int v1)], [], qp_mk I3 J3)) (cf := (89, [some (.ref 0), some (.int a1), none, some (.int a3), some (.int a4), some (.int v1)], [], qp_mk I3 J3)) (by with_unfolding_all rfl) (fun h2 => ?_) (fun h2 => ?_)
      · replace h := qp_ift h2 h
        refine qp_run_E qp_ok105 2 (c' := (103, [some (.ref 0), some (.int a1), none, some (.int a3), some (.int a4), some (.int v1)], [.int 3, .ref 0], qp_mk I3 J3)) (by with_unfolding_all rfl) hd1 trivial ?_
        obtain ⟨v4, I4, J4, e4, h⟩ := qp_bd_s h
        refine qp_cV qp_ok105 (rest := []) (oj := 0) qp_f14 rfl rfl (gX_found l G 3 I3 J3 e4 (Nat.le_refl 1)) rfl rfl rfl rfl (Nat.le_trans (by decide) hd) ?_
        obtain rfl := Option.some.inj h
        exact qp_retI_E qp_ok105 rfl qp_r105.1 ⟨rfl, rfl⟩ ⟨rfl, rfl⟩
      · replace h := qp_iff h2 h
        refine qp_run_E qp_ok105 1 (c' := (91, [some (.ref 0), some (.int a1), none, some (.int a3), some (.int a4), some (.int v1)], [.int v1], qp_mk I3 J3)) (by with_unfolding_all rfl) hd1 trivial ?_
        refine qp_br_E qp_ok105 (f := v1 < 0) (ct := (101, [some (.ref 0), some (.int a1), none, some (.int a3), some (.int a4), some (.int v1)], [], qp_mk I3 J3)) (cf := (94, [some (.ref 0), some (.int a1), none, some (.int a3), some (.int a4), some (.int v1)], [], qp_mk I3 J3)) (by with_unfolding_all rfl) (fun h3 => ?_) (fun h3 => ?_)
        · replace h := qp_ift h3 h
          refine qp_run_E qp_ok105 2 (c' := (103, [some (.ref 0), some (.int a1), none, some (.int a3), some (.int a4), some (.int v1)], [.int 3, .ref 0], qp_mk I3 J3)) (by with_unfolding_all rfl) hd1 trivial ?_
          obtain ⟨v5, I5, J5, e5, h⟩ := qp_bd_s h
          refine qp_cV qp_ok105 (rest := []) (oj := 0) qp_f14 rfl rfl (gX_found l G 3 I3 J3 e5 (Nat.le_refl 1)) rfl rfl rfl rfl (Nat.le_trans (by decide) hd) ?_
          obtain rfl := Option.some.inj h
          exact qp_retI_E qp_ok105 rfl qp_r105.1 ⟨rfl, rfl⟩ ⟨rfl, rfl⟩
        · replace h := qp_iff h3 h
          refine qp_run_E qp_ok105 2 (c' := (98, [some (.ref 0), some (.int a1), none, some (.int a3), some (.int a4), some (.int v1)], [.int 9, .int v1], qp_mk I3 J3)) (by with_unfolding_all rfl) hd1 trivial ?_
          refine qp_br_E qp_ok105 (f := v1 ≤ 9) (ct := (107, [some (.ref 0), some (.int a1), none, some (.int a3), some (.int a4), some (.int v1)], [], qp_mk I3 J3)) (cf := (101, [some (.ref 0), some (.int a1), none, some (.int a3), some (.int a4), some (.int v1)], [], qp_mk I3 J3)) (by with_unfolding_all rfl) (fun h4 => ?_) (fun h4 => ?_)
          · replace h := qp_ift h4 h
            refine qp_run_E qp_ok105 2 (c' := (46, [some (.ref 0), some (.int a1), none, some (.int a3), some (.int (a4 + 2)), some (.int v1)], [], qp_mk I3 J3)) (by with_unfolding_all rfl) hd1 trivial ?_
            exact qp_E_fg [true, true, false, true, true, false] (ih a1 a3 (a4 + 2) I3 J3 h)
          · replace h := qp_iff h4 h
            refine qp_run_E qp_ok105 2 (c' := (103, [some (.ref 0), some (.int a1), none, some (.int a3), some (.int a4), some (.int v1)], [.int 3, .ref 0], qp_mk I3 J3)) (by with_unfolding_all rfl) hd1 trivial ?_
            obtain ⟨v6, I6, J6, e6, h⟩ := qp_bd_s h
            refine qp_cV qp_ok105 (rest := []) (oj := 0) qp_f14 rfl rfl (gX_found l G 3 I3 J3 e6 (Nat.le_refl 1)) rfl rfl rfl rfl (Nat.le_trans (by decide) hd) ?_
            obtain rfl := Option.some.inj h
            exact qp_retI_E qp_ok105 rfl qp_r105.1 ⟨rfl, rfl⟩ ⟨rfl, rfl⟩
def fX_refusalOfPairs (p1 : Int32) (I : Nat → Nat → Int32) (J : Nat → Nat → Int64) : Option (Int32 × (Nat → Nat → Int32) × (Nat → Nat → Int64)) :=
  qp_bd (fX_refusalOf_0_1 p1 I J) fun v1 I1 J1 =>
  if v1 = 0 then (
    qp_bd (fS_sizeOf_1 p1 I1 J1) fun v2 I2 J2 =>
    if ¬ (v2 - v2 / 2 * 2) = 0 then (
      qp_bd (fX_found 5 I2 J2) fun v3 I3 J3 =>
      some (v3, I3, J3)
    ) else (
      if v2 ≤ 16 then (
        fX_refusalOfPairs_b46 100000 p1 v2 0 I2 J2
      ) else (
        qp_bd (fX_found 5 I2 J2) fun v4 I4 J4 =>
        some (v4, I4, J4)
      )
    )
  ) else (
    some (v1, I1, J1)
  )
set_option maxRecDepth 8000 in
theorem gX_refusalOfPairs (l : Launch) (G : qp_G) (p1 : Int32) (I : Nat → Nat → Int32) (J : Nat → Nat → Int64) {v : Int32} {I' : Nat → Nat → Int32} {J' : Nat → Nat → Int64} (h : fX_refusalOfPairs p1 I J = some (v, I', J')) {d : Nat} (hd : 5 ≤ d) : qp_Met l G d 105 [.ref 0, .int p1] (qp_mk I J) 0 0 (qp_R8 (some (.int v)) I' J') := by
  have hd1 : Nat.ble 1 d = true := Nat.ble_eq_true_of_le (Nat.le_trans (by decide) hd)
  refine qp_Met_of (by decide) (by rw [qp_r105.2]; rfl) [some (.ref 0), some (.int p1), none, none, none, none] (by rw [qp_r105.2]; rfl) ?_
  unfold fX_refusalOfPairs at h
  refine qp_run_E qp_ok105 4 (c' := (6, [some (.ref 0), some (.int p1), none, none, none, none], [.int p1, .ref 1, .ref 0], qp_mk I J)) (by with_unfolding_all rfl) hd1 trivial ?_
  obtain ⟨v1, I1, J1, e1, h⟩ := qp_bd_s h
  refine qp_cV qp_ok105 (rest := []) (oj := 0) qp_f20 rfl rfl (gX_refusalOf_0_1 l G p1 I J e1 (Nat.le_refl 4)) rfl rfl rfl rfl (Nat.le_trans (by decide) hd) ?_
  refine qp_run_E qp_ok105 2 (c' := (11, [some (.ref 0), some (.int p1), some (.int v1), none, none, none], [.int v1], qp_mk I1 J1)) (by with_unfolding_all rfl) hd1 trivial ?_
  refine qp_br_E qp_ok105 (f := v1 = 0) (ct := (16, [some (.ref 0), some (.int p1), some (.int v1), none, none, none], [], qp_mk I1 J1)) (cf := (14, [some (.ref 0), some (.int p1), some (.int v1), none, none, none], [], qp_mk I1 J1)) (by with_unfolding_all rfl) (fun h1 => ?_) (fun h1 => ?_)
  · replace h := qp_ift h1 h
    refine qp_run_E qp_ok105 3 (c' := (21, [some (.ref 0), some (.int p1), some (.int v1), none, none, none], [.int p1, .ref 1], qp_mk I1 J1)) (by with_unfolding_all rfl) hd1 trivial ?_
    obtain ⟨v2, I2, J2, e2, h⟩ := qp_bd_s h
    refine qp_cV qp_ok105 (rest := []) (oj := 1) qp_f22 rfl rfl (gS_sizeOf_1 l G p1 I1 J1 e2 (Nat.le_refl 2)) rfl rfl rfl rfl (Nat.le_trans (by decide) hd) ?_
    refine qp_run_E qp_ok105 4 (f := ¬ (2 : Int32) = 0 ∧ True) (c' := (28, [some (.ref 0), some (.int p1), some (.int v1), some (.int v2), none, none], [.int (v2 - v2 / 2 * 2)], qp_mk I2 J2)) (by with_unfolding_all rfl) hd1 ⟨(by decide), trivial⟩ ?_
    refine qp_br_E qp_ok105 (f := ¬ (v2 - v2 / 2 * 2) = 0) (ct := (37, [some (.ref 0), some (.int p1), some (.int v1), some (.int v2), none, none], [], qp_mk I2 J2)) (cf := (31, [some (.ref 0), some (.int p1), some (.int v1), some (.int v2), none, none], [], qp_mk I2 J2)) (by with_unfolding_all rfl) (fun h2 => ?_) (fun h2 => ?_)
    · replace h := qp_ift h2 h
      refine qp_run_E qp_ok105 2 (c' := (39, [some (.ref 0), some (.int p1), some (.int v1), some (.int v2), none, none], [.int 5, .ref 0], qp_mk I2 J2)) (by with_unfolding_all rfl) hd1 trivial ?_
      obtain ⟨v3, I3, J3, e3, h⟩ := qp_bd_s h
      refine qp_cV qp_ok105 (rest := []) (oj := 0) qp_f14 rfl rfl (gX_found l G 5 I2 J2 e3 (Nat.le_refl 1)) rfl rfl rfl rfl (Nat.le_trans (by decide) hd) ?_
      obtain ⟨rfl, rfl, rfl⟩ := qp_some3 h
      exact qp_retI_E qp_ok105 rfl qp_r105.1 ⟨rfl, rfl⟩ ⟨rfl, rfl⟩
    · replace h := qp_iff h2 h
      refine qp_run_E qp_ok105 2 (c' := (34, [some (.ref 0), some (.int p1), some (.int v1), some (.int v2), none, none], [.int 16, .int v2], qp_mk I2 J2)) (by with_unfolding_all rfl) hd1 trivial ?_
      refine qp_br_E qp_ok105 (f := v2 ≤ 16) (ct := (43, [some (.ref 0), some (.int p1), some (.int v1), some (.int v2), none, none], [], qp_mk I2 J2)) (cf := (37, [some (.ref 0), some (.int p1), some (.int v1), some (.int v2), none, none], [], qp_mk I2 J2)) (by with_unfolding_all rfl) (fun h3 => ?_) (fun h3 => ?_)
      · replace h := qp_ift h3 h
        refine qp_run_E qp_ok105 2 (c' := (46, [some (.ref 0), some (.int p1), some (.int v1), some (.int v2), some (.int 0), none], [], qp_mk I2 J2)) (by with_unfolding_all rfl) hd1 trivial ?_
        exact qp_E_fg [true, true, false, true, true, false] (gX_refusalOfPairs_b46 hd 100000 p1 v2 0 I2 J2 h)
      · replace h := qp_iff h3 h
        refine qp_run_E qp_ok105 2 (c' := (39, [some (.ref 0), some (.int p1), some (.int v1), some (.int v2), none, none], [.int 5, .ref 0], qp_mk I2 J2)) (by with_unfolding_all rfl) hd1 trivial ?_
        obtain ⟨v4, I4, J4, e4, h⟩ := qp_bd_s h
        refine qp_cV qp_ok105 (rest := []) (oj := 0) qp_f14 rfl rfl (gX_found l G 5 I2 J2 e4 (Nat.le_refl 1)) rfl rfl rfl rfl (Nat.le_trans (by decide) hd) ?_
        obtain ⟨rfl, rfl, rfl⟩ := qp_some3 h
        exact qp_retI_E qp_ok105 rfl qp_r105.1 ⟨rfl, rfl⟩ ⟨rfl, rfl⟩
  · replace h := qp_iff h1 h
    refine qp_run_E qp_ok105 1 (c' := (15, [some (.ref 0), some (.int p1), some (.int v1), none, none, none], [.int v1], qp_mk I1 J1)) (by with_unfolding_all rfl) hd1 trivial ?_
    obtain ⟨rfl, rfl, rfl⟩ := qp_some3 h
    exact qp_retI_E qp_ok105 rfl qp_r105.1 ⟨rfl, rfl⟩ ⟨rfl, rfl⟩
def fO_forget_b35  : Nat → Int32 → (Nat → Nat → Int32) → (Nat → Nat → Int64) → Option (Unit × (Nat → Nat → Int32) × (Nat → Nat → Int64))
  | 0, _, _, _ => none
  | n + 1, a1, I, J =>
    if 24 ≤ a1 then (
      some ((), I, J)
    ) else (
      qp_gd ((0 ≤ a1 ∧ a1 < 24)) <|
      fO_forget_b35 n (a1 + 1) (qp_up I 32 (Int32.toNatClampNeg a1) 0) J
    )
set_option maxRecDepth 8000 in
theorem gO_forget_b35 {l : Launch} {G : qp_G} {d : Nat} (hd : 1 ≤ d) {r : (Unit × (Nat → Nat → Int32) × (Nat → Nat → Int64))} {I0 : Nat → Nat → Int32} {J0 : Nat → Nat → Int64}   : ∀ (n : Nat) (a1 : Int32) (I : Nat → Nat → Int32) (J : Nat → Nat → Int64), fO_forget_b35  n a1 I J = some r → qp_E l G d 107 (qp_mk I0 J0) 0 0 (qp_R8 none r.2.1 r.2.2) (35, [some (.ref 29), some (.int a1)], [], qp_mk I J) := by
  have hd1 : Nat.ble 1 d = true := Nat.ble_eq_true_of_le (Nat.le_trans (by decide) hd)
  intro n
  induction n with
  | zero => intro a1 I J h; exact absurd h (by simp [fO_forget_b35])
  | succ n ih =>
    intro a1 I J h
    rw [fO_forget_b35] at h
    refine qp_run_E qp_ok107 4 (c' := (41, [some (.ref 29), some (.int a1)], [.int 24, .int a1], qp_mk I J)) (by with_unfolding_all rfl) hd1 trivial ?_
    refine qp_br_E qp_ok107 (f := 24 ≤ a1) (ct := (57, [some (.ref 29), some (.int a1)], [], qp_mk I J)) (cf := (44, [some (.ref 29), some (.int a1)], [], qp_mk I J)) (by with_unfolding_all rfl) (fun h1 => ?_) (fun h1 => ?_)
    · replace h := qp_ift h1 h
      obtain rfl := Option.some.inj h
      exact qp_retV_E qp_ok107 rfl qp_r107.1 ⟨rfl, rfl⟩ ⟨rfl, rfl⟩
    · replace h := qp_iff h1 h
      obtain ⟨h2, h⟩ := qp_gd_s h
      refine qp_run_E qp_ok107 7 (f := vp_in a1 24 ∧ True) (c' := (35, [some (.ref 29), some (.int (a1 + 1))], [], qp_mk (qp_up I 32 (Int32.toNatClampNeg a1) 0) J)) (by with_unfolding_all rfl) hd1 ⟨(qp_vin (c := 24) (by decide) h2.1 h2.2), trivial⟩ ?_
      exact ih (a1 + 1) (qp_up I 32 (Int32.toNatClampNeg a1) 0) J h
def fO_forget_b7  : Nat → Int32 → (Nat → Nat → Int32) → (Nat → Nat → Int64) → Option (Unit × (Nat → Nat → Int32) × (Nat → Nat → Int64))
  | 0, _, _, _ => none
  | n + 1, a1, I, J =>
    if 6 ≤ a1 then (
      fO_forget_b35 100000 0 I J
    ) else (
      qp_gd ((0 ≤ a1 ∧ a1 < 6)) <|
      fO_forget_b7 n (a1 + 1) (qp_up (qp_up I 30 (Int32.toNatClampNeg a1) (-1)) 31 (Int32.toNatClampNeg a1) 0) J
    )
set_option maxRecDepth 8000 in
theorem gO_forget_b7 {l : Launch} {G : qp_G} {d : Nat} (hd : 1 ≤ d) {r : (Unit × (Nat → Nat → Int32) × (Nat → Nat → Int64))} {I0 : Nat → Nat → Int32} {J0 : Nat → Nat → Int64}   : ∀ (n : Nat) (a1 : Int32) (I : Nat → Nat → Int32) (J : Nat → Nat → Int64), fO_forget_b7  n a1 I J = some r → qp_E l G d 107 (qp_mk I0 J0) 0 0 (qp_R8 none r.2.1 r.2.2) (7, [some (.ref 29), some (.int a1)], [], qp_mk I J) := by
  have hd1 : Nat.ble 1 d = true := Nat.ble_eq_true_of_le (Nat.le_trans (by decide) hd)
  intro n
  induction n with
  | zero => intro a1 I J h; exact absurd h (by simp [fO_forget_b7])
  | succ n ih =>
    intro a1 I J h
    rw [fO_forget_b7] at h
    refine qp_run_E qp_ok107 2 (c' := (10, [some (.ref 29), some (.int a1)], [.int 6, .int a1], qp_mk I J)) (by with_unfolding_all rfl) hd1 trivial ?_
    refine qp_br_E qp_ok107 (f := 6 ≤ a1) (ct := (33, [some (.ref 29), some (.int a1)], [], qp_mk I J)) (cf := (13, [some (.ref 29), some (.int a1)], [], qp_mk I J)) (by with_unfolding_all rfl) (fun h1 => ?_) (fun h1 => ?_)
    · replace h := qp_ift h1 h
      refine qp_run_E qp_ok107 2 (c' := (35, [some (.ref 29), some (.int 0)], [], qp_mk I J)) (by with_unfolding_all rfl) hd1 trivial ?_
      exact gO_forget_b35 hd 100000 0 I J h
    · replace h := qp_iff h1 h
      obtain ⟨h2, h⟩ := qp_gd_s h
      refine qp_run_E qp_ok107 12 (f := vp_in a1 6 ∧ vp_in a1 6 ∧ True) (c' := (7, [some (.ref 29), some (.int (a1 + 1))], [], qp_mk (qp_up (qp_up I 30 (Int32.toNatClampNeg a1) (-1)) 31 (Int32.toNatClampNeg a1) 0) J)) (by with_unfolding_all rfl) hd1 ⟨(qp_vin (c := 6) (by decide) h2.1 h2.2), (qp_vin (c := 6) (by decide) h2.1 h2.2), trivial⟩ ?_
      exact ih (a1 + 1) (qp_up (qp_up I 30 (Int32.toNatClampNeg a1) (-1)) 31 (Int32.toNatClampNeg a1) 0) J h
def fO_forget  (I : Nat → Nat → Int32) (J : Nat → Nat → Int64) : Option (Unit × (Nat → Nat → Int32) × (Nat → Nat → Int64)) :=
  fO_forget_b7 100000 0 (qp_up I 29 0 0) J
set_option maxRecDepth 8000 in
theorem gO_forget (l : Launch) (G : qp_G)  (I : Nat → Nat → Int32) (J : Nat → Nat → Int64) {v : Unit} {I' : Nat → Nat → Int32} {J' : Nat → Nat → Int64} (h : fO_forget  I J = some (v, I', J')) {d : Nat} (hd : 1 ≤ d) : qp_Met l G d 107 [.ref 29] (qp_mk I J) 0 0 (qp_R8 none I' J') := by
  have hd1 : Nat.ble 1 d = true := Nat.ble_eq_true_of_le (Nat.le_trans (by decide) hd)
  refine qp_Met_of (by decide) (by rw [qp_r107.2]; rfl) [some (.ref 29), none] (by rw [qp_r107.2]; rfl) ?_
  unfold fO_forget at h
  refine qp_run_E qp_ok107 5 (c' := (7, [some (.ref 29), some (.int 0)], [], qp_mk (qp_up I 29 0 0) J)) (by with_unfolding_all rfl) hd1 trivial ?_
  exact gO_forget_b7 hd 100000 0 (qp_up I 29 0 0) J h
def fO_tallyOne_b84  : Nat → Int32 → Int32 → Int32 → (Nat → Nat → Int32) → (Nat → Nat → Int64) → Option (Unit × (Nat → Nat → Int32) × (Nat → Nat → Int64))
  | 0, _, _, _, _, _ => none
  | n + 1, a1, a2, a3, I, J =>
    if a2 ≤ a3 then (
      some ((), I, J)
    ) else (
      if 6 ≤ a3 then (
        some ((), I, J)
      ) else (
        qp_gd ((0 ≤ a3 ∧ a3 < 6)) <|
        qp_bd (fD_whoAt a1 a3 I J) fun v1 I1 J1 =>
        qp_gd ((0 ≤ a3 ∧ a3 < 6)) <|
        qp_bd (fV_gainOf a3 (qp_up I1 31 (Int32.toNatClampNeg a3) ((I 31 (Int32.toNatClampNeg a3)) ||| ((1 : Int32) <<< (v1 &&& 31)))) J1) fun v2 I2 J2 =>
        if ((a3 * 4) + v2) < 0 then (
          fO_tallyOne_b84 n a1 a2 (a3 + 1) I2 J2
        ) else (
          if 24 ≤ ((a3 * 4) + v2) then (
            fO_tallyOne_b84 n a1 a2 (a3 + 1) I2 J2
          ) else (
            qp_gd ((0 ≤ ((a3 * 4) + v2) ∧ ((a3 * 4) + v2) < 24)) <|
            fO_tallyOne_b84 n a1 a2 (a3 + 1) (qp_up I2 32 (Int32.toNatClampNeg ((a3 * 4) + v2)) ((I2 32 (Int32.toNatClampNeg ((a3 * 4) + v2))) + 1)) J2
          )
        )
      )
    )
set_option maxRecDepth 8000 in
theorem gO_tallyOne_b84 {l : Launch} {G : qp_G} {d : Nat} (hd : 5 ≤ d) {r : (Unit × (Nat → Nat → Int32) × (Nat → Nat → Int64))} {I0 : Nat → Nat → Int32} {J0 : Nat → Nat → Int64}   : ∀ (n : Nat) (a1 : Int32) (a2 : Int32) (a3 : Int32) (I : Nat → Nat → Int32) (J : Nat → Nat → Int64), fO_tallyOne_b84  n a1 a2 a3 I J = some r → qp_E l G d 110 (qp_mk I0 J0) 0 0 (qp_R8 none r.2.1 r.2.2) (84, [some (.ref 29), some (.int a1), some (.int a2), some (.int a3), none], [], qp_mk I J) := by
  have hd1 : Nat.ble 1 d = true := Nat.ble_eq_true_of_le (Nat.le_trans (by decide) hd)
  intro n
  induction n with
  | zero => intro a1 a2 a3 I J h; exact absurd h (by simp [fO_tallyOne_b84])
  | succ n ih =>
    intro a1 a2 a3 I J h
    rw [fO_tallyOne_b84] at h
    refine qp_run_E qp_ok110 2 (c' := (86, [some (.ref 29), some (.int a1), some (.int a2), some (.int a3), none], [.int a2, .int a3], qp_mk I J)) (by with_unfolding_all rfl) hd1 trivial ?_
    refine qp_br_E qp_ok110 (f := a2 ≤ a3) (ct := (163, [some (.ref 29), some (.int a1), some (.int a2), some (.int a3), none], [], qp_mk I J)) (cf := (89, [some (.ref 29), some (.int a1), some (.int a2), some (.int a3), none], [], qp_mk I J)) (by with_unfolding_all rfl) (fun h1 => ?_) (fun h1 => ?_)
    · replace h := qp_ift h1 h
      obtain rfl := Option.some.inj h
      exact qp_retV_E qp_ok110 rfl qp_r110.1 ⟨rfl, rfl⟩ ⟨rfl, rfl⟩
    · replace h := qp_iff h1 h
      refine qp_run_E qp_ok110 4 (c' := (95, [some (.ref 29), some (.int a1), some (.int a2), some (.int a3), none], [.int 6, .int a3], qp_mk I J)) (by with_unfolding_all rfl) hd1 trivial ?_
      refine qp_br_E qp_ok110 (f := 6 ≤ a3) (ct := (163, [some (.ref 29), some (.int a1), some (.int a2), some (.int a3), none], [], qp_mk I J)) (cf := (98, [some (.ref 29), some (.int a1), some (.int a2), some (.int a3), none], [], qp_mk I J)) (by with_unfolding_all rfl) (fun h2 => ?_) (fun h2 => ?_)
      · replace h := qp_ift h2 h
        obtain rfl := Option.some.inj h
        exact qp_retV_E qp_ok110 rfl qp_r110.1 ⟨rfl, rfl⟩ ⟨rfl, rfl⟩
      · replace h := qp_iff h2 h
        obtain ⟨h3, h⟩ := qp_gd_s h
        refine qp_run_E qp_ok110 8 (f := vp_in a3 6 ∧ True) (c' := (108, [some (.ref 29), some (.int a1), some (.int a2), some (.int a3), none], [.int a3, .int a1, .int 1, .int (I 31 (Int32.toNatClampNeg a3)), .int a3, .ref 31], qp_mk I J)) (by with_unfolding_all rfl) hd1 ⟨(qp_vin (c := 6) (by decide) h3.1 h3.2), trivial⟩ ?_
        obtain ⟨v1, I1, J1, e1, h⟩ := qp_bd_s h
        refine qp_cS qp_ok110 (rest := [.int 1, .int (I 31 (Int32.toNatClampNeg a3)), .int a3, .ref 31]) (oj := 11) qp_f56 rfl rfl (gD_whoAt l G a1 a3 I J e1 (Nat.le_refl 1)) rfl rfl rfl (Nat.le_trans (by decide) hd) ?_
        obtain ⟨h4, h⟩ := qp_gd_s h
        refine qp_run_E qp_ok110 10 (f := vp_in a3 6 ∧ True) (c' := (125, [some (.ref 29), some (.int a1), some (.int a2), some (.int a3), none], [.int a3, .ref 18, .int (a3 * 4)], qp_mk (qp_up I1 31 (Int32.toNatClampNeg a3) ((I 31 (Int32.toNatClampNeg a3)) ||| ((1 : Int32) <<< (v1 &&& 31)))) J1)) (by with_unfolding_all rfl) hd1 ⟨(qp_vin (c := 6) (by decide) h4.1 h4.2), trivial⟩ ?_
        obtain ⟨v2, I2, J2, e2, h⟩ := qp_bd_s h
        refine qp_cV qp_ok110 (rest := [.int (a3 * 4)]) (oj := 5) qp_f64 rfl rfl (gV_gainOf l G a3 (qp_up I1 31 (Int32.toNatClampNeg a3) ((I 31 (Int32.toNatClampNeg a3)) ||| ((1 : Int32) <<< (v1 &&& 31)))) J1 e2 (Nat.le_refl 1)) rfl rfl rfl rfl (Nat.le_trans (by decide) hd) ?_
        refine qp_run_E qp_ok110 3 (c' := (133, [some (.ref 29), some (.int a1), some (.int a2), some (.int a3), some (.int ((a3 * 4) + v2))], [.int ((a3 * 4) + v2)], qp_mk I2 J2)) (by with_unfolding_all rfl) hd1 trivial ?_
        refine qp_br_E qp_ok110 (f := ((a3 * 4) + v2) < 0) (ct := (157, [some (.ref 29), some (.int a1), some (.int a2), some (.int a3), some (.int ((a3 * 4) + v2))], [], qp_mk I2 J2)) (cf := (136, [some (.ref 29), some (.int a1), some (.int a2), some (.int a3), some (.int ((a3 * 4) + v2))], [], qp_mk I2 J2)) (by with_unfolding_all rfl) (fun h5 => ?_) (fun h5 => ?_)
        · replace h := qp_ift h5 h
          refine qp_run_E qp_ok110 2 (c' := (84, [some (.ref 29), some (.int a1), some (.int a2), some (.int (a3 + 1)), some (.int ((a3 * 4) + v2))], [], qp_mk I2 J2)) (by with_unfolding_all rfl) hd1 trivial ?_
          exact qp_E_fg [true, true, true, true, false] (ih a1 a2 (a3 + 1) I2 J2 h)
        · replace h := qp_iff h5 h
          refine qp_run_E qp_ok110 4 (c' := (143, [some (.ref 29), some (.int a1), some (.int a2), some (.int a3), some (.int ((a3 * 4) + v2))], [.int 24, .int ((a3 * 4) + v2)], qp_mk I2 J2)) (by with_unfolding_all rfl) hd1 trivial ?_
          refine qp_br_E qp_ok110 (f := 24 ≤ ((a3 * 4) + v2)) (ct := (157, [some (.ref 29), some (.int a1), some (.int a2), some (.int a3), some (.int ((a3 * 4) + v2))], [], qp_mk I2 J2)) (cf := (146, [some (.ref 29), some (.int a1), some (.int a2), some (.int a3), some (.int ((a3 * 4) + v2))], [], qp_mk I2 J2)) (by with_unfolding_all rfl) (fun h6 => ?_) (fun h6 => ?_)
          · replace h := qp_ift h6 h
            refine qp_run_E qp_ok110 2 (c' := (84, [some (.ref 29), some (.int a1), some (.int a2), some (.int (a3 + 1)), some (.int ((a3 * 4) + v2))], [], qp_mk I2 J2)) (by with_unfolding_all rfl) hd1 trivial ?_
            exact qp_E_fg [true, true, true, true, false] (ih a1 a2 (a3 + 1) I2 J2 h)
          · replace h := qp_iff h6 h
            obtain ⟨h7, h⟩ := qp_gd_s h
            refine qp_run_E qp_ok110 10 (f := vp_in ((a3 * 4) + v2) 24 ∧ vp_in ((a3 * 4) + v2) 24 ∧ True) (c' := (84, [some (.ref 29), some (.int a1), some (.int a2), some (.int (a3 + 1)), some (.int ((a3 * 4) + v2))], [], qp_mk (qp_up I2 32 (Int32.toNatClampNeg ((a3 * 4) + v2)) ((I2 32 (Int32.toNatClampNeg ((a3 * 4) + v2))) + 1)) J2)) (by with_unfolding_all rfl) hd1 ⟨(qp_vin (c := 24) (by decide) h7.1 h7.2), (qp_vin (c := 24) (by decide) h7.1 h7.2), trivial⟩ ?_
            exact qp_E_fg [true, true, true, true, false] (ih a1 a2 (a3 + 1) (qp_up I2 32 (Int32.toNatClampNeg ((a3 * 4) + v2)) ((I2 32 (Int32.toNatClampNeg ((a3 * 4) + v2))) + 1)) J2 h)
def fO_tallyOne_b21  : Nat → Int32 → Int32 → Int32 → (Nat → Nat → Int32) → (Nat → Nat → Int64) → Option (Unit × (Nat → Nat → Int32) × (Nat → Nat → Int64))
  | 0, _, _, _, _, _ => none
  | n + 1, a1, a2, a3, I, J =>
    if a2 ≤ a3 then (
      fO_tallyOne_b84 100000 a1 a2 0 (qp_up I 29 0 ((I 29 0) + 1)) J
    ) else (
      if 6 ≤ a3 then (
        fO_tallyOne_b84 100000 a1 a2 0 (qp_up I 29 0 ((I 29 0) + 1)) J
      ) else (
        qp_gd ((0 ≤ a3 ∧ a3 < 6)) <|
        if (I 30 (Int32.toNatClampNeg a3)) = (-1) then (
          fO_tallyOne_b21 n a1 a2 (a3 + 1) I J
        ) else (
          qp_gd ((0 ≤ a3 ∧ a3 < 6)) <|
          qp_bd (fV_gainOf a3 I J) fun v1 I1 J1 =>
          if (I 30 (Int32.toNatClampNeg a3)) = v1 then (
            fO_tallyOne_b21 n a1 a2 (a3 + 1) I1 J1
          ) else (
            some ((), I1, J1)
          )
        )
      )
    )
set_option maxRecDepth 8000 in
theorem gO_tallyOne_b21 {l : Launch} {G : qp_G} {d : Nat} (hd : 5 ≤ d) {r : (Unit × (Nat → Nat → Int32) × (Nat → Nat → Int64))} {I0 : Nat → Nat → Int32} {J0 : Nat → Nat → Int64}   : ∀ (n : Nat) (a1 : Int32) (a2 : Int32) (a3 : Int32) (I : Nat → Nat → Int32) (J : Nat → Nat → Int64), fO_tallyOne_b21  n a1 a2 a3 I J = some r → qp_E l G d 110 (qp_mk I0 J0) 0 0 (qp_R8 none r.2.1 r.2.2) (21, [some (.ref 29), some (.int a1), some (.int a2), some (.int a3), none], [], qp_mk I J) := by
  have hd1 : Nat.ble 1 d = true := Nat.ble_eq_true_of_le (Nat.le_trans (by decide) hd)
  intro n
  induction n with
  | zero => intro a1 a2 a3 I J h; exact absurd h (by simp [fO_tallyOne_b21])
  | succ n ih =>
    intro a1 a2 a3 I J h
    rw [fO_tallyOne_b21] at h
    refine qp_run_E qp_ok110 2 (c' := (23, [some (.ref 29), some (.int a1), some (.int a2), some (.int a3), none], [.int a2, .int a3], qp_mk I J)) (by with_unfolding_all rfl) hd1 trivial ?_
    refine qp_br_E qp_ok110 (f := a2 ≤ a3) (ct := (72, [some (.ref 29), some (.int a1), some (.int a2), some (.int a3), none], [], qp_mk I J)) (cf := (26, [some (.ref 29), some (.int a1), some (.int a2), some (.int a3), none], [], qp_mk I J)) (by with_unfolding_all rfl) (fun h1 => ?_) (fun h1 => ?_)
    · replace h := qp_ift h1 h
      refine qp_run_E qp_ok110 8 (c' := (84, [some (.ref 29), some (.int a1), some (.int a2), some (.int 0), none], [], qp_mk (qp_up I 29 0 ((I 29 0) + 1)) J)) (by with_unfolding_all rfl) hd1 trivial ?_
      exact gO_tallyOne_b84 hd 100000 a1 a2 0 (qp_up I 29 0 ((I 29 0) + 1)) J h
    · replace h := qp_iff h1 h
      refine qp_run_E qp_ok110 4 (c' := (32, [some (.ref 29), some (.int a1), some (.int a2), some (.int a3), none], [.int 6, .int a3], qp_mk I J)) (by with_unfolding_all rfl) hd1 trivial ?_
      refine qp_br_E qp_ok110 (f := 6 ≤ a3) (ct := (72, [some (.ref 29), some (.int a1), some (.int a2), some (.int a3), none], [], qp_mk I J)) (cf := (35, [some (.ref 29), some (.int a1), some (.int a2), some (.int a3), none], [], qp_mk I J)) (by with_unfolding_all rfl) (fun h2 => ?_) (fun h2 => ?_)
      · replace h := qp_ift h2 h
        refine qp_run_E qp_ok110 8 (c' := (84, [some (.ref 29), some (.int a1), some (.int a2), some (.int 0), none], [], qp_mk (qp_up I 29 0 ((I 29 0) + 1)) J)) (by with_unfolding_all rfl) hd1 trivial ?_
        exact gO_tallyOne_b84 hd 100000 a1 a2 0 (qp_up I 29 0 ((I 29 0) + 1)) J h
      · replace h := qp_iff h2 h
        obtain ⟨h3, h⟩ := qp_gd_s h
        refine qp_run_E qp_ok110 5 (f := vp_in a3 6 ∧ True) (c' := (42, [some (.ref 29), some (.int a1), some (.int a2), some (.int a3), none], [.int (-1), .int (I 30 (Int32.toNatClampNeg a3))], qp_mk I J)) (by with_unfolding_all rfl) hd1 ⟨(qp_vin (c := 6) (by decide) h3.1 h3.2), trivial⟩ ?_
        refine qp_br_E qp_ok110 (f := (I 30 (Int32.toNatClampNeg a3)) = (-1)) (ct := (66, [some (.ref 29), some (.int a1), some (.int a2), some (.int a3), none], [], qp_mk I J)) (cf := (45, [some (.ref 29), some (.int a1), some (.int a2), some (.int a3), none], [], qp_mk I J)) (by with_unfolding_all rfl) (fun h4 => ?_) (fun h4 => ?_)
        · replace h := qp_ift h4 h
          refine qp_run_E qp_ok110 2 (c' := (21, [some (.ref 29), some (.int a1), some (.int a2), some (.int (a3 + 1)), none], [], qp_mk I J)) (by with_unfolding_all rfl) hd1 trivial ?_
          exact ih a1 a2 (a3 + 1) I J h
        · replace h := qp_iff h4 h
          obtain ⟨h5, h⟩ := qp_gd_s h
          refine qp_run_E qp_ok110 8 (f := vp_in a3 6 ∧ True) (c' := (59, [some (.ref 29), some (.int a1), some (.int a2), some (.int a3), none], [.int a3, .ref 18, .int (I 30 (Int32.toNatClampNeg a3))], qp_mk I J)) (by with_unfolding_all rfl) hd1 ⟨(qp_vin (c := 6) (by decide) h5.1 h5.2), trivial⟩ ?_
          obtain ⟨v1, I1, J1, e1, h⟩ := qp_bd_s h
          refine qp_cV qp_ok110 (rest := [.int (I 30 (Int32.toNatClampNeg a3))]) (oj := 5) qp_f64 rfl rfl (gV_gainOf l G a3 I J e1 (Nat.le_refl 1)) rfl rfl rfl rfl (Nat.le_trans (by decide) hd) ?_
          refine qp_br_E qp_ok110 (f := (I 30 (Int32.toNatClampNeg a3)) = v1) (ct := (66, [some (.ref 29), some (.int a1), some (.int a2), some (.int a3), none], [], qp_mk I1 J1)) (cf := (65, [some (.ref 29), some (.int a1), some (.int a2), some (.int a3), none], [], qp_mk I1 J1)) (by with_unfolding_all rfl) (fun h6 => ?_) (fun h6 => ?_)
          · replace h := qp_ift h6 h
            refine qp_run_E qp_ok110 2 (c' := (21, [some (.ref 29), some (.int a1), some (.int a2), some (.int (a3 + 1)), none], [], qp_mk I1 J1)) (by with_unfolding_all rfl) hd1 trivial ?_
            exact ih a1 a2 (a3 + 1) I1 J1 h
          · replace h := qp_iff h6 h
            obtain rfl := Option.some.inj h
            exact qp_retV_E qp_ok110 rfl qp_r110.1 ⟨rfl, rfl⟩ ⟨rfl, rfl⟩
def fO_tallyOne (p1 : Int32) (I : Nat → Nat → Int32) (J : Nat → Nat → Int64) : Option (Unit × (Nat → Nat → Int32) × (Nat → Nat → Int64)) :=
  qp_bd (fL_serve p1 I J) fun _u I1 J1 =>
  fO_tallyOne_b21 100000 p1 (I1 15 0) 0 I1 J1
set_option maxRecDepth 8000 in
theorem gO_tallyOne (l : Launch) (G : qp_G) (p1 : Int32) (I : Nat → Nat → Int32) (J : Nat → Nat → Int64) {v : Unit} {I' : Nat → Nat → Int32} {J' : Nat → Nat → Int64} (h : fO_tallyOne p1 I J = some (v, I', J')) {d : Nat} (hd : 5 ≤ d) : qp_Met l G d 110 [.ref 29, .int p1] (qp_mk I J) 0 0 (qp_R8 none I' J') := by
  have hd1 : Nat.ble 1 d = true := Nat.ble_eq_true_of_le (Nat.le_trans (by decide) hd)
  refine qp_Met_of (by decide) (by rw [qp_r110.2]; rfl) [some (.ref 29), some (.int p1), none, none, none] (by rw [qp_r110.2]; rfl) ?_
  unfold fO_tallyOne at h
  refine qp_run_E qp_ok110 3 (c' := (5, [some (.ref 29), some (.int p1), none, none, none], [.int p1, .ref 14], qp_mk I J)) (by with_unfolding_all rfl) hd1 trivial ?_
  obtain ⟨v1, I1, J1, e1, h⟩ := qp_bd_s h
  refine qp_cV qp_ok110 (rest := []) (oj := 4) qp_f54 rfl rfl (gL_serve l G p1 I J e1 (Nat.le_refl 4)) rfl rfl rfl rfl (Nat.le_trans (by decide) hd) ?_
  refine qp_run_E qp_ok110 7 (c' := (21, [some (.ref 29), some (.int p1), some (.int (I1 15 0)), some (.int 0), none], [], qp_mk I1 J1)) (by with_unfolding_all rfl) hd1 trivial ?_
  exact gO_tallyOne_b21 hd 100000 p1 (I1 15 0) 0 I1 J1 h

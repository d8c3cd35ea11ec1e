/-! methods as functions, 5 -/
def fX_mid (p1 : Int32) (I : Nat → Nat → Int32) (J : Nat → Nat → Int64) : Option (Int32 × (Nat → Nat → Int32) × (Nat → Nat → Int64)) :=
  if p1 < 0 then (
    some ((-1), I, J)
  ) else (
    if p1 ≤ 12 then (
      if ¬ (I 15 0) = 0 then (
        qp_bd (fN_ofLeft p1 I J) fun v1 I1 J1 =>
        qp_bd (fN_whole I1 J1) fun v2 I2 J2 =>
        qp_bd (fX_tellRatio v1 v2 I2 J2) fun v3 I3 J3 =>
        some (v3, I3, J3)
      ) else (
        some ((-4), I, J)
      )
    ) else (
      some ((-1), I, J)
    )
  )
set_option maxRecDepth 8000 in
theorem gX_mid (l : Launch) (G : qp_G) (p1 : Int32) (I : Nat → Nat → Int32) (J : Nat → Nat → Int64) {v : Int32} {I' : Nat → Nat → Int32} {J' : Nat → Nat → Int64} (h : fX_mid p1 I J = some (v, I', J')) {d : Nat} (hd : 6 ≤ d) : qp_Met l G d 130 [.ref 0, .int p1] (qp_mk I J) 0 0 (qp_R8 (some (.int v)) I' J') := by
  have hd1 : Nat.ble 1 d = true := Nat.ble_eq_true_of_le (Nat.le_trans (by decide) hd)
  refine qp_Met_of (by decide) (by rw [qp_r130.2]; rfl) [some (.ref 0), some (.int p1)] (by rw [qp_r130.2]; rfl) ?_
  unfold fX_mid at h
  refine qp_run_E qp_ok130 1 (c' := (1, [some (.ref 0), some (.int p1)], [.int p1], qp_mk I J)) (by with_unfolding_all rfl) hd1 trivial ?_
  refine qp_br_E qp_ok130 (f := p1 < 0) (ct := (10, [some (.ref 0), some (.int p1)], [], qp_mk I J)) (cf := (4, [some (.ref 0), some (.int p1)], [], qp_mk I J)) (by with_unfolding_all rfl) (fun h1 => ?_) (fun h1 => ?_)
  · replace h := qp_ift h1 h
    refine qp_run_E qp_ok130 1 (c' := (11, [some (.ref 0), some (.int p1)], [.int (-1)], qp_mk I J)) (by with_unfolding_all rfl) hd1 trivial ?_
    obtain ⟨rfl, rfl, rfl⟩ := qp_some3 h
    exact qp_retI_E qp_ok130 rfl qp_r130.1 ⟨rfl, rfl⟩ ⟨rfl, rfl⟩
  · replace h := qp_iff h1 h
    refine qp_run_E qp_ok130 2 (c' := (7, [some (.ref 0), some (.int p1)], [.int 12, .int p1], qp_mk I J)) (by with_unfolding_all rfl) hd1 trivial ?_
    refine qp_br_E qp_ok130 (f := p1 ≤ 12) (ct := (12, [some (.ref 0), some (.int p1)], [], qp_mk I J)) (cf := (10, [some (.ref 0), some (.int p1)], [], qp_mk I J)) (by with_unfolding_all rfl) (fun h2 => ?_) (fun h2 => ?_)
    · replace h := qp_ift h2 h
      refine qp_run_E qp_ok130 4 (c' := (22, [some (.ref 0), some (.int p1)], [.int (I 15 0)], qp_mk I J)) (by with_unfolding_all rfl) hd1 trivial ?_
      refine qp_br_E qp_ok130 (f := ¬ (I 15 0) = 0) (ct := (28, [some (.ref 0), some (.int p1)], [], qp_mk I J)) (cf := (25, [some (.ref 0), some (.int p1)], [], qp_mk I J)) (by with_unfolding_all rfl) (fun h3 => ?_) (fun h3 => ?_)
      · replace h := qp_ift h3 h
        refine qp_run_E qp_ok130 4 (c' := (34, [some (.ref 0), some (.int p1)], [.int p1, .ref 34, .ref 0], qp_mk I J)) (by with_unfolding_all rfl) hd1 trivial ?_
        obtain ⟨v1, I1, J1, e1, h⟩ := qp_bd_s h
        refine qp_cV qp_ok130 (rest := [.ref 0]) (oj := 9) qp_f131 rfl rfl (gN_ofLeft l G p1 I J e1 (Nat.le_refl 5)) rfl rfl rfl rfl (Nat.le_trans (by decide) hd) ?_
        refine qp_run_E qp_ok130 2 (c' := (41, [some (.ref 0), some (.int p1)], [.ref 34, .long v1, .ref 0], qp_mk I1 J1)) (by with_unfolding_all rfl) hd1 trivial ?_
        obtain ⟨v2, I2, J2, e2, h⟩ := qp_bd_s h
        refine qp_cV qp_ok130 (rest := [.long v1, .ref 0]) (oj := 9) qp_f129 rfl rfl (gN_whole l G I1 J1 e2 (Nat.le_refl 2)) rfl rfl rfl rfl (Nat.le_trans (by decide) hd) ?_
        obtain ⟨v3, I3, J3, e3, h⟩ := qp_bd_s h
        refine qp_cV qp_ok130 (rest := []) (oj := 0) qp_f111 rfl rfl (gX_tellRatio l G v1 v2 I2 J2 e3 (Nat.le_refl 2)) rfl rfl rfl rfl (Nat.le_trans (by decide) hd) ?_
        obtain ⟨rfl, rfl, rfl⟩ := qp_some3 h
        exact qp_retI_E qp_ok130 rfl qp_r130.1 ⟨rfl, rfl⟩ ⟨rfl, rfl⟩
      · replace h := qp_iff h3 h
        refine qp_run_E qp_ok130 1 (c' := (27, [some (.ref 0), some (.int p1)], [.int (-4)], qp_mk I J)) (by with_unfolding_all rfl) hd1 trivial ?_
        obtain ⟨rfl, rfl, rfl⟩ := qp_some3 h
        exact qp_retI_E qp_ok130 rfl qp_r130.1 ⟨rfl, rfl⟩ ⟨rfl, rfl⟩
    · replace h := qp_iff h2 h
      refine qp_run_E qp_ok130 1 (c' := (11, [some (.ref 0), some (.int p1)], [.int (-1)], qp_mk I J)) (by with_unfolding_all rfl) hd1 trivial ?_
      obtain ⟨rfl, rfl, rfl⟩ := qp_some3 h
      exact qp_retI_E qp_ok130 rfl qp_r130.1 ⟨rfl, rfl⟩ ⟨rfl, rfl⟩
def fV_gainOfAll  (I : Nat → Nat → Int32) (J : Nat → Nat → Int64) : Option (Int32 × (Nat → Nat → Int32) × (Nat → Nat → Int64)) :=
  some (((I 18 3) - (I 18 4)), I, J)
set_option maxRecDepth 8000 in
theorem gV_gainOfAll (l : Launch) (G : qp_G)  (I : Nat → Nat → Int32) (J : Nat → Nat → Int64) {v : Int32} {I' : Nat → Nat → Int32} {J' : Nat → Nat → Int64} (h : fV_gainOfAll  I J = some (v, I', J')) {d : Nat} (hd : 1 ≤ d) : qp_Met l G d 135 [.ref 18] (qp_mk I J) 0 0 (qp_R8 (some (.int v)) I' J') := by
  have hd1 : Nat.ble 1 d = true := Nat.ble_eq_true_of_le (Nat.le_trans (by decide) hd)
  refine qp_Met_of (by decide) (by rw [qp_r135.2]; rfl) [some (.ref 18)] (by rw [qp_r135.2]; rfl) ?_
  unfold fV_gainOfAll at h
  refine qp_run_E qp_ok135 5 (c' := (9, [some (.ref 18)], [.int ((I 18 3) - (I 18 4))], qp_mk I J)) (by with_unfolding_all rfl) hd1 trivial ?_
  obtain ⟨rfl, rfl, rfl⟩ := qp_some3 h
  exact qp_retI_E qp_ok135 rfl qp_r135.1 ⟨rfl, rfl⟩ ⟨rfl, rfl⟩
def fL_actByLot_b69   (a1 : Int32) (a2 : Int32) (a3 : Int32) (I : Nat → Nat → Int32) (J : Nat → Nat → Int64) : Option (Unit × (Nat → Nat → Int32) × (Nat → Nat → Int64)) :=
  if 6 ≤ a2 then (
    qp_bd (fL_act 0 0 I J) fun _u I1 J1 =>
    some ((), I1, J1)
  ) else (
    qp_gd ((¬ (I 15 0) = 0)) <|
    qp_bd (fL_canSell (((8 : Int32) * (a1 - a1 / (I 15 0) * (I 15 0))) + (a3 - a3 / (I 15 0) * (I 15 0))) I J) fun v2 I2 J2 =>
    if v2 = 0 then (
      qp_bd (fL_act 0 0 I2 J2) fun _u I3 J3 =>
      some ((), I3, J3)
    ) else (
      qp_gd ((¬ (I2 15 0) = 0)) <|
      qp_bd (fL_act 1 (((8 : Int32) * (a1 - a1 / (I2 15 0) * (I2 15 0))) + (a3 - a3 / (I2 15 0) * (I2 15 0))) I2 J2) fun _u I4 J4 =>
      some ((), I4, J4)
    )
  )
set_option maxRecDepth 8000 in
theorem gL_actByLot_b69 {l : Launch} {G : qp_G} {d : Nat} (hd : 6 ≤ d) {r : (Unit × (Nat → Nat → Int32) × (Nat → Nat → Int64))} {I0 : Nat → Nat → Int32} {J0 : Nat → Nat → Int64}   : ∀ (a1 : Int32) (a2 : Int32) (a3 : Int32) (I : Nat → Nat → Int32) (J : Nat → Nat → Int64), fL_actByLot_b69  a1 a2 a3 I J = some r → qp_E l G d 134 (qp_mk I0 J0) 0 0 (qp_R8 none r.2.1 r.2.2) (69, [some (.ref 14), some (.int a1), some (.int a2), some (.int a3)], [], qp_mk I J) := by
  have hd1 : Nat.ble 1 d = true := Nat.ble_eq_true_of_le (Nat.le_trans (by decide) hd)
  intro a1 a2 a3 I J h
  unfold fL_actByLot_b69 at h
  refine qp_run_E qp_ok134 2 (c' := (72, [some (.ref 14), some (.int a1), some (.int a2), some (.int a3)], [.int 6, .int a2], qp_mk I J)) (by with_unfolding_all rfl) hd1 trivial ?_
  refine qp_br_E qp_ok134 (f := 6 ≤ a2) (ct := (134, [some (.ref 14), some (.int a1), some (.int a2), some (.int a3)], [], qp_mk I J)) (cf := (75, [some (.ref 14), some (.int a1), some (.int a2), some (.int a3)], [], qp_mk I J)) (by with_unfolding_all rfl) (fun h1 => ?_) (fun h1 => ?_)
  · replace h := qp_ift h1 h
    refine qp_run_E qp_ok134 3 (c' := (137, [some (.ref 14), some (.int a1), some (.int a2), some (.int a3)], [.int 0, .int 0, .ref 14], qp_mk I J)) (by with_unfolding_all rfl) hd1 trivial ?_
    obtain ⟨v1, I1, J1, e1, h⟩ := qp_bd_s h
    refine qp_cV qp_ok134 (rest := []) (oj := 4) qp_f74 rfl rfl (gL_act l G 0 0 I J e1 (Nat.le_refl 5)) rfl rfl rfl rfl (Nat.le_trans (by decide) hd) ?_
    obtain rfl := Option.some.inj h
    exact qp_retV_E qp_ok134 rfl qp_r134.1 ⟨rfl, rfl⟩ ⟨rfl, rfl⟩
  · replace h := qp_iff h1 h
    obtain ⟨h2, h⟩ := qp_gd_s h
    refine qp_run_E qp_ok134 14 (f := ¬ ((I 15 0) : Int32) = 0 ∧ ¬ ((I 15 0) : Int32) = 0 ∧ True) (c' := (98, [some (.ref 14), some (.int a1), some (.int a2), some (.int a3)], [.int (((8 : Int32) * (a1 - a1 / (I 15 0) * (I 15 0))) + (a3 - a3 / (I 15 0) * (I 15 0))), .ref 14], qp_mk I J)) (by with_unfolding_all rfl) hd1 ⟨h2, h2, trivial⟩ ?_
    obtain ⟨v2, I2, J2, e2, h⟩ := qp_bd_s h
    refine qp_cV qp_ok134 (rest := []) (oj := 4) qp_f73 rfl rfl (gL_canSell l G (((8 : Int32) * (a1 - a1 / (I 15 0) * (I 15 0))) + (a3 - a3 / (I 15 0) * (I 15 0))) I J e2 (Nat.le_refl 4)) rfl rfl rfl rfl (Nat.le_trans (by decide) hd) ?_
    refine qp_br_E qp_ok134 (f := v2 = 0) (ct := (134, [some (.ref 14), some (.int a1), some (.int a2), some (.int a3)], [], qp_mk I2 J2)) (cf := (104, [some (.ref 14), some (.int a1), some (.int a2), some (.int a3)], [], qp_mk I2 J2)) (by with_unfolding_all rfl) (fun h3 => ?_) (fun h3 => ?_)
    · replace h := qp_ift h3 h
      refine qp_run_E qp_ok134 3 (c' := (137, [some (.ref 14), some (.int a1), some (.int a2), some (.int a3)], [.int 0, .int 0, .ref 14], qp_mk I2 J2)) (by with_unfolding_all rfl) hd1 trivial ?_
      obtain ⟨v3, I3, J3, e3, h⟩ := qp_bd_s h
      refine qp_cV qp_ok134 (rest := []) (oj := 4) qp_f74 rfl rfl (gL_act l G 0 0 I2 J2 e3 (Nat.le_refl 5)) rfl rfl rfl rfl (Nat.le_trans (by decide) hd) ?_
      obtain rfl := Option.some.inj h
      exact qp_retV_E qp_ok134 rfl qp_r134.1 ⟨rfl, rfl⟩ ⟨rfl, rfl⟩
    · replace h := qp_iff h3 h
      obtain ⟨h4, h⟩ := qp_gd_s h
      refine qp_run_E qp_ok134 15 (f := ¬ ((I2 15 0) : Int32) = 0 ∧ ¬ ((I2 15 0) : Int32) = 0 ∧ True) (c' := (128, [some (.ref 14), some (.int a1), some (.int a2), some (.int a3)], [.int (((8 : Int32) * (a1 - a1 / (I2 15 0) * (I2 15 0))) + (a3 - a3 / (I2 15 0) * (I2 15 0))), .int 1, .ref 14], qp_mk I2 J2)) (by with_unfolding_all rfl) hd1 ⟨h4, h4, trivial⟩ ?_
      obtain ⟨v4, I4, J4, e4, h⟩ := qp_bd_s h
      refine qp_cV qp_ok134 (rest := []) (oj := 4) qp_f74 rfl rfl (gL_act l G 1 (((8 : Int32) * (a1 - a1 / (I2 15 0) * (I2 15 0))) + (a3 - a3 / (I2 15 0) * (I2 15 0))) I2 J2 e4 (Nat.le_refl 5)) rfl rfl rfl rfl (Nat.le_trans (by decide) hd) ?_
      refine qp_run_E qp_ok134 1 (c' := (140, [some (.ref 14), some (.int a1), some (.int a2), some (.int a3)], [], qp_mk I4 J4)) (by with_unfolding_all rfl) hd1 trivial ?_
      obtain rfl := Option.some.inj h
      exact qp_retV_E qp_ok134 rfl qp_r134.1 ⟨rfl, rfl⟩ ⟨rfl, rfl⟩
def fL_actByLot (p1 : Int32) (I : Nat → Nat → Int32) (J : Nat → Nat → Int64) : Option (Unit × (Nat → Nat → Int32) × (Nat → Nat → Int64)) :=
  if ¬ (I 15 0) = 0 then (
    if ¬ ((p1 / 8) - (p1 / 8) / 8 * 8) = 7 then (
      if ¬ ((p1 / 8) - (p1 / 8) / 8 * 8) = 6 then (
        fL_actByLot_b69 p1 ((p1 / 8) - (p1 / 8) / 8 * 8) (p1 / 64) I J
      ) else (
        if (I 14 4) ≤ 0 then (
          fL_actByLot_b69 p1 ((p1 / 8) - (p1 / 8) / 8 * 8) (p1 / 64) I J
        ) else (
          qp_gd ((¬ (I 14 4) = 0)) <|
          qp_bd (fL_act 2 ((p1 / 64) - (p1 / 64) / (I 14 4) * (I 14 4)) I J) fun _u I1 J1 =>
          some ((), I1, J1)
        )
      )
    ) else (
      qp_bd (fL_act 3 ((p1 / 64) - (p1 / 64) / 21 * 21) I J) fun _u I2 J2 =>
      some ((), I2, J2)
    )
  ) else (
    some ((), I, J)
  )
set_option maxRecDepth 8000 in
theorem gL_actByLot (l : Launch) (G : qp_G) (p1 : Int32) (I : Nat → Nat → Int32) (J : Nat → Nat → Int64) {v : Unit} {I' : Nat → Nat → Int32} {J' : Nat → Nat → Int64} (h : fL_actByLot p1 I J = some (v, I', J')) {d : Nat} (hd : 6 ≤ d) : qp_Met l G d 134 [.ref 14, .int p1] (qp_mk I J) 0 0 (qp_R8 none I' J') := by
  have hd1 : Nat.ble 1 d = true := Nat.ble_eq_true_of_le (Nat.le_trans (by decide) hd)
  refine qp_Met_of (by decide) (by rw [qp_r134.2]; rfl) [some (.ref 14), some (.int p1), none, none] (by rw [qp_r134.2]; rfl) ?_
  unfold fL_actByLot at h
  refine qp_run_E qp_ok134 3 (c' := (7, [some (.ref 14), some (.int p1), none, none], [.int (I 15 0)], qp_mk I J)) (by with_unfolding_all rfl) hd1 trivial ?_
  refine qp_br_E qp_ok134 (f := ¬ (I 15 0) = 0) (ct := (11, [some (.ref 14), some (.int p1), none, none], [], qp_mk I J)) (cf := (10, [some (.ref 14), some (.int p1), none, none], [], qp_mk I J)) (by with_unfolding_all rfl) (fun h1 => ?_) (fun h1 => ?_)
  · replace h := qp_ift h1 h
    refine qp_run_E qp_ok134 12 (f := ¬ (8 : Int32) = 0 ∧ ¬ (8 : Int32) = 0 ∧ ¬ (64 : Int32) = 0 ∧ True) (c' := (27, [some (.ref 14), some (.int p1), some (.int ((p1 / 8) - (p1 / 8) / 8 * 8)), some (.int (p1 / 64))], [.int 7, .int ((p1 / 8) - (p1 / 8) / 8 * 8)], qp_mk I J)) (by with_unfolding_all rfl) hd1 ⟨(by decide), (by decide), (by decide), trivial⟩ ?_
    refine qp_br_E qp_ok134 (f := ¬ ((p1 / 8) - (p1 / 8) / 8 * 8) = 7) (ct := (42, [some (.ref 14), some (.int p1), some (.int ((p1 / 8) - (p1 / 8) / 8 * 8)), some (.int (p1 / 64))], [], qp_mk I J)) (cf := (30, [some (.ref 14), some (.int p1), some (.int ((p1 / 8) - (p1 / 8) / 8 * 8)), some (.int (p1 / 64))], [], qp_mk I J)) (by with_unfolding_all rfl) (fun h2 => ?_) (fun h2 => ?_)
    · replace h := qp_ift h2 h
      refine qp_run_E qp_ok134 2 (c' := (45, [some (.ref 14), some (.int p1), some (.int ((p1 / 8) - (p1 / 8) / 8 * 8)), some (.int (p1 / 64))], [.int 6, .int ((p1 / 8) - (p1 / 8) / 8 * 8)], qp_mk I J)) (by with_unfolding_all rfl) hd1 trivial ?_
      refine qp_br_E qp_ok134 (f := ¬ ((p1 / 8) - (p1 / 8) / 8 * 8) = 6) (ct := (69, [some (.ref 14), some (.int p1), some (.int ((p1 / 8) - (p1 / 8) / 8 * 8)), some (.int (p1 / 64))], [], qp_mk I J)) (cf := (48, [some (.ref 14), some (.int p1), some (.int ((p1 / 8) - (p1 / 8) / 8 * 8)), some (.int (p1 / 64))], [], qp_mk I J)) (by with_unfolding_all rfl) (fun h3 => ?_) (fun h3 => ?_)
      · replace h := qp_ift h3 h
        exact gL_actByLot_b69 hd p1 ((p1 / 8) - (p1 / 8) / 8 * 8) (p1 / 64) I J h
      · replace h := qp_iff h3 h
        refine qp_run_E qp_ok134 2 (c' := (52, [some (.ref 14), some (.int p1), some (.int ((p1 / 8) - (p1 / 8) / 8 * 8)), some (.int (p1 / 64))], [.int (I 14 4)], qp_mk I J)) (by with_unfolding_all rfl) hd1 trivial ?_
        refine qp_br_E qp_ok134 (f := (I 14 4) ≤ 0) (ct := (69, [some (.ref 14), some (.int p1), some (.int ((p1 / 8) - (p1 / 8) / 8 * 8)), some (.int (p1 / 64))], [], qp_mk I J)) (cf := (55, [some (.ref 14), some (.int p1), some (.int ((p1 / 8) - (p1 / 8) / 8 * 8)), some (.int (p1 / 64))], [], qp_mk I J)) (by with_unfolding_all rfl) (fun h4 => ?_) (fun h4 => ?_)
        · replace h := qp_ift h4 h
          exact gL_actByLot_b69 hd p1 ((p1 / 8) - (p1 / 8) / 8 * 8) (p1 / 64) I J h
        · replace h := qp_iff h4 h
          obtain ⟨h5, h⟩ := qp_gd_s h
          refine qp_run_E qp_ok134 6 (f := ¬ ((I 14 4) : Int32) = 0 ∧ True) (c' := (63, [some (.ref 14), some (.int p1), some (.int ((p1 / 8) - (p1 / 8) / 8 * 8)), some (.int (p1 / 64))], [.int ((p1 / 64) - (p1 / 64) / (I 14 4) * (I 14 4)), .int 2, .ref 14], qp_mk I J)) (by with_unfolding_all rfl) hd1 ⟨h5, trivial⟩ ?_
          obtain ⟨v1, I1, J1, e1, h⟩ := qp_bd_s h
          refine qp_cV qp_ok134 (rest := []) (oj := 4) qp_f74 rfl rfl (gL_act l G 2 ((p1 / 64) - (p1 / 64) / (I 14 4) * (I 14 4)) I J e1 (Nat.le_refl 5)) rfl rfl rfl rfl (Nat.le_trans (by decide) hd) ?_
          refine qp_run_E qp_ok134 1 (c' := (140, [some (.ref 14), some (.int p1), some (.int ((p1 / 8) - (p1 / 8) / 8 * 8)), some (.int (p1 / 64))], [], qp_mk I1 J1)) (by with_unfolding_all rfl) hd1 trivial ?_
          obtain ⟨rfl, rfl, rfl⟩ := qp_some3 h
          exact qp_retV_E qp_ok134 rfl qp_r134.1 ⟨rfl, rfl⟩ ⟨rfl, rfl⟩
    · replace h := qp_iff h2 h
      refine qp_run_E qp_ok134 5 (f := ¬ (21 : Int32) = 0 ∧ True) (c' := (36, [some (.ref 14), some (.int p1), some (.int ((p1 / 8) - (p1 / 8) / 8 * 8)), some (.int (p1 / 64))], [.int ((p1 / 64) - (p1 / 64) / 21 * 21), .int 3, .ref 14], qp_mk I J)) (by with_unfolding_all rfl) hd1 ⟨(by decide), trivial⟩ ?_
      obtain ⟨v2, I2, J2, e2, h⟩ := qp_bd_s h
      refine qp_cV qp_ok134 (rest := []) (oj := 4) qp_f74 rfl rfl (gL_act l G 3 ((p1 / 64) - (p1 / 64) / 21 * 21) I J e2 (Nat.le_refl 5)) rfl rfl rfl rfl (Nat.le_trans (by decide) hd) ?_
      refine qp_run_E qp_ok134 1 (c' := (140, [some (.ref 14), some (.int p1), some (.int ((p1 / 8) - (p1 / 8) / 8 * 8)), some (.int (p1 / 64))], [], qp_mk I2 J2)) (by with_unfolding_all rfl) hd1 trivial ?_
      obtain ⟨rfl, rfl, rfl⟩ := qp_some3 h
      exact qp_retV_E qp_ok134 rfl qp_r134.1 ⟨rfl, rfl⟩ ⟨rfl, rfl⟩
  · replace h := qp_iff h1 h
    obtain ⟨rfl, rfl, rfl⟩ := qp_some3 h
    exact qp_retV_E qp_ok134 rfl qp_r134.1 ⟨rfl, rfl⟩ ⟨rfl, rfl⟩
def fX_lots_b64  : Nat → Int32 → Int64 → Int32 → (Nat → Nat → Int32) → (Nat → Nat → Int64) → Option (Int32 × (Nat → Nat → Int32) × (Nat → Nat → Int64))
  | 0, _, _, _, _, _ => none
  | n + 1, a1, a3, a5, I, J =>
    if a1 ≤ a5 then (
      qp_bd (fL_serve (I 14 2) I J) fun _u I1 J1 =>
      qp_bd (fV_gainOfAll I1 J1) fun v2 I2 J2 =>
      some (v2, I2, J2)
    ) else (
      qp_bd (fL_actByLot (Int64.toInt32 ((a3 * 48271) - (a3 * 48271) / 2147483647 * 2147483647)) I J) fun _u I3 J3 =>
      fX_lots_b64 n a1 ((a3 * 48271) - (a3 * 48271) / 2147483647 * 2147483647) (a5 + 1) I3 J3
    )
set_option maxRecDepth 8000 in
theorem gX_lots_b64 {l : Launch} {G : qp_G} {d : Nat} (hd : 7 ≤ d) {r : (Int32 × (Nat → Nat → Int32) × (Nat → Nat → Int64))} {I0 : Nat → Nat → Int32} {J0 : Nat → Nat → Int64}   : ∀ (n : Nat) (a1 : Int32) (a3 : Int64) (a5 : Int32) (I : Nat → Nat → Int32) (J : Nat → Nat → Int64), fX_lots_b64  n a1 a3 a5 I J = some r → qp_E l G d 133 (qp_mk I0 J0) 0 0 (qp_R8 (some (.int r.1)) r.2.1 r.2.2) (64, [some (.ref 0), some (.int a1), none, some (.long a3), none, some (.int a5)], [], qp_mk I J) := by
  have hd1 : Nat.ble 1 d = true := Nat.ble_eq_true_of_le (Nat.le_trans (by decide) hd)
  intro n
  induction n with
  | zero => intro a1 a3 a5 I J h; exact absurd h (by simp [fX_lots_b64])
  | succ n ih =>
    intro a1 a3 a5 I J h
    rw [fX_lots_b64] at h
    refine qp_run_E qp_ok133 2 (c' := (67, [some (.ref 0), some (.int a1), none, some (.long a3), none, some (.int a5)], [.int a1, .int a5], qp_mk I J)) (by with_unfolding_all rfl) hd1 trivial ?_
    refine qp_br_E qp_ok133 (f := a1 ≤ a5) (ct := (95, [some (.ref 0), some (.int a1), none, some (.long a3), none, some (.int a5)], [], qp_mk I J)) (cf := (70, [some (.ref 0), some (.int a1), none, some (.long a3), none, some (.int a5)], [], qp_mk I J)) (by with_unfolding_all rfl) (fun h1 => ?_) (fun h1 => ?_)
    · replace h := qp_ift h1 h
      refine qp_run_E qp_ok133 5 (c' := (106, [some (.ref 0), some (.int a1), none, some (.long a3), none, some (.int a5)], [.int (I 14 2), .ref 14], qp_mk I J)) (by with_unfolding_all rfl) hd1 trivial ?_
      obtain ⟨v1, I1, J1, e1, h⟩ := qp_bd_s h
      refine qp_cV qp_ok133 (rest := []) (oj := 4) qp_f54 rfl rfl (gL_serve l G (I 14 2) I J e1 (Nat.le_refl 4)) rfl rfl rfl rfl (Nat.le_trans (by decide) hd) ?_
      refine qp_run_E qp_ok133 3 (c' := (116, [some (.ref 0), some (.int a1), none, some (.long a3), none, some (.int a5)], [.ref 18], qp_mk I1 J1)) (by with_unfolding_all rfl) hd1 trivial ?_
      obtain ⟨v2, I2, J2, e2, h⟩ := qp_bd_s h
      refine qp_cV qp_ok133 (rest := []) (oj := 5) qp_f135 rfl rfl (gV_gainOfAll l G I1 J1 e2 (Nat.le_refl 1)) rfl rfl rfl rfl (Nat.le_trans (by decide) hd) ?_
      obtain rfl := Option.some.inj h
      exact qp_retI_E qp_ok133 rfl qp_r133.1 ⟨rfl, rfl⟩ ⟨rfl, rfl⟩
    · replace h := qp_iff h1 h
      refine qp_run_E qp_ok133 10 (f := ¬ (2147483647 : Int64) = 0 ∧ True) (c' := (86, [some (.ref 0), some (.int a1), none, some (.long ((a3 * 48271) - (a3 * 48271) / 2147483647 * 2147483647)), none, some (.int a5)], [.int (Int64.toInt32 ((a3 * 48271) - (a3 * 48271) / 2147483647 * 2147483647)), .ref 14], qp_mk I J)) (by with_unfolding_all rfl) hd1 ⟨(by decide), trivial⟩ ?_
      obtain ⟨v3, I3, J3, e3, h⟩ := qp_bd_s h
      refine qp_cV qp_ok133 (rest := []) (oj := 4) qp_f134 rfl rfl (gL_actByLot l G (Int64.toInt32 ((a3 * 48271) - (a3 * 48271) / 2147483647 * 2147483647)) I J e3 (Nat.le_refl 6)) rfl rfl rfl rfl (Nat.le_trans (by decide) hd) ?_
      refine qp_run_E qp_ok133 2 (c' := (64, [some (.ref 0), some (.int a1), none, some (.long ((a3 * 48271) - (a3 * 48271) / 2147483647 * 2147483647)), none, some (.int (a5 + 1))], [], qp_mk I3 J3)) (by with_unfolding_all rfl) hd1 trivial ?_
      exact ih a1 ((a3 * 48271) - (a3 * 48271) / 2147483647 * 2147483647) (a5 + 1) I3 J3 h
def fX_lots (p1 : Int32) (p2 : Int32) (I : Nat → Nat → Int32) (J : Nat → Nat → Int64) : Option (Int32 × (Nat → Nat → Int32) × (Nat → Nat → Int64)) :=
  if p1 < 1 then (
    some ((-1), I, J)
  ) else (
    if 20 < p1 then (
      some ((-1), I, J)
    ) else (
      if p2 < 1 then (
        some ((-1), I, J)
      ) else (
        if p2 < 2147483647 then (
          if ¬ (I 15 0) = 0 then (
            if ((I 14 5) + p1) ≤ 40 then (
              fX_lots_b64 100000 p1 (Int32.toInt64 p2) 0 I J
            ) else (
              some ((-2), I, J)
            )
          ) else (
            some ((-4), I, J)
          )
        ) else (
          some ((-1), I, J)
        )
      )
    )
  )
set_option maxRecDepth 8000 in
theorem gX_lots (l : Launch) (G : qp_G) (p1 : Int32) (p2 : Int32) (I : Nat → Nat → Int32) (J : Nat → Nat → Int64) {v : Int32} {I' : Nat → Nat → Int32} {J' : Nat → Nat → Int64} (h : fX_lots p1 p2 I J = some (v, I', J')) {d : Nat} (hd : 7 ≤ d) : qp_Met l G d 133 [.ref 0, .int p1, .int p2] (qp_mk I J) 0 0 (qp_R8 (some (.int v)) I' J') := by
  have hd1 : Nat.ble 1 d = true := Nat.ble_eq_true_of_le (Nat.le_trans (by decide) hd)
  refine qp_Met_of (by decide) (by rw [qp_r133.2]; rfl) [some (.ref 0), some (.int p1), some (.int p2), none, none, none] (by rw [qp_r133.2]; rfl) ?_
  unfold fX_lots at h
  refine qp_run_E qp_ok133 2 (c' := (2, [some (.ref 0), some (.int p1), some (.int p2), none, none, none], [.int 1, .int p1], qp_mk I J)) (by with_unfolding_all rfl) hd1 trivial ?_
  refine qp_br_E qp_ok133 (f := p1 < 1) (ct := (23, [some (.ref 0), some (.int p1), some (.int p2), none, none, none], [], qp_mk I J)) (cf := (5, [some (.ref 0), some (.int p1), some (.int p2), none, none, none], [], qp_mk I J)) (by with_unfolding_all rfl) (fun h1 => ?_) (fun h1 => ?_)
  · replace h := qp_ift h1 h
    refine qp_run_E qp_ok133 1 (c' := (24, [some (.ref 0), some (.int p1), some (.int p2), none, none, none], [.int (-1)], qp_mk I J)) (by with_unfolding_all rfl) hd1 trivial ?_
    obtain ⟨rfl, rfl, rfl⟩ := qp_some3 h
    exact qp_retI_E qp_ok133 rfl qp_r133.1 ⟨rfl, rfl⟩ ⟨rfl, rfl⟩
  · replace h := qp_iff h1 h
    refine qp_run_E qp_ok133 2 (c' := (8, [some (.ref 0), some (.int p1), some (.int p2), none, none, none], [.int 20, .int p1], qp_mk I J)) (by with_unfolding_all rfl) hd1 trivial ?_
    refine qp_br_E qp_ok133 (f := 20 < p1) (ct := (23, [some (.ref 0), some (.int p1), some (.int p2), none, none, none], [], qp_mk I J)) (cf := (11, [some (.ref 0), some (.int p1), some (.int p2), none, none, none], [], qp_mk I J)) (by with_unfolding_all rfl) (fun h2 => ?_) (fun h2 => ?_)
    · replace h := qp_ift h2 h
      refine qp_run_E qp_ok133 1 (c' := (24, [some (.ref 0), some (.int p1), some (.int p2), none, none, none], [.int (-1)], qp_mk I J)) (by with_unfolding_all rfl) hd1 trivial ?_
      obtain ⟨rfl, rfl, rfl⟩ := qp_some3 h
      exact qp_retI_E qp_ok133 rfl qp_r133.1 ⟨rfl, rfl⟩ ⟨rfl, rfl⟩
    · replace h := qp_iff h2 h
      refine qp_run_E qp_ok133 2 (c' := (13, [some (.ref 0), some (.int p1), some (.int p2), none, none, none], [.int 1, .int p2], qp_mk I J)) (by with_unfolding_all rfl) hd1 trivial ?_
      refine qp_br_E qp_ok133 (f := p2 < 1) (ct := (23, [some (.ref 0), some (.int p1), some (.int p2), none, none, none], [], qp_mk I J)) (cf := (16, [some (.ref 0), some (.int p1), some (.int p2), none, none, none], [], qp_mk I J)) (by with_unfolding_all rfl) (fun h3 => ?_) (fun h3 => ?_)
      · replace h := qp_ift h3 h
        refine qp_run_E qp_ok133 1 (c' := (24, [some (.ref 0), some (.int p1), some (.int p2), none, none, none], [.int (-1)], qp_mk I J)) (by with_unfolding_all rfl) hd1 trivial ?_
        obtain ⟨rfl, rfl, rfl⟩ := qp_some3 h
        exact qp_retI_E qp_ok133 rfl qp_r133.1 ⟨rfl, rfl⟩ ⟨rfl, rfl⟩
      · replace h := qp_iff h3 h
        refine qp_run_E qp_ok133 2 (c' := (20, [some (.ref 0), some (.int p1), some (.int p2), none, none, none], [.int 2147483647, .int p2], qp_mk I J)) (by with_unfolding_all rfl) hd1 trivial ?_
        refine qp_br_E qp_ok133 (f := p2 < 2147483647) (ct := (25, [some (.ref 0), some (.int p1), some (.int p2), none, none, none], [], qp_mk I J)) (cf := (23, [some (.ref 0), some (.int p1), some (.int p2), none, none, none], [], qp_mk I J)) (by with_unfolding_all rfl) (fun h4 => ?_) (fun h4 => ?_)
        · replace h := qp_ift h4 h
          refine qp_run_E qp_ok133 4 (c' := (35, [some (.ref 0), some (.int p1), some (.int p2), none, none, none], [.int (I 15 0)], qp_mk I J)) (by with_unfolding_all rfl) hd1 trivial ?_
          refine qp_br_E qp_ok133 (f := ¬ (I 15 0) = 0) (ct := (41, [some (.ref 0), some (.int p1), some (.int p2), none, none, none], [], qp_mk I J)) (cf := (38, [some (.ref 0), some (.int p1), some (.int p2), none, none, none], [], qp_mk I J)) (by with_unfolding_all rfl) (fun h5 => ?_) (fun h5 => ?_)
          · replace h := qp_ift h5 h
            refine qp_run_E qp_ok133 6 (c' := (52, [some (.ref 0), some (.int p1), some (.int p2), none, none, none], [.int 40, .int ((I 14 5) + p1)], qp_mk I J)) (by with_unfolding_all rfl) hd1 trivial ?_
            refine qp_br_E qp_ok133 (f := ((I 14 5) + p1) ≤ 40) (ct := (58, [some (.ref 0), some (.int p1), some (.int p2), none, none, none], [], qp_mk I J)) (cf := (55, [some (.ref 0), some (.int p1), some (.int p2), none, none, none], [], qp_mk I J)) (by with_unfolding_all rfl) (fun h6 => ?_) (fun h6 => ?_)
            · replace h := qp_ift h6 h
              refine qp_run_E qp_ok133 5 (c' := (64, [some (.ref 0), some (.int p1), some (.int p2), some (.long (Int32.toInt64 p2)), none, some (.int 0)], [], qp_mk I J)) (by with_unfolding_all rfl) hd1 trivial ?_
              exact qp_E_fg [true, true, false, true, false, true] (gX_lots_b64 hd 100000 p1 (Int32.toInt64 p2) 0 I J h)
            · replace h := qp_iff h6 h
              refine qp_run_E qp_ok133 1 (c' := (57, [some (.ref 0), some (.int p1), some (.int p2), none, none, none], [.int (-2)], qp_mk I J)) (by with_unfolding_all rfl) hd1 trivial ?_
              obtain ⟨rfl, rfl, rfl⟩ := qp_some3 h
              exact qp_retI_E qp_ok133 rfl qp_r133.1 ⟨rfl, rfl⟩ ⟨rfl, rfl⟩
          · replace h := qp_iff h5 h
            refine qp_run_E qp_ok133 1 (c' := (40, [some (.ref 0), some (.int p1), some (.int p2), none, none, none], [.int (-4)], qp_mk I J)) (by with_unfolding_all rfl) hd1 trivial ?_
            obtain ⟨rfl, rfl, rfl⟩ := qp_some3 h
            exact qp_retI_E qp_ok133 rfl qp_r133.1 ⟨rfl, rfl⟩ ⟨rfl, rfl⟩
        · replace h := qp_iff h4 h
          refine qp_run_E qp_ok133 1 (c' := (24, [some (.ref 0), some (.int p1), some (.int p2), none, none, none], [.int (-1)], qp_mk I J)) (by with_unfolding_all rfl) hd1 trivial ?_
          obtain ⟨rfl, rfl, rfl⟩ := qp_some3 h
          exact qp_retI_E qp_ok133 rfl qp_r133.1 ⟨rfl, rfl⟩ ⟨rfl, rfl⟩
def fX_asked  (I : Nat → Nat → Int32) (J : Nat → Nat → Int64) : Option (Int32 × (Nat → Nat → Int32) × (Nat → Nat → Int64)) :=
  some ((I 0 11), I, J)
set_option maxRecDepth 8000 in
theorem gX_asked (l : Launch) (G : qp_G)  (I : Nat → Nat → Int32) (J : Nat → Nat → Int64) {v : Int32} {I' : Nat → Nat → Int32} {J' : Nat → Nat → Int64} (h : fX_asked  I J = some (v, I', J')) {d : Nat} (hd : 1 ≤ d) : qp_Met l G d 136 [.ref 0] (qp_mk I J) 0 0 (qp_R8 (some (.int v)) I' J') := by
  have hd1 : Nat.ble 1 d = true := Nat.ble_eq_true_of_le (Nat.le_trans (by decide) hd)
  refine qp_Met_of (by decide) (by rw [qp_r136.2]; rfl) [some (.ref 0)] (by rw [qp_r136.2]; rfl) ?_
  unfold fX_asked at h
  refine qp_run_E qp_ok136 2 (c' := (4, [some (.ref 0)], [.int (I 0 11)], qp_mk I J)) (by with_unfolding_all rfl) hd1 trivial ?_
  obtain ⟨rfl, rfl, rfl⟩ := qp_some3 h
  exact qp_retI_E qp_ok136 rfl qp_r136.1 ⟨rfl, rfl⟩ ⟨rfl, rfl⟩
def fX_upper  (I : Nat → Nat → Int32) (J : Nat → Nat → Int64) : Option (Int64 × (Nat → Nat → Int32) × (Nat → Nat → Int64)) :=
  some ((J 0 12), I, J)
set_option maxRecDepth 8000 in
theorem gX_upper (l : Launch) (G : qp_G)  (I : Nat → Nat → Int32) (J : Nat → Nat → Int64) {v : Int64} {I' : Nat → Nat → Int32} {J' : Nat → Nat → Int64} (h : fX_upper  I J = some (v, I', J')) {d : Nat} (hd : 1 ≤ d) : qp_Met l G d 137 [.ref 0] (qp_mk I J) 0 0 (qp_R8 (some (.long v)) I' J') := by
  have hd1 : Nat.ble 1 d = true := Nat.ble_eq_true_of_le (Nat.le_trans (by decide) hd)
  refine qp_Met_of (by decide) (by rw [qp_r137.2]; rfl) [some (.ref 0)] (by rw [qp_r137.2]; rfl) ?_
  unfold fX_upper at h
  refine qp_run_E qp_ok137 2 (c' := (4, [some (.ref 0)], [.long (J 0 12)], qp_mk I J)) (by with_unfolding_all rfl) hd1 trivial ?_
  obtain ⟨rfl, rfl, rfl⟩ := qp_some3 h
  exact qp_retL_E qp_ok137 rfl qp_r137.1 ⟨rfl, rfl⟩ ⟨rfl, rfl⟩
def fX_lower  (I : Nat → Nat → Int32) (J : Nat → Nat → Int64) : Option (Int64 × (Nat → Nat → Int32) × (Nat → Nat → Int64)) :=
  some ((J 0 13), I, J)
set_option maxRecDepth 8000 in
theorem gX_lower (l : Launch) (G : qp_G)  (I : Nat → Nat → Int32) (J : Nat → Nat → Int64) {v : Int64} {I' : Nat → Nat → Int32} {J' : Nat → Nat → Int64} (h : fX_lower  I J = some (v, I', J')) {d : Nat} (hd : 1 ≤ d) : qp_Met l G d 138 [.ref 0] (qp_mk I J) 0 0 (qp_R8 (some (.long v)) I' J') := by
  have hd1 : Nat.ble 1 d = true := Nat.ble_eq_true_of_le (Nat.le_trans (by decide) hd)
  refine qp_Met_of (by decide) (by rw [qp_r138.2]; rfl) [some (.ref 0)] (by rw [qp_r138.2]; rfl) ?_
  unfold fX_lower at h
  refine qp_run_E qp_ok138 2 (c' := (4, [some (.ref 0)], [.long (J 0 13)], qp_mk I J)) (by with_unfolding_all rfl) hd1 trivial ?_
  obtain ⟨rfl, rfl, rfl⟩ := qp_some3 h
  exact qp_retL_E qp_ok138 rfl qp_r138.1 ⟨rfl, rfl⟩ ⟨rfl, rfl⟩
def fC_howMany_15_b4  : Nat → Int32 → Int32 → Int32 → (Nat → Nat → Int32) → (Nat → Nat → Int64) → Option (Int32 × (Nat → Nat → Int32) × (Nat → Nat → Int64))
  | 0, _, _, _, _, _ => none
  | n + 1, a1, a2, a3, I, J =>
    if (I 15 0) ≤ a3 then (
      some (a2, I, J)
    ) else (
      qp_bd (fC_kindOf_15 a3 I J) fun v1 I1 J1 =>
      qp_bd (fC_isKindOf v1 a1 I1 J1) fun v2 I2 J2 =>
      if v2 = 0 then (
        fC_howMany_15_b4 n a1 a2 (a3 + 1) I2 J2
      ) else (
        fC_howMany_15_b4 n a1 (a2 + 1) (a3 + 1) I2 J2
      )
    )
set_option maxRecDepth 8000 in
theorem gC_howMany_15_b4 {l : Launch} {G : qp_G} {d : Nat} (hd : 2 ≤ d) {r : (Int32 × (Nat → Nat → Int32) × (Nat → Nat → Int64))} {I0 : Nat → Nat → Int32} {J0 : Nat → Nat → Int64}   : ∀ (n : Nat) (a1 : Int32) (a2 : Int32) (a3 : Int32) (I : Nat → Nat → Int32) (J : Nat → Nat → Int64), fC_howMany_15_b4  n a1 a2 a3 I J = some r → qp_E l G d 141 (qp_mk I0 J0) 0 0 (qp_R8 (some (.int r.1)) r.2.1 r.2.2) (4, [some (.ref 15), some (.int a1), some (.int a2), some (.int a3)], [], qp_mk I J) := by
  have hd1 : Nat.ble 1 d = true := Nat.ble_eq_true_of_le (Nat.le_trans (by decide) hd)
  intro n
  induction n with
  | zero => intro a1 a2 a3 I J h; exact absurd h (by simp [fC_howMany_15_b4])
  | succ n ih =>
    intro a1 a2 a3 I J h
    rw [fC_howMany_15_b4] at h
    refine qp_run_E qp_ok141 3 (c' := (9, [some (.ref 15), some (.int a1), some (.int a2), some (.int a3)], [.int (I 15 0), .int a3], qp_mk I J)) (by with_unfolding_all rfl) hd1 trivial ?_
    refine qp_br_E qp_ok141 (f := (I 15 0) ≤ a3) (ct := (33, [some (.ref 15), some (.int a1), some (.int a2), some (.int a3)], [], qp_mk I J)) (cf := (12, [some (.ref 15), some (.int a1), some (.int a2), some (.int a3)], [], qp_mk I J)) (by with_unfolding_all rfl) (fun h1 => ?_) (fun h1 => ?_)
    · replace h := qp_ift h1 h
      refine qp_run_E qp_ok141 1 (c' := (34, [some (.ref 15), some (.int a1), some (.int a2), some (.int a3)], [.int a2], qp_mk I J)) (by with_unfolding_all rfl) hd1 trivial ?_
      obtain rfl := Option.some.inj h
      exact qp_retI_E qp_ok141 rfl qp_r141.1 ⟨rfl, rfl⟩ ⟨rfl, rfl⟩
    · replace h := qp_iff h1 h
      refine qp_run_E qp_ok141 2 (c' := (14, [some (.ref 15), some (.int a1), some (.int a2), some (.int a3)], [.int a3, .ref 15], qp_mk I J)) (by with_unfolding_all rfl) hd1 trivial ?_
      obtain ⟨v1, I1, J1, e1, h⟩ := qp_bd_s h
      refine qp_cV qp_ok141 (rest := []) (oj := 3) qp_f47 rfl rfl (gC_kindOf_15 l G a3 I J e1 (Nat.le_refl 1)) rfl rfl rfl rfl (Nat.le_trans (by decide) hd) ?_
      refine qp_run_E qp_ok141 1 (c' := (18, [some (.ref 15), some (.int a1), some (.int a2), some (.int a3)], [.int a1, .int v1], qp_mk I1 J1)) (by with_unfolding_all rfl) hd1 trivial ?_
      obtain ⟨v2, I2, J2, e2, h⟩ := qp_bd_s h
      refine qp_cS qp_ok141 (rest := []) (oj := 3) qp_f57 rfl rfl (gC_isKindOf l G v1 a1 I1 J1 e2 (Nat.le_refl 1)) rfl rfl rfl (Nat.le_trans (by decide) hd) ?_
      refine qp_br_E qp_ok141 (f := v2 = 0) (ct := (27, [some (.ref 15), some (.int a1), some (.int a2), some (.int a3)], [], qp_mk I2 J2)) (cf := (24, [some (.ref 15), some (.int a1), some (.int a2), some (.int a3)], [], qp_mk I2 J2)) (by with_unfolding_all rfl) (fun h2 => ?_) (fun h2 => ?_)
      · replace h := qp_ift h2 h
        refine qp_run_E qp_ok141 2 (c' := (4, [some (.ref 15), some (.int a1), some (.int a2), some (.int (a3 + 1))], [], qp_mk I2 J2)) (by with_unfolding_all rfl) hd1 trivial ?_
        exact ih a1 a2 (a3 + 1) I2 J2 h
      · replace h := qp_iff h2 h
        refine qp_run_E qp_ok141 3 (c' := (4, [some (.ref 15), some (.int a1), some (.int (a2 + 1)), some (.int (a3 + 1))], [], qp_mk I2 J2)) (by with_unfolding_all rfl) hd1 trivial ?_
        exact ih a1 (a2 + 1) (a3 + 1) I2 J2 h
def fC_howMany_15 (p1 : Int32) (I : Nat → Nat → Int32) (J : Nat → Nat → Int64) : Option (Int32 × (Nat → Nat → Int32) × (Nat → Nat → Int64)) :=
  fC_howMany_15_b4 100000 p1 0 0 I J
set_option maxRecDepth 8000 in
theorem gC_howMany_15 (l : Launch) (G : qp_G) (p1 : Int32) (I : Nat → Nat → Int32) (J : Nat → Nat → Int64) {v : Int32} {I' : Nat → Nat → Int32} {J' : Nat → Nat → Int64} (h : fC_howMany_15 p1 I J = some (v, I', J')) {d : Nat} (hd : 2 ≤ d) : qp_Met l G d 141 [.ref 15, .int p1] (qp_mk I J) 0 0 (qp_R8 (some (.int v)) I' J') := by
  have hd1 : Nat.ble 1 d = true := Nat.ble_eq_true_of_le (Nat.le_trans (by decide) hd)
  refine qp_Met_of (by decide) (by rw [qp_r141.2]; rfl) [some (.ref 15), some (.int p1), none, none] (by rw [qp_r141.2]; rfl) ?_
  unfold fC_howMany_15 at h
  refine qp_run_E qp_ok141 4 (c' := (4, [some (.ref 15), some (.int p1), some (.int 0), some (.int 0)], [], qp_mk I J)) (by with_unfolding_all rfl) hd1 trivial ?_
  exact gC_howMany_15_b4 hd 100000 p1 0 0 I J h
def fS_there_1_b4  : Nat → Int32 → Int32 → (Nat → Nat → Int32) → (Nat → Nat → Int64) → Option (Int32 × (Nat → Nat → Int32) × (Nat → Nat → Int64))
  | 0, _, _, _, _ => none
  | n + 1, a1, a2, I, J =>
    if 6 ≤ a2 then (
      some (a1, I, J)
    ) else (
      qp_bd (fS_has_1 a2 I J) fun v1 I1 J1 =>
      if v1 = 0 then (
        fS_there_1_b4 n a1 (a2 + 1) I1 J1
      ) else (
        fS_there_1_b4 n (a1 + 1) (a2 + 1) I1 J1
      )
    )
set_option maxRecDepth 8000 in
theorem gS_there_1_b4 {l : Launch} {G : qp_G} {d : Nat} (hd : 4 ≤ d) {r : (Int32 × (Nat → Nat → Int32) × (Nat → Nat → Int64))} {I0 : Nat → Nat → Int32} {J0 : Nat → Nat → Int64}   : ∀ (n : Nat) (a1 : Int32) (a2 : Int32) (I : Nat → Nat → Int32) (J : Nat → Nat → Int64), fS_there_1_b4  n a1 a2 I J = some r → qp_E l G d 142 (qp_mk I0 J0) 0 0 (qp_R8 (some (.int r.1)) r.2.1 r.2.2) (4, [some (.ref 1), some (.int a1), some (.int a2)], [], qp_mk I J) := by
  have hd1 : Nat.ble 1 d = true := Nat.ble_eq_true_of_le (Nat.le_trans (by decide) hd)
  intro n
  induction n with
  | zero => intro a1 a2 I J h; exact absurd h (by simp [fS_there_1_b4])
  | succ n ih =>
    intro a1 a2 I J h
    rw [fS_there_1_b4] at h
    refine qp_run_E qp_ok142 4 (c' := (10, [some (.ref 1), some (.int a1), some (.int a2)], [.int 6, .int a2], qp_mk I J)) (by with_unfolding_all rfl) hd1 trivial ?_
    refine qp_br_E qp_ok142 (f := 6 ≤ a2) (ct := (30, [some (.ref 1), some (.int a1), some (.int a2)], [], qp_mk I J)) (cf := (13, [some (.ref 1), some (.int a1), some (.int a2)], [], qp_mk I J)) (by with_unfolding_all rfl) (fun h1 => ?_) (fun h1 => ?_)
    · replace h := qp_ift h1 h
      refine qp_run_E qp_ok142 1 (c' := (31, [some (.ref 1), some (.int a1), some (.int a2)], [.int a1], qp_mk I J)) (by with_unfolding_all rfl) hd1 trivial ?_
      obtain rfl := Option.some.inj h
      exact qp_retI_E qp_ok142 rfl qp_r142.1 ⟨rfl, rfl⟩ ⟨rfl, rfl⟩
    · replace h := qp_iff h1 h
      refine qp_run_E qp_ok142 2 (c' := (15, [some (.ref 1), some (.int a1), some (.int a2)], [.int a2, .ref 1], qp_mk I J)) (by with_unfolding_all rfl) hd1 trivial ?_
      obtain ⟨v1, I1, J1, e1, h⟩ := qp_bd_s h
      refine qp_cV qp_ok142 (rest := []) (oj := 1) qp_f21 rfl rfl (gS_has_1 l G a2 I J e1 (Nat.le_refl 3)) rfl rfl rfl rfl (Nat.le_trans (by decide) hd) ?_
      refine qp_br_E qp_ok142 (f := v1 = 0) (ct := (24, [some (.ref 1), some (.int a1), some (.int a2)], [], qp_mk I1 J1)) (cf := (21, [some (.ref 1), some (.int a1), some (.int a2)], [], qp_mk I1 J1)) (by with_unfolding_all rfl) (fun h2 => ?_) (fun h2 => ?_)
      · replace h := qp_ift h2 h
        refine qp_run_E qp_ok142 2 (c' := (4, [some (.ref 1), some (.int a1), some (.int (a2 + 1))], [], qp_mk I1 J1)) (by with_unfolding_all rfl) hd1 trivial ?_
        exact ih a1 (a2 + 1) I1 J1 h
      · replace h := qp_iff h2 h
        refine qp_run_E qp_ok142 3 (c' := (4, [some (.ref 1), some (.int (a1 + 1)), some (.int (a2 + 1))], [], qp_mk I1 J1)) (by with_unfolding_all rfl) hd1 trivial ?_
        exact ih (a1 + 1) (a2 + 1) I1 J1 h
def fS_there_1  (I : Nat → Nat → Int32) (J : Nat → Nat → Int64) : Option (Int32 × (Nat → Nat → Int32) × (Nat → Nat → Int64)) :=
  fS_there_1_b4 100000 0 0 I J
set_option maxRecDepth 8000 in
theorem gS_there_1 (l : Launch) (G : qp_G)  (I : Nat → Nat → Int32) (J : Nat → Nat → Int64) {v : Int32} {I' : Nat → Nat → Int32} {J' : Nat → Nat → Int64} (h : fS_there_1  I J = some (v, I', J')) {d : Nat} (hd : 4 ≤ d) : qp_Met l G d 142 [.ref 1] (qp_mk I J) 0 0 (qp_R8 (some (.int v)) I' J') := by
  have hd1 : Nat.ble 1 d = true := Nat.ble_eq_true_of_le (Nat.le_trans (by decide) hd)
  refine qp_Met_of (by decide) (by rw [qp_r142.2]; rfl) [some (.ref 1), none, none] (by rw [qp_r142.2]; rfl) ?_
  unfold fS_there_1 at h
  refine qp_run_E qp_ok142 4 (c' := (4, [some (.ref 1), some (.int 0), some (.int 0)], [], qp_mk I J)) (by with_unfolding_all rfl) hd1 trivial ?_
  exact gS_there_1_b4 hd 100000 0 0 I J h
def fS_there_4_b4  : Nat → Int32 → Int32 → (Nat → Nat → Int32) → (Nat → Nat → Int64) → Option (Int32 × (Nat → Nat → Int32) × (Nat → Nat → Int64))
  | 0, _, _, _, _ => none
  | n + 1, a1, a2, I, J =>
    if 4 ≤ a2 then (
      some (a1, I, J)
    ) else (
      qp_bd (fS_has_4 a2 I J) fun v1 I1 J1 =>
      if v1 = 0 then (
        fS_there_4_b4 n a1 (a2 + 1) I1 J1
      ) else (
        fS_there_4_b4 n (a1 + 1) (a2 + 1) I1 J1
      )
    )
set_option maxRecDepth 8000 in
theorem gS_there_4_b4 {l : Launch} {G : qp_G} {d : Nat} (hd : 4 ≤ d) {r : (Int32 × (Nat → Nat → Int32) × (Nat → Nat → Int64))} {I0 : Nat → Nat → Int32} {J0 : Nat → Nat → Int64}   : ∀ (n : Nat) (a1 : Int32) (a2 : Int32) (I : Nat → Nat → Int32) (J : Nat → Nat → Int64), fS_there_4_b4  n a1 a2 I J = some r → qp_E l G d 142 (qp_mk I0 J0) 0 0 (qp_R8 (some (.int r.1)) r.2.1 r.2.2) (4, [some (.ref 4), some (.int a1), some (.int a2)], [], qp_mk I J) := by
  have hd1 : Nat.ble 1 d = true := Nat.ble_eq_true_of_le (Nat.le_trans (by decide) hd)
  intro n
  induction n with
  | zero => intro a1 a2 I J h; exact absurd h (by simp [fS_there_4_b4])
  | succ n ih =>
    intro a1 a2 I J h
    rw [fS_there_4_b4] at h
    refine qp_run_E qp_ok142 4 (c' := (10, [some (.ref 4), some (.int a1), some (.int a2)], [.int 4, .int a2], qp_mk I J)) (by with_unfolding_all rfl) hd1 trivial ?_
    refine qp_br_E qp_ok142 (f := 4 ≤ a2) (ct := (30, [some (.ref 4), some (.int a1), some (.int a2)], [], qp_mk I J)) (cf := (13, [some (.ref 4), some (.int a1), some (.int a2)], [], qp_mk I J)) (by with_unfolding_all rfl) (fun h1 => ?_) (fun h1 => ?_)
    · replace h := qp_ift h1 h
      refine qp_run_E qp_ok142 1 (c' := (31, [some (.ref 4), some (.int a1), some (.int a2)], [.int a1], qp_mk I J)) (by with_unfolding_all rfl) hd1 trivial ?_
      obtain rfl := Option.some.inj h
      exact qp_retI_E qp_ok142 rfl qp_r142.1 ⟨rfl, rfl⟩ ⟨rfl, rfl⟩
    · replace h := qp_iff h1 h
      refine qp_run_E qp_ok142 2 (c' := (15, [some (.ref 4), some (.int a1), some (.int a2)], [.int a2, .ref 4], qp_mk I J)) (by with_unfolding_all rfl) hd1 trivial ?_
      obtain ⟨v1, I1, J1, e1, h⟩ := qp_bd_s h
      refine qp_cV qp_ok142 (rest := []) (oj := 1) qp_f21 rfl rfl (gS_has_4 l G a2 I J e1 (Nat.le_refl 3)) rfl rfl rfl rfl (Nat.le_trans (by decide) hd) ?_
      refine qp_br_E qp_ok142 (f := v1 = 0) (ct := (24, [some (.ref 4), some (.int a1), some (.int a2)], [], qp_mk I1 J1)) (cf := (21, [some (.ref 4), some (.int a1), some (.int a2)], [], qp_mk I1 J1)) (by with_unfolding_all rfl) (fun h2 => ?_) (fun h2 => ?_)
      · replace h := qp_ift h2 h
        refine qp_run_E qp_ok142 2 (c' := (4, [some (.ref 4), some (.int a1), some (.int (a2 + 1))], [], qp_mk I1 J1)) (by with_unfolding_all rfl) hd1 trivial ?_
        exact ih a1 (a2 + 1) I1 J1 h
      · replace h := qp_iff h2 h
        refine qp_run_E qp_ok142 3 (c' := (4, [some (.ref 4), some (.int (a1 + 1)), some (.int (a2 + 1))], [], qp_mk I1 J1)) (by with_unfolding_all rfl) hd1 trivial ?_
        exact ih (a1 + 1) (a2 + 1) I1 J1 h
def fS_there_4  (I : Nat → Nat → Int32) (J : Nat → Nat → Int64) : Option (Int32 × (Nat → Nat → Int32) × (Nat → Nat → Int64)) :=
  fS_there_4_b4 100000 0 0 I J
set_option maxRecDepth 8000 in
theorem gS_there_4 (l : Launch) (G : qp_G)  (I : Nat → Nat → Int32) (J : Nat → Nat → Int64) {v : Int32} {I' : Nat → Nat → Int32} {J' : Nat → Nat → Int64} (h : fS_there_4  I J = some (v, I', J')) {d : Nat} (hd : 4 ≤ d) : qp_Met l G d 142 [.ref 4] (qp_mk I J) 0 0 (qp_R8 (some (.int v)) I' J') := by
  have hd1 : Nat.ble 1 d = true := Nat.ble_eq_true_of_le (Nat.le_trans (by decide) hd)
  refine qp_Met_of (by decide) (by rw [qp_r142.2]; rfl) [some (.ref 4), none, none] (by rw [qp_r142.2]; rfl) ?_
  unfold fS_there_4 at h
  refine qp_run_E qp_ok142 4 (c' := (4, [some (.ref 4), some (.int 0), some (.int 0)], [], qp_mk I J)) (by with_unfolding_all rfl) hd1 trivial ?_
  exact gS_there_4_b4 hd 100000 0 0 I J h
def fS_there_7_b4  : Nat → Int32 → Int32 → (Nat → Nat → Int32) → (Nat → Nat → Int64) → Option (Int32 × (Nat → Nat → Int32) × (Nat → Nat → Int64))
  | 0, _, _, _, _ => none
  | n + 1, a1, a2, I, J =>
    if 3 ≤ a2 then (
      some (a1, I, J)
    ) else (
      qp_bd (fS_has_7 a2 I J) fun v1 I1 J1 =>
      if v1 = 0 then (
        fS_there_7_b4 n a1 (a2 + 1) I1 J1
      ) else (
        fS_there_7_b4 n (a1 + 1) (a2 + 1) I1 J1
      )
    )
set_option maxRecDepth 8000 in
theorem gS_there_7_b4 {l : Launch} {G : qp_G} {d : Nat} (hd : 4 ≤ d) {r : (Int32 × (Nat → Nat → Int32) × (Nat → Nat → Int64))} {I0 : Nat → Nat → Int32} {J0 : Nat → Nat → Int64}   : ∀ (n : Nat) (a1 : Int32) (a2 : Int32) (I : Nat → Nat → Int32) (J : Nat → Nat → Int64), fS_there_7_b4  n a1 a2 I J = some r → qp_E l G d 142 (qp_mk I0 J0) 0 0 (qp_R8 (some (.int r.1)) r.2.1 r.2.2) (4, [some (.ref 7), some (.int a1), some (.int a2)], [], qp_mk I J) := by
  have hd1 : Nat.ble 1 d = true := Nat.ble_eq_true_of_le (Nat.le_trans (by decide) hd)
  intro n
  induction n with
  | zero => intro a1 a2 I J h; exact absurd h (by simp [fS_there_7_b4])
  | succ n ih =>
    intro a1 a2 I J h
    rw [fS_there_7_b4] at h
    refine qp_run_E qp_ok142 4 (c' := (10, [some (.ref 7), some (.int a1), some (.int a2)], [.int 3, .int a2], qp_mk I J)) (by with_unfolding_all rfl) hd1 trivial ?_
    refine qp_br_E qp_ok142 (f := 3 ≤ a2) (ct := (30, [some (.ref 7), some (.int a1), some (.int a2)], [], qp_mk I J)) (cf := (13, [some (.ref 7), some (.int a1), some (.int a2)], [], qp_mk I J)) (by with_unfolding_all rfl) (fun h1 => ?_) (fun h1 => ?_)
    · replace h := qp_ift h1 h
      refine qp_run_E qp_ok142 1 (c' := (31, [some (.ref 7), some (.int a1), some (.int a2)], [.int a1], qp_mk I J)) (by with_unfolding_all rfl) hd1 trivial ?_
      obtain rfl := Option.some.inj h
      exact qp_retI_E qp_ok142 rfl qp_r142.1 ⟨rfl, rfl⟩ ⟨rfl, rfl⟩
    · replace h := qp_iff h1 h
      refine qp_run_E qp_ok142 2 (c' := (15, [some (.ref 7), some (.int a1), some (.int a2)], [.int a2, .ref 7], qp_mk I J)) (by with_unfolding_all rfl) hd1 trivial ?_
      obtain ⟨v1, I1, J1, e1, h⟩ := qp_bd_s h
      refine qp_cV qp_ok142 (rest := []) (oj := 1) qp_f21 rfl rfl (gS_has_7 l G a2 I J e1 (Nat.le_refl 3)) rfl rfl rfl rfl (Nat.le_trans (by decide) hd) ?_
      refine qp_br_E qp_ok142 (f := v1 = 0) (ct := (24, [some (.ref 7), some (.int a1), some (.int a2)], [], qp_mk I1 J1)) (cf := (21, [some (.ref 7), some (.int a1), some (.int a2)], [], qp_mk I1 J1)) (by with_unfolding_all rfl) (fun h2 => ?_) (fun h2 => ?_)
      · replace h := qp_ift h2 h
        refine qp_run_E qp_ok142 2 (c' := (4, [some (.ref 7), some (.int a1), some (.int (a2 + 1))], [], qp_mk I1 J1)) (by with_unfolding_all rfl) hd1 trivial ?_
        exact ih a1 (a2 + 1) I1 J1 h
      · replace h := qp_iff h2 h
        refine qp_run_E qp_ok142 3 (c' := (4, [some (.ref 7), some (.int (a1 + 1)), some (.int (a2 + 1))], [], qp_mk I1 J1)) (by with_unfolding_all rfl) hd1 trivial ?_
        exact ih (a1 + 1) (a2 + 1) I1 J1 h
def fS_there_7  (I : Nat → Nat → Int32) (J : Nat → Nat → Int64) : Option (Int32 × (Nat → Nat → Int32) × (Nat → Nat → Int64)) :=
  fS_there_7_b4 100000 0 0 I J
set_option maxRecDepth 8000 in
theorem gS_there_7 (l : Launch) (G : qp_G)  (I : Nat → Nat → Int32) (J : Nat → Nat → Int64) {v : Int32} {I' : Nat → Nat → Int32} {J' : Nat → Nat → Int64} (h : fS_there_7  I J = some (v, I', J')) {d : Nat} (hd : 4 ≤ d) : qp_Met l G d 142 [.ref 7] (qp_mk I J) 0 0 (qp_R8 (some (.int v)) I' J') := by
  have hd1 : Nat.ble 1 d = true := Nat.ble_eq_true_of_le (Nat.le_trans (by decide) hd)
  refine qp_Met_of (by decide) (by rw [qp_r142.2]; rfl) [some (.ref 7), none, none] (by rw [qp_r142.2]; rfl) ?_
  unfold fS_there_7 at h
  refine qp_run_E qp_ok142 4 (c' := (4, [some (.ref 7), some (.int 0), some (.int 0)], [], qp_mk I J)) (by with_unfolding_all rfl) hd1 trivial ?_
  exact gS_there_7_b4 hd 100000 0 0 I J h
def fX_amount (p1 : Int32) (I : Nat → Nat → Int32) (J : Nat → Nat → Int64) : Option (Int32 × (Nat → Nat → Int32) × (Nat → Nat → Int64)) :=
  if p1 = 0 then (
    some ((I 15 0), I, J)
  ) else
  if p1 = 1 then (
    some ((I 14 3), I, J)
  ) else
  if p1 = 2 then (
    some ((I 14 4), I, J)
  ) else
  if p1 = 3 then (
    some ((I 14 5), I, J)
  ) else
  if p1 = 4 then (
    some ((I 18 0), I, J)
  ) else
  if p1 = 5 then (
    qp_bd (fV_gainOfAll I J) fun v1 I1 J1 =>
    some (v1, I1, J1)
  ) else
  if p1 = 6 then (
    some ((I 18 1), I, J)
  ) else
  if p1 = 7 then (
    qp_bd (fC_howMany_15 1 I J) fun v2 I2 J2 =>
    some (v2, I2, J2)
  ) else
  if p1 = 8 then (
    qp_bd (fC_howMany_15 2 I J) fun v3 I3 J3 =>
    some (v3, I3, J3)
  ) else
  if p1 = 9 then (
    qp_bd (fS_there_1 I J) fun v4 I4 J4 =>
    some (v4, I4, J4)
  ) else
  if p1 = 10 then (
    qp_bd (fS_there_4 I J) fun v5 I5 J5 =>
    some (v5, I5, J5)
  ) else
  qp_bd (fS_there_7 I J) fun v6 I6 J6 =>
  some (v6, I6, J6)
set_option maxRecDepth 8000 in
theorem gX_amount (l : Launch) (G : qp_G) (p1 : Int32) (I : Nat → Nat → Int32) (J : Nat → Nat → Int64) {v : Int32} {I' : Nat → Nat → Int32} {J' : Nat → Nat → Int64} (h : fX_amount p1 I J = some (v, I', J')) {d : Nat} (hd : 5 ≤ d) : qp_Met l G d 140 [.ref 0, .int p1] (qp_mk I J) 0 0 (qp_R8 (some (.int v)) I' J') := by
  have hd1 : Nat.ble 1 d = true := Nat.ble_eq_true_of_le (Nat.le_trans (by decide) hd)
  refine qp_Met_of (by decide) (by rw [qp_r140.2]; rfl) [some (.ref 0), some (.int p1)] (by rw [qp_r140.2]; rfl) ?_
  unfold fX_amount at h
  refine qp_run_E qp_ok140 1 (c' := (1, [some (.ref 0), some (.int p1)], [.int p1], qp_mk I J)) (by with_unfolding_all rfl) hd1 trivial ?_
  by_cases h1 : p1 = 0
  · replace h := qp_ift h1 h
    refine qp_run_E qp_ok140 1 (c' := (qp_swt 167 0 10 #[59, 70, 78, 86, 94, 105, 116, 127, 139, 151, 159] 1 p1, [some (.ref 0), some (.int p1)], [], qp_mk I J)) (by with_unfolding_all rfl) hd1 trivial ?_
    refine qp_E_pc (pc' := 60) (by rw [h1]; rfl) ?_
    refine qp_run_E qp_ok140 4 (c' := (70, [some (.ref 0), some (.int p1)], [.int (I 15 0)], qp_mk I J)) (by with_unfolding_all rfl) hd1 trivial ?_
    obtain ⟨rfl, rfl, rfl⟩ := qp_some3 h
    exact qp_retI_E qp_ok140 rfl qp_r140.1 ⟨rfl, rfl⟩ ⟨rfl, rfl⟩
  replace h := qp_iff h1 h
  by_cases h2 : p1 = 1
  · replace h := qp_ift h2 h
    refine qp_run_E qp_ok140 1 (c' := (qp_swt 167 0 10 #[59, 70, 78, 86, 94, 105, 116, 127, 139, 151, 159] 1 p1, [some (.ref 0), some (.int p1)], [], qp_mk I J)) (by with_unfolding_all rfl) hd1 trivial ?_
    refine qp_E_pc (pc' := 71) (by rw [h2]; rfl) ?_
    refine qp_run_E qp_ok140 3 (c' := (78, [some (.ref 0), some (.int p1)], [.int (I 14 3)], qp_mk I J)) (by with_unfolding_all rfl) hd1 trivial ?_
    obtain ⟨rfl, rfl, rfl⟩ := qp_some3 h
    exact qp_retI_E qp_ok140 rfl qp_r140.1 ⟨rfl, rfl⟩ ⟨rfl, rfl⟩
  replace h := qp_iff h2 h
  by_cases h3 : p1 = 2
  · replace h := qp_ift h3 h
    refine qp_run_E qp_ok140 1 (c' := (qp_swt 167 0 10 #[59, 70, 78, 86, 94, 105, 116, 127, 139, 151, 159] 1 p1, [some (.ref 0), some (.int p1)], [], qp_mk I J)) (by with_unfolding_all rfl) hd1 trivial ?_
    refine qp_E_pc (pc' := 79) (by rw [h3]; rfl) ?_
    refine qp_run_E qp_ok140 3 (c' := (86, [some (.ref 0), some (.int p1)], [.int (I 14 4)], qp_mk I J)) (by with_unfolding_all rfl) hd1 trivial ?_
    obtain ⟨rfl, rfl, rfl⟩ := qp_some3 h
    exact qp_retI_E qp_ok140 rfl qp_r140.1 ⟨rfl, rfl⟩ ⟨rfl, rfl⟩
  replace h := qp_iff h3 h
  by_cases h4 : p1 = 3
  · replace h := qp_ift h4 h
    refine qp_run_E qp_ok140 1 (c' := (qp_swt 167 0 10 #[59, 70, 78, 86, 94, 105, 116, 127, 139, 151, 159] 1 p1, [some (.ref 0), some (.int p1)], [], qp_mk I J)) (by with_unfolding_all rfl) hd1 trivial ?_
    refine qp_E_pc (pc' := 87) (by rw [h4]; rfl) ?_
    refine qp_run_E qp_ok140 3 (c' := (94, [some (.ref 0), some (.int p1)], [.int (I 14 5)], qp_mk I J)) (by with_unfolding_all rfl) hd1 trivial ?_
    obtain ⟨rfl, rfl, rfl⟩ := qp_some3 h
    exact qp_retI_E qp_ok140 rfl qp_r140.1 ⟨rfl, rfl⟩ ⟨rfl, rfl⟩
  replace h := qp_iff h4 h
  by_cases h5 : p1 = 4
  · replace h := qp_ift h5 h
    refine qp_run_E qp_ok140 1 (c' := (qp_swt 167 0 10 #[59, 70, 78, 86, 94, 105, 116, 127, 139, 151, 159] 1 p1, [some (.ref 0), some (.int p1)], [], qp_mk I J)) (by with_unfolding_all rfl) hd1 trivial ?_
    refine qp_E_pc (pc' := 95) (by rw [h5]; rfl) ?_
    refine qp_run_E qp_ok140 4 (c' := (105, [some (.ref 0), some (.int p1)], [.int (I 18 0)], qp_mk I J)) (by with_unfolding_all rfl) hd1 trivial ?_
    obtain ⟨rfl, rfl, rfl⟩ := qp_some3 h
    exact qp_retI_E qp_ok140 rfl qp_r140.1 ⟨rfl, rfl⟩ ⟨rfl, rfl⟩
  replace h := qp_iff h5 h
  by_cases h6 : p1 = 5
  · replace h := qp_ift h6 h
    refine qp_run_E qp_ok140 1 (c' := (qp_swt 167 0 10 #[59, 70, 78, 86, 94, 105, 116, 127, 139, 151, 159] 1 p1, [some (.ref 0), some (.int p1)], [], qp_mk I J)) (by with_unfolding_all rfl) hd1 trivial ?_
    refine qp_E_pc (pc' := 106) (by rw [h6]; rfl) ?_
    refine qp_run_E qp_ok140 3 (c' := (113, [some (.ref 0), some (.int p1)], [.ref 18], qp_mk I J)) (by with_unfolding_all rfl) hd1 trivial ?_
    obtain ⟨v1, I1, J1, e1, h⟩ := qp_bd_s h
    refine qp_cV qp_ok140 (rest := []) (oj := 5) qp_f135 rfl rfl (gV_gainOfAll l G I J e1 (Nat.le_refl 1)) rfl rfl rfl rfl (Nat.le_trans (by decide) hd) ?_
    obtain ⟨rfl, rfl, rfl⟩ := qp_some3 h
    exact qp_retI_E qp_ok140 rfl qp_r140.1 ⟨rfl, rfl⟩ ⟨rfl, rfl⟩
  replace h := qp_iff h6 h
  by_cases h7 : p1 = 6
  · replace h := qp_ift h7 h
    refine qp_run_E qp_ok140 1 (c' := (qp_swt 167 0 10 #[59, 70, 78, 86, 94, 105, 116, 127, 139, 151, 159] 1 p1, [some (.ref 0), some (.int p1)], [], qp_mk I J)) (by with_unfolding_all rfl) hd1 trivial ?_
    refine qp_E_pc (pc' := 117) (by rw [h7]; rfl) ?_
    refine qp_run_E qp_ok140 4 (c' := (127, [some (.ref 0), some (.int p1)], [.int (I 18 1)], qp_mk I J)) (by with_unfolding_all rfl) hd1 trivial ?_
    obtain ⟨rfl, rfl, rfl⟩ := qp_some3 h
    exact qp_retI_E qp_ok140 rfl qp_r140.1 ⟨rfl, rfl⟩ ⟨rfl, rfl⟩
  replace h := qp_iff h7 h
  by_cases h8 : p1 = 7
  · replace h := qp_ift h8 h
    refine qp_run_E qp_ok140 1 (c' := (qp_swt 167 0 10 #[59, 70, 78, 86, 94, 105, 116, 127, 139, 151, 159] 1 p1, [some (.ref 0), some (.int p1)], [], qp_mk I J)) (by with_unfolding_all rfl) hd1 trivial ?_
    refine qp_E_pc (pc' := 128) (by rw [h8]; rfl) ?_
    refine qp_run_E qp_ok140 4 (c' := (136, [some (.ref 0), some (.int p1)], [.int 1, .ref 15], qp_mk I J)) (by with_unfolding_all rfl) hd1 trivial ?_
    obtain ⟨v2, I2, J2, e2, h⟩ := qp_bd_s h
    refine qp_cV qp_ok140 (rest := []) (oj := 3) qp_f141 rfl rfl (gC_howMany_15 l G 1 I J e2 (Nat.le_refl 2)) rfl rfl rfl rfl (Nat.le_trans (by decide) hd) ?_
    obtain ⟨rfl, rfl, rfl⟩ := qp_some3 h
    exact qp_retI_E qp_ok140 rfl qp_r140.1 ⟨rfl, rfl⟩ ⟨rfl, rfl⟩
  replace h := qp_iff h8 h
  by_cases h9 : p1 = 8
  · replace h := qp_ift h9 h
    refine qp_run_E qp_ok140 1 (c' := (qp_swt 167 0 10 #[59, 70, 78, 86, 94, 105, 116, 127, 139, 151, 159] 1 p1, [some (.ref 0), some (.int p1)], [], qp_mk I J)) (by with_unfolding_all rfl) hd1 trivial ?_
    refine qp_E_pc (pc' := 140) (by rw [h9]; rfl) ?_
    refine qp_run_E qp_ok140 4 (c' := (148, [some (.ref 0), some (.int p1)], [.int 2, .ref 15], qp_mk I J)) (by with_unfolding_all rfl) hd1 trivial ?_
    obtain ⟨v3, I3, J3, e3, h⟩ := qp_bd_s h
    refine qp_cV qp_ok140 (rest := []) (oj := 3) qp_f141 rfl rfl (gC_howMany_15 l G 2 I J e3 (Nat.le_refl 2)) rfl rfl rfl rfl (Nat.le_trans (by decide) hd) ?_
    obtain ⟨rfl, rfl, rfl⟩ := qp_some3 h
    exact qp_retI_E qp_ok140 rfl qp_r140.1 ⟨rfl, rfl⟩ ⟨rfl, rfl⟩
  replace h := qp_iff h9 h
  by_cases h10 : p1 = 9
  · replace h := qp_ift h10 h
    refine qp_run_E qp_ok140 1 (c' := (qp_swt 167 0 10 #[59, 70, 78, 86, 94, 105, 116, 127, 139, 151, 159] 1 p1, [some (.ref 0), some (.int p1)], [], qp_mk I J)) (by with_unfolding_all rfl) hd1 trivial ?_
    refine qp_E_pc (pc' := 152) (by rw [h10]; rfl) ?_
    refine qp_run_E qp_ok140 2 (c' := (156, [some (.ref 0), some (.int p1)], [.ref 1], qp_mk I J)) (by with_unfolding_all rfl) hd1 trivial ?_
    obtain ⟨v4, I4, J4, e4, h⟩ := qp_bd_s h
    refine qp_cV qp_ok140 (rest := []) (oj := 1) qp_f142 rfl rfl (gS_there_1 l G I J e4 (Nat.le_refl 4)) rfl rfl rfl rfl (Nat.le_trans (by decide) hd) ?_
    obtain ⟨rfl, rfl, rfl⟩ := qp_some3 h
    exact qp_retI_E qp_ok140 rfl qp_r140.1 ⟨rfl, rfl⟩ ⟨rfl, rfl⟩
  replace h := qp_iff h10 h
  by_cases h11 : p1 = 10
  · replace h := qp_ift h11 h
    refine qp_run_E qp_ok140 1 (c' := (qp_swt 167 0 10 #[59, 70, 78, 86, 94, 105, 116, 127, 139, 151, 159] 1 p1, [some (.ref 0), some (.int p1)], [], qp_mk I J)) (by with_unfolding_all rfl) hd1 trivial ?_
    refine qp_E_pc (pc' := 160) (by rw [h11]; rfl) ?_
    refine qp_run_E qp_ok140 2 (c' := (164, [some (.ref 0), some (.int p1)], [.ref 4], qp_mk I J)) (by with_unfolding_all rfl) hd1 trivial ?_
    obtain ⟨v5, I5, J5, e5, h⟩ := qp_bd_s h
    refine qp_cV qp_ok140 (rest := []) (oj := 1) qp_f142 rfl rfl (gS_there_4 l G I J e5 (Nat.le_refl 4)) rfl rfl rfl rfl (Nat.le_trans (by decide) hd) ?_
    obtain ⟨rfl, rfl, rfl⟩ := qp_some3 h
    exact qp_retI_E qp_ok140 rfl qp_r140.1 ⟨rfl, rfl⟩ ⟨rfl, rfl⟩
  replace h := qp_iff h11 h
  refine qp_run_E qp_ok140 1 (c' := (qp_swt 167 0 10 #[59, 70, 78, 86, 94, 105, 116, 127, 139, 151, 159] 1 p1, [some (.ref 0), some (.int p1)], [], qp_mk I J)) (by with_unfolding_all rfl) hd1 trivial ?_
  refine qp_E_pc (pc' := 168) (qp_swt_df (lo' := 0) (hi' := 10) (by decide) (by decide) (by clear h; grind)) ?_
  refine qp_run_E qp_ok140 2 (c' := (172, [some (.ref 0), some (.int p1)], [.ref 7], qp_mk I J)) (by with_unfolding_all rfl) hd1 trivial ?_
  obtain ⟨v6, I6, J6, e6, h⟩ := qp_bd_s h
  refine qp_cV qp_ok140 (rest := []) (oj := 1) qp_f142 rfl rfl (gS_there_7 l G I J e6 (Nat.le_refl 4)) rfl rfl rfl rfl (Nat.le_trans (by decide) hd) ?_
  obtain ⟨rfl, rfl, rfl⟩ := qp_some3 h
  exact qp_retI_E qp_ok140 rfl qp_r140.1 ⟨rfl, rfl⟩ ⟨rfl, rfl⟩
def fX_count (p1 : Int32) (I : Nat → Nat → Int32) (J : Nat → Nat → Int64) : Option (Int32 × (Nat → Nat → Int32) × (Nat → Nat → Int64)) :=
  if p1 < 0 then (
    some ((-1), I, J)
  ) else (
    if p1 ≤ 11 then (
      qp_bd (fL_serve (I 14 2) I J) fun _u I1 J1 =>
      qp_bd (fX_amount p1 I1 J1) fun v2 I2 J2 =>
      some (v2, I2, J2)
    ) else (
      some ((-1), I, J)
    )
  )
set_option maxRecDepth 8000 in
theorem gX_count (l : Launch) (G : qp_G) (p1 : Int32) (I : Nat → Nat → Int32) (J : Nat → Nat → Int64) {v : Int32} {I' : Nat → Nat → Int32} {J' : Nat → Nat → Int64} (h : fX_count p1 I J = some (v, I', J')) {d : Nat} (hd : 6 ≤ d) : qp_Met l G d 139 [.ref 0, .int p1] (qp_mk I J) 0 0 (qp_R8 (some (.int v)) I' J') := by
  have hd1 : Nat.ble 1 d = true := Nat.ble_eq_true_of_le (Nat.le_trans (by decide) hd)
  refine qp_Met_of (by decide) (by rw [qp_r139.2]; rfl) [some (.ref 0), some (.int p1)] (by rw [qp_r139.2]; rfl) ?_
  unfold fX_count at h
  refine qp_run_E qp_ok139 1 (c' := (1, [some (.ref 0), some (.int p1)], [.int p1], qp_mk I J)) (by with_unfolding_all rfl) hd1 trivial ?_
  refine qp_br_E qp_ok139 (f := p1 < 0) (ct := (10, [some (.ref 0), some (.int p1)], [], qp_mk I J)) (cf := (4, [some (.ref 0), some (.int p1)], [], qp_mk I J)) (by with_unfolding_all rfl) (fun h1 => ?_) (fun h1 => ?_)
  · replace h := qp_ift h1 h
    refine qp_run_E qp_ok139 1 (c' := (11, [some (.ref 0), some (.int p1)], [.int (-1)], qp_mk I J)) (by with_unfolding_all rfl) hd1 trivial ?_
    obtain ⟨rfl, rfl, rfl⟩ := qp_some3 h
    exact qp_retI_E qp_ok139 rfl qp_r139.1 ⟨rfl, rfl⟩ ⟨rfl, rfl⟩
  · replace h := qp_iff h1 h
    refine qp_run_E qp_ok139 2 (c' := (7, [some (.ref 0), some (.int p1)], [.int 11, .int p1], qp_mk I J)) (by with_unfolding_all rfl) hd1 trivial ?_
    refine qp_br_E qp_ok139 (f := p1 ≤ 11) (ct := (12, [some (.ref 0), some (.int p1)], [], qp_mk I J)) (cf := (10, [some (.ref 0), some (.int p1)], [], qp_mk I J)) (by with_unfolding_all rfl) (fun h2 => ?_) (fun h2 => ?_)
    · replace h := qp_ift h2 h
      refine qp_run_E qp_ok139 5 (c' := (23, [some (.ref 0), some (.int p1)], [.int (I 14 2), .ref 14], qp_mk I J)) (by with_unfolding_all rfl) hd1 trivial ?_
      obtain ⟨v1, I1, J1, e1, h⟩ := qp_bd_s h
      refine qp_cV qp_ok139 (rest := []) (oj := 4) qp_f54 rfl rfl (gL_serve l G (I 14 2) I J e1 (Nat.le_refl 4)) rfl rfl rfl rfl (Nat.le_trans (by decide) hd) ?_
      refine qp_run_E qp_ok139 2 (c' := (28, [some (.ref 0), some (.int p1)], [.int p1, .ref 0], qp_mk I1 J1)) (by with_unfolding_all rfl) hd1 trivial ?_
      obtain ⟨v2, I2, J2, e2, h⟩ := qp_bd_s h
      refine qp_cV qp_ok139 (rest := []) (oj := 0) qp_f140 rfl rfl (gX_amount l G p1 I1 J1 e2 (Nat.le_refl 5)) rfl rfl rfl rfl (Nat.le_trans (by decide) hd) ?_
      obtain ⟨rfl, rfl, rfl⟩ := qp_some3 h
      exact qp_retI_E qp_ok139 rfl qp_r139.1 ⟨rfl, rfl⟩ ⟨rfl, rfl⟩
    · replace h := qp_iff h2 h
      refine qp_run_E qp_ok139 1 (c' := (11, [some (.ref 0), some (.int p1)], [.int (-1)], qp_mk I J)) (by with_unfolding_all rfl) hd1 trivial ?_
      obtain ⟨rfl, rfl, rfl⟩ := qp_some3 h
      exact qp_retI_E qp_ok139 rfl qp_r139.1 ⟨rfl, rfl⟩ ⟨rfl, rfl⟩
def fX_finding  (I : Nat → Nat → Int32) (J : Nat → Nat → Int64) : Option (Int32 × (Nat → Nat → Int32) × (Nat → Nat → Int64)) :=
  some ((I 0 10), I, J)
set_option maxRecDepth 8000 in
theorem gX_finding (l : Launch) (G : qp_G)  (I : Nat → Nat → Int32) (J : Nat → Nat → Int64) {v : Int32} {I' : Nat → Nat → Int32} {J' : Nat → Nat → Int64} (h : fX_finding  I J = some (v, I', J')) {d : Nat} (hd : 1 ≤ d) : qp_Met l G d 143 [.ref 0] (qp_mk I J) 0 0 (qp_R8 (some (.int v)) I' J') := by
  have hd1 : Nat.ble 1 d = true := Nat.ble_eq_true_of_le (Nat.le_trans (by decide) hd)
  refine qp_Met_of (by decide) (by rw [qp_r143.2]; rfl) [some (.ref 0)] (by rw [qp_r143.2]; rfl) ?_
  unfold fX_finding at h
  refine qp_run_E qp_ok143 2 (c' := (4, [some (.ref 0)], [.int (I 0 10)], qp_mk I J)) (by with_unfolding_all rfl) hd1 trivial ?_
  obtain ⟨rfl, rfl, rfl⟩ := qp_some3 h
  exact qp_retI_E qp_ok143 rfl qp_r143.1 ⟨rfl, rfl⟩ ⟨rfl, rfl⟩
def fX_findings (p1 : Int32) (I : Nat → Nat → Int32) (J : Nat → Nat → Int64) : Option (Int32 × (Nat → Nat → Int32) × (Nat → Nat → Int64)) :=
  if p1 < 1 then (
    some ((-1), I, J)
  ) else (
    if 5 < p1 then (
      some ((-1), I, J)
    ) else (
      qp_gd ((0 ≤ p1 ∧ p1 < 6)) <|
      some ((I 35 (Int32.toNatClampNeg p1)), I, J)
    )
  )
set_option maxRecDepth 8000 in
theorem gX_findings (l : Launch) (G : qp_G) (p1 : Int32) (I : Nat → Nat → Int32) (J : Nat → Nat → Int64) {v : Int32} {I' : Nat → Nat → Int32} {J' : Nat → Nat → Int64} (h : fX_findings p1 I J = some (v, I', J')) {d : Nat} (hd : 1 ≤ d) : qp_Met l G d 144 [.ref 0, .int p1] (qp_mk I J) 0 0 (qp_R8 (some (.int v)) I' J') := by
  have hd1 : Nat.ble 1 d = true := Nat.ble_eq_true_of_le (Nat.le_trans (by decide) hd)
  refine qp_Met_of (by decide) (by rw [qp_r144.2]; rfl) [some (.ref 0), some (.int p1)] (by rw [qp_r144.2]; rfl) ?_
  unfold fX_findings at h
  refine qp_run_E qp_ok144 2 (c' := (2, [some (.ref 0), some (.int p1)], [.int 1, .int p1], qp_mk I J)) (by with_unfolding_all rfl) hd1 trivial ?_
  refine qp_br_E qp_ok144 (f := p1 < 1) (ct := (19, [some (.ref 0), some (.int p1)], [], qp_mk I J)) (cf := (5, [some (.ref 0), some (.int p1)], [], qp_mk I J)) (by with_unfolding_all rfl) (fun h1 => ?_) (fun h1 => ?_)
  · replace h := qp_ift h1 h
    refine qp_run_E qp_ok144 1 (c' := (20, [some (.ref 0), some (.int p1)], [.int (-1)], qp_mk I J)) (by with_unfolding_all rfl) hd1 trivial ?_
    obtain ⟨rfl, rfl, rfl⟩ := qp_some3 h
    exact qp_retI_E qp_ok144 rfl qp_r144.1 ⟨rfl, rfl⟩ ⟨rfl, rfl⟩
  · replace h := qp_iff h1 h
    refine qp_run_E qp_ok144 2 (c' := (7, [some (.ref 0), some (.int p1)], [.int 5, .int p1], qp_mk I J)) (by with_unfolding_all rfl) hd1 trivial ?_
    refine qp_br_E qp_ok144 (f := 5 < p1) (ct := (19, [some (.ref 0), some (.int p1)], [], qp_mk I J)) (cf := (10, [some (.ref 0), some (.int p1)], [], qp_mk I J)) (by with_unfolding_all rfl) (fun h2 => ?_) (fun h2 => ?_)
    · replace h := qp_ift h2 h
      refine qp_run_E qp_ok144 1 (c' := (20, [some (.ref 0), some (.int p1)], [.int (-1)], qp_mk I J)) (by with_unfolding_all rfl) hd1 trivial ?_
      obtain ⟨rfl, rfl, rfl⟩ := qp_some3 h
      exact qp_retI_E qp_ok144 rfl qp_r144.1 ⟨rfl, rfl⟩ ⟨rfl, rfl⟩
    · replace h := qp_iff h2 h
      obtain ⟨h3, h⟩ := qp_gd_s h
      refine qp_run_E qp_ok144 5 (f := vp_in p1 6 ∧ True) (c' := (20, [some (.ref 0), some (.int p1)], [.int (I 35 (Int32.toNatClampNeg p1))], qp_mk I J)) (by with_unfolding_all rfl) hd1 ⟨(qp_vin (c := 6) (by decide) h3.1 h3.2), trivial⟩ ?_
      obtain ⟨rfl, rfl, rfl⟩ := qp_some3 h
      exact qp_retI_E qp_ok144 rfl qp_r144.1 ⟨rfl, rfl⟩ ⟨rfl, rfl⟩
def fS_digested_1_b32  (k5 : Int64 → Int32 → (Nat → Nat → Int32) → (Nat → Nat → Int64) → Option (Int64 × (Nat → Nat → Int32) × (Nat → Nat → Int64))) : Nat → Int64 → Int32 → Int32 → (Nat → Nat → Int32) → (Nat → Nat → Int64) → Option (Int64 × (Nat → Nat → Int32) × (Nat → Nat → Int64))
  | 0, _, _, _, _, _ => none
  | n + 1, a3, a5, a6, I, J =>
    qp_bd (fS_sizeOf_1 a5 I J) fun v1 I1 J1 =>
    if v1 ≤ a6 then (
      k5 a3 (a5 + 1) I1 J1
    ) else (
      qp_bd (fS_get_1 a5 a6 I1 J1) fun v2 I2 J2 =>
      fS_digested_1_b32 k5 n (((31 : Int64) * a3) + (Int32.toInt64 v2)) a5 (a6 + 1) I2 J2
    )
set_option maxRecDepth 8000 in
theorem gS_digested_1_b32 {l : Launch} {G : qp_G} {d : Nat} (hd : 4 ≤ d) {r : (Int64 × (Nat → Nat → Int32) × (Nat → Nat → Int64))} {I0 : Nat → Nat → Int32} {J0 : Nat → Nat → Int64}  (k5 : Int64 → Int32 → (Nat → Nat → Int32) → (Nat → Nat → Int64) → Option (Int64 × (Nat → Nat → Int32) × (Nat → Nat → Int64))) (hk5 : ∀ a3 a5 I J, k5 a3 a5 I J = some r → qp_E l G d 146 (qp_mk I0 J0) 0 0 (qp_R8 (some (.long r.1)) r.2.1 r.2.2) (5, [some (.ref 1), none, none, some (.long a3), none, some (.int a5), none], [], qp_mk I J)) : ∀ (n : Nat) (a3 : Int64) (a5 : Int32) (a6 : Int32) (I : Nat → Nat → Int32) (J : Nat → Nat → Int64), fS_digested_1_b32 k5 n a3 a5 a6 I J = some r → qp_E l G d 146 (qp_mk I0 J0) 0 0 (qp_R8 (some (.long r.1)) r.2.1 r.2.2) (32, [some (.ref 1), none, none, some (.long a3), none, some (.int a5), some (.int a6)], [], qp_mk I J) := by
  have hd1 : Nat.ble 1 d = true := Nat.ble_eq_true_of_le (Nat.le_trans (by decide) hd)
  intro n
  induction n with
  | zero => intro a3 a5 a6 I J h; exact absurd h (by simp [fS_digested_1_b32])
  | succ n ih =>
    intro a3 a5 a6 I J h
    rw [fS_digested_1_b32] at h
    refine qp_run_E qp_ok146 3 (c' := (37, [some (.ref 1), none, none, some (.long a3), none, some (.int a5), some (.int a6)], [.int a5, .ref 1, .int a6], qp_mk I J)) (by with_unfolding_all rfl) hd1 trivial ?_
    obtain ⟨v1, I1, J1, e1, h⟩ := qp_bd_s h
    refine qp_cV qp_ok146 (rest := [.int a6]) (oj := 1) qp_f22 rfl rfl (gS_sizeOf_1 l G a5 I J e1 (Nat.le_refl 2)) rfl rfl rfl rfl (Nat.le_trans (by decide) hd) ?_
    refine qp_br_E qp_ok146 (f := v1 ≤ a6) (ct := (65, [some (.ref 1), none, none, some (.long a3), none, some (.int a5), some (.int a6)], [], qp_mk I1 J1)) (cf := (43, [some (.ref 1), none, none, some (.long a3), none, some (.int a5), some (.int a6)], [], qp_mk I1 J1)) (by with_unfolding_all rfl) (fun h1 => ?_) (fun h1 => ?_)
    · replace h := qp_ift h1 h
      refine qp_run_E qp_ok146 2 (c' := (5, [some (.ref 1), none, none, some (.long a3), none, some (.int (a5 + 1)), some (.int a6)], [], qp_mk I1 J1)) (by with_unfolding_all rfl) hd1 trivial ?_
      exact qp_E_fg [true, false, false, true, false, true, false] (hk5 a3 (a5 + 1) I1 J1 h)
    · replace h := qp_iff h1 h
      refine qp_run_E qp_ok146 6 (c' := (53, [some (.ref 1), none, none, some (.long a3), none, some (.int a5), some (.int a6)], [.int a6, .int a5, .ref 1, .long ((31 : Int64) * a3)], qp_mk I1 J1)) (by with_unfolding_all rfl) hd1 trivial ?_
      obtain ⟨v2, I2, J2, e2, h⟩ := qp_bd_s h
      refine qp_cV qp_ok146 (rest := [.long ((31 : Int64) * a3)]) (oj := 1) qp_f23 rfl rfl (gS_get_1 l G a5 a6 I1 J1 e2 (Nat.le_refl 3)) rfl rfl rfl rfl (Nat.le_trans (by decide) hd) ?_
      refine qp_run_E qp_ok146 5 (c' := (32, [some (.ref 1), none, none, some (.long (((31 : Int64) * a3) + (Int32.toInt64 v2))), none, some (.int a5), some (.int (a6 + 1))], [], qp_mk I2 J2)) (by with_unfolding_all rfl) hd1 trivial ?_
      exact ih (((31 : Int64) * a3) + (Int32.toInt64 v2)) a5 (a6 + 1) I2 J2 h
def fS_digested_1_b5  : Nat → Int64 → Int32 → (Nat → Nat → Int32) → (Nat → Nat → Int64) → Option (Int64 × (Nat → Nat → Int32) × (Nat → Nat → Int64))
  | 0, _, _, _, _ => none
  | n + 1, a3, a5, I, J =>
    if 6 ≤ a5 then (
      some (a3, I, J)
    ) else (
      qp_bd (fS_sizeOf_1 a5 I J) fun v1 I1 J1 =>
      fS_digested_1_b32 (fun a0 a1 I J => fS_digested_1_b5 n a0 a1 I J) 100000 (((31 : Int64) * a3) + (Int32.toInt64 v1)) a5 0 I1 J1
    )
set_option maxRecDepth 8000 in
theorem gS_digested_1_b5 {l : Launch} {G : qp_G} {d : Nat} (hd : 4 ≤ d) {r : (Int64 × (Nat → Nat → Int32) × (Nat → Nat → Int64))} {I0 : Nat → Nat → Int32} {J0 : Nat → Nat → Int64}   : ∀ (n : Nat) (a3 : Int64) (a5 : Int32) (I : Nat → Nat → Int32) (J : Nat → Nat → Int64), fS_digested_1_b5  n a3 a5 I J = some r → qp_E l G d 146 (qp_mk I0 J0) 0 0 (qp_R8 (some (.long r.1)) r.2.1 r.2.2) (5, [some (.ref 1), none, none, some (.long a3), none, some (.int a5), none], [], qp_mk I J) := by
  have hd1 : Nat.ble 1 d = true := Nat.ble_eq_true_of_le (Nat.le_trans (by decide) hd)
  intro n
  induction n with
  | zero => intro a3 a5 I J h; exact absurd h (by simp [fS_digested_1_b5])
  | succ n ih =>
    intro a3 a5 I J h
    rw [fS_digested_1_b5] at h
    refine qp_run_E qp_ok146 4 (c' := (12, [some (.ref 1), none, none, some (.long a3), none, some (.int a5), none], [.int 6, .int a5], qp_mk I J)) (by with_unfolding_all rfl) hd1 trivial ?_
    refine qp_br_E qp_ok146 (f := 6 ≤ a5) (ct := (71, [some (.ref 1), none, none, some (.long a3), none, some (.int a5), none], [], qp_mk I J)) (cf := (15, [some (.ref 1), none, none, some (.long a3), none, some (.int a5), none], [], qp_mk I J)) (by with_unfolding_all rfl) (fun h1 => ?_) (fun h1 => ?_)
    · replace h := qp_ift h1 h
      refine qp_run_E qp_ok146 1 (c' := (72, [some (.ref 1), none, none, some (.long a3), none, some (.int a5), none], [.long a3], qp_mk I J)) (by with_unfolding_all rfl) hd1 trivial ?_
      obtain rfl := Option.some.inj h
      exact qp_retL_E qp_ok146 rfl qp_r146.1 ⟨rfl, rfl⟩ ⟨rfl, rfl⟩
    · replace h := qp_iff h1 h
      refine qp_run_E qp_ok146 5 (c' := (23, [some (.ref 1), none, none, some (.long a3), none, some (.int a5), none], [.int a5, .ref 1, .long ((31 : Int64) * a3)], qp_mk I J)) (by with_unfolding_all rfl) hd1 trivial ?_
      obtain ⟨v1, I1, J1, e1, h⟩ := qp_bd_s h
      refine qp_cV qp_ok146 (rest := [.long ((31 : Int64) * a3)]) (oj := 1) qp_f22 rfl rfl (gS_sizeOf_1 l G a5 I J e1 (Nat.le_refl 2)) rfl rfl rfl rfl (Nat.le_trans (by decide) hd) ?_
      refine qp_run_E qp_ok146 5 (c' := (32, [some (.ref 1), none, none, some (.long (((31 : Int64) * a3) + (Int32.toInt64 v1))), none, some (.int a5), some (.int 0)], [], qp_mk I1 J1)) (by with_unfolding_all rfl) hd1 trivial ?_
      exact gS_digested_1_b32 hd (fun a0 a1 I J => fS_digested_1_b5 n a0 a1 I J) (fun a0 a1 I J h => ih a0 a1 I J h) 100000 (((31 : Int64) * a3) + (Int32.toInt64 v1)) a5 0 I1 J1 h
def fS_digested_1 (p1 : Int64) (I : Nat → Nat → Int32) (J : Nat → Nat → Int64) : Option (Int64 × (Nat → Nat → Int32) × (Nat → Nat → Int64)) :=
  fS_digested_1_b5 100000 p1 0 I J
set_option maxRecDepth 8000 in
theorem gS_digested_1 (l : Launch) (G : qp_G) (p1 : Int64) (I : Nat → Nat → Int32) (J : Nat → Nat → Int64) {v : Int64} {I' : Nat → Nat → Int32} {J' : Nat → Nat → Int64} (h : fS_digested_1 p1 I J = some (v, I', J')) {d : Nat} (hd : 4 ≤ d) : qp_Met l G d 146 [.ref 1, .long p1] (qp_mk I J) 0 0 (qp_R8 (some (.long v)) I' J') := by
  have hd1 : Nat.ble 1 d = true := Nat.ble_eq_true_of_le (Nat.le_trans (by decide) hd)
  refine qp_Met_of (by decide) (by rw [qp_r146.2]; rfl) [some (.ref 1), some (.long p1), none, none, none, none, none] (by rw [qp_r146.2]; rfl) ?_
  unfold fS_digested_1 at h
  refine qp_run_E qp_ok146 4 (c' := (5, [some (.ref 1), some (.long p1), none, some (.long p1), none, some (.int 0), none], [], qp_mk I J)) (by with_unfolding_all rfl) hd1 trivial ?_
  exact qp_E_fg [true, false, false, true, false, true, false] (gS_digested_1_b5 hd 100000 p1 0 I J h)
def fS_digested_4_b32  (k5 : Int64 → Int32 → (Nat → Nat → Int32) → (Nat → Nat → Int64) → Option (Int64 × (Nat → Nat → Int32) × (Nat → Nat → Int64))) : Nat → Int64 → Int32 → Int32 → (Nat → Nat → Int32) → (Nat → Nat → Int64) → Option (Int64 × (Nat → Nat → Int32) × (Nat → Nat → Int64))
  | 0, _, _, _, _, _ => none
  | n + 1, a3, a5, a6, I, J =>
    qp_bd (fS_sizeOf_4 a5 I J) fun v1 I1 J1 =>
    if v1 ≤ a6 then (
      k5 a3 (a5 + 1) I1 J1
    ) else (
      qp_bd (fS_get_4 a5 a6 I1 J1) fun v2 I2 J2 =>
      fS_digested_4_b32 k5 n (((31 : Int64) * a3) + (Int32.toInt64 v2)) a5 (a6 + 1) I2 J2
    )
set_option maxRecDepth 8000 in
theorem gS_digested_4_b32 {l : Launch} {G : qp_G} {d : Nat} (hd : 4 ≤ d) {r : (Int64 × (Nat → Nat → Int32) × (Nat → Nat → Int64))} {I0 : Nat → Nat → Int32} {J0 : Nat → Nat → Int64}  (k5 : Int64 → Int32 → (Nat → Nat → Int32) → (Nat → Nat → Int64) → Option (Int64 × (Nat → Nat → Int32) × (Nat → Nat → Int64))) (hk5 : ∀ a3 a5 I J, k5 a3 a5 I J = some r → qp_E l G d 146 (qp_mk I0 J0) 0 0 (qp_R8 (some (.long r.1)) r.2.1 r.2.2) (5, [some (.ref 4), none, none, some (.long a3), none, some (.int a5), none], [], qp_mk I J)) : ∀ (n : Nat) (a3 : Int64) (a5 : Int32) (a6 : Int32) (I : Nat → Nat → Int32) (J : Nat → Nat → Int64), fS_digested_4_b32 k5 n a3 a5 a6 I J = some r → qp_E l G d 146 (qp_mk I0 J0) 0 0 (qp_R8 (some (.long r.1)) r.2.1 r.2.2) (32, [some (.ref 4), none, none, some (.long a3), none, some (.int a5), some (.int a6)], [], qp_mk I J) := by
  have hd1 : Nat.ble 1 d = true := Nat.ble_eq_true_of_le (Nat.le_trans (by decide) hd)
  intro n
  induction n with
  | zero => intro a3 a5 a6 I J h; exact absurd h (by simp [fS_digested_4_b32])
  | succ n ih =>
    intro a3 a5 a6 I J h
    rw [fS_digested_4_b32] at h
    refine qp_run_E qp_ok146 3 (c' := (37, [some (.ref 4), none, none, some (.long a3), none, some (.int a5), some (.int a6)], [.int a5, .ref 4, .int a6], qp_mk I J)) (by with_unfolding_all rfl) hd1 trivial ?_
    obtain ⟨v1, I1, J1, e1, h⟩ := qp_bd_s h
    refine qp_cV qp_ok146 (rest := [.int a6]) (oj := 1) qp_f22 rfl rfl (gS_sizeOf_4 l G a5 I J e1 (Nat.le_refl 2)) rfl rfl rfl rfl (Nat.le_trans (by decide) hd) ?_
    refine qp_br_E qp_ok146 (f := v1 ≤ a6) (ct := (65, [some (.ref 4), none, none, some (.long a3), none, some (.int a5), some (.int a6)], [], qp_mk I1 J1)) (cf := (43, [some (.ref 4), none, none, some (.long a3), none, some (.int a5), some (.int a6)], [], qp_mk I1 J1)) (by with_unfolding_all rfl) (fun h1 => ?_) (fun h1 => ?_)
    · replace h := qp_ift h1 h
      refine qp_run_E qp_ok146 2 (c' := (5, [some (.ref 4), none, none, some (.long a3), none, some (.int (a5 + 1)), some (.int a6)], [], qp_mk I1 J1)) (by with_unfolding_all rfl) hd1 trivial ?_
      exact qp_E_fg [true, false, false, true, false, true, false] (hk5 a3 (a5 + 1) I1 J1 h)
    · replace h := qp_iff h1 h
      refine qp_run_E qp_ok146 6 (c' := (53, [some (.ref 4), none, none, some (.long a3), none, some (.int a5), some (.int a6)], [.int a6, .int a5, .ref 4, .long ((31 : Int64) * a3)], qp_mk I1 J1)) (by with_unfolding_all rfl) hd1 trivial ?_
      obtain ⟨v2, I2, J2, e2, h⟩ := qp_bd_s h
      refine qp_cV qp_ok146 (rest := [.long ((31 : Int64) * a3)]) (oj := 1) qp_f23 rfl rfl (gS_get_4 l G a5 a6 I1 J1 e2 (Nat.le_refl 3)) rfl rfl rfl rfl (Nat.le_trans (by decide) hd) ?_
      refine qp_run_E qp_ok146 5 (c' := (32, [some (.ref 4), none, none, some (.long (((31 : Int64) * a3) + (Int32.toInt64 v2))), none, some (.int a5), some (.int (a6 + 1))], [], qp_mk I2 J2)) (by with_unfolding_all rfl) hd1 trivial ?_
      exact ih (((31 : Int64) * a3) + (Int32.toInt64 v2)) a5 (a6 + 1) I2 J2 h
def fS_digested_4_b5  : Nat → Int64 → Int32 → (Nat → Nat → Int32) → (Nat → Nat → Int64) → Option (Int64 × (Nat → Nat → Int32) × (Nat → Nat → Int64))
  | 0, _, _, _, _ => none
  | n + 1, a3, a5, I, J =>
    if 4 ≤ a5 then (
      some (a3, I, J)
    ) else (
      qp_bd (fS_sizeOf_4 a5 I J) fun v1 I1 J1 =>
      fS_digested_4_b32 (fun a0 a1 I J => fS_digested_4_b5 n a0 a1 I J) 100000 (((31 : Int64) * a3) + (Int32.toInt64 v1)) a5 0 I1 J1
    )
set_option maxRecDepth 8000 in
theorem gS_digested_4_b5 {l : Launch} {G : qp_G} {d : Nat} (hd : 4 ≤ d) {r : (Int64 × (Nat → Nat → Int32) × (Nat → Nat → Int64))} {I0 : Nat → Nat → Int32} {J0 : Nat → Nat → Int64}   : ∀ (n : Nat) (a3 : Int64) (a5 : Int32) (I : Nat → Nat → Int32) (J : Nat → Nat → Int64), fS_digested_4_b5  n a3 a5 I J = some r → qp_E l G d 146 (qp_mk I0 J0) 0 0 (qp_R8 (some (.long r.1)) r.2.1 r.2.2) (5, [some (.ref 4), none, none, some (.long a3), none, some (.int a5), none], [], qp_mk I J) := by
  have hd1 : Nat.ble 1 d = true := Nat.ble_eq_true_of_le (Nat.le_trans (by decide) hd)
  intro n
  induction n with
  | zero => intro a3 a5 I J h; exact absurd h (by simp [fS_digested_4_b5])
  | succ n ih =>
    intro a3 a5 I J h
    rw [fS_digested_4_b5] at h
    refine qp_run_E qp_ok146 4 (c' := (12, [some (.ref 4), none, none, some (.long a3), none, some (.int a5), none], [.int 4, .int a5], qp_mk I J)) (by with_unfolding_all rfl) hd1 trivial ?_
    refine qp_br_E qp_ok146 (f := 4 ≤ a5) (ct := (71, [some (.ref 4), none, none, some (.long a3), none, some (.int a5), none], [], qp_mk I J)) (cf := (15, [some (.ref 4), none, none, some (.long a3), none, some (.int a5), none], [], qp_mk I J)) (by with_unfolding_all rfl) (fun h1 => ?_) (fun h1 => ?_)
    · replace h := qp_ift h1 h
      refine qp_run_E qp_ok146 1 (c' := (72, [some (.ref 4), none, none, some (.long a3), none, some (.int a5), none], [.long a3], qp_mk I J)) (by with_unfolding_all rfl) hd1 trivial ?_
      obtain rfl := Option.some.inj h
      exact qp_retL_E qp_ok146 rfl qp_r146.1 ⟨rfl, rfl⟩ ⟨rfl, rfl⟩
    · replace h := qp_iff h1 h
      refine qp_run_E qp_ok146 5 (c' := (23, [some (.ref 4), none, none, some (.long a3), none, some (.int a5), none], [.int a5, .ref 4, .long ((31 : Int64) * a3)], qp_mk I J)) (by with_unfolding_all rfl) hd1 trivial ?_
      obtain ⟨v1, I1, J1, e1, h⟩ := qp_bd_s h
      refine qp_cV qp_ok146 (rest := [.long ((31 : Int64) * a3)]) (oj := 1) qp_f22 rfl rfl (gS_sizeOf_4 l G a5 I J e1 (Nat.le_refl 2)) rfl rfl rfl rfl (Nat.le_trans (by decide) hd) ?_
      refine qp_run_E qp_ok146 5 (c' := (32, [some (.ref 4), none, none, some (.long (((31 : Int64) * a3) + (Int32.toInt64 v1))), none, some (.int a5), some (.int 0)], [], qp_mk I1 J1)) (by with_unfolding_all rfl) hd1 trivial ?_
      exact gS_digested_4_b32 hd (fun a0 a1 I J => fS_digested_4_b5 n a0 a1 I J) (fun a0 a1 I J h => ih a0 a1 I J h) 100000 (((31 : Int64) * a3) + (Int32.toInt64 v1)) a5 0 I1 J1 h
def fS_digested_4 (p1 : Int64) (I : Nat → Nat → Int32) (J : Nat → Nat → Int64) : Option (Int64 × (Nat → Nat → Int32) × (Nat → Nat → Int64)) :=
  fS_digested_4_b5 100000 p1 0 I J
set_option maxRecDepth 8000 in
theorem gS_digested_4 (l : Launch) (G : qp_G) (p1 : Int64) (I : Nat → Nat → Int32) (J : Nat → Nat → Int64) {v : Int64} {I' : Nat → Nat → Int32} {J' : Nat → Nat → Int64} (h : fS_digested_4 p1 I J = some (v, I', J')) {d : Nat} (hd : 4 ≤ d) : qp_Met l G d 146 [.ref 4, .long p1] (qp_mk I J) 0 0 (qp_R8 (some (.long v)) I' J') := by
  have hd1 : Nat.ble 1 d = true := Nat.ble_eq_true_of_le (Nat.le_trans (by decide) hd)
  refine qp_Met_of (by decide) (by rw [qp_r146.2]; rfl) [some (.ref 4), some (.long p1), none, none, none, none, none] (by rw [qp_r146.2]; rfl) ?_
  unfold fS_digested_4 at h
  refine qp_run_E qp_ok146 4 (c' := (5, [some (.ref 4), some (.long p1), none, some (.long p1), none, some (.int 0), none], [], qp_mk I J)) (by with_unfolding_all rfl) hd1 trivial ?_
  exact qp_E_fg [true, false, false, true, false, true, false] (gS_digested_4_b5 hd 100000 p1 0 I J h)
def fX_digest_b157  : Nat → Int64 → Int32 → (Nat → Nat → Int32) → (Nat → Nat → Int64) → Option (Int64 × (Nat → Nat → Int32) × (Nat → Nat → Int64))
  | 0, _, _, _, _ => none
  | n + 1, a1, a3, I, J =>
    if 3 ≤ a3 then (
      qp_bd (fS_digested_1 a1 I J) fun v1 I1 J1 =>
      qp_bd (fS_digested_4 v1 I1 J1) fun v2 I2 J2 =>
      some (v2, I2, J2)
    ) else (
      qp_bd (fS_sizeOf_7 a3 I J) fun v3 I3 J3 =>
      fX_digest_b157 n (((31 : Int64) * a1) + (Int32.toInt64 v3)) (a3 + 1) I3 J3
    )
set_option maxRecDepth 8000 in
theorem gX_digest_b157 {l : Launch} {G : qp_G} {d : Nat} (hd : 6 ≤ d) {r : (Int64 × (Nat → Nat → Int32) × (Nat → Nat → Int64))} {I0 : Nat → Nat → Int32} {J0 : Nat → Nat → Int64}   : ∀ (n : Nat) (a1 : Int64) (a3 : Int32) (I : Nat → Nat → Int32) (J : Nat → Nat → Int64), fX_digest_b157  n a1 a3 I J = some r → qp_E l G d 145 (qp_mk I0 J0) 0 0 (qp_R8 (some (.long r.1)) r.2.1 r.2.2) (157, [some (.ref 0), some (.long a1), none, some (.int a3), none], [], qp_mk I J) := by
  have hd1 : Nat.ble 1 d = true := Nat.ble_eq_true_of_le (Nat.le_trans (by decide) hd)
  intro n
  induction n with
  | zero => intro a1 a3 I J h; exact absurd h (by simp [fX_digest_b157])
  | succ n ih =>
    intro a1 a3 I J h
    rw [fX_digest_b157] at h
    refine qp_run_E qp_ok145 2 (c' := (159, [some (.ref 0), some (.long a1), none, some (.int a3), none], [.int 3, .int a3], qp_mk I J)) (by with_unfolding_all rfl) hd1 trivial ?_
    refine qp_br_E qp_ok145 (f := 3 ≤ a3) (ct := (184, [some (.ref 0), some (.long a1), none, some (.int a3), none], [], qp_mk I J)) (cf := (162, [some (.ref 0), some (.long a1), none, some (.int a3), none], [], qp_mk I J)) (by with_unfolding_all rfl) (fun h1 => ?_) (fun h1 => ?_)
    · replace h := qp_ift h1 h
      refine qp_run_E qp_ok145 5 (c' := (193, [some (.ref 0), some (.long a1), none, some (.int a3), none], [.long a1, .ref 1, .ref 4], qp_mk I J)) (by with_unfolding_all rfl) hd1 trivial ?_
      obtain ⟨v1, I1, J1, e1, h⟩ := qp_bd_s h
      refine qp_cV qp_ok145 (rest := [.ref 4]) (oj := 1) qp_f146 rfl rfl (gS_digested_1 l G a1 I J e1 (Nat.le_refl 4)) rfl rfl rfl rfl (Nat.le_trans (by decide) hd) ?_
      obtain ⟨v2, I2, J2, e2, h⟩ := qp_bd_s h
      refine qp_cV qp_ok145 (rest := []) (oj := 1) qp_f146 rfl rfl (gS_digested_4 l G v1 I1 J1 e2 (Nat.le_refl 4)) rfl rfl rfl rfl (Nat.le_trans (by decide) hd) ?_
      obtain rfl := Option.some.inj h
      exact qp_retL_E qp_ok145 rfl qp_r145.1 ⟨rfl, rfl⟩ ⟨rfl, rfl⟩
    · replace h := qp_iff h1 h
      refine qp_run_E qp_ok145 6 (c' := (172, [some (.ref 0), some (.long a1), none, some (.int a3), none], [.int a3, .ref 7, .long ((31 : Int64) * a1)], qp_mk I J)) (by with_unfolding_all rfl) hd1 trivial ?_
      obtain ⟨v3, I3, J3, e3, h⟩ := qp_bd_s h
      refine qp_cV qp_ok145 (rest := [.long ((31 : Int64) * a1)]) (oj := 1) qp_f22 rfl rfl (gS_sizeOf_7 l G a3 I J e3 (Nat.le_refl 2)) rfl rfl rfl rfl (Nat.le_trans (by decide) hd) ?_
      refine qp_run_E qp_ok145 5 (c' := (157, [some (.ref 0), some (.long (((31 : Int64) * a1) + (Int32.toInt64 v3))), none, some (.int (a3 + 1)), none], [], qp_mk I3 J3)) (by with_unfolding_all rfl) hd1 trivial ?_
      exact ih (((31 : Int64) * a1) + (Int32.toInt64 v3)) (a3 + 1) I3 J3 h
def fX_digest_b100  : Nat → Int64 → Int32 → (Nat → Nat → Int32) → (Nat → Nat → Int64) → Option (Int64 × (Nat → Nat → Int32) × (Nat → Nat → Int64))
  | 0, _, _, _, _ => none
  | n + 1, a1, a3, I, J =>
    if (I 14 4) ≤ a3 then (
      fX_digest_b157 100000 a1 0 I J
    ) else (
      qp_bd (fL_saleOf a3 I J) fun v1 I1 J1 =>
      qp_bd (fL_saleOf a3 I1 J1) fun v2 I2 J2 =>
      fX_digest_b100 n (((31 : Int64) * (((31 : Int64) * a1) + (Int32.toInt64 (v1 / 8)))) + (Int32.toInt64 (v2 - v2 / 8 * 8))) (a3 + 1) I2 J2
    )
set_option maxRecDepth 8000 in
theorem gX_digest_b100 {l : Launch} {G : qp_G} {d : Nat} (hd : 6 ≤ d) {r : (Int64 × (Nat → Nat → Int32) × (Nat → Nat → Int64))} {I0 : Nat → Nat → Int32} {J0 : Nat → Nat → Int64}   : ∀ (n : Nat) (a1 : Int64) (a3 : Int32) (I : Nat → Nat → Int32) (J : Nat → Nat → Int64), fX_digest_b100  n a1 a3 I J = some r → qp_E l G d 145 (qp_mk I0 J0) 0 0 (qp_R8 (some (.long r.1)) r.2.1 r.2.2) (100, [some (.ref 0), some (.long a1), none, some (.int a3), none], [], qp_mk I J) := by
  have hd1 : Nat.ble 1 d = true := Nat.ble_eq_true_of_le (Nat.le_trans (by decide) hd)
  intro n
  induction n with
  | zero => intro a1 a3 I J h; exact absurd h (by simp [fX_digest_b100])
  | succ n ih =>
    intro a1 a3 I J h
    rw [fX_digest_b100] at h
    refine qp_run_E qp_ok145 4 (c' := (108, [some (.ref 0), some (.long a1), none, some (.int a3), none], [.int (I 14 4), .int a3], qp_mk I J)) (by with_unfolding_all rfl) hd1 trivial ?_
    refine qp_br_E qp_ok145 (f := (I 14 4) ≤ a3) (ct := (155, [some (.ref 0), some (.long a1), none, some (.int a3), none], [], qp_mk I J)) (cf := (111, [some (.ref 0), some (.long a1), none, some (.int a3), none], [], qp_mk I J)) (by with_unfolding_all rfl) (fun h1 => ?_) (fun h1 => ?_)
    · replace h := qp_ift h1 h
      refine qp_run_E qp_ok145 2 (c' := (157, [some (.ref 0), some (.long a1), none, some (.int 0), none], [], qp_mk I J)) (by with_unfolding_all rfl) hd1 trivial ?_
      exact gX_digest_b157 hd 100000 a1 0 I J h
    · replace h := qp_iff h1 h
      refine qp_run_E qp_ok145 6 (c' := (121, [some (.ref 0), some (.long a1), none, some (.int a3), none], [.int a3, .ref 14, .long ((31 : Int64) * a1)], qp_mk I J)) (by with_unfolding_all rfl) hd1 trivial ?_
      obtain ⟨v1, I1, J1, e1, h⟩ := qp_bd_s h
      refine qp_cV qp_ok145 (rest := [.long ((31 : Int64) * a1)]) (oj := 4) qp_f90 rfl rfl (gL_saleOf l G a3 I J e1 (Nat.le_refl 1)) rfl rfl rfl rfl (Nat.le_trans (by decide) hd) ?_
      refine qp_run_E qp_ok145 11 (f := ¬ (8 : Int32) = 0 ∧ True) (c' := (140, [some (.ref 0), some (.long (((31 : Int64) * a1) + (Int32.toInt64 (v1 / 8)))), none, some (.int a3), none], [.int a3, .ref 14, .long ((31 : Int64) * (((31 : Int64) * a1) + (Int32.toInt64 (v1 / 8))))], qp_mk I1 J1)) (by with_unfolding_all rfl) hd1 ⟨(by decide), trivial⟩ ?_
      obtain ⟨v2, I2, J2, e2, h⟩ := qp_bd_s h
      refine qp_cV qp_ok145 (rest := [.long ((31 : Int64) * (((31 : Int64) * a1) + (Int32.toInt64 (v1 / 8))))]) (oj := 4) qp_f90 rfl rfl (gL_saleOf l G a3 I1 J1 e2 (Nat.le_refl 1)) rfl rfl rfl rfl (Nat.le_trans (by decide) hd) ?_
      refine qp_run_E qp_ok145 7 (f := ¬ (8 : Int32) = 0 ∧ True) (c' := (100, [some (.ref 0), some (.long (((31 : Int64) * (((31 : Int64) * a1) + (Int32.toInt64 (v1 / 8)))) + (Int32.toInt64 (v2 - v2 / 8 * 8)))), none, some (.int (a3 + 1)), none], [], qp_mk I2 J2)) (by with_unfolding_all rfl) hd1 ⟨(by decide), trivial⟩ ?_
      exact ih (((31 : Int64) * (((31 : Int64) * a1) + (Int32.toInt64 (v1 / 8)))) + (Int32.toInt64 (v2 - v2 / 8 * 8))) (a3 + 1) I2 J2 h
def fX_digest_b64  (k47 : Int64 → Int32 → (Nat → Nat → Int32) → (Nat → Nat → Int64) → Option (Int64 × (Nat → Nat → Int32) × (Nat → Nat → Int64))) : Nat → Int64 → Int32 → Int32 → (Nat → Nat → Int32) → (Nat → Nat → Int64) → Option (Int64 × (Nat → Nat → Int32) × (Nat → Nat → Int64))
  | 0, _, _, _, _, _ => none
  | n + 1, a1, a3, a4, I, J =>
    if 6 < a4 then (
      k47 a1 (a3 + 1) I J
    ) else (
      qp_bd (fX_trait a3 a4 I J) fun v1 I1 J1 =>
      fX_digest_b64 k47 n (((31 : Int64) * a1) + (Int32.toInt64 v1)) a3 (a4 + 1) I1 J1
    )
set_option maxRecDepth 8000 in
theorem gX_digest_b64 {l : Launch} {G : qp_G} {d : Nat} (hd : 6 ≤ d) {r : (Int64 × (Nat → Nat → Int32) × (Nat → Nat → Int64))} {I0 : Nat → Nat → Int32} {J0 : Nat → Nat → Int64}  (k47 : Int64 → Int32 → (Nat → Nat → Int32) → (Nat → Nat → Int64) → Option (Int64 × (Nat → Nat → Int32) × (Nat → Nat → Int64))) (hk47 : ∀ a1 a3 I J, k47 a1 a3 I J = some r → qp_E l G d 145 (qp_mk I0 J0) 0 0 (qp_R8 (some (.long r.1)) r.2.1 r.2.2) (47, [some (.ref 0), some (.long a1), none, some (.int a3), none], [], qp_mk I J)) : ∀ (n : Nat) (a1 : Int64) (a3 : Int32) (a4 : Int32) (I : Nat → Nat → Int32) (J : Nat → Nat → Int64), fX_digest_b64 k47 n a1 a3 a4 I J = some r → qp_E l G d 145 (qp_mk I0 J0) 0 0 (qp_R8 (some (.long r.1)) r.2.1 r.2.2) (64, [some (.ref 0), some (.long a1), none, some (.int a3), some (.int a4)], [], qp_mk I J) := by
  have hd1 : Nat.ble 1 d = true := Nat.ble_eq_true_of_le (Nat.le_trans (by decide) hd)
  intro n
  induction n with
  | zero => intro a1 a3 a4 I J h; exact absurd h (by simp [fX_digest_b64])
  | succ n ih =>
    intro a1 a3 a4 I J h
    rw [fX_digest_b64] at h
    refine qp_run_E qp_ok145 2 (c' := (68, [some (.ref 0), some (.long a1), none, some (.int a3), some (.int a4)], [.int 6, .int a4], qp_mk I J)) (by with_unfolding_all rfl) hd1 trivial ?_
    refine qp_br_E qp_ok145 (f := 6 < a4) (ct := (92, [some (.ref 0), some (.long a1), none, some (.int a3), some (.int a4)], [], qp_mk I J)) (cf := (71, [some (.ref 0), some (.long a1), none, some (.int a3), some (.int a4)], [], qp_mk I J)) (by with_unfolding_all rfl) (fun h1 => ?_) (fun h1 => ?_)
    · replace h := qp_ift h1 h
      refine qp_run_E qp_ok145 2 (c' := (47, [some (.ref 0), some (.long a1), none, some (.int (a3 + 1)), some (.int a4)], [], qp_mk I J)) (by with_unfolding_all rfl) hd1 trivial ?_
      exact qp_E_fg [true, true, false, true, false] (hk47 a1 (a3 + 1) I J h)
    · replace h := qp_iff h1 h
      refine qp_run_E qp_ok145 6 (c' := (80, [some (.ref 0), some (.long a1), none, some (.int a3), some (.int a4)], [.int a4, .int a3, .ref 0, .long ((31 : Int64) * a1)], qp_mk I J)) (by with_unfolding_all rfl) hd1 trivial ?_
      obtain ⟨v1, I1, J1, e1, h⟩ := qp_bd_s h
      refine qp_cV qp_ok145 (rest := [.long ((31 : Int64) * a1)]) (oj := 0) qp_f60 rfl rfl (gX_trait l G a3 a4 I J e1 (Nat.le_refl 5)) rfl rfl rfl rfl (Nat.le_trans (by decide) hd) ?_
      refine qp_run_E qp_ok145 5 (c' := (64, [some (.ref 0), some (.long (((31 : Int64) * a1) + (Int32.toInt64 v1))), none, some (.int a3), some (.int (a4 + 1))], [], qp_mk I1 J1)) (by with_unfolding_all rfl) hd1 trivial ?_
      exact ih (((31 : Int64) * a1) + (Int32.toInt64 v1)) a3 (a4 + 1) I1 J1 h
def fX_digest_b47  : Nat → Int64 → Int32 → (Nat → Nat → Int32) → (Nat → Nat → Int64) → Option (Int64 × (Nat → Nat → Int32) × (Nat → Nat → Int64))
  | 0, _, _, _, _ => none
  | n + 1, a1, a3, I, J =>
    if (I 15 0) ≤ a3 then (
      fX_digest_b100 100000 a1 0 I J
    ) else (
      fX_digest_b64 (fun a0 a1 I J => fX_digest_b47 n a0 a1 I J) 100000 a1 a3 0 I J
    )
set_option maxRecDepth 8000 in
theorem gX_digest_b47 {l : Launch} {G : qp_G} {d : Nat} (hd : 6 ≤ d) {r : (Int64 × (Nat → Nat → Int32) × (Nat → Nat → Int64))} {I0 : Nat → Nat → Int32} {J0 : Nat → Nat → Int64}   : ∀ (n : Nat) (a1 : Int64) (a3 : Int32) (I : Nat → Nat → Int32) (J : Nat → Nat → Int64), fX_digest_b47  n a1 a3 I J = some r → qp_E l G d 145 (qp_mk I0 J0) 0 0 (qp_R8 (some (.long r.1)) r.2.1 r.2.2) (47, [some (.ref 0), some (.long a1), none, some (.int a3), none], [], qp_mk I J) := by
  have hd1 : Nat.ble 1 d = true := Nat.ble_eq_true_of_le (Nat.le_trans (by decide) hd)
  intro n
  induction n with
  | zero => intro a1 a3 I J h; exact absurd h (by simp [fX_digest_b47])
  | succ n ih =>
    intro a1 a3 I J h
    rw [fX_digest_b47] at h
    refine qp_run_E qp_ok145 5 (c' := (58, [some (.ref 0), some (.long a1), none, some (.int a3), none], [.int (I 15 0), .int a3], qp_mk I J)) (by with_unfolding_all rfl) hd1 trivial ?_
    refine qp_br_E qp_ok145 (f := (I 15 0) ≤ a3) (ct := (98, [some (.ref 0), some (.long a1), none, some (.int a3), none], [], qp_mk I J)) (cf := (61, [some (.ref 0), some (.long a1), none, some (.int a3), none], [], qp_mk I J)) (by with_unfolding_all rfl) (fun h1 => ?_) (fun h1 => ?_)
    · replace h := qp_ift h1 h
      refine qp_run_E qp_ok145 2 (c' := (100, [some (.ref 0), some (.long a1), none, some (.int 0), none], [], qp_mk I J)) (by with_unfolding_all rfl) hd1 trivial ?_
      exact gX_digest_b100 hd 100000 a1 0 I J h
    · replace h := qp_iff h1 h
      refine qp_run_E qp_ok145 2 (c' := (64, [some (.ref 0), some (.long a1), none, some (.int a3), some (.int 0)], [], qp_mk I J)) (by with_unfolding_all rfl) hd1 trivial ?_
      exact gX_digest_b64 hd (fun a0 a1 I J => fX_digest_b47 n a0 a1 I J) (fun a0 a1 I J h => ih a0 a1 I J h) 100000 a1 a3 0 I J h
def fX_digest_b20  : Nat → Int64 → Int32 → (Nat → Nat → Int32) → (Nat → Nat → Int64) → Option (Int64 × (Nat → Nat → Int32) × (Nat → Nat → Int64))
  | 0, _, _, _, _ => none
  | n + 1, a1, a3, I, J =>
    if 11 < a3 then (
      fX_digest_b47 100000 a1 0 I J
    ) else (
      qp_bd (fX_amount a3 I J) fun v1 I1 J1 =>
      fX_digest_b20 n (((31 : Int64) * a1) + (Int32.toInt64 v1)) (a3 + 1) I1 J1
    )
set_option maxRecDepth 8000 in
theorem gX_digest_b20 {l : Launch} {G : qp_G} {d : Nat} (hd : 6 ≤ d) {r : (Int64 × (Nat → Nat → Int32) × (Nat → Nat → Int64))} {I0 : Nat → Nat → Int32} {J0 : Nat → Nat → Int64}   : ∀ (n : Nat) (a1 : Int64) (a3 : Int32) (I : Nat → Nat → Int32) (J : Nat → Nat → Int64), fX_digest_b20  n a1 a3 I J = some r → qp_E l G d 145 (qp_mk I0 J0) 0 0 (qp_R8 (some (.long r.1)) r.2.1 r.2.2) (20, [some (.ref 0), some (.long a1), none, some (.int a3), none], [], qp_mk I J) := by
  have hd1 : Nat.ble 1 d = true := Nat.ble_eq_true_of_le (Nat.le_trans (by decide) hd)
  intro n
  induction n with
  | zero => intro a1 a3 I J h; exact absurd h (by simp [fX_digest_b20])
  | succ n ih =>
    intro a1 a3 I J h
    rw [fX_digest_b20] at h
    refine qp_run_E qp_ok145 2 (c' := (23, [some (.ref 0), some (.long a1), none, some (.int a3), none], [.int 11, .int a3], qp_mk I J)) (by with_unfolding_all rfl) hd1 trivial ?_
    refine qp_br_E qp_ok145 (f := 11 < a3) (ct := (45, [some (.ref 0), some (.long a1), none, some (.int a3), none], [], qp_mk I J)) (cf := (26, [some (.ref 0), some (.long a1), none, some (.int a3), none], [], qp_mk I J)) (by with_unfolding_all rfl) (fun h1 => ?_) (fun h1 => ?_)
    · replace h := qp_ift h1 h
      refine qp_run_E qp_ok145 2 (c' := (47, [some (.ref 0), some (.long a1), none, some (.int 0), none], [], qp_mk I J)) (by with_unfolding_all rfl) hd1 trivial ?_
      exact gX_digest_b47 hd 100000 a1 0 I J h
    · replace h := qp_iff h1 h
      refine qp_run_E qp_ok145 5 (c' := (33, [some (.ref 0), some (.long a1), none, some (.int a3), none], [.int a3, .ref 0, .long ((31 : Int64) * a1)], qp_mk I J)) (by with_unfolding_all rfl) hd1 trivial ?_
      obtain ⟨v1, I1, J1, e1, h⟩ := qp_bd_s h
      refine qp_cV qp_ok145 (rest := [.long ((31 : Int64) * a1)]) (oj := 0) qp_f140 rfl rfl (gX_amount l G a3 I J e1 (Nat.le_refl 5)) rfl rfl rfl rfl (Nat.le_trans (by decide) hd) ?_
      refine qp_run_E qp_ok145 5 (c' := (20, [some (.ref 0), some (.long (((31 : Int64) * a1) + (Int32.toInt64 v1))), none, some (.int (a3 + 1)), none], [], qp_mk I1 J1)) (by with_unfolding_all rfl) hd1 trivial ?_
      exact ih (((31 : Int64) * a1) + (Int32.toInt64 v1)) (a3 + 1) I1 J1 h
def fX_digest  (I : Nat → Nat → Int32) (J : Nat → Nat → Int64) : Option (Int64 × (Nat → Nat → Int32) × (Nat → Nat → Int64)) :=
  qp_bd (fL_serve (I 14 2) I J) fun _u I1 J1 =>
  fX_digest_b20 100000 17 0 I1 J1
set_option maxRecDepth 8000 in
theorem gX_digest (l : Launch) (G : qp_G)  (I : Nat → Nat → Int32) (J : Nat → Nat → Int64) {v : Int64} {I' : Nat → Nat → Int32} {J' : Nat → Nat → Int64} (h : fX_digest  I J = some (v, I', J')) {d : Nat} (hd : 6 ≤ d) : qp_Met l G d 145 [.ref 0] (qp_mk I J) 0 0 (qp_R8 (some (.long v)) I' J') := by
  have hd1 : Nat.ble 1 d = true := Nat.ble_eq_true_of_le (Nat.le_trans (by decide) hd)
  refine qp_Met_of (by decide) (by rw [qp_r145.2]; rfl) [some (.ref 0), none, none, none, none] (by rw [qp_r145.2]; rfl) ?_
  unfold fX_digest at h
  refine qp_run_E qp_ok145 5 (c' := (11, [some (.ref 0), none, none, none, none], [.int (I 14 2), .ref 14], qp_mk I J)) (by with_unfolding_all rfl) hd1 trivial ?_
  obtain ⟨v1, I1, J1, e1, h⟩ := qp_bd_s h
  refine qp_cV qp_ok145 (rest := []) (oj := 4) qp_f54 rfl rfl (gL_serve l G (I 14 2) I J e1 (Nat.le_refl 4)) rfl rfl rfl rfl (Nat.le_trans (by decide) hd) ?_
  refine qp_run_E qp_ok145 4 (c' := (20, [some (.ref 0), some (.long 17), none, some (.int 0), none], [], qp_mk I1 J1)) (by with_unfolding_all rfl) hd1 trivial ?_
  exact gX_digest_b20 hd 100000 17 0 I1 J1 h
def fM_in (p0 : Int64) (p2 : Int64) (p4 : Int64) (I : Nat → Nat → Int32) (J : Nat → Nat → Int64) : Option (Int32 × (Nat → Nat → Int32) × (Nat → Nat → Int64)) :=
  if (lg_cmp p0 p2) < 0 then (
    some (0, I, J)
  ) else (
    if 0 < (lg_cmp p0 p4) then (
      some (0, I, J)
    ) else (
      some (1, I, J)
    )
  )
set_option maxRecDepth 8000 in
theorem gM_in (l : Launch) (G : qp_G) (p0 : Int64) (p2 : Int64) (p4 : Int64) (I : Nat → Nat → Int32) (J : Nat → Nat → Int64) {v : Int32} {I' : Nat → Nat → Int32} {J' : Nat → Nat → Int64} (h : fM_in p0 p2 p4 I J = some (v, I', J')) {d : Nat} (hd : 1 ≤ d) : qp_Met l G d 150 [.long p0, .long p2, .long p4] (qp_mk I J) 0 0 (qp_R8 (some (.int v)) I' J') := by
  have hd1 : Nat.ble 1 d = true := Nat.ble_eq_true_of_le (Nat.le_trans (by decide) hd)
  refine qp_Met_of (by decide) (by rw [qp_r150.2]; rfl) [some (.long p0), none, some (.long p2), none, some (.long p4), none] (by rw [qp_r150.2]; rfl) ?_
  unfold fM_in at h
  refine qp_run_E qp_ok150 3 (c' := (3, [some (.long p0), none, some (.long p2), none, some (.long p4), none], [.int (lg_cmp p0 p2)], qp_mk I J)) (by with_unfolding_all rfl) hd1 trivial ?_
  refine qp_br_E qp_ok150 (f := (lg_cmp p0 p2) < 0) (ct := (17, [some (.long p0), none, some (.long p2), none, some (.long p4), none], [], qp_mk I J)) (cf := (6, [some (.long p0), none, some (.long p2), none, some (.long p4), none], [], qp_mk I J)) (by with_unfolding_all rfl) (fun h1 => ?_) (fun h1 => ?_)
  · replace h := qp_ift h1 h
    refine qp_run_E qp_ok150 1 (c' := (18, [some (.long p0), none, some (.long p2), none, some (.long p4), none], [.int 0], qp_mk I J)) (by with_unfolding_all rfl) hd1 trivial ?_
    obtain ⟨rfl, rfl, rfl⟩ := qp_some3 h
    exact qp_retZ_E qp_ok150 rfl qp_r150.1 rfl ⟨rfl, rfl⟩ ⟨rfl, rfl⟩
  · replace h := qp_iff h1 h
    refine qp_run_E qp_ok150 3 (c' := (10, [some (.long p0), none, some (.long p2), none, some (.long p4), none], [.int (lg_cmp p0 p4)], qp_mk I J)) (by with_unfolding_all rfl) hd1 trivial ?_
    refine qp_br_E qp_ok150 (f := 0 < (lg_cmp p0 p4)) (ct := (17, [some (.long p0), none, some (.long p2), none, some (.long p4), none], [], qp_mk I J)) (cf := (13, [some (.long p0), none, some (.long p2), none, some (.long p4), none], [], qp_mk I J)) (by with_unfolding_all rfl) (fun h2 => ?_) (fun h2 => ?_)
    · replace h := qp_ift h2 h
      refine qp_run_E qp_ok150 1 (c' := (18, [some (.long p0), none, some (.long p2), none, some (.long p4), none], [.int 0], qp_mk I J)) (by with_unfolding_all rfl) hd1 trivial ?_
      obtain ⟨rfl, rfl, rfl⟩ := qp_some3 h
      exact qp_retZ_E qp_ok150 rfl qp_r150.1 rfl ⟨rfl, rfl⟩ ⟨rfl, rfl⟩
    · replace h := qp_iff h2 h
      refine qp_run_E qp_ok150 2 (c' := (18, [some (.long p0), none, some (.long p2), none, some (.long p4), none], [.int 1], qp_mk I J)) (by with_unfolding_all rfl) hd1 trivial ?_
      obtain ⟨rfl, rfl, rfl⟩ := qp_some3 h
      exact qp_retZ_E qp_ok150 rfl qp_r150.1 rfl ⟨rfl, rfl⟩ ⟨rfl, rfl⟩
def fM_isRow (p0 : Int32) (I : Nat → Nat → Int32) (J : Nat → Nat → Int64) : Option (Int32 × (Nat → Nat → Int32) × (Nat → Nat → Int64)) :=
  qp_bd (fM_in (Int32.toInt64 p0) 0 5 I J) fun v1 I1 J1 =>
  qp_gd (v1 = 0 ∨ v1 = 1) <| some (v1, I1, J1)
set_option maxRecDepth 8000 in
theorem gM_isRow (l : Launch) (G : qp_G) (p0 : Int32) (I : Nat → Nat → Int32) (J : Nat → Nat → Int64) {v : Int32} {I' : Nat → Nat → Int32} {J' : Nat → Nat → Int64} (h : fM_isRow p0 I J = some (v, I', J')) {d : Nat} (hd : 2 ≤ d) : qp_Met l G d 149 [.int p0] (qp_mk I J) 0 0 (qp_R8 (some (.int v)) I' J') := by
  have hd1 : Nat.ble 1 d = true := Nat.ble_eq_true_of_le (Nat.le_trans (by decide) hd)
  refine qp_Met_of (by decide) (by rw [qp_r149.2]; rfl) [some (.int p0)] (by rw [qp_r149.2]; rfl) ?_
  unfold fM_isRow at h
  refine qp_run_E qp_ok149 4 (c' := (6, [some (.int p0)], [.long 5, .long 0, .long (Int32.toInt64 p0)], qp_mk I J)) (by with_unfolding_all rfl) hd1 trivial ?_
  obtain ⟨v1, I1, J1, e1, h⟩ := qp_bd_s h
  refine qp_cS qp_ok149 (rest := []) (oj := 10) qp_f150 rfl rfl (gM_in l G (Int32.toInt64 p0) 0 5 I J e1 (Nat.le_refl 1)) rfl rfl rfl (Nat.le_trans (by decide) hd) ?_
  obtain ⟨h1, h⟩ := qp_gd_s h
  obtain ⟨rfl, rfl, rfl⟩ := qp_some3 h
  exact qp_retZ_E qp_ok149 rfl qp_r149.1 (qp_nar01 h1) ⟨rfl, rfl⟩ ⟨rfl, rfl⟩
def fM_finds (p1 : Int32) (I : Nat → Nat → Int32) (J : Nat → Nat → Int64) : Option (Int32 × (Nat → Nat → Int32) × (Nat → Nat → Int64)) :=
  qp_gd ((0 ≤ p1 ∧ p1 < 6)) <|
  some ((-3), (qp_up (qp_up I 36 8 p1) 44 (Int32.toNatClampNeg p1) ((I 44 (Int32.toNatClampNeg p1)) + 1)), J)
set_option maxRecDepth 8000 in
theorem gM_finds (l : Launch) (G : qp_G) (p1 : Int32) (I : Nat → Nat → Int32) (J : Nat → Nat → Int64) {v : Int32} {I' : Nat → Nat → Int32} {J' : Nat → Nat → Int64} (h : fM_finds p1 I J = some (v, I', J')) {d : Nat} (hd : 1 ≤ d) : qp_Met l G d 151 [.ref 36, .int p1] (qp_mk I J) 0 0 (qp_R8 (some (.int v)) I' J') := by
  have hd1 : Nat.ble 1 d = true := Nat.ble_eq_true_of_le (Nat.le_trans (by decide) hd)
  refine qp_Met_of (by decide) (by rw [qp_r151.2]; rfl) [some (.ref 36), some (.int p1)] (by rw [qp_r151.2]; rfl) ?_
  unfold fM_finds at h
  obtain ⟨h1, h⟩ := qp_gd_s h
  refine qp_run_E qp_ok151 12 (f := vp_in p1 6 ∧ vp_in p1 6 ∧ True) (c' := (17, [some (.ref 36), some (.int p1)], [.int (-3)], qp_mk (qp_up (qp_up I 36 8 p1) 44 (Int32.toNatClampNeg p1) ((I 44 (Int32.toNatClampNeg p1)) + 1)) J)) (by with_unfolding_all rfl) hd1 ⟨(qp_vin (c := 6) (by decide) h1.1 h1.2), (qp_vin (c := 6) (by decide) h1.1 h1.2), trivial⟩ ?_
  obtain ⟨rfl, rfl, rfl⟩ := qp_some3 h
  exact qp_retI_E qp_ok151 rfl qp_r151.1 ⟨rfl, rfl⟩ ⟨rfl, rfl⟩
def fM_row_b34  : Nat → Int32 → Int32 → Int32 → (Nat → Nat → Int32) → (Nat → Nat → Int64) → Option (Int32 × (Nat → Nat → Int32) × (Nat → Nat → Int64))
  | 0, _, _, _, _, _ => none
  | n + 1, a1, a2, a3, I, J =>
    if a2 ≤ a3 then (
      some (a2, I, J)
    ) else (
      qp_gd ((0 ≤ (((40 : Int32) * a1) + a3) ∧ (((40 : Int32) * a1) + a3) < 240)) <|
      fM_row_b34 n a1 a2 (a3 + 1) (qp_up I 40 (Int32.toNatClampNeg (((40 : Int32) * a1) + a3)) 0) J
    )
set_option maxRecDepth 8000 in
theorem gM_row_b34 {l : Launch} {G : qp_G} {d : Nat} (hd : 3 ≤ d) {r : (Int32 × (Nat → Nat → Int32) × (Nat → Nat → Int64))} {I0 : Nat → Nat → Int32} {J0 : Nat → Nat → Int64}   : ∀ (n : Nat) (a1 : Int32) (a2 : Int32) (a3 : Int32) (I : Nat → Nat → Int32) (J : Nat → Nat → Int64), fM_row_b34  n a1 a2 a3 I J = some r → qp_E l G d 148 (qp_mk I0 J0) 0 0 (qp_R8 (some (.int r.1)) r.2.1 r.2.2) (34, [some (.ref 36), some (.int a1), some (.int a2), some (.int a3)], [], qp_mk I J) := by
  have hd1 : Nat.ble 1 d = true := Nat.ble_eq_true_of_le (Nat.le_trans (by decide) hd)
  intro n
  induction n with
  | zero => intro a1 a2 a3 I J h; exact absurd h (by simp [fM_row_b34])
  | succ n ih =>
    intro a1 a2 a3 I J h
    rw [fM_row_b34] at h
    refine qp_run_E qp_ok148 2 (c' := (36, [some (.ref 36), some (.int a1), some (.int a2), some (.int a3)], [.int a2, .int a3], qp_mk I J)) (by with_unfolding_all rfl) hd1 trivial ?_
    refine qp_br_E qp_ok148 (f := a2 ≤ a3) (ct := (57, [some (.ref 36), some (.int a1), some (.int a2), some (.int a3)], [], qp_mk I J)) (cf := (39, [some (.ref 36), some (.int a1), some (.int a2), some (.int a3)], [], qp_mk I J)) (by with_unfolding_all rfl) (fun h1 => ?_) (fun h1 => ?_)
    · replace h := qp_ift h1 h
      refine qp_run_E qp_ok148 1 (c' := (58, [some (.ref 36), some (.int a1), some (.int a2), some (.int a3)], [.int a2], qp_mk I J)) (by with_unfolding_all rfl) hd1 trivial ?_
      obtain rfl := Option.some.inj h
      exact qp_retI_E qp_ok148 rfl qp_r148.1 ⟨rfl, rfl⟩ ⟨rfl, rfl⟩
    · replace h := qp_iff h1 h
      obtain ⟨h2, h⟩ := qp_gd_s h
      refine qp_run_E qp_ok148 11 (f := vp_in (((40 : Int32) * a1) + a3) 240 ∧ True) (c' := (34, [some (.ref 36), some (.int a1), some (.int a2), some (.int (a3 + 1))], [], qp_mk (qp_up I 40 (Int32.toNatClampNeg (((40 : Int32) * a1) + a3)) 0) J)) (by with_unfolding_all rfl) hd1 ⟨(qp_vin (c := 240) (by decide) h2.1 h2.2), trivial⟩ ?_
      exact ih a1 a2 (a3 + 1) (qp_up I 40 (Int32.toNatClampNeg (((40 : Int32) * a1) + a3)) 0) J h
def fM_row (p1 : Int32) (p2 : Int32) (I : Nat → Nat → Int32) (J : Nat → Nat → Int64) : Option (Int32 × (Nat → Nat → Int32) × (Nat → Nat → Int64)) :=
  qp_bd (fM_isRow p1 I J) fun v1 I1 J1 =>
  if v1 = 0 then (
    some ((-1), I1, J1)
  ) else (
    if p2 ≤ 40 then (
      if 0 ≤ p2 then (
        qp_gd ((0 ≤ p1 ∧ p1 < 6)) <|
        fM_row_b34 100000 p1 p2 0 (qp_up I1 41 (Int32.toNatClampNeg p1) p2) J1
      ) else (
        qp_bd (fM_finds 5 I1 J1) fun v2 I2 J2 =>
        some (v2, I2, J2)
      )
    ) else (
      some ((-1), I1, J1)
    )
  )
set_option maxRecDepth 8000 in
theorem gM_row (l : Launch) (G : qp_G) (p1 : Int32) (p2 : Int32) (I : Nat → Nat → Int32) (J : Nat → Nat → Int64) {v : Int32} {I' : Nat → Nat → Int32} {J' : Nat → Nat → Int64} (h : fM_row p1 p2 I J = some (v, I', J')) {d : Nat} (hd : 3 ≤ d) : qp_Met l G d 148 [.ref 36, .int p1, .int p2] (qp_mk I J) 0 0 (qp_R8 (some (.int v)) I' J') := by
  have hd1 : Nat.ble 1 d = true := Nat.ble_eq_true_of_le (Nat.le_trans (by decide) hd)
  refine qp_Met_of (by decide) (by rw [qp_r148.2]; rfl) [some (.ref 36), some (.int p1), some (.int p2), none] (by rw [qp_r148.2]; rfl) ?_
  unfold fM_row at h
  refine qp_run_E qp_ok148 1 (c' := (1, [some (.ref 36), some (.int p1), some (.int p2), none], [.int p1], qp_mk I J)) (by with_unfolding_all rfl) hd1 trivial ?_
  obtain ⟨v1, I1, J1, e1, h⟩ := qp_bd_s h
  refine qp_cS qp_ok148 (rest := []) (oj := 10) qp_f149 rfl rfl (gM_isRow l G p1 I J e1 (Nat.le_refl 2)) rfl rfl rfl (Nat.le_trans (by decide) hd) ?_
  refine qp_br_E qp_ok148 (f := v1 = 0) (ct := (13, [some (.ref 36), some (.int p1), some (.int p2), none], [], qp_mk I1 J1)) (cf := (7, [some (.ref 36), some (.int p1), some (.int p2), none], [], qp_mk I1 J1)) (by with_unfolding_all rfl) (fun h1 => ?_) (fun h1 => ?_)
  · replace h := qp_ift h1 h
    refine qp_run_E qp_ok148 1 (c' := (14, [some (.ref 36), some (.int p1), some (.int p2), none], [.int (-1)], qp_mk I1 J1)) (by with_unfolding_all rfl) hd1 trivial ?_
    obtain ⟨rfl, rfl, rfl⟩ := qp_some3 h
    exact qp_retI_E qp_ok148 rfl qp_r148.1 ⟨rfl, rfl⟩ ⟨rfl, rfl⟩
  · replace h := qp_iff h1 h
    refine qp_run_E qp_ok148 2 (c' := (10, [some (.ref 36), some (.int p1), some (.int p2), none], [.int 40, .int p2], qp_mk I1 J1)) (by with_unfolding_all rfl) hd1 trivial ?_
    refine qp_br_E qp_ok148 (f := p2 ≤ 40) (ct := (15, [some (.ref 36), some (.int p1), some (.int p2), none], [], qp_mk I1 J1)) (cf := (13, [some (.ref 36), some (.int p1), some (.int p2), none], [], qp_mk I1 J1)) (by with_unfolding_all rfl) (fun h2 => ?_) (fun h2 => ?_)
    · replace h := qp_ift h2 h
      refine qp_run_E qp_ok148 1 (c' := (16, [some (.ref 36), some (.int p1), some (.int p2), none], [.int p2], qp_mk I1 J1)) (by with_unfolding_all rfl) hd1 trivial ?_
      refine qp_br_E qp_ok148 (f := 0 ≤ p2) (ct := (25, [some (.ref 36), some (.int p1), some (.int p2), none], [], qp_mk I1 J1)) (cf := (19, [some (.ref 36), some (.int p1), some (.int p2), none], [], qp_mk I1 J1)) (by with_unfolding_all rfl) (fun h3 => ?_) (fun h3 => ?_)
      · replace h := qp_ift h3 h
        obtain ⟨h4, h⟩ := qp_gd_s h
        refine qp_run_E qp_ok148 7 (f := vp_in p1 6 ∧ True) (c' := (34, [some (.ref 36), some (.int p1), some (.int p2), some (.int 0)], [], qp_mk (qp_up I1 41 (Int32.toNatClampNeg p1) p2) J1)) (by with_unfolding_all rfl) hd1 ⟨(qp_vin (c := 6) (by decide) h4.1 h4.2), trivial⟩ ?_
        exact gM_row_b34 hd 100000 p1 p2 0 (qp_up I1 41 (Int32.toNatClampNeg p1) p2) J1 h
      · replace h := qp_iff h3 h
        refine qp_run_E qp_ok148 2 (c' := (21, [some (.ref 36), some (.int p1), some (.int p2), none], [.int 5, .ref 36], qp_mk I1 J1)) (by with_unfolding_all rfl) hd1 trivial ?_
        obtain ⟨v2, I2, J2, e2, h⟩ := qp_bd_s h
        refine qp_cV qp_ok148 (rest := []) (oj := 10) qp_f151 rfl rfl (gM_finds l G 5 I1 J1 e2 (Nat.le_refl 1)) rfl rfl rfl rfl (Nat.le_trans (by decide) hd) ?_
        obtain ⟨rfl, rfl, rfl⟩ := qp_some3 h
        exact qp_retI_E qp_ok148 rfl qp_r148.1 ⟨rfl, rfl⟩ ⟨rfl, rfl⟩
    · replace h := qp_iff h2 h
      refine qp_run_E qp_ok148 1 (c' := (14, [some (.ref 36), some (.int p1), some (.int p2), none], [.int (-1)], qp_mk I1 J1)) (by with_unfolding_all rfl) hd1 trivial ?_
      obtain ⟨rfl, rfl, rfl⟩ := qp_some3 h
      exact qp_retI_E qp_ok148 rfl qp_r148.1 ⟨rfl, rfl⟩ ⟨rfl, rfl⟩
def fM_asks (p1 : Int32) (I : Nat → Nat → Int32) (J : Nat → Nat → Int64) : Option (Int32 × (Nat → Nat → Int32) × (Nat → Nat → Int64)) :=
  some (1, (qp_up I 36 9 p1), J)
set_option maxRecDepth 8000 in
theorem gM_asks (l : Launch) (G : qp_G) (p1 : Int32) (I : Nat → Nat → Int32) (J : Nat → Nat → Int64) {v : Int32} {I' : Nat → Nat → Int32} {J' : Nat → Nat → Int64} (h : fM_asks p1 I J = some (v, I', J')) {d : Nat} (hd : 1 ≤ d) : qp_Met l G d 154 [.ref 36, .int p1] (qp_mk I J) 0 0 (qp_R8 (some (.int v)) I' J') := by
  have hd1 : Nat.ble 1 d = true := Nat.ble_eq_true_of_le (Nat.le_trans (by decide) hd)
  refine qp_Met_of (by decide) (by rw [qp_r154.2]; rfl) [some (.ref 36), some (.int p1)] (by rw [qp_r154.2]; rfl) ?_
  unfold fM_asks at h
  refine qp_run_E qp_ok154 4 (c' := (6, [some (.ref 36), some (.int p1)], [.int 1], qp_mk (qp_up I 36 9 p1) J)) (by with_unfolding_all rfl) hd1 trivial ?_
  obtain ⟨rfl, rfl, rfl⟩ := qp_some3 h
  exact qp_retI_E qp_ok154 rfl qp_r154.1 ⟨rfl, rfl⟩ ⟨rfl, rfl⟩
def fM_at (p1 : Int32) (p2 : Int32) (I : Nat → Nat → Int32) (J : Nat → Nat → Int64) : Option (Int32 × (Nat → Nat → Int32) × (Nat → Nat → Int64)) :=
  qp_bd (fM_isRow p1 I J) fun v1 I1 J1 =>
  if ¬ v1 = 0 then (
    qp_gd ((0 ≤ p1 ∧ p1 < 6)) <|
    if 0 ≤ (I1 41 (Int32.toNatClampNeg p1)) then (
      qp_gd ((0 ≤ p1 ∧ p1 < 6)) <|
      qp_bd (fM_in (Int32.toInt64 p2) 0 (Int32.toInt64 ((I1 41 (Int32.toNatClampNeg p1)) - 1)) I1 J1) fun v2 I2 J2 =>
      if v2 = 0 then (
        qp_bd (fM_finds 2 I2 J2) fun v3 I3 J3 =>
        some (v3, I3, J3)
      ) else (
        qp_gd ((0 ≤ (((40 : Int32) * p1) + p2) ∧ (((40 : Int32) * p1) + p2) < 240)) <|
        qp_bd (fM_asks (I2 40 (Int32.toNatClampNeg (((40 : Int32) * p1) + p2))) I2 J2) fun v4 I4 J4 =>
        some (v4, I4, J4)
      )
    ) else (
      qp_bd (fM_finds 1 I1 J1) fun v5 I5 J5 =>
      some (v5, I5, J5)
    )
  ) else (
    some ((-1), I1, J1)
  )
set_option maxRecDepth 8000 in
theorem gM_at (l : Launch) (G : qp_G) (p1 : Int32) (p2 : Int32) (I : Nat → Nat → Int32) (J : Nat → Nat → Int64) {v : Int32} {I' : Nat → Nat → Int32} {J' : Nat → Nat → Int64} (h : fM_at p1 p2 I J = some (v, I', J')) {d : Nat} (hd : 3 ≤ d) : qp_Met l G d 153 [.ref 36, .int p1, .int p2] (qp_mk I J) 0 0 (qp_R8 (some (.int v)) I' J') := by
  have hd1 : Nat.ble 1 d = true := Nat.ble_eq_true_of_le (Nat.le_trans (by decide) hd)
  refine qp_Met_of (by decide) (by rw [qp_r153.2]; rfl) [some (.ref 36), some (.int p1), some (.int p2)] (by rw [qp_r153.2]; rfl) ?_
  unfold fM_at at h
  refine qp_run_E qp_ok153 1 (c' := (1, [some (.ref 36), some (.int p1), some (.int p2)], [.int p1], qp_mk I J)) (by with_unfolding_all rfl) hd1 trivial ?_
  obtain ⟨v1, I1, J1, e1, h⟩ := qp_bd_s h
  refine qp_cS qp_ok153 (rest := []) (oj := 10) qp_f149 rfl rfl (gM_isRow l G p1 I J e1 (Nat.le_refl 2)) rfl rfl rfl (Nat.le_trans (by decide) hd) ?_
  refine qp_br_E qp_ok153 (f := ¬ v1 = 0) (ct := (9, [some (.ref 36), some (.int p1), some (.int p2)], [], qp_mk I1 J1)) (cf := (7, [some (.ref 36), some (.int p1), some (.int p2)], [], qp_mk I1 J1)) (by with_unfolding_all rfl) (fun h1 => ?_) (fun h1 => ?_)
  · replace h := qp_ift h1 h
    obtain ⟨h2, h⟩ := qp_gd_s h
    refine qp_run_E qp_ok153 4 (f := vp_in p1 6 ∧ True) (c' := (15, [some (.ref 36), some (.int p1), some (.int p2)], [.int (I1 41 (Int32.toNatClampNeg p1))], qp_mk I1 J1)) (by with_unfolding_all rfl) hd1 ⟨(qp_vin (c := 6) (by decide) h2.1 h2.2), trivial⟩ ?_
    refine qp_br_E qp_ok153 (f := 0 ≤ (I1 41 (Int32.toNatClampNeg p1))) (ct := (24, [some (.ref 36), some (.int p1), some (.int p2)], [], qp_mk I1 J1)) (cf := (18, [some (.ref 36), some (.int p1), some (.int p2)], [], qp_mk I1 J1)) (by with_unfolding_all rfl) (fun h3 => ?_) (fun h3 => ?_)
    · replace h := qp_ift h3 h
      obtain ⟨h4, h⟩ := qp_gd_s h
      refine qp_run_E qp_ok153 10 (f := vp_in p1 6 ∧ True) (c' := (36, [some (.ref 36), some (.int p1), some (.int p2)], [.long (Int32.toInt64 ((I1 41 (Int32.toNatClampNeg p1)) - 1)), .long 0, .long (Int32.toInt64 p2)], qp_mk I1 J1)) (by with_unfolding_all rfl) hd1 ⟨(qp_vin (c := 6) (by decide) h4.1 h4.2), trivial⟩ ?_
      obtain ⟨v2, I2, J2, e2, h⟩ := qp_bd_s h
      refine qp_cS qp_ok153 (rest := []) (oj := 10) qp_f150 rfl rfl (gM_in l G (Int32.toInt64 p2) 0 (Int32.toInt64 ((I1 41 (Int32.toNatClampNeg p1)) - 1)) I1 J1 e2 (Nat.le_refl 1)) rfl rfl rfl (Nat.le_trans (by decide) hd) ?_
      refine qp_br_E qp_ok153 (f := v2 = 0) (ct := (60, [some (.ref 36), some (.int p1), some (.int p2)], [], qp_mk I2 J2)) (cf := (42, [some (.ref 36), some (.int p1), some (.int p2)], [], qp_mk I2 J2)) (by with_unfolding_all rfl) (fun h5 => ?_) (fun h5 => ?_)
      · replace h := qp_ift h5 h
        refine qp_run_E qp_ok153 2 (c' := (62, [some (.ref 36), some (.int p1), some (.int p2)], [.int 2, .ref 36], qp_mk I2 J2)) (by with_unfolding_all rfl) hd1 trivial ?_
        obtain ⟨v3, I3, J3, e3, h⟩ := qp_bd_s h
        refine qp_cV qp_ok153 (rest := []) (oj := 10) qp_f151 rfl rfl (gM_finds l G 2 I2 J2 e3 (Nat.le_refl 1)) rfl rfl rfl rfl (Nat.le_trans (by decide) hd) ?_
        obtain ⟨rfl, rfl, rfl⟩ := qp_some3 h
        exact qp_retI_E qp_ok153 rfl qp_r153.1 ⟨rfl, rfl⟩ ⟨rfl, rfl⟩
      · replace h := qp_iff h5 h
        obtain ⟨h6, h⟩ := qp_gd_s h
        refine qp_run_E qp_ok153 9 (f := vp_in (((40 : Int32) * p1) + p2) 240 ∧ True) (c' := (54, [some (.ref 36), some (.int p1), some (.int p2)], [.int (I2 40 (Int32.toNatClampNeg (((40 : Int32) * p1) + p2))), .ref 36], qp_mk I2 J2)) (by with_unfolding_all rfl) hd1 ⟨(qp_vin (c := 240) (by decide) h6.1 h6.2), trivial⟩ ?_
        obtain ⟨v4, I4, J4, e4, h⟩ := qp_bd_s h
        refine qp_cV qp_ok153 (rest := []) (oj := 10) qp_f154 rfl rfl (gM_asks l G (I2 40 (Int32.toNatClampNeg (((40 : Int32) * p1) + p2))) I2 J2 e4 (Nat.le_refl 1)) rfl rfl rfl rfl (Nat.le_trans (by decide) hd) ?_
        refine qp_run_E qp_ok153 1 (c' := (65, [some (.ref 36), some (.int p1), some (.int p2)], [.int v4], qp_mk I4 J4)) (by with_unfolding_all rfl) hd1 trivial ?_
        obtain ⟨rfl, rfl, rfl⟩ := qp_some3 h
        exact qp_retI_E qp_ok153 rfl qp_r153.1 ⟨rfl, rfl⟩ ⟨rfl, rfl⟩
    · replace h := qp_iff h3 h
      refine qp_run_E qp_ok153 2 (c' := (20, [some (.ref 36), some (.int p1), some (.int p2)], [.int 1, .ref 36], qp_mk I1 J1)) (by with_unfolding_all rfl) hd1 trivial ?_
      obtain ⟨v5, I5, J5, e5, h⟩ := qp_bd_s h
      refine qp_cV qp_ok153 (rest := []) (oj := 10) qp_f151 rfl rfl (gM_finds l G 1 I1 J1 e5 (Nat.le_refl 1)) rfl rfl rfl rfl (Nat.le_trans (by decide) hd) ?_
      obtain ⟨rfl, rfl, rfl⟩ := qp_some3 h
      exact qp_retI_E qp_ok153 rfl qp_r153.1 ⟨rfl, rfl⟩ ⟨rfl, rfl⟩
  · replace h := qp_iff h1 h
    refine qp_run_E qp_ok153 1 (c' := (8, [some (.ref 36), some (.int p1), some (.int p2)], [.int (-1)], qp_mk I1 J1)) (by with_unfolding_all rfl) hd1 trivial ?_
    obtain ⟨rfl, rfl, rfl⟩ := qp_some3 h
    exact qp_retI_E qp_ok153 rfl qp_r153.1 ⟨rfl, rfl⟩ ⟨rfl, rfl⟩
def fM_lay (p1 : Int32) (p2 : Int32) (p3 : Int32) (I : Nat → Nat → Int32) (J : Nat → Nat → Int64) : Option (Int32 × (Nat → Nat → Int32) × (Nat → Nat → Int64)) :=
  qp_bd (fM_at p1 p2 I J) fun v1 I1 J1 =>
  if ¬ v1 = 1 then (
    some (v1, I1, J1)
  ) else (
    qp_gd ((0 ≤ (((40 : Int32) * p1) + p2) ∧ (((40 : Int32) * p1) + p2) < 240)) <|
    some (v1, (qp_up I1 40 (Int32.toNatClampNeg (((40 : Int32) * p1) + p2)) p3), J1)
  )
set_option maxRecDepth 8000 in
theorem gM_lay (l : Launch) (G : qp_G) (p1 : Int32) (p2 : Int32) (p3 : Int32) (I : Nat → Nat → Int32) (J : Nat → Nat → Int64) {v : Int32} {I' : Nat → Nat → Int32} {J' : Nat → Nat → Int64} (h : fM_lay p1 p2 p3 I J = some (v, I', J')) {d : Nat} (hd : 4 ≤ d) : qp_Met l G d 152 [.ref 36, .int p1, .int p2, .int p3] (qp_mk I J) 0 0 (qp_R8 (some (.int v)) I' J') := by
  have hd1 : Nat.ble 1 d = true := Nat.ble_eq_true_of_le (Nat.le_trans (by decide) hd)
  refine qp_Met_of (by decide) (by rw [qp_r152.2]; rfl) [some (.ref 36), some (.int p1), some (.int p2), some (.int p3), none] (by rw [qp_r152.2]; rfl) ?_
  unfold fM_lay at h
  refine qp_run_E qp_ok152 3 (c' := (3, [some (.ref 36), some (.int p1), some (.int p2), some (.int p3), none], [.int p2, .int p1, .ref 36], qp_mk I J)) (by with_unfolding_all rfl) hd1 trivial ?_
  obtain ⟨v1, I1, J1, e1, h⟩ := qp_bd_s h
  refine qp_cV qp_ok152 (rest := []) (oj := 10) qp_f153 rfl rfl (gM_at l G p1 p2 I J e1 (Nat.le_refl 3)) rfl rfl rfl rfl (Nat.le_trans (by decide) hd) ?_
  refine qp_run_E qp_ok152 3 (c' := (11, [some (.ref 36), some (.int p1), some (.int p2), some (.int p3), some (.int v1)], [.int 1, .int v1], qp_mk I1 J1)) (by with_unfolding_all rfl) hd1 trivial ?_
  refine qp_br_E qp_ok152 (f := ¬ v1 = 1) (ct := (26, [some (.ref 36), some (.int p1), some (.int p2), some (.int p3), some (.int v1)], [], qp_mk I1 J1)) (cf := (14, [some (.ref 36), some (.int p1), some (.int p2), some (.int p3), some (.int v1)], [], qp_mk I1 J1)) (by with_unfolding_all rfl) (fun h1 => ?_) (fun h1 => ?_)
  · replace h := qp_ift h1 h
    refine qp_run_E qp_ok152 1 (c' := (28, [some (.ref 36), some (.int p1), some (.int p2), some (.int p3), some (.int v1)], [.int v1], qp_mk I1 J1)) (by with_unfolding_all rfl) hd1 trivial ?_
    obtain ⟨rfl, rfl, rfl⟩ := qp_some3 h
    exact qp_retI_E qp_ok152 rfl qp_r152.1 ⟨rfl, rfl⟩ ⟨rfl, rfl⟩
  · replace h := qp_iff h1 h
    obtain ⟨h2, h⟩ := qp_gd_s h
    refine qp_run_E qp_ok152 10 (f := vp_in (((40 : Int32) * p1) + p2) 240 ∧ True) (c' := (28, [some (.ref 36), some (.int p1), some (.int p2), some (.int p3), some (.int v1)], [.int v1], qp_mk (qp_up I1 40 (Int32.toNatClampNeg (((40 : Int32) * p1) + p2)) p3) J1)) (by with_unfolding_all rfl) hd1 ⟨(qp_vin (c := 240) (by decide) h2.1 h2.2), trivial⟩ ?_
    obtain ⟨rfl, rfl, rfl⟩ := qp_some3 h
    exact qp_retI_E qp_ok152 rfl qp_r152.1 ⟨rfl, rfl⟩ ⟨rfl, rfl⟩
def fM_tear (p1 : Int32) (I : Nat → Nat → Int32) (J : Nat → Nat → Int64) : Option (Int32 × (Nat → Nat → Int32) × (Nat → Nat → Int64)) :=
  qp_bd (fM_isRow p1 I J) fun v1 I1 J1 =>
  if ¬ v1 = 0 then (
    qp_gd ((0 ≤ p1 ∧ p1 < 6)) <|
    if 0 ≤ (I1 41 (Int32.toNatClampNeg p1)) then (
      qp_gd ((0 ≤ p1 ∧ p1 < 6)) <|
      some (1, (qp_up I1 41 (Int32.toNatClampNeg p1) (-1)), J1)
    ) else (
      qp_bd (fM_finds 1 I1 J1) fun v2 I2 J2 =>
      some (v2, I2, J2)
    )
  ) else (
    some ((-1), I1, J1)
  )
set_option maxRecDepth 8000 in
theorem gM_tear (l : Launch) (G : qp_G) (p1 : Int32) (I : Nat → Nat → Int32) (J : Nat → Nat → Int64) {v : Int32} {I' : Nat → Nat → Int32} {J' : Nat → Nat → Int64} (h : fM_tear p1 I J = some (v, I', J')) {d : Nat} (hd : 3 ≤ d) : qp_Met l G d 155 [.ref 36, .int p1] (qp_mk I J) 0 0 (qp_R8 (some (.int v)) I' J') := by
  have hd1 : Nat.ble 1 d = true := Nat.ble_eq_true_of_le (Nat.le_trans (by decide) hd)
  refine qp_Met_of (by decide) (by rw [qp_r155.2]; rfl) [some (.ref 36), some (.int p1)] (by rw [qp_r155.2]; rfl) ?_
  unfold fM_tear at h
  refine qp_run_E qp_ok155 1 (c' := (1, [some (.ref 36), some (.int p1)], [.int p1], qp_mk I J)) (by with_unfolding_all rfl) hd1 trivial ?_
  obtain ⟨v1, I1, J1, e1, h⟩ := qp_bd_s h
  refine qp_cS qp_ok155 (rest := []) (oj := 10) qp_f149 rfl rfl (gM_isRow l G p1 I J e1 (Nat.le_refl 2)) rfl rfl rfl (Nat.le_trans (by decide) hd) ?_
  refine qp_br_E qp_ok155 (f := ¬ v1 = 0) (ct := (9, [some (.ref 36), some (.int p1)], [], qp_mk I1 J1)) (cf := (7, [some (.ref 36), some (.int p1)], [], qp_mk I1 J1)) (by with_unfolding_all rfl) (fun h1 => ?_) (fun h1 => ?_)
  · replace h := qp_ift h1 h
    obtain ⟨h2, h⟩ := qp_gd_s h
    refine qp_run_E qp_ok155 4 (f := vp_in p1 6 ∧ True) (c' := (15, [some (.ref 36), some (.int p1)], [.int (I1 41 (Int32.toNatClampNeg p1))], qp_mk I1 J1)) (by with_unfolding_all rfl) hd1 ⟨(qp_vin (c := 6) (by decide) h2.1 h2.2), trivial⟩ ?_
    refine qp_br_E qp_ok155 (f := 0 ≤ (I1 41 (Int32.toNatClampNeg p1))) (ct := (24, [some (.ref 36), some (.int p1)], [], qp_mk I1 J1)) (cf := (18, [some (.ref 36), some (.int p1)], [], qp_mk I1 J1)) (by with_unfolding_all rfl) (fun h3 => ?_) (fun h3 => ?_)
    · replace h := qp_ift h3 h
      obtain ⟨h4, h⟩ := qp_gd_s h
      refine qp_run_E qp_ok155 6 (f := vp_in p1 6 ∧ True) (c' := (32, [some (.ref 36), some (.int p1)], [.int 1], qp_mk (qp_up I1 41 (Int32.toNatClampNeg p1) (-1)) J1)) (by with_unfolding_all rfl) hd1 ⟨(qp_vin (c := 6) (by decide) h4.1 h4.2), trivial⟩ ?_
      obtain ⟨rfl, rfl, rfl⟩ := qp_some3 h
      exact qp_retI_E qp_ok155 rfl qp_r155.1 ⟨rfl, rfl⟩ ⟨rfl, rfl⟩
    · replace h := qp_iff h3 h
      refine qp_run_E qp_ok155 2 (c' := (20, [some (.ref 36), some (.int p1)], [.int 1, .ref 36], qp_mk I1 J1)) (by with_unfolding_all rfl) hd1 trivial ?_
      obtain ⟨v2, I2, J2, e2, h⟩ := qp_bd_s h
      refine qp_cV qp_ok155 (rest := []) (oj := 10) qp_f151 rfl rfl (gM_finds l G 1 I1 J1 e2 (Nat.le_refl 1)) rfl rfl rfl rfl (Nat.le_trans (by decide) hd) ?_
      obtain ⟨rfl, rfl, rfl⟩ := qp_some3 h
      exact qp_retI_E qp_ok155 rfl qp_r155.1 ⟨rfl, rfl⟩ ⟨rfl, rfl⟩
  · replace h := qp_iff h1 h
    refine qp_run_E qp_ok155 1 (c' := (8, [some (.ref 36), some (.int p1)], [.int (-1)], qp_mk I1 J1)) (by with_unfolding_all rfl) hd1 trivial ?_
    obtain ⟨rfl, rfl, rfl⟩ := qp_some3 h
    exact qp_retI_E qp_ok155 rfl qp_r155.1 ⟨rfl, rfl⟩ ⟨rfl, rfl⟩
def fM_copy_b138  : Nat → Int32 → Int32 → Int32 → Int32 → (Nat → Nat → Int32) → (Nat → Nat → Int64) → Option (Int32 × (Nat → Nat → Int32) × (Nat → Nat → Int64))
  | 0, _, _, _, _, _, _ => none
  | n + 1, a3, a4, a5, a6, I, J =>
    if a5 ≤ a6 then (
      some (1, I, J)
    ) else (
      qp_gd ((0 ≤ a6 ∧ a6 < 40) ∧ (0 ≤ ((((40 : Int32) * a3) + a4) + a6) ∧ ((((40 : Int32) * a3) + a4) + a6) < 240)) <|
      fM_copy_b138 n a3 a4 a5 (a6 + 1) (qp_up I 40 (Int32.toNatClampNeg ((((40 : Int32) * a3) + a4) + a6)) (I 45 (Int32.toNatClampNeg a6))) J
    )
set_option maxRecDepth 8000 in
theorem gM_copy_b138 {l : Launch} {G : qp_G} {d : Nat} (hd : 3 ≤ d) {r : (Int32 × (Nat → Nat → Int32) × (Nat → Nat → Int64))} {I0 : Nat → Nat → Int32} {J0 : Nat → Nat → Int64}   : ∀ (n : Nat) (a3 : Int32) (a4 : Int32) (a5 : Int32) (a6 : Int32) (I : Nat → Nat → Int32) (J : Nat → Nat → Int64), fM_copy_b138  n a3 a4 a5 a6 I J = some r → qp_E l G d 156 (qp_mk I0 J0) 0 0 (qp_R8 (some (.int r.1)) r.2.1 r.2.2) (138, [some (.ref 36), none, none, some (.int a3), some (.int a4), some (.int a5), some (.int a6)], [], qp_mk I J) := by
  have hd1 : Nat.ble 1 d = true := Nat.ble_eq_true_of_le (Nat.le_trans (by decide) hd)
  intro n
  induction n with
  | zero => intro a3 a4 a5 a6 I J h; exact absurd h (by simp [fM_copy_b138])
  | succ n ih =>
    intro a3 a4 a5 a6 I J h
    rw [fM_copy_b138] at h
    refine qp_run_E qp_ok156 2 (c' := (142, [some (.ref 36), none, none, some (.int a3), some (.int a4), some (.int a5), some (.int a6)], [.int a5, .int a6], qp_mk I J)) (by with_unfolding_all rfl) hd1 trivial ?_
    refine qp_br_E qp_ok156 (f := a5 ≤ a6) (ct := (173, [some (.ref 36), none, none, some (.int a3), some (.int a4), some (.int a5), some (.int a6)], [], qp_mk I J)) (cf := (145, [some (.ref 36), none, none, some (.int a3), some (.int a4), some (.int a5), some (.int a6)], [], qp_mk I J)) (by with_unfolding_all rfl) (fun h1 => ?_) (fun h1 => ?_)
    · replace h := qp_ift h1 h
      refine qp_run_E qp_ok156 1 (c' := (174, [some (.ref 36), none, none, some (.int a3), some (.int a4), some (.int a5), some (.int a6)], [.int 1], qp_mk I J)) (by with_unfolding_all rfl) hd1 trivial ?_
      obtain rfl := Option.some.inj h
      exact qp_retI_E qp_ok156 rfl qp_r156.1 ⟨rfl, rfl⟩ ⟨rfl, rfl⟩
    · replace h := qp_iff h1 h
      obtain ⟨h2, h⟩ := qp_gd_s h
      refine qp_run_E qp_ok156 16 (f := vp_in a6 40 ∧ vp_in ((((40 : Int32) * a3) + a4) + a6) 240 ∧ True) (c' := (138, [some (.ref 36), none, none, some (.int a3), some (.int a4), some (.int a5), some (.int (a6 + 1))], [], qp_mk (qp_up I 40 (Int32.toNatClampNeg ((((40 : Int32) * a3) + a4) + a6)) (I 45 (Int32.toNatClampNeg a6))) J)) (by with_unfolding_all rfl) hd1 ⟨(qp_vin (c := 40) (by decide) h2.1.1 h2.1.2), (qp_vin (c := 240) (by decide) h2.2.1 h2.2.2), trivial⟩ ?_
      exact ih a3 a4 a5 (a6 + 1) (qp_up I 40 (Int32.toNatClampNeg ((((40 : Int32) * a3) + a4) + a6)) (I 45 (Int32.toNatClampNeg a6))) J h
def fM_copy_b101  : Nat → Int32 → Int32 → Int32 → Int32 → Int32 → Int32 → (Nat → Nat → Int32) → (Nat → Nat → Int64) → Option (Int32 × (Nat → Nat → Int32) × (Nat → Nat → Int64))
  | 0, _, _, _, _, _, _, _, _ => none
  | n + 1, a1, a2, a3, a4, a5, a6, I, J =>
    if a5 ≤ a6 then (
      fM_copy_b138 100000 a3 a4 a5 0 I J
    ) else (
      qp_gd ((0 ≤ ((((40 : Int32) * a1) + a2) + a6) ∧ ((((40 : Int32) * a1) + a2) + a6) < 240) ∧ (0 ≤ a6 ∧ a6 < 40)) <|
      fM_copy_b101 n a1 a2 a3 a4 a5 (a6 + 1) (qp_up I 45 (Int32.toNatClampNeg a6) (I 40 (Int32.toNatClampNeg ((((40 : Int32) * a1) + a2) + a6)))) J
    )
set_option maxRecDepth 8000 in
theorem gM_copy_b101 {l : Launch} {G : qp_G} {d : Nat} (hd : 3 ≤ d) {r : (Int32 × (Nat → Nat → Int32) × (Nat → Nat → Int64))} {I0 : Nat → Nat → Int32} {J0 : Nat → Nat → Int64}   : ∀ (n : Nat) (a1 : Int32) (a2 : Int32) (a3 : Int32) (a4 : Int32) (a5 : Int32) (a6 : Int32) (I : Nat → Nat → Int32) (J : Nat → Nat → Int64), fM_copy_b101  n a1 a2 a3 a4 a5 a6 I J = some r → qp_E l G d 156 (qp_mk I0 J0) 0 0 (qp_R8 (some (.int r.1)) r.2.1 r.2.2) (101, [some (.ref 36), some (.int a1), some (.int a2), some (.int a3), some (.int a4), some (.int a5), some (.int a6)], [], qp_mk I J) := by
  have hd1 : Nat.ble 1 d = true := Nat.ble_eq_true_of_le (Nat.le_trans (by decide) hd)
  intro n
  induction n with
  | zero => intro a1 a2 a3 a4 a5 a6 I J h; exact absurd h (by simp [fM_copy_b101])
  | succ n ih =>
    intro a1 a2 a3 a4 a5 a6 I J h
    rw [fM_copy_b101] at h
    refine qp_run_E qp_ok156 2 (c' := (105, [some (.ref 36), some (.int a1), some (.int a2), some (.int a3), some (.int a4), some (.int a5), some (.int a6)], [.int a5, .int a6], qp_mk I J)) (by with_unfolding_all rfl) hd1 trivial ?_
    refine qp_br_E qp_ok156 (f := a5 ≤ a6) (ct := (135, [some (.ref 36), some (.int a1), some (.int a2), some (.int a3), some (.int a4), some (.int a5), some (.int a6)], [], qp_mk I J)) (cf := (108, [some (.ref 36), some (.int a1), some (.int a2), some (.int a3), some (.int a4), some (.int a5), some (.int a6)], [], qp_mk I J)) (by with_unfolding_all rfl) (fun h1 => ?_) (fun h1 => ?_)
    · replace h := qp_ift h1 h
      refine qp_run_E qp_ok156 2 (c' := (138, [some (.ref 36), some (.int a1), some (.int a2), some (.int a3), some (.int a4), some (.int a5), some (.int 0)], [], qp_mk I J)) (by with_unfolding_all rfl) hd1 trivial ?_
      exact qp_E_fg [true, false, false, true, true, true, true] (gM_copy_b138 hd 100000 a3 a4 a5 0 I J h)
    · replace h := qp_iff h1 h
      obtain ⟨h2, h⟩ := qp_gd_s h
      refine qp_run_E qp_ok156 16 (f := vp_in ((((40 : Int32) * a1) + a2) + a6) 240 ∧ vp_in a6 40 ∧ True) (c' := (101, [some (.ref 36), some (.int a1), some (.int a2), some (.int a3), some (.int a4), some (.int a5), some (.int (a6 + 1))], [], qp_mk (qp_up I 45 (Int32.toNatClampNeg a6) (I 40 (Int32.toNatClampNeg ((((40 : Int32) * a1) + a2) + a6)))) J)) (by with_unfolding_all rfl) hd1 ⟨(qp_vin (c := 240) (by decide) h2.1.1 h2.1.2), (qp_vin (c := 40) (by decide) h2.2.1 h2.2.2), trivial⟩ ?_
      exact ih a1 a2 a3 a4 a5 (a6 + 1) (qp_up I 45 (Int32.toNatClampNeg a6) (I 40 (Int32.toNatClampNeg ((((40 : Int32) * a1) + a2) + a6)))) J h
def fM_copy (p1 : Int32) (p2 : Int32) (p3 : Int32) (p4 : Int32) (p5 : Int32) (I : Nat → Nat → Int32) (J : Nat → Nat → Int64) : Option (Int32 × (Nat → Nat → Int32) × (Nat → Nat → Int64)) :=
  qp_bd (fM_isRow p1 I J) fun v1 I1 J1 =>
  if v1 = 0 then (
    some ((-1), I1, J1)
  ) else (
    qp_bd (fM_isRow p3 I1 J1) fun v2 I2 J2 =>
    if ¬ v2 = 0 then (
      if 0 ≤ p5 then (
        qp_gd ((0 ≤ p1 ∧ p1 < 6)) <|
        if (I2 41 (Int32.toNatClampNeg p1)) < 0 then (
          qp_bd (fM_finds 1 I2 J2) fun v3 I3 J3 =>
          some (v3, I3, J3)
        ) else (
          qp_gd ((0 ≤ p3 ∧ p3 < 6)) <|
          if 0 ≤ (I2 41 (Int32.toNatClampNeg p3)) then (
            qp_gd ((0 ≤ p1 ∧ p1 < 6)) <|
            qp_bd (fM_in (Int32.toInt64 p2) 0 ((Int32.toInt64 (I2 41 (Int32.toNatClampNeg p1))) - (Int32.toInt64 p5)) I2 J2) fun v4 I4 J4 =>
            if v4 = 0 then (
              qp_bd (fM_finds 2 I4 J4) fun v5 I5 J5 =>
              some (v5, I5, J5)
            ) else (
              qp_gd ((0 ≤ p3 ∧ p3 < 6)) <|
              qp_bd (fM_in (Int32.toInt64 p4) 0 ((Int32.toInt64 (I4 41 (Int32.toNatClampNeg p3))) - (Int32.toInt64 p5)) I4 J4) fun v6 I6 J6 =>
              if ¬ v6 = 0 then (
                fM_copy_b101 100000 p1 p2 p3 p4 p5 0 I6 J6
              ) else (
                qp_bd (fM_finds 2 I6 J6) fun v7 I7 J7 =>
                some (v7, I7, J7)
              )
            )
          ) else (
            qp_bd (fM_finds 1 I2 J2) fun v8 I8 J8 =>
            some (v8, I8, J8)
          )
        )
      ) else (
        qp_bd (fM_finds 5 I2 J2) fun v9 I9 J9 =>
        some (v9, I9, J9)
      )
    ) else (
      some ((-1), I2, J2)
    )
  )
set_option maxRecDepth 8000 in
theorem gM_copy (l : Launch) (G : qp_G) (p1 : Int32) (p2 : Int32) (p3 : Int32) (p4 : Int32) (p5 : Int32) (I : Nat → Nat → Int32) (J : Nat → Nat → Int64) {v : Int32} {I' : Nat → Nat → Int32} {J' : Nat → Nat → Int64} (h : fM_copy p1 p2 p3 p4 p5 I J = some (v, I', J')) {d : Nat} (hd : 3 ≤ d) : qp_Met l G d 156 [.ref 36, .int p1, .int p2, .int p3, .int p4, .int p5] (qp_mk I J) 0 0 (qp_R8 (some (.int v)) I' J') := by
  have hd1 : Nat.ble 1 d = true := Nat.ble_eq_true_of_le (Nat.le_trans (by decide) hd)
  refine qp_Met_of (by decide) (by rw [qp_r156.2]; rfl) [some (.ref 36), some (.int p1), some (.int p2), some (.int p3), some (.int p4), some (.int p5), none] (by rw [qp_r156.2]; rfl) ?_
  unfold fM_copy at h
  refine qp_run_E qp_ok156 1 (c' := (1, [some (.ref 36), some (.int p1), some (.int p2), some (.int p3), some (.int p4), some (.int p5), none], [.int p1], qp_mk I J)) (by with_unfolding_all rfl) hd1 trivial ?_
  obtain ⟨v1, I1, J1, e1, h⟩ := qp_bd_s h
  refine qp_cS qp_ok156 (rest := []) (oj := 10) qp_f149 rfl rfl (gM_isRow l G p1 I J e1 (Nat.le_refl 2)) rfl rfl rfl (Nat.le_trans (by decide) hd) ?_
  refine qp_br_E qp_ok156 (f := v1 = 0) (ct := (14, [some (.ref 36), some (.int p1), some (.int p2), some (.int p3), some (.int p4), some (.int p5), none], [], qp_mk I1 J1)) (cf := (7, [some (.ref 36), some (.int p1), some (.int p2), some (.int p3), some (.int p4), some (.int p5), none], [], qp_mk I1 J1)) (by with_unfolding_all rfl) (fun h1 => ?_) (fun h1 => ?_)
  · replace h := qp_ift h1 h
    refine qp_run_E qp_ok156 1 (c' := (15, [some (.ref 36), some (.int p1), some (.int p2), some (.int p3), some (.int p4), some (.int p5), none], [.int (-1)], qp_mk I1 J1)) (by with_unfolding_all rfl) hd1 trivial ?_
    obtain ⟨rfl, rfl, rfl⟩ := qp_some3 h
    exact qp_retI_E qp_ok156 rfl qp_r156.1 ⟨rfl, rfl⟩ ⟨rfl, rfl⟩
  · replace h := qp_iff h1 h
    refine qp_run_E qp_ok156 1 (c' := (8, [some (.ref 36), some (.int p1), some (.int p2), some (.int p3), some (.int p4), some (.int p5), none], [.int p3], qp_mk I1 J1)) (by with_unfolding_all rfl) hd1 trivial ?_
    obtain ⟨v2, I2, J2, e2, h⟩ := qp_bd_s h
    refine qp_cS qp_ok156 (rest := []) (oj := 10) qp_f149 rfl rfl (gM_isRow l G p3 I1 J1 e2 (Nat.le_refl 2)) rfl rfl rfl (Nat.le_trans (by decide) hd) ?_
    refine qp_br_E qp_ok156 (f := ¬ v2 = 0) (ct := (16, [some (.ref 36), some (.int p1), some (.int p2), some (.int p3), some (.int p4), some (.int p5), none], [], qp_mk I2 J2)) (cf := (14, [some (.ref 36), some (.int p1), some (.int p2), some (.int p3), some (.int p4), some (.int p5), none], [], qp_mk I2 J2)) (by with_unfolding_all rfl) (fun h2 => ?_) (fun h2 => ?_)
    · replace h := qp_ift h2 h
      refine qp_run_E qp_ok156 1 (c' := (18, [some (.ref 36), some (.int p1), some (.int p2), some (.int p3), some (.int p4), some (.int p5), none], [.int p5], qp_mk I2 J2)) (by with_unfolding_all rfl) hd1 trivial ?_
      refine qp_br_E qp_ok156 (f := 0 ≤ p5) (ct := (27, [some (.ref 36), some (.int p1), some (.int p2), some (.int p3), some (.int p4), some (.int p5), none], [], qp_mk I2 J2)) (cf := (21, [some (.ref 36), some (.int p1), some (.int p2), some (.int p3), some (.int p4), some (.int p5), none], [], qp_mk I2 J2)) (by with_unfolding_all rfl) (fun h3 => ?_) (fun h3 => ?_)
      · replace h := qp_ift h3 h
        obtain ⟨h4, h⟩ := qp_gd_s h
        refine qp_run_E qp_ok156 4 (f := vp_in p1 6 ∧ True) (c' := (33, [some (.ref 36), some (.int p1), some (.int p2), some (.int p3), some (.int p4), some (.int p5), none], [.int (I2 41 (Int32.toNatClampNeg p1))], qp_mk I2 J2)) (by with_unfolding_all rfl) hd1 ⟨(qp_vin (c := 6) (by decide) h4.1 h4.2), trivial⟩ ?_
        refine qp_br_E qp_ok156 (f := (I2 41 (Int32.toNatClampNeg p1)) < 0) (ct := (45, [some (.ref 36), some (.int p1), some (.int p2), some (.int p3), some (.int p4), some (.int p5), none], [], qp_mk I2 J2)) (cf := (36, [some (.ref 36), some (.int p1), some (.int p2), some (.int p3), some (.int p4), some (.int p5), none], [], qp_mk I2 J2)) (by with_unfolding_all rfl) (fun h5 => ?_) (fun h5 => ?_)
        · replace h := qp_ift h5 h
          refine qp_run_E qp_ok156 2 (c' := (47, [some (.ref 36), some (.int p1), some (.int p2), some (.int p3), some (.int p4), some (.int p5), none], [.int 1, .ref 36], qp_mk I2 J2)) (by with_unfolding_all rfl) hd1 trivial ?_
          obtain ⟨v3, I3, J3, e3, h⟩ := qp_bd_s h
          refine qp_cV qp_ok156 (rest := []) (oj := 10) qp_f151 rfl rfl (gM_finds l G 1 I2 J2 e3 (Nat.le_refl 1)) rfl rfl rfl rfl (Nat.le_trans (by decide) hd) ?_
          obtain ⟨rfl, rfl, rfl⟩ := qp_some3 h
          exact qp_retI_E qp_ok156 rfl qp_r156.1 ⟨rfl, rfl⟩ ⟨rfl, rfl⟩
        · replace h := qp_iff h5 h
          obtain ⟨h6, h⟩ := qp_gd_s h
          refine qp_run_E qp_ok156 4 (f := vp_in p3 6 ∧ True) (c' := (42, [some (.ref 36), some (.int p1), some (.int p2), some (.int p3), some (.int p4), some (.int p5), none], [.int (I2 41 (Int32.toNatClampNeg p3))], qp_mk I2 J2)) (by with_unfolding_all rfl) hd1 ⟨(qp_vin (c := 6) (by decide) h6.1 h6.2), trivial⟩ ?_
          refine qp_br_E qp_ok156 (f := 0 ≤ (I2 41 (Int32.toNatClampNeg p3))) (ct := (51, [some (.ref 36), some (.int p1), some (.int p2), some (.int p3), some (.int p4), some (.int p5), none], [], qp_mk I2 J2)) (cf := (45, [some (.ref 36), some (.int p1), some (.int p2), some (.int p3), some (.int p4), some (.int p5), none], [], qp_mk I2 J2)) (by with_unfolding_all rfl) (fun h7 => ?_) (fun h7 => ?_)
          · replace h := qp_ift h7 h
            obtain ⟨h8, h⟩ := qp_gd_s h
            refine qp_run_E qp_ok156 11 (f := vp_in p1 6 ∧ True) (c' := (65, [some (.ref 36), some (.int p1), some (.int p2), some (.int p3), some (.int p4), some (.int p5), none], [.long ((Int32.toInt64 (I2 41 (Int32.toNatClampNeg p1))) - (Int32.toInt64 p5)), .long 0, .long (Int32.toInt64 p2)], qp_mk I2 J2)) (by with_unfolding_all rfl) hd1 ⟨(qp_vin (c := 6) (by decide) h8.1 h8.2), trivial⟩ ?_
            obtain ⟨v4, I4, J4, e4, h⟩ := qp_bd_s h
            refine qp_cS qp_ok156 (rest := []) (oj := 10) qp_f150 rfl rfl (gM_in l G (Int32.toInt64 p2) 0 ((Int32.toInt64 (I2 41 (Int32.toNatClampNeg p1))) - (Int32.toInt64 p5)) I2 J2 e4 (Nat.le_refl 1)) rfl rfl rfl (Nat.le_trans (by decide) hd) ?_
            refine qp_br_E qp_ok156 (f := v4 = 0) (ct := (92, [some (.ref 36), some (.int p1), some (.int p2), some (.int p3), some (.int p4), some (.int p5), none], [], qp_mk I4 J4)) (cf := (71, [some (.ref 36), some (.int p1), some (.int p2), some (.int p3), some (.int p4), some (.int p5), none], [], qp_mk I4 J4)) (by with_unfolding_all rfl) (fun h9 => ?_) (fun h9 => ?_)
            · replace h := qp_ift h9 h
              refine qp_run_E qp_ok156 2 (c' := (94, [some (.ref 36), some (.int p1), some (.int p2), some (.int p3), some (.int p4), some (.int p5), none], [.int 2, .ref 36], qp_mk I4 J4)) (by with_unfolding_all rfl) hd1 trivial ?_
              obtain ⟨v5, I5, J5, e5, h⟩ := qp_bd_s h
              refine qp_cV qp_ok156 (rest := []) (oj := 10) qp_f151 rfl rfl (gM_finds l G 2 I4 J4 e5 (Nat.le_refl 1)) rfl rfl rfl rfl (Nat.le_trans (by decide) hd) ?_
              obtain ⟨rfl, rfl, rfl⟩ := qp_some3 h
              exact qp_retI_E qp_ok156 rfl qp_r156.1 ⟨rfl, rfl⟩ ⟨rfl, rfl⟩
            · replace h := qp_iff h9 h
              obtain ⟨h10, h⟩ := qp_gd_s h
              refine qp_run_E qp_ok156 11 (f := vp_in p3 6 ∧ True) (c' := (86, [some (.ref 36), some (.int p1), some (.int p2), some (.int p3), some (.int p4), some (.int p5), none], [.long ((Int32.toInt64 (I4 41 (Int32.toNatClampNeg p3))) - (Int32.toInt64 p5)), .long 0, .long (Int32.toInt64 p4)], qp_mk I4 J4)) (by with_unfolding_all rfl) hd1 ⟨(qp_vin (c := 6) (by decide) h10.1 h10.2), trivial⟩ ?_
              obtain ⟨v6, I6, J6, e6, h⟩ := qp_bd_s h
              refine qp_cS qp_ok156 (rest := []) (oj := 10) qp_f150 rfl rfl (gM_in l G (Int32.toInt64 p4) 0 ((Int32.toInt64 (I4 41 (Int32.toNatClampNeg p3))) - (Int32.toInt64 p5)) I4 J4 e6 (Nat.le_refl 1)) rfl rfl rfl (Nat.le_trans (by decide) hd) ?_
              refine qp_br_E qp_ok156 (f := ¬ v6 = 0) (ct := (98, [some (.ref 36), some (.int p1), some (.int p2), some (.int p3), some (.int p4), some (.int p5), none], [], qp_mk I6 J6)) (cf := (92, [some (.ref 36), some (.int p1), some (.int p2), some (.int p3), some (.int p4), some (.int p5), none], [], qp_mk I6 J6)) (by with_unfolding_all rfl) (fun h11 => ?_) (fun h11 => ?_)
              · replace h := qp_ift h11 h
                refine qp_run_E qp_ok156 2 (c' := (101, [some (.ref 36), some (.int p1), some (.int p2), some (.int p3), some (.int p4), some (.int p5), some (.int 0)], [], qp_mk I6 J6)) (by with_unfolding_all rfl) hd1 trivial ?_
                exact gM_copy_b101 hd 100000 p1 p2 p3 p4 p5 0 I6 J6 h
              · replace h := qp_iff h11 h
                refine qp_run_E qp_ok156 2 (c' := (94, [some (.ref 36), some (.int p1), some (.int p2), some (.int p3), some (.int p4), some (.int p5), none], [.int 2, .ref 36], qp_mk I6 J6)) (by with_unfolding_all rfl) hd1 trivial ?_
                obtain ⟨v7, I7, J7, e7, h⟩ := qp_bd_s h
                refine qp_cV qp_ok156 (rest := []) (oj := 10) qp_f151 rfl rfl (gM_finds l G 2 I6 J6 e7 (Nat.le_refl 1)) rfl rfl rfl rfl (Nat.le_trans (by decide) hd) ?_
                obtain ⟨rfl, rfl, rfl⟩ := qp_some3 h
                exact qp_retI_E qp_ok156 rfl qp_r156.1 ⟨rfl, rfl⟩ ⟨rfl, rfl⟩
          · replace h := qp_iff h7 h
            refine qp_run_E qp_ok156 2 (c' := (47, [some (.ref 36), some (.int p1), some (.int p2), some (.int p3), some (.int p4), some (.int p5), none], [.int 1, .ref 36], qp_mk I2 J2)) (by with_unfolding_all rfl) hd1 trivial ?_
            obtain ⟨v8, I8, J8, e8, h⟩ := qp_bd_s h
            refine qp_cV qp_ok156 (rest := []) (oj := 10) qp_f151 rfl rfl (gM_finds l G 1 I2 J2 e8 (Nat.le_refl 1)) rfl rfl rfl rfl (Nat.le_trans (by decide) hd) ?_
            obtain ⟨rfl, rfl, rfl⟩ := qp_some3 h
            exact qp_retI_E qp_ok156 rfl qp_r156.1 ⟨rfl, rfl⟩ ⟨rfl, rfl⟩
      · replace h := qp_iff h3 h
        refine qp_run_E qp_ok156 2 (c' := (23, [some (.ref 36), some (.int p1), some (.int p2), some (.int p3), some (.int p4), some (.int p5), none], [.int 5, .ref 36], qp_mk I2 J2)) (by with_unfolding_all rfl) hd1 trivial ?_
        obtain ⟨v9, I9, J9, e9, h⟩ := qp_bd_s h
        refine qp_cV qp_ok156 (rest := []) (oj := 10) qp_f151 rfl rfl (gM_finds l G 5 I2 J2 e9 (Nat.le_refl 1)) rfl rfl rfl rfl (Nat.le_trans (by decide) hd) ?_
        obtain ⟨rfl, rfl, rfl⟩ := qp_some3 h
        exact qp_retI_E qp_ok156 rfl qp_r156.1 ⟨rfl, rfl⟩ ⟨rfl, rfl⟩
    · replace h := qp_iff h2 h
      refine qp_run_E qp_ok156 1 (c' := (15, [some (.ref 36), some (.int p1), some (.int p2), some (.int p3), some (.int p4), some (.int p5), none], [.int (-1)], qp_mk I2 J2)) (by with_unfolding_all rfl) hd1 trivial ?_
      obtain ⟨rfl, rfl, rfl⟩ := qp_some3 h
      exact qp_retI_E qp_ok156 rfl qp_r156.1 ⟨rfl, rfl⟩ ⟨rfl, rfl⟩

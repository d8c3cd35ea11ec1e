/-! methods as functions, 7 -/
def fM_isOf (p0 : Int32) (p1 : Int32) (I : Nat → Nat → Int32) (J : Nat → Nat → Int64) : Option (Int32 × (Nat → Nat → Int32) × (Nat → Nat → Int64)) :=
  if p0 = p1 then (
    some (1, I, J)
  ) else (
    if ¬ p1 = 1 then (
      if ¬ p1 = 2 then (
        some (0, I, J)
      ) else (
        if ¬ p0 = 5 then (
          some (0, I, J)
        ) else (
          some (1, I, J)
        )
      )
    ) else (
      if p0 = 4 then (
        some (1, I, J)
      ) else (
        if ¬ p1 = 2 then (
          some (0, I, J)
        ) else (
          if ¬ p0 = 5 then (
            some (0, I, J)
          ) else (
            some (1, I, J)
          )
        )
      )
    )
  )
set_option maxRecDepth 8000 in
theorem gM_isOf (l : Launch) (G : qp_G) (p0 : Int32) (p1 : Int32) (I : Nat → Nat → Int32) (J : Nat → Nat → Int64) {v : Int32} {I' : Nat → Nat → Int32} {J' : Nat → Nat → Int64} (h : fM_isOf p0 p1 I J = some (v, I', J')) {d : Nat} (hd : 1 ≤ d) : qp_Met l G d 182 [.int p0, .int p1] (qp_mk I J) 0 0 (qp_R8 (some (.int v)) I' J') := by
  have hd1 : Nat.ble 1 d = true := Nat.ble_eq_true_of_le (Nat.le_trans (by decide) hd)
  refine qp_Met_of (by decide) (by rw [qp_r182.2]; rfl) [some (.int p0), some (.int p1)] (by rw [qp_r182.2]; rfl) ?_
  unfold fM_isOf at h
  refine qp_run_E qp_ok182 2 (c' := (2, [some (.int p0), some (.int p1)], [.int p1, .int p0], qp_mk I J)) (by with_unfolding_all rfl) hd1 trivial ?_
  refine qp_br_E qp_ok182 (f := p0 = p1) (ct := (25, [some (.int p0), some (.int p1)], [], qp_mk I J)) (cf := (5, [some (.int p0), some (.int p1)], [], qp_mk I J)) (by with_unfolding_all rfl) (fun h1 => ?_) (fun h1 => ?_)
  · replace h := qp_ift h1 h
    refine qp_run_E qp_ok182 2 (c' := (30, [some (.int p0), some (.int p1)], [.int 1], qp_mk I J)) (by with_unfolding_all rfl) hd1 trivial ?_
    obtain ⟨rfl, rfl, rfl⟩ := qp_some3 h
    exact qp_retZ_E qp_ok182 rfl qp_r182.1 rfl ⟨rfl, rfl⟩ ⟨rfl, rfl⟩
  · replace h := qp_iff h1 h
    refine qp_run_E qp_ok182 2 (c' := (7, [some (.int p0), some (.int p1)], [.int 1, .int p1], qp_mk I J)) (by with_unfolding_all rfl) hd1 trivial ?_
    refine qp_br_E qp_ok182 (f := ¬ p1 = 1) (ct := (15, [some (.int p0), some (.int p1)], [], qp_mk I J)) (cf := (10, [some (.int p0), some (.int p1)], [], qp_mk I J)) (by with_unfolding_all rfl) (fun h2 => ?_) (fun h2 => ?_)
    · replace h := qp_ift h2 h
      refine qp_run_E qp_ok182 2 (c' := (17, [some (.int p0), some (.int p1)], [.int 2, .int p1], qp_mk I J)) (by with_unfolding_all rfl) hd1 trivial ?_
      refine qp_br_E qp_ok182 (f := ¬ p1 = 2) (ct := (29, [some (.int p0), some (.int p1)], [], qp_mk I J)) (cf := (20, [some (.int p0), some (.int p1)], [], qp_mk I J)) (by with_unfolding_all rfl) (fun h3 => ?_) (fun h3 => ?_)
      · replace h := qp_ift h3 h
        refine qp_run_E qp_ok182 1 (c' := (30, [some (.int p0), some (.int p1)], [.int 0], qp_mk I J)) (by with_unfolding_all rfl) hd1 trivial ?_
        obtain ⟨rfl, rfl, rfl⟩ := qp_some3 h
        exact qp_retZ_E qp_ok182 rfl qp_r182.1 rfl ⟨rfl, rfl⟩ ⟨rfl, rfl⟩
      · replace h := qp_iff h3 h
        refine qp_run_E qp_ok182 2 (c' := (22, [some (.int p0), some (.int p1)], [.int 5, .int p0], qp_mk I J)) (by with_unfolding_all rfl) hd1 trivial ?_
        refine qp_br_E qp_ok182 (f := ¬ p0 = 5) (ct := (29, [some (.int p0), some (.int p1)], [], qp_mk I J)) (cf := (25, [some (.int p0), some (.int p1)], [], qp_mk I J)) (by with_unfolding_all rfl) (fun h4 => ?_) (fun h4 => ?_)
        · replace h := qp_ift h4 h
          refine qp_run_E qp_ok182 1 (c' := (30, [some (.int p0), some (.int p1)], [.int 0], qp_mk I J)) (by with_unfolding_all rfl) hd1 trivial ?_
          obtain ⟨rfl, rfl, rfl⟩ := qp_some3 h
          exact qp_retZ_E qp_ok182 rfl qp_r182.1 rfl ⟨rfl, rfl⟩ ⟨rfl, rfl⟩
        · replace h := qp_iff h4 h
          refine qp_run_E qp_ok182 2 (c' := (30, [some (.int p0), some (.int p1)], [.int 1], qp_mk I J)) (by with_unfolding_all rfl) hd1 trivial ?_
          obtain ⟨rfl, rfl, rfl⟩ := qp_some3 h
          exact qp_retZ_E qp_ok182 rfl qp_r182.1 rfl ⟨rfl, rfl⟩ ⟨rfl, rfl⟩
    · replace h := qp_iff h2 h
      refine qp_run_E qp_ok182 2 (c' := (12, [some (.int p0), some (.int p1)], [.int 4, .int p0], qp_mk I J)) (by with_unfolding_all rfl) hd1 trivial ?_
      refine qp_br_E qp_ok182 (f := p0 = 4) (ct := (25, [some (.int p0), some (.int p1)], [], qp_mk I J)) (cf := (15, [some (.int p0), some (.int p1)], [], qp_mk I J)) (by with_unfolding_all rfl) (fun h5 => ?_) (fun h5 => ?_)
      · replace h := qp_ift h5 h
        refine qp_run_E qp_ok182 2 (c' := (30, [some (.int p0), some (.int p1)], [.int 1], qp_mk I J)) (by with_unfolding_all rfl) hd1 trivial ?_
        obtain ⟨rfl, rfl, rfl⟩ := qp_some3 h
        exact qp_retZ_E qp_ok182 rfl qp_r182.1 rfl ⟨rfl, rfl⟩ ⟨rfl, rfl⟩
      · replace h := qp_iff h5 h
        refine qp_run_E qp_ok182 2 (c' := (17, [some (.int p0), some (.int p1)], [.int 2, .int p1], qp_mk I J)) (by with_unfolding_all rfl) hd1 trivial ?_
        refine qp_br_E qp_ok182 (f := ¬ p1 = 2) (ct := (29, [some (.int p0), some (.int p1)], [], qp_mk I J)) (cf := (20, [some (.int p0), some (.int p1)], [], qp_mk I J)) (by with_unfolding_all rfl) (fun h6 => ?_) (fun h6 => ?_)
        · replace h := qp_ift h6 h
          refine qp_run_E qp_ok182 1 (c' := (30, [some (.int p0), some (.int p1)], [.int 0], qp_mk I J)) (by with_unfolding_all rfl) hd1 trivial ?_
          obtain ⟨rfl, rfl, rfl⟩ := qp_some3 h
          exact qp_retZ_E qp_ok182 rfl qp_r182.1 rfl ⟨rfl, rfl⟩ ⟨rfl, rfl⟩
        · replace h := qp_iff h6 h
          refine qp_run_E qp_ok182 2 (c' := (22, [some (.int p0), some (.int p1)], [.int 5, .int p0], qp_mk I J)) (by with_unfolding_all rfl) hd1 trivial ?_
          refine qp_br_E qp_ok182 (f := ¬ p0 = 5) (ct := (29, [some (.int p0), some (.int p1)], [], qp_mk I J)) (cf := (25, [some (.int p0), some (.int p1)], [], qp_mk I J)) (by with_unfolding_all rfl) (fun h7 => ?_) (fun h7 => ?_)
          · replace h := qp_ift h7 h
            refine qp_run_E qp_ok182 1 (c' := (30, [some (.int p0), some (.int p1)], [.int 0], qp_mk I J)) (by with_unfolding_all rfl) hd1 trivial ?_
            obtain ⟨rfl, rfl, rfl⟩ := qp_some3 h
            exact qp_retZ_E qp_ok182 rfl qp_r182.1 rfl ⟨rfl, rfl⟩ ⟨rfl, rfl⟩
          · replace h := qp_iff h7 h
            refine qp_run_E qp_ok182 2 (c' := (30, [some (.int p0), some (.int p1)], [.int 1], qp_mk I J)) (by with_unfolding_all rfl) hd1 trivial ?_
            obtain ⟨rfl, rfl, rfl⟩ := qp_some3 h
            exact qp_retZ_E qp_ok182 rfl qp_r182.1 rfl ⟨rfl, rfl⟩ ⟨rfl, rfl⟩
def fM_othersAhead_b4  : Nat → Int32 → Int32 → Int32 → (Nat → Nat → Int32) → (Nat → Nat → Int64) → Option (Int32 × (Nat → Nat → Int32) × (Nat → Nat → Int64))
  | 0, _, _, _, _, _ => none
  | n + 1, a1, a2, a3, I, J =>
    qp_bd (fM_placeOf a1 I J) fun v1 I1 J1 =>
    if v1 ≤ a3 then (
      some (a2, I1, J1)
    ) else (
      qp_gd ((0 ≤ ((69 : Int32) + a3) ∧ ((69 : Int32) + a3) < 75) ∧ (0 ≤ ((2 : Int32) + (I1 37 (Int32.toNatClampNeg ((69 : Int32) + a3)))) ∧ ((2 : Int32) + (I1 37 (Int32.toNatClampNeg ((69 : Int32) + a3)))) < 75)) <|
      qp_bd (fM_isSoldier (I1 37 (Int32.toNatClampNeg ((2 : Int32) + (I1 37 (Int32.toNatClampNeg ((69 : Int32) + a3)))))) I1 J1) fun v2 I2 J2 =>
      if v2 = 0 then (
        fM_othersAhead_b4 n a1 (a2 + 1) (a3 + 1) I2 J2
      ) else (
        fM_othersAhead_b4 n a1 (a2 + 0) (a3 + 1) I2 J2
      )
    )
set_option maxRecDepth 8000 in
theorem gM_othersAhead_b4 {l : Launch} {G : qp_G} {d : Nat} (hd : 3 ≤ d) {r : (Int32 × (Nat → Nat → Int32) × (Nat → Nat → Int64))} {I0 : Nat → Nat → Int32} {J0 : Nat → Nat → Int64}   : ∀ (n : Nat) (a1 : Int32) (a2 : Int32) (a3 : Int32) (I : Nat → Nat → Int32) (J : Nat → Nat → Int64), fM_othersAhead_b4  n a1 a2 a3 I J = some r → qp_E l G d 183 (qp_mk I0 J0) 0 0 (qp_R8 (some (.int r.1)) r.2.1 r.2.2) (4, [some (.ref 36), some (.int a1), some (.int a2), some (.int a3)], [], qp_mk I J) := by
  have hd1 : Nat.ble 1 d = true := Nat.ble_eq_true_of_le (Nat.le_trans (by decide) hd)
  intro n
  induction n with
  | zero => intro a1 a2 a3 I J h; exact absurd h (by simp [fM_othersAhead_b4])
  | succ n ih =>
    intro a1 a2 a3 I J h
    rw [fM_othersAhead_b4] at h
    refine qp_run_E qp_ok183 3 (c' := (7, [some (.ref 36), some (.int a1), some (.int a2), some (.int a3)], [.int a1, .ref 36, .int a3], qp_mk I J)) (by with_unfolding_all rfl) hd1 trivial ?_
    obtain ⟨v1, I1, J1, e1, h⟩ := qp_bd_s h
    refine qp_cV qp_ok183 (rest := [.int a3]) (oj := 10) qp_f178 rfl rfl (gM_placeOf l G a1 I J e1 (Nat.le_refl 2)) rfl rfl rfl rfl (Nat.le_trans (by decide) hd) ?_
    refine qp_br_E qp_ok183 (f := v1 ≤ a3) (ct := (49, [some (.ref 36), some (.int a1), some (.int a2), some (.int a3)], [], qp_mk I1 J1)) (cf := (13, [some (.ref 36), some (.int a1), some (.int a2), some (.int a3)], [], qp_mk I1 J1)) (by with_unfolding_all rfl) (fun h1 => ?_) (fun h1 => ?_)
    · replace h := qp_ift h1 h
      refine qp_run_E qp_ok183 1 (c' := (50, [some (.ref 36), some (.int a1), some (.int a2), some (.int a3)], [.int a2], qp_mk I1 J1)) (by with_unfolding_all rfl) hd1 trivial ?_
      obtain rfl := Option.some.inj h
      exact qp_retI_E qp_ok183 rfl qp_r183.1 ⟨rfl, rfl⟩ ⟨rfl, rfl⟩
    · replace h := qp_iff h1 h
      obtain ⟨h2, h⟩ := qp_gd_s h
      refine qp_run_E qp_ok183 12 (f := vp_in ((69 : Int32) + a3) 75 ∧ vp_in ((2 : Int32) + (I1 37 (Int32.toNatClampNeg ((69 : Int32) + a3)))) 75 ∧ True) (c' := (30, [some (.ref 36), some (.int a1), some (.int a2), some (.int a3)], [.int (I1 37 (Int32.toNatClampNeg ((2 : Int32) + (I1 37 (Int32.toNatClampNeg ((69 : Int32) + a3)))))), .int a2], qp_mk I1 J1)) (by with_unfolding_all rfl) hd1 ⟨(qp_vin (c := 75) (by decide) h2.1.1 h2.1.2), (qp_vin (c := 75) (by decide) h2.2.1 h2.2.2), trivial⟩ ?_
      obtain ⟨v2, I2, J2, e2, h⟩ := qp_bd_s h
      refine qp_cS qp_ok183 (rest := [.int a2]) (oj := 10) qp_f176 rfl rfl (gM_isSoldier l G (I1 37 (Int32.toNatClampNeg ((2 : Int32) + (I1 37 (Int32.toNatClampNeg ((69 : Int32) + a3)))))) I1 J1 e2 (Nat.le_refl 1)) rfl rfl rfl (Nat.le_trans (by decide) hd) ?_
      refine qp_br_E qp_ok183 (f := v2 = 0) (ct := (40, [some (.ref 36), some (.int a1), some (.int a2), some (.int a3)], [.int a2], qp_mk I2 J2)) (cf := (36, [some (.ref 36), some (.int a1), some (.int a2), some (.int a3)], [.int a2], qp_mk I2 J2)) (by with_unfolding_all rfl) (fun h3 => ?_) (fun h3 => ?_)
      · replace h := qp_ift h3 h
        refine qp_run_E qp_ok183 5 (c' := (4, [some (.ref 36), some (.int a1), some (.int (a2 + 1)), some (.int (a3 + 1))], [], qp_mk I2 J2)) (by with_unfolding_all rfl) hd1 trivial ?_
        exact ih a1 (a2 + 1) (a3 + 1) I2 J2 h
      · replace h := qp_iff h3 h
        refine qp_run_E qp_ok183 6 (c' := (4, [some (.ref 36), some (.int a1), some (.int (a2 + 0)), some (.int (a3 + 1))], [], qp_mk I2 J2)) (by with_unfolding_all rfl) hd1 trivial ?_
        exact ih a1 (a2 + 0) (a3 + 1) I2 J2 h
def fM_othersAhead (p1 : Int32) (I : Nat → Nat → Int32) (J : Nat → Nat → Int64) : Option (Int32 × (Nat → Nat → Int32) × (Nat → Nat → Int64)) :=
  fM_othersAhead_b4 100000 p1 0 0 I J
set_option maxRecDepth 8000 in
theorem gM_othersAhead (l : Launch) (G : qp_G) (p1 : Int32) (I : Nat → Nat → Int32) (J : Nat → Nat → Int64) {v : Int32} {I' : Nat → Nat → Int32} {J' : Nat → Nat → Int64} (h : fM_othersAhead p1 I J = some (v, I', J')) {d : Nat} (hd : 3 ≤ d) : qp_Met l G d 183 [.ref 36, .int p1] (qp_mk I J) 0 0 (qp_R8 (some (.int v)) I' J') := by
  have hd1 : Nat.ble 1 d = true := Nat.ble_eq_true_of_le (Nat.le_trans (by decide) hd)
  refine qp_Met_of (by decide) (by rw [qp_r183.2]; rfl) [some (.ref 36), some (.int p1), none, none] (by rw [qp_r183.2]; rfl) ?_
  unfold fM_othersAhead at h
  refine qp_run_E qp_ok183 4 (c' := (4, [some (.ref 36), some (.int p1), some (.int 0), some (.int 0)], [], qp_mk I J)) (by with_unfolding_all rfl) hd1 trivial ?_
  exact gM_othersAhead_b4 hd 100000 p1 0 0 I J h
def fM_mark (p1 : Int32) (p2 : Int32) (I : Nat → Nat → Int32) (J : Nat → Nat → Int64) : Option (Int32 × (Nat → Nat → Int32) × (Nat → Nat → Int64)) :=
  qp_bd (fM_isOne p1 I J) fun v1 I1 J1 =>
  if v1 = 0 then (
    some ((-1), I1, J1)
  ) else (
    qp_bd (fM_in (Int32.toInt64 p2) 1 5 I1 J1) fun v2 I2 J2 =>
    if ¬ v2 = 0 then (
      qp_gd ((0 ≤ ((2 : Int32) + p1) ∧ ((2 : Int32) + p1) < 75)) <|
      qp_bd (fM_isOf (I2 37 (Int32.toNatClampNeg ((2 : Int32) + p1))) p2 I2 J2) fun v3 I3 J3 =>
      if ¬ v3 = 0 then (
        qp_bd (fM_serveNow I3 J3) fun _u I4 J4 =>
        if p2 = 1 then (
          qp_bd (fM_othersAhead p1 I4 J4) fun v5 I5 J5 =>
          some (v5, I5, J5)
        ) else
        if p2 = 2 then (
          qp_bd (fM_placeOf p1 I4 J4) fun v6 I6 J6 =>
          some ((((I4 37 0) - 1) - v6), I6, J6)
        ) else
        if p2 = 3 then (
          qp_gd ((0 ≤ p1 ∧ p1 < 6)) <|
          some ((I4 50 (Int32.toNatClampNeg p1)), I4, J4)
        ) else
        if p2 = 4 then (
          qp_gd ((0 ≤ p1 ∧ p1 < 6)) <|
          some (((I4 51 (Int32.toNatClampNeg p1)) - (I4 48 (Int32.toNatClampNeg p1))), I4, J4)
        ) else
        qp_bd (fM_placeOf p1 I4 J4) fun v7 I7 J7 =>
        some ((((I4 37 0) - 1) - v7), I7, J7)
      ) else (
        qp_bd (fM_finds 3 I3 J3) fun v8 I8 J8 =>
        some (v8, I8, J8)
      )
    ) else (
      some ((-1), I2, J2)
    )
  )
set_option maxRecDepth 8000 in
theorem gM_mark (l : Launch) (G : qp_G) (p1 : Int32) (p2 : Int32) (I : Nat → Nat → Int32) (J : Nat → Nat → Int64) {v : Int32} {I' : Nat → Nat → Int32} {J' : Nat → Nat → Int64} (h : fM_mark p1 p2 I J = some (v, I', J')) {d : Nat} (hd : 4 ≤ d) : qp_Met l G d 181 [.ref 36, .int p1, .int p2] (qp_mk I J) 0 0 (qp_R8 (some (.int v)) I' J') := by
  have hd1 : Nat.ble 1 d = true := Nat.ble_eq_true_of_le (Nat.le_trans (by decide) hd)
  refine qp_Met_of (by decide) (by rw [qp_r181.2]; rfl) [some (.ref 36), some (.int p1), some (.int p2)] (by rw [qp_r181.2]; rfl) ?_
  unfold fM_mark at h
  refine qp_run_E qp_ok181 2 (c' := (2, [some (.ref 36), some (.int p1), some (.int p2)], [.int p1, .ref 36], qp_mk I J)) (by with_unfolding_all rfl) hd1 trivial ?_
  obtain ⟨v1, I1, J1, e1, h⟩ := qp_bd_s h
  refine qp_cV qp_ok181 (rest := []) (oj := 10) qp_f172 rfl rfl (gM_isOne l G p1 I J e1 (Nat.le_refl 2)) rfl rfl rfl rfl (Nat.le_trans (by decide) hd) ?_
  refine qp_br_E qp_ok181 (f := v1 = 0) (ct := (20, [some (.ref 36), some (.int p1), some (.int p2)], [], qp_mk I1 J1)) (cf := (8, [some (.ref 36), some (.int p1), some (.int p2)], [], qp_mk I1 J1)) (by with_unfolding_all rfl) (fun h1 => ?_) (fun h1 => ?_)
  · replace h := qp_ift h1 h
    refine qp_run_E qp_ok181 1 (c' := (21, [some (.ref 36), some (.int p1), some (.int p2)], [.int (-1)], qp_mk I1 J1)) (by with_unfolding_all rfl) hd1 trivial ?_
    obtain ⟨rfl, rfl, rfl⟩ := qp_some3 h
    exact qp_retI_E qp_ok181 rfl qp_r181.1 ⟨rfl, rfl⟩ ⟨rfl, rfl⟩
  · replace h := qp_iff h1 h
    refine qp_run_E qp_ok181 4 (c' := (14, [some (.ref 36), some (.int p1), some (.int p2)], [.long 5, .long 1, .long (Int32.toInt64 p2)], qp_mk I1 J1)) (by with_unfolding_all rfl) hd1 trivial ?_
    obtain ⟨v2, I2, J2, e2, h⟩ := qp_bd_s h
    refine qp_cS qp_ok181 (rest := []) (oj := 10) qp_f150 rfl rfl (gM_in l G (Int32.toInt64 p2) 1 5 I1 J1 e2 (Nat.le_refl 1)) rfl rfl rfl (Nat.le_trans (by decide) hd) ?_
    refine qp_br_E qp_ok181 (f := ¬ v2 = 0) (ct := (22, [some (.ref 36), some (.int p1), some (.int p2)], [], qp_mk I2 J2)) (cf := (20, [some (.ref 36), some (.int p1), some (.int p2)], [], qp_mk I2 J2)) (by with_unfolding_all rfl) (fun h2 => ?_) (fun h2 => ?_)
    · replace h := qp_ift h2 h
      obtain ⟨h3, h⟩ := qp_gd_s h
      refine qp_run_E qp_ok181 7 (f := vp_in ((2 : Int32) + p1) 75 ∧ True) (c' := (31, [some (.ref 36), some (.int p1), some (.int p2)], [.int p2, .int (I2 37 (Int32.toNatClampNeg ((2 : Int32) + p1)))], qp_mk I2 J2)) (by with_unfolding_all rfl) hd1 ⟨(qp_vin (c := 75) (by decide) h3.1 h3.2), trivial⟩ ?_
      obtain ⟨v3, I3, J3, e3, h⟩ := qp_bd_s h
      refine qp_cS qp_ok181 (rest := []) (oj := 10) qp_f182 rfl rfl (gM_isOf l G (I2 37 (Int32.toNatClampNeg ((2 : Int32) + p1))) p2 I2 J2 e3 (Nat.le_refl 1)) rfl rfl rfl (Nat.le_trans (by decide) hd) ?_
      refine qp_br_E qp_ok181 (f := ¬ v3 = 0) (ct := (43, [some (.ref 36), some (.int p1), some (.int p2)], [], qp_mk I3 J3)) (cf := (37, [some (.ref 36), some (.int p1), some (.int p2)], [], qp_mk I3 J3)) (by with_unfolding_all rfl) (fun h4 => ?_) (fun h4 => ?_)
      · replace h := qp_ift h4 h
        refine qp_run_E qp_ok181 1 (c' := (44, [some (.ref 36), some (.int p1), some (.int p2)], [.ref 36], qp_mk I3 J3)) (by with_unfolding_all rfl) hd1 trivial ?_
        obtain ⟨v4, I4, J4, e4, h⟩ := qp_bd_s h
        refine qp_cV qp_ok181 (rest := []) (oj := 10) qp_f174 rfl rfl (gM_serveNow l G I3 J3 e4 (Nat.le_refl 3)) rfl rfl rfl rfl (Nat.le_trans (by decide) hd) ?_
        refine qp_run_E qp_ok181 1 (c' := (48, [some (.ref 36), some (.int p1), some (.int p2)], [.int p2], qp_mk I4 J4)) (by with_unfolding_all rfl) hd1 trivial ?_
        by_cases h5 : p2 = 1
        · replace h := qp_ift h5 h
          refine qp_run_E qp_ok181 1 (c' := (qp_swt 59 1 4 #[32, 59, 38, 45] 48 p2, [some (.ref 36), some (.int p1), some (.int p2)], [], qp_mk I4 J4)) (by with_unfolding_all rfl) hd1 trivial ?_
          refine qp_E_pc (pc' := 80) (by rw [h5]; rfl) ?_
          refine qp_run_E qp_ok181 2 (c' := (82, [some (.ref 36), some (.int p1), some (.int p2)], [.int p1, .ref 36], qp_mk I4 J4)) (by with_unfolding_all rfl) hd1 trivial ?_
          obtain ⟨v5, I5, J5, e5, h⟩ := qp_bd_s h
          refine qp_cV qp_ok181 (rest := []) (oj := 10) qp_f183 rfl rfl (gM_othersAhead l G p1 I4 J4 e5 (Nat.le_refl 3)) rfl rfl rfl rfl (Nat.le_trans (by decide) hd) ?_
          obtain ⟨rfl, rfl, rfl⟩ := qp_some3 h
          exact qp_retI_E qp_ok181 rfl qp_r181.1 ⟨rfl, rfl⟩ ⟨rfl, rfl⟩
        replace h := qp_iff h5 h
        by_cases h6 : p2 = 2
        · replace h := qp_ift h6 h
          refine qp_run_E qp_ok181 1 (c' := (qp_swt 59 1 4 #[32, 59, 38, 45] 48 p2, [some (.ref 36), some (.int p1), some (.int p2)], [], qp_mk I4 J4)) (by with_unfolding_all rfl) hd1 trivial ?_
          refine qp_E_pc (pc' := 107) (by rw [h6]; rfl) ?_
          refine qp_run_E qp_ok181 8 (f := vp_in 0 75 ∧ True) (c' := (117, [some (.ref 36), some (.int p1), some (.int p2)], [.int p1, .ref 36, .int ((I4 37 0) - 1)], qp_mk I4 J4)) (by with_unfolding_all rfl) hd1 ⟨(qp_vin (c := 75) (by decide) (by decide) (by decide)), trivial⟩ ?_
          obtain ⟨v6, I6, J6, e6, h⟩ := qp_bd_s h
          refine qp_cV qp_ok181 (rest := [.int ((I4 37 0) - 1)]) (oj := 10) qp_f178 rfl rfl (gM_placeOf l G p1 I4 J4 e6 (Nat.le_refl 2)) rfl rfl rfl rfl (Nat.le_trans (by decide) hd) ?_
          refine qp_run_E qp_ok181 1 (c' := (121, [some (.ref 36), some (.int p1), some (.int p2)], [.int (((I4 37 0) - 1) - v6)], qp_mk I6 J6)) (by with_unfolding_all rfl) hd1 trivial ?_
          obtain ⟨rfl, rfl, rfl⟩ := qp_some3 h
          exact qp_retI_E qp_ok181 rfl qp_r181.1 ⟨rfl, rfl⟩ ⟨rfl, rfl⟩
        replace h := qp_iff h6 h
        by_cases h7 : p2 = 3
        · replace h := qp_ift h7 h
          refine qp_run_E qp_ok181 1 (c' := (qp_swt 59 1 4 #[32, 59, 38, 45] 48 p2, [some (.ref 36), some (.int p1), some (.int p2)], [], qp_mk I4 J4)) (by with_unfolding_all rfl) hd1 trivial ?_
          refine qp_E_pc (pc' := 86) (by rw [h7]; rfl) ?_
          obtain ⟨h8, h⟩ := qp_gd_s h
          refine qp_run_E qp_ok181 4 (f := vp_in p1 6 ∧ True) (c' := (92, [some (.ref 36), some (.int p1), some (.int p2)], [.int (I4 50 (Int32.toNatClampNeg p1))], qp_mk I4 J4)) (by with_unfolding_all rfl) hd1 ⟨(qp_vin (c := 6) (by decide) h8.1 h8.2), trivial⟩ ?_
          obtain ⟨rfl, rfl, rfl⟩ := qp_some3 h
          exact qp_retI_E qp_ok181 rfl qp_r181.1 ⟨rfl, rfl⟩ ⟨rfl, rfl⟩
        replace h := qp_iff h7 h
        by_cases h9 : p2 = 4
        · replace h := qp_ift h9 h
          refine qp_run_E qp_ok181 1 (c' := (qp_swt 59 1 4 #[32, 59, 38, 45] 48 p2, [some (.ref 36), some (.int p1), some (.int p2)], [], qp_mk I4 J4)) (by with_unfolding_all rfl) hd1 trivial ?_
          refine qp_E_pc (pc' := 93) (by rw [h9]; rfl) ?_
          obtain ⟨h10, h⟩ := qp_gd_s h
          refine qp_run_E qp_ok181 9 (f := vp_in p1 6 ∧ vp_in p1 6 ∧ True) (c' := (106, [some (.ref 36), some (.int p1), some (.int p2)], [.int ((I4 51 (Int32.toNatClampNeg p1)) - (I4 48 (Int32.toNatClampNeg p1)))], qp_mk I4 J4)) (by with_unfolding_all rfl) hd1 ⟨(qp_vin (c := 6) (by decide) h10.1 h10.2), (qp_vin (c := 6) (by decide) h10.1 h10.2), trivial⟩ ?_
          obtain ⟨rfl, rfl, rfl⟩ := qp_some3 h
          exact qp_retI_E qp_ok181 rfl qp_r181.1 ⟨rfl, rfl⟩ ⟨rfl, rfl⟩
        replace h := qp_iff h9 h
        refine qp_run_E qp_ok181 1 (c' := (qp_swt 59 1 4 #[32, 59, 38, 45] 48 p2, [some (.ref 36), some (.int p1), some (.int p2)], [], qp_mk I4 J4)) (by with_unfolding_all rfl) hd1 trivial ?_
        refine qp_E_pc (pc' := 107) (qp_swt_df (lo' := 1) (hi' := 4) (by decide) (by decide) (by clear h; grind)) ?_
        refine qp_run_E qp_ok181 8 (f := vp_in 0 75 ∧ True) (c' := (117, [some (.ref 36), some (.int p1), some (.int p2)], [.int p1, .ref 36, .int ((I4 37 0) - 1)], qp_mk I4 J4)) (by with_unfolding_all rfl) hd1 ⟨(qp_vin (c := 75) (by decide) (by decide) (by decide)), trivial⟩ ?_
        obtain ⟨v7, I7, J7, e7, h⟩ := qp_bd_s h
        refine qp_cV qp_ok181 (rest := [.int ((I4 37 0) - 1)]) (oj := 10) qp_f178 rfl rfl (gM_placeOf l G p1 I4 J4 e7 (Nat.le_refl 2)) rfl rfl rfl rfl (Nat.le_trans (by decide) hd) ?_
        refine qp_run_E qp_ok181 1 (c' := (121, [some (.ref 36), some (.int p1), some (.int p2)], [.int (((I4 37 0) - 1) - v7)], qp_mk I7 J7)) (by with_unfolding_all rfl) hd1 trivial ?_
        obtain ⟨rfl, rfl, rfl⟩ := qp_some3 h
        exact qp_retI_E qp_ok181 rfl qp_r181.1 ⟨rfl, rfl⟩ ⟨rfl, rfl⟩
      · replace h := qp_iff h4 h
        refine qp_run_E qp_ok181 2 (c' := (39, [some (.ref 36), some (.int p1), some (.int p2)], [.int 3, .ref 36], qp_mk I3 J3)) (by with_unfolding_all rfl) hd1 trivial ?_
        obtain ⟨v8, I8, J8, e8, h⟩ := qp_bd_s h
        refine qp_cV qp_ok181 (rest := []) (oj := 10) qp_f151 rfl rfl (gM_finds l G 3 I3 J3 e8 (Nat.le_refl 1)) rfl rfl rfl rfl (Nat.le_trans (by decide) hd) ?_
        obtain ⟨rfl, rfl, rfl⟩ := qp_some3 h
        exact qp_retI_E qp_ok181 rfl qp_r181.1 ⟨rfl, rfl⟩ ⟨rfl, rfl⟩
    · replace h := qp_iff h2 h
      refine qp_run_E qp_ok181 1 (c' := (21, [some (.ref 36), some (.int p1), some (.int p2)], [.int (-1)], qp_mk I2 J2)) (by with_unfolding_all rfl) hd1 trivial ?_
      obtain ⟨rfl, rfl, rfl⟩ := qp_some3 h
      exact qp_retI_E qp_ok181 rfl qp_r181.1 ⟨rfl, rfl⟩ ⟨rfl, rfl⟩
def fM_goTo_37_b36  : Nat → Int32 → Int32 → Int32 → Int32 → (Nat → Nat → Int32) → (Nat → Nat → Int64) → Option (Unit × (Nat → Nat → Int32) × (Nat → Nat → Int64))
  | 0, _, _, _, _, _, _ => none
  | n + 1, a1, a3, a4, a5, I, J =>
    if a5 ≤ a4 then (
      qp_gd ((0 ≤ (a1 + a4) ∧ (a1 + a4) < 75)) <|
      some ((), (qp_up I 37 (Int32.toNatClampNeg (a1 + a4)) a3), J)
    ) else (
      qp_gd ((0 ≤ ((a1 + a5) - 1) ∧ ((a1 + a5) - 1) < 75) ∧ (0 ≤ (a1 + a5) ∧ (a1 + a5) < 75)) <|
      fM_goTo_37_b36 n a1 a3 a4 (a5 + (-1)) (qp_up I 37 (Int32.toNatClampNeg (a1 + a5)) (I 37 (Int32.toNatClampNeg ((a1 + a5) - 1)))) J
    )
set_option maxRecDepth 8000 in
theorem gM_goTo_37_b36 {l : Launch} {G : qp_G} {d : Nat} (hd : 2 ≤ d) {r : (Unit × (Nat → Nat → Int32) × (Nat → Nat → Int64))} {I0 : Nat → Nat → Int32} {J0 : Nat → Nat → Int64}   : ∀ (n : Nat) (a1 : Int32) (a3 : Int32) (a4 : Int32) (a5 : Int32) (I : Nat → Nat → Int32) (J : Nat → Nat → Int64), fM_goTo_37_b36  n a1 a3 a4 a5 I J = some r → qp_E l G d 189 (qp_mk I0 J0) 0 0 (qp_R8 none r.2.1 r.2.2) (36, [some (.ref 37), some (.int a1), none, some (.int a3), some (.int a4), some (.int a5)], [], qp_mk I J) := by
  have hd1 : Nat.ble 1 d = true := Nat.ble_eq_true_of_le (Nat.le_trans (by decide) hd)
  intro n
  induction n with
  | zero => intro a1 a3 a4 a5 I J h; exact absurd h (by simp [fM_goTo_37_b36])
  | succ n ih =>
    intro a1 a3 a4 a5 I J h
    rw [fM_goTo_37_b36] at h
    refine qp_run_E qp_ok189 2 (c' := (40, [some (.ref 37), some (.int a1), none, some (.int a3), some (.int a4), some (.int a5)], [.int a4, .int a5], qp_mk I J)) (by with_unfolding_all rfl) hd1 trivial ?_
    refine qp_br_E qp_ok189 (f := a5 ≤ a4) (ct := (63, [some (.ref 37), some (.int a1), none, some (.int a3), some (.int a4), some (.int a5)], [], qp_mk I J)) (cf := (43, [some (.ref 37), some (.int a1), none, some (.int a3), some (.int a4), some (.int a5)], [], qp_mk I J)) (by with_unfolding_all rfl) (fun h1 => ?_) (fun h1 => ?_)
    · replace h := qp_ift h1 h
      obtain ⟨h2, h⟩ := qp_gd_s h
      refine qp_run_E qp_ok189 6 (f := vp_in (a1 + a4) 75 ∧ True) (c' := (70, [some (.ref 37), some (.int a1), none, some (.int a3), some (.int a4), some (.int a5)], [], qp_mk (qp_up I 37 (Int32.toNatClampNeg (a1 + a4)) a3) J)) (by with_unfolding_all rfl) hd1 ⟨(qp_vin (c := 75) (by decide) h2.1 h2.2), trivial⟩ ?_
      obtain rfl := Option.some.inj h
      exact qp_retV_E qp_ok189 rfl qp_r189.1 ⟨rfl, rfl⟩ ⟨rfl, rfl⟩
    · replace h := qp_iff h1 h
      obtain ⟨h3, h⟩ := qp_gd_s h
      refine qp_run_E qp_ok189 14 (f := vp_in ((a1 + a5) - 1) 75 ∧ vp_in (a1 + a5) 75 ∧ True) (c' := (36, [some (.ref 37), some (.int a1), none, some (.int a3), some (.int a4), some (.int (a5 + (-1)))], [], qp_mk (qp_up I 37 (Int32.toNatClampNeg (a1 + a5)) (I 37 (Int32.toNatClampNeg ((a1 + a5) - 1)))) J)) (by with_unfolding_all rfl) hd1 ⟨(qp_vin (c := 75) (by decide) h3.1.1 h3.1.2), (qp_vin (c := 75) (by decide) h3.2.1 h3.2.2), trivial⟩ ?_
      exact ih a1 a3 a4 (a5 + (-1)) (qp_up I 37 (Int32.toNatClampNeg (a1 + a5)) (I 37 (Int32.toNatClampNeg ((a1 + a5) - 1)))) J h
def fM_goTo_37_b9  : Nat → Int32 → Int32 → Int32 → Int32 → (Nat → Nat → Int32) → (Nat → Nat → Int64) → Option (Unit × (Nat → Nat → Int32) × (Nat → Nat → Int64))
  | 0, _, _, _, _, _, _ => none
  | n + 1, a1, a3, a4, a5, I, J =>
    if a4 ≤ a5 then (
      fM_goTo_37_b36 100000 a1 a3 a4 a5 I J
    ) else (
      qp_gd ((0 ≤ ((a1 + a5) + 1) ∧ ((a1 + a5) + 1) < 75) ∧ (0 ≤ (a1 + a5) ∧ (a1 + a5) < 75)) <|
      fM_goTo_37_b9 n a1 a3 a4 (a5 + 1) (qp_up I 37 (Int32.toNatClampNeg (a1 + a5)) (I 37 (Int32.toNatClampNeg ((a1 + a5) + 1)))) J
    )
set_option maxRecDepth 8000 in
theorem gM_goTo_37_b9 {l : Launch} {G : qp_G} {d : Nat} (hd : 2 ≤ d) {r : (Unit × (Nat → Nat → Int32) × (Nat → Nat → Int64))} {I0 : Nat → Nat → Int32} {J0 : Nat → Nat → Int64}   : ∀ (n : Nat) (a1 : Int32) (a3 : Int32) (a4 : Int32) (a5 : Int32) (I : Nat → Nat → Int32) (J : Nat → Nat → Int64), fM_goTo_37_b9  n a1 a3 a4 a5 I J = some r → qp_E l G d 189 (qp_mk I0 J0) 0 0 (qp_R8 none r.2.1 r.2.2) (9, [some (.ref 37), some (.int a1), none, some (.int a3), some (.int a4), some (.int a5)], [], qp_mk I J) := by
  have hd1 : Nat.ble 1 d = true := Nat.ble_eq_true_of_le (Nat.le_trans (by decide) hd)
  intro n
  induction n with
  | zero => intro a1 a3 a4 a5 I J h; exact absurd h (by simp [fM_goTo_37_b9])
  | succ n ih =>
    intro a1 a3 a4 a5 I J h
    rw [fM_goTo_37_b9] at h
    refine qp_run_E qp_ok189 2 (c' := (13, [some (.ref 37), some (.int a1), none, some (.int a3), some (.int a4), some (.int a5)], [.int a4, .int a5], qp_mk I J)) (by with_unfolding_all rfl) hd1 trivial ?_
    refine qp_br_E qp_ok189 (f := a4 ≤ a5) (ct := (36, [some (.ref 37), some (.int a1), none, some (.int a3), some (.int a4), some (.int a5)], [], qp_mk I J)) (cf := (16, [some (.ref 37), some (.int a1), none, some (.int a3), some (.int a4), some (.int a5)], [], qp_mk I J)) (by with_unfolding_all rfl) (fun h1 => ?_) (fun h1 => ?_)
    · replace h := qp_ift h1 h
      exact gM_goTo_37_b36 hd 100000 a1 a3 a4 a5 I J h
    · replace h := qp_iff h1 h
      obtain ⟨h2, h⟩ := qp_gd_s h
      refine qp_run_E qp_ok189 14 (f := vp_in ((a1 + a5) + 1) 75 ∧ vp_in (a1 + a5) 75 ∧ True) (c' := (9, [some (.ref 37), some (.int a1), none, some (.int a3), some (.int a4), some (.int (a5 + 1))], [], qp_mk (qp_up I 37 (Int32.toNatClampNeg (a1 + a5)) (I 37 (Int32.toNatClampNeg ((a1 + a5) + 1)))) J)) (by with_unfolding_all rfl) hd1 ⟨(qp_vin (c := 75) (by decide) h2.1.1 h2.1.2), (qp_vin (c := 75) (by decide) h2.2.1 h2.2.2), trivial⟩ ?_
      exact ih a1 a3 a4 (a5 + 1) (qp_up I 37 (Int32.toNatClampNeg (a1 + a5)) (I 37 (Int32.toNatClampNeg ((a1 + a5) + 1)))) J h
def fM_goTo_37 (p1 : Int32) (p2 : Int32) (p3 : Int32) (p4 : Int32) (I : Nat → Nat → Int32) (J : Nat → Nat → Int64) : Option (Unit × (Nat → Nat → Int32) × (Nat → Nat → Int64)) :=
  qp_bd (fM_placeIn_37 p1 p2 p3 I J) fun v1 I1 J1 =>
  fM_goTo_37_b9 100000 p1 p3 p4 v1 I1 J1
set_option maxRecDepth 8000 in
theorem gM_goTo_37 (l : Launch) (G : qp_G) (p1 : Int32) (p2 : Int32) (p3 : Int32) (p4 : Int32) (I : Nat → Nat → Int32) (J : Nat → Nat → Int64) {v : Unit} {I' : Nat → Nat → Int32} {J' : Nat → Nat → Int64} (h : fM_goTo_37 p1 p2 p3 p4 I J = some (v, I', J')) {d : Nat} (hd : 2 ≤ d) : qp_Met l G d 189 [.ref 37, .int p1, .int p2, .int p3, .int p4] (qp_mk I J) 0 0 (qp_R8 none I' J') := by
  have hd1 : Nat.ble 1 d = true := Nat.ble_eq_true_of_le (Nat.le_trans (by decide) hd)
  refine qp_Met_of (by decide) (by rw [qp_r189.2]; rfl) [some (.ref 37), some (.int p1), some (.int p2), some (.int p3), some (.int p4), none] (by rw [qp_r189.2]; rfl) ?_
  unfold fM_goTo_37 at h
  refine qp_run_E qp_ok189 4 (c' := (4, [some (.ref 37), some (.int p1), some (.int p2), some (.int p3), some (.int p4), none], [.int p3, .int p2, .int p1, .ref 37], qp_mk I J)) (by with_unfolding_all rfl) hd1 trivial ?_
  obtain ⟨v1, I1, J1, e1, h⟩ := qp_bd_s h
  refine qp_cS qp_ok189 (rest := []) (oj := 10) qp_f179 rfl rfl (gM_placeIn_37 l G p1 p2 p3 I J e1 (Nat.le_refl 1)) rfl rfl rfl (Nat.le_trans (by decide) hd) ?_
  refine qp_run_E qp_ok189 1 (c' := (9, [some (.ref 37), some (.int p1), some (.int p2), some (.int p3), some (.int p4), some (.int v1)], [], qp_mk I1 J1)) (by with_unfolding_all rfl) hd1 trivial ?_
  exact qp_E_fg [true, true, false, true, true, true] (gM_goTo_37_b9 hd 100000 p1 p3 p4 v1 I1 J1 h)
def fM_layStands_37_b23  : Nat → Int32 → (Nat → Nat → Int32) → (Nat → Nat → Int64) → Option (Unit × (Nat → Nat → Int32) × (Nat → Nat → Int64))
  | 0, _, _, _ => none
  | n + 1, a1, I, J =>
    if (I 37 56) ≤ a1 then (
      some ((), I, J)
    ) else (
      qp_gd ((0 ≤ ((57 : Int32) + a1) ∧ ((57 : Int32) + a1) < 75)) <|
      qp_bd (fM_goTo_37 69 (I 37 0) ((I 37 (Int32.toNatClampNeg ((57 : Int32) + a1))) / 8) ((I 37 (Int32.toNatClampNeg ((57 : Int32) + a1))) - (I 37 (Int32.toNatClampNeg ((57 : Int32) + a1))) / 8 * 8) I J) fun _u I1 J1 =>
      fM_layStands_37_b23 n (a1 + 1) I1 J1
    )
set_option maxRecDepth 8000 in
theorem gM_layStands_37_b23 {l : Launch} {G : qp_G} {d : Nat} (hd : 3 ≤ d) {r : (Unit × (Nat → Nat → Int32) × (Nat → Nat → Int64))} {I0 : Nat → Nat → Int32} {J0 : Nat → Nat → Int64}   : ∀ (n : Nat) (a1 : Int32) (I : Nat → Nat → Int32) (J : Nat → Nat → Int64), fM_layStands_37_b23  n a1 I J = some r → qp_E l G d 188 (qp_mk I0 J0) 0 0 (qp_R8 none r.2.1 r.2.2) (23, [some (.ref 37), some (.int a1)], [], qp_mk I J) := by
  have hd1 : Nat.ble 1 d = true := Nat.ble_eq_true_of_le (Nat.le_trans (by decide) hd)
  intro n
  induction n with
  | zero => intro a1 I J h; exact absurd h (by simp [fM_layStands_37_b23])
  | succ n ih =>
    intro a1 I J h
    rw [fM_layStands_37_b23] at h
    refine qp_run_E qp_ok188 4 (f := vp_in 56 75 ∧ True) (c' := (28, [some (.ref 37), some (.int a1)], [.int (I 37 56), .int a1], qp_mk I J)) (by with_unfolding_all rfl) hd1 ⟨(qp_vin (c := 75) (by decide) (by decide) (by decide)), trivial⟩ ?_
    refine qp_br_E qp_ok188 (f := (I 37 56) ≤ a1) (ct := (64, [some (.ref 37), some (.int a1)], [], qp_mk I J)) (cf := (31, [some (.ref 37), some (.int a1)], [], qp_mk I J)) (by with_unfolding_all rfl) (fun h1 => ?_) (fun h1 => ?_)
    · replace h := qp_ift h1 h
      obtain rfl := Option.some.inj h
      exact qp_retV_E qp_ok188 rfl qp_r188.1 ⟨rfl, rfl⟩ ⟨rfl, rfl⟩
    · replace h := qp_iff h1 h
      obtain ⟨h2, h⟩ := qp_gd_s h
      refine qp_run_E qp_ok188 19 (f := vp_in 0 75 ∧ vp_in ((57 : Int32) + a1) 75 ∧ ¬ (8 : Int32) = 0 ∧ vp_in ((57 : Int32) + a1) 75 ∧ ¬ (8 : Int32) = 0 ∧ True) (c' := (55, [some (.ref 37), some (.int a1)], [.int ((I 37 (Int32.toNatClampNeg ((57 : Int32) + a1))) - (I 37 (Int32.toNatClampNeg ((57 : Int32) + a1))) / 8 * 8), .int ((I 37 (Int32.toNatClampNeg ((57 : Int32) + a1))) / 8), .int (I 37 0), .int 69, .ref 37], qp_mk I J)) (by with_unfolding_all rfl) hd1 ⟨(qp_vin (c := 75) (by decide) (by decide) (by decide)), (qp_vin (c := 75) (by decide) h2.1 h2.2), (by decide), (qp_vin (c := 75) (by decide) h2.1 h2.2), (by decide), trivial⟩ ?_
      obtain ⟨v1, I1, J1, e1, h⟩ := qp_bd_s h
      refine qp_cS qp_ok188 (rest := []) (oj := 10) qp_f189 rfl rfl (gM_goTo_37 l G 69 (I 37 0) ((I 37 (Int32.toNatClampNeg ((57 : Int32) + a1))) / 8) ((I 37 (Int32.toNatClampNeg ((57 : Int32) + a1))) - (I 37 (Int32.toNatClampNeg ((57 : Int32) + a1))) / 8 * 8) I J e1 (Nat.le_refl 2)) rfl rfl rfl (Nat.le_trans (by decide) hd) ?_
      refine qp_run_E qp_ok188 2 (c' := (23, [some (.ref 37), some (.int (a1 + 1))], [], qp_mk I1 J1)) (by with_unfolding_all rfl) hd1 trivial ?_
      exact ih (a1 + 1) I1 J1 h
def fM_layStands_37_b2  : Nat → Int32 → (Nat → Nat → Int32) → (Nat → Nat → Int64) → Option (Unit × (Nat → Nat → Int32) × (Nat → Nat → Int64))
  | 0, _, _, _ => none
  | n + 1, a1, I, J =>
    if 6 ≤ a1 then (
      fM_layStands_37_b23 100000 0 I J
    ) else (
      qp_gd ((0 ≤ ((69 : Int32) + a1) ∧ ((69 : Int32) + a1) < 75)) <|
      fM_layStands_37_b2 n (a1 + 1) (qp_up I 37 (Int32.toNatClampNeg ((69 : Int32) + a1)) a1) J
    )
set_option maxRecDepth 8000 in
theorem gM_layStands_37_b2 {l : Launch} {G : qp_G} {d : Nat} (hd : 3 ≤ d) {r : (Unit × (Nat → Nat → Int32) × (Nat → Nat → Int64))} {I0 : Nat → Nat → Int32} {J0 : Nat → Nat → Int64}   : ∀ (n : Nat) (a1 : Int32) (I : Nat → Nat → Int32) (J : Nat → Nat → Int64), fM_layStands_37_b2  n a1 I J = some r → qp_E l G d 188 (qp_mk I0 J0) 0 0 (qp_R8 none r.2.1 r.2.2) (2, [some (.ref 37), some (.int a1)], [], qp_mk I J) := by
  have hd1 : Nat.ble 1 d = true := Nat.ble_eq_true_of_le (Nat.le_trans (by decide) hd)
  intro n
  induction n with
  | zero => intro a1 I J h; exact absurd h (by simp [fM_layStands_37_b2])
  | succ n ih =>
    intro a1 I J h
    rw [fM_layStands_37_b2] at h
    refine qp_run_E qp_ok188 2 (c' := (5, [some (.ref 37), some (.int a1)], [.int 6, .int a1], qp_mk I J)) (by with_unfolding_all rfl) hd1 trivial ?_
    refine qp_br_E qp_ok188 (f := 6 ≤ a1) (ct := (21, [some (.ref 37), some (.int a1)], [], qp_mk I J)) (cf := (8, [some (.ref 37), some (.int a1)], [], qp_mk I J)) (by with_unfolding_all rfl) (fun h1 => ?_) (fun h1 => ?_)
    · replace h := qp_ift h1 h
      refine qp_run_E qp_ok188 2 (c' := (23, [some (.ref 37), some (.int 0)], [], qp_mk I J)) (by with_unfolding_all rfl) hd1 trivial ?_
      exact gM_layStands_37_b23 hd 100000 0 I J h
    · replace h := qp_iff h1 h
      obtain ⟨h2, h⟩ := qp_gd_s h
      refine qp_run_E qp_ok188 8 (f := vp_in ((69 : Int32) + a1) 75 ∧ True) (c' := (2, [some (.ref 37), some (.int (a1 + 1))], [], qp_mk (qp_up I 37 (Int32.toNatClampNeg ((69 : Int32) + a1)) a1) J)) (by with_unfolding_all rfl) hd1 ⟨(qp_vin (c := 75) (by decide) h2.1 h2.2), trivial⟩ ?_
      exact ih (a1 + 1) (qp_up I 37 (Int32.toNatClampNeg ((69 : Int32) + a1)) a1) J h
def fM_layStands_37  (I : Nat → Nat → Int32) (J : Nat → Nat → Int64) : Option (Unit × (Nat → Nat → Int32) × (Nat → Nat → Int64)) :=
  fM_layStands_37_b2 100000 0 I J
set_option maxRecDepth 8000 in
theorem gM_layStands_37 (l : Launch) (G : qp_G)  (I : Nat → Nat → Int32) (J : Nat → Nat → Int64) {v : Unit} {I' : Nat → Nat → Int32} {J' : Nat → Nat → Int64} (h : fM_layStands_37  I J = some (v, I', J')) {d : Nat} (hd : 3 ≤ d) : qp_Met l G d 188 [.ref 37] (qp_mk I J) 0 0 (qp_R8 none I' J') := by
  have hd1 : Nat.ble 1 d = true := Nat.ble_eq_true_of_le (Nat.le_trans (by decide) hd)
  refine qp_Met_of (by decide) (by rw [qp_r188.2]; rfl) [some (.ref 37), none] (by rw [qp_r188.2]; rfl) ?_
  unfold fM_layStands_37 at h
  refine qp_run_E qp_ok188 2 (c' := (2, [some (.ref 37), some (.int 0)], [], qp_mk I J)) (by with_unfolding_all rfl) hd1 trivial ?_
  exact gM_layStands_37_b2 hd 100000 0 I J h
def fM_goBack_37_b21  : Nat → Int32 → Int32 → Int32 → (Nat → Nat → Int32) → (Nat → Nat → Int64) → Option (Int32 × (Nat → Nat → Int32) × (Nat → Nat → Int64))
  | 0, _, _, _, _, _ => none
  | n + 1, a2, a3, a4, I, J =>
    if a2 ≤ a4 then (
      some (a3, I, J)
    ) else (
      qp_gd ((0 ≤ ((57 : Int32) + a4) ∧ ((57 : Int32) + a4) < 75) ∧ (0 ≤ ((69 : Int32) + ((I 37 (Int32.toNatClampNeg ((57 : Int32) + a4))) - (I 37 (Int32.toNatClampNeg ((57 : Int32) + a4))) / 8 * 8)) ∧ ((69 : Int32) + ((I 37 (Int32.toNatClampNeg ((57 : Int32) + a4))) - (I 37 (Int32.toNatClampNeg ((57 : Int32) + a4))) / 8 * 8)) < 75)) <|
      if ¬ (I 37 (Int32.toNatClampNeg ((69 : Int32) + ((I 37 (Int32.toNatClampNeg ((57 : Int32) + a4))) - (I 37 (Int32.toNatClampNeg ((57 : Int32) + a4))) / 8 * 8)))) = ((I 37 (Int32.toNatClampNeg ((57 : Int32) + a4))) / 8) then (
        qp_gd ((0 ≤ ((57 : Int32) + a4) ∧ ((57 : Int32) + a4) < 75) ∧ (0 ≤ ((57 : Int32) + (I 37 56)) ∧ ((57 : Int32) + (I 37 56)) < 75)) <|
        qp_bd (fM_goTo_37 69 ((qp_up I 37 (Int32.toNatClampNeg ((57 : Int32) + (I 37 56))) (I 37 (Int32.toNatClampNeg ((57 : Int32) + a4)))) 37 0) ((I 37 (Int32.toNatClampNeg ((57 : Int32) + a4))) / 8) ((I 37 (Int32.toNatClampNeg ((57 : Int32) + a4))) - (I 37 (Int32.toNatClampNeg ((57 : Int32) + a4))) / 8 * 8) (qp_up (qp_up I 37 (Int32.toNatClampNeg ((57 : Int32) + (I 37 56))) (I 37 (Int32.toNatClampNeg ((57 : Int32) + a4)))) 37 56 (((qp_up I 37 (Int32.toNatClampNeg ((57 : Int32) + (I 37 56))) (I 37 (Int32.toNatClampNeg ((57 : Int32) + a4)))) 37 56) + 1)) J) fun _u I1 J1 =>
        fM_goBack_37_b21 n a2 a3 (a4 + 1) I1 J1
      ) else (
        fM_goBack_37_b21 n a2 (a3 + 1) (a4 + 1) I J
      )
    )
set_option maxRecDepth 8000 in
theorem gM_goBack_37_b21 {l : Launch} {G : qp_G} {d : Nat} (hd : 4 ≤ d) {r : (Int32 × (Nat → Nat → Int32) × (Nat → Nat → Int64))} {I0 : Nat → Nat → Int32} {J0 : Nat → Nat → Int64}   : ∀ (n : Nat) (a2 : Int32) (a3 : Int32) (a4 : Int32) (I : Nat → Nat → Int32) (J : Nat → Nat → Int64), fM_goBack_37_b21  n a2 a3 a4 I J = some r → qp_E l G d 187 (qp_mk I0 J0) 0 0 (qp_R8 (some (.int r.1)) r.2.1 r.2.2) (21, [some (.ref 37), none, some (.int a2), some (.int a3), some (.int a4), none, none], [], qp_mk I J) := by
  have hd1 : Nat.ble 1 d = true := Nat.ble_eq_true_of_le (Nat.le_trans (by decide) hd)
  intro n
  induction n with
  | zero => intro a2 a3 a4 I J h; exact absurd h (by simp [fM_goBack_37_b21])
  | succ n ih =>
    intro a2 a3 a4 I J h
    rw [fM_goBack_37_b21] at h
    refine qp_run_E qp_ok187 2 (c' := (24, [some (.ref 37), none, some (.int a2), some (.int a3), some (.int a4), none, none], [.int a2, .int a4], qp_mk I J)) (by with_unfolding_all rfl) hd1 trivial ?_
    refine qp_br_E qp_ok187 (f := a2 ≤ a4) (ct := (112, [some (.ref 37), none, some (.int a2), some (.int a3), some (.int a4), none, none], [], qp_mk I J)) (cf := (27, [some (.ref 37), none, some (.int a2), some (.int a3), some (.int a4), none, none], [], qp_mk I J)) (by with_unfolding_all rfl) (fun h1 => ?_) (fun h1 => ?_)
    · replace h := qp_ift h1 h
      refine qp_run_E qp_ok187 1 (c' := (113, [some (.ref 37), none, some (.int a2), some (.int a3), some (.int a4), none, none], [.int a3], qp_mk I J)) (by with_unfolding_all rfl) hd1 trivial ?_
      obtain rfl := Option.some.inj h
      exact qp_retI_E qp_ok187 rfl qp_r187.1 ⟨rfl, rfl⟩ ⟨rfl, rfl⟩
    · replace h := qp_iff h1 h
      obtain ⟨h2, h⟩ := qp_gd_s h
      refine qp_run_E qp_ok187 22 (f := vp_in ((57 : Int32) + a4) 75 ∧ ¬ (8 : Int32) = 0 ∧ vp_in ((57 : Int32) + a4) 75 ∧ ¬ (8 : Int32) = 0 ∧ vp_in ((69 : Int32) + ((I 37 (Int32.toNatClampNeg ((57 : Int32) + a4))) - (I 37 (Int32.toNatClampNeg ((57 : Int32) + a4))) / 8 * 8)) 75 ∧ True) (c' := (60, [some (.ref 37), none, some (.int a2), some (.int a3), some (.int a4), some (.int ((I 37 (Int32.toNatClampNeg ((57 : Int32) + a4))) / 8)), some (.int ((I 37 (Int32.toNatClampNeg ((57 : Int32) + a4))) - (I 37 (Int32.toNatClampNeg ((57 : Int32) + a4))) / 8 * 8))], [.int ((I 37 (Int32.toNatClampNeg ((57 : Int32) + a4))) / 8), .int (I 37 (Int32.toNatClampNeg ((69 : Int32) + ((I 37 (Int32.toNatClampNeg ((57 : Int32) + a4))) - (I 37 (Int32.toNatClampNeg ((57 : Int32) + a4))) / 8 * 8))))], qp_mk I J)) (by with_unfolding_all rfl) hd1 ⟨(qp_vin (c := 75) (by decide) h2.1.1 h2.1.2), (by decide), (qp_vin (c := 75) (by decide) h2.1.1 h2.1.2), (by decide), (qp_vin (c := 75) (by decide) h2.2.1 h2.2.2), trivial⟩ ?_
      refine qp_br_E qp_ok187 (f := ¬ (I 37 (Int32.toNatClampNeg ((69 : Int32) + ((I 37 (Int32.toNatClampNeg ((57 : Int32) + a4))) - (I 37 (Int32.toNatClampNeg ((57 : Int32) + a4))) / 8 * 8)))) = ((I 37 (Int32.toNatClampNeg ((57 : Int32) + a4))) / 8)) (ct := (69, [some (.ref 37), none, some (.int a2), some (.int a3), some (.int a4), some (.int ((I 37 (Int32.toNatClampNeg ((57 : Int32) + a4))) / 8)), some (.int ((I 37 (Int32.toNatClampNeg ((57 : Int32) + a4))) - (I 37 (Int32.toNatClampNeg ((57 : Int32) + a4))) / 8 * 8))], [], qp_mk I J)) (cf := (63, [some (.ref 37), none, some (.int a2), some (.int a3), some (.int a4), some (.int ((I 37 (Int32.toNatClampNeg ((57 : Int32) + a4))) / 8)), some (.int ((I 37 (Int32.toNatClampNeg ((57 : Int32) + a4))) - (I 37 (Int32.toNatClampNeg ((57 : Int32) + a4))) / 8 * 8))], [], qp_mk I J)) (by with_unfolding_all rfl) (fun h3 => ?_) (fun h3 => ?_)
      · replace h := qp_ift h3 h
        obtain ⟨h4, h⟩ := qp_gd_s h
        refine qp_run_E qp_ok187 26 (f := vp_in 56 75 ∧ vp_in ((57 : Int32) + a4) 75 ∧ vp_in ((57 : Int32) + (I 37 56)) 75 ∧ vp_in 56 75 ∧ vp_in 56 75 ∧ vp_in 0 75 ∧ True) (c' := (103, [some (.ref 37), none, some (.int a2), some (.int a3), some (.int a4), some (.int ((I 37 (Int32.toNatClampNeg ((57 : Int32) + a4))) / 8)), some (.int ((I 37 (Int32.toNatClampNeg ((57 : Int32) + a4))) - (I 37 (Int32.toNatClampNeg ((57 : Int32) + a4))) / 8 * 8))], [.int ((I 37 (Int32.toNatClampNeg ((57 : Int32) + a4))) - (I 37 (Int32.toNatClampNeg ((57 : Int32) + a4))) / 8 * 8), .int ((I 37 (Int32.toNatClampNeg ((57 : Int32) + a4))) / 8), .int ((qp_up I 37 (Int32.toNatClampNeg ((57 : Int32) + (I 37 56))) (I 37 (Int32.toNatClampNeg ((57 : Int32) + a4)))) 37 0), .int 69, .ref 37], qp_mk (qp_up (qp_up I 37 (Int32.toNatClampNeg ((57 : Int32) + (I 37 56))) (I 37 (Int32.toNatClampNeg ((57 : Int32) + a4)))) 37 56 (((qp_up I 37 (Int32.toNatClampNeg ((57 : Int32) + (I 37 56))) (I 37 (Int32.toNatClampNeg ((57 : Int32) + a4)))) 37 56) + 1)) J)) (by with_unfolding_all rfl) hd1 ⟨(qp_vin (c := 75) (by decide) (by decide) (by decide)), (qp_vin (c := 75) (by decide) h4.1.1 h4.1.2), (qp_vin (c := 75) (by decide) h4.2.1 h4.2.2), (qp_vin (c := 75) (by decide) (by decide) (by decide)), (qp_vin (c := 75) (by decide) (by decide) (by decide)), (qp_vin (c := 75) (by decide) (by decide) (by decide)), trivial⟩ ?_
        obtain ⟨v1, I1, J1, e1, h⟩ := qp_bd_s h
        refine qp_cS qp_ok187 (rest := []) (oj := 10) qp_f189 rfl rfl (gM_goTo_37 l G 69 ((qp_up I 37 (Int32.toNatClampNeg ((57 : Int32) + (I 37 56))) (I 37 (Int32.toNatClampNeg ((57 : Int32) + a4)))) 37 0) ((I 37 (Int32.toNatClampNeg ((57 : Int32) + a4))) / 8) ((I 37 (Int32.toNatClampNeg ((57 : Int32) + a4))) - (I 37 (Int32.toNatClampNeg ((57 : Int32) + a4))) / 8 * 8) (qp_up (qp_up I 37 (Int32.toNatClampNeg ((57 : Int32) + (I 37 56))) (I 37 (Int32.toNatClampNeg ((57 : Int32) + a4)))) 37 56 (((qp_up I 37 (Int32.toNatClampNeg ((57 : Int32) + (I 37 56))) (I 37 (Int32.toNatClampNeg ((57 : Int32) + a4)))) 37 56) + 1)) J e1 (Nat.le_refl 2)) rfl rfl rfl (Nat.le_trans (by decide) hd) ?_
        refine qp_run_E qp_ok187 2 (c' := (21, [some (.ref 37), none, some (.int a2), some (.int a3), some (.int (a4 + 1)), some (.int ((I 37 (Int32.toNatClampNeg ((57 : Int32) + a4))) / 8)), some (.int ((I 37 (Int32.toNatClampNeg ((57 : Int32) + a4))) - (I 37 (Int32.toNatClampNeg ((57 : Int32) + a4))) / 8 * 8))], [], qp_mk I1 J1)) (by with_unfolding_all rfl) hd1 trivial ?_
        exact qp_E_fg [true, false, true, true, true, false, false] (ih a2 a3 (a4 + 1) I1 J1 h)
      · replace h := qp_iff h3 h
        refine qp_run_E qp_ok187 4 (c' := (21, [some (.ref 37), none, some (.int a2), some (.int (a3 + 1)), some (.int (a4 + 1)), some (.int ((I 37 (Int32.toNatClampNeg ((57 : Int32) + a4))) / 8)), some (.int ((I 37 (Int32.toNatClampNeg ((57 : Int32) + a4))) - (I 37 (Int32.toNatClampNeg ((57 : Int32) + a4))) / 8 * 8))], [], qp_mk I J)) (by with_unfolding_all rfl) hd1 trivial ?_
        exact qp_E_fg [true, false, true, true, true, false, false] (ih a2 (a3 + 1) (a4 + 1) I J h)
def fM_goBack_37 (p1 : Int32) (I : Nat → Nat → Int32) (J : Nat → Nat → Int64) : Option (Int32 × (Nat → Nat → Int32) × (Nat → Nat → Int64)) :=
  qp_bd (fM_layStands_37 (qp_up I 37 56 p1) J) fun _u I1 J1 =>
  fM_goBack_37_b21 100000 (I 37 56) 0 (p1 + 1) I1 J1
set_option maxRecDepth 8000 in
theorem gM_goBack_37 (l : Launch) (G : qp_G) (p1 : Int32) (I : Nat → Nat → Int32) (J : Nat → Nat → Int64) {v : Int32} {I' : Nat → Nat → Int32} {J' : Nat → Nat → Int64} (h : fM_goBack_37 p1 I J = some (v, I', J')) {d : Nat} (hd : 4 ≤ d) : qp_Met l G d 187 [.ref 37, .int p1] (qp_mk I J) 0 0 (qp_R8 (some (.int v)) I' J') := by
  have hd1 : Nat.ble 1 d = true := Nat.ble_eq_true_of_le (Nat.le_trans (by decide) hd)
  refine qp_Met_of (by decide) (by rw [qp_r187.2]; rfl) [some (.ref 37), some (.int p1), none, none, none, none, none] (by rw [qp_r187.2]; rfl) ?_
  unfold fM_goBack_37 at h
  refine qp_run_E qp_ok187 11 (f := vp_in 56 75 ∧ vp_in 56 75 ∧ True) (c' := (13, [some (.ref 37), some (.int p1), some (.int (I 37 56)), some (.int 0), none, none, none], [.ref 37], qp_mk (qp_up I 37 56 p1) J)) (by with_unfolding_all rfl) hd1 ⟨(qp_vin (c := 75) (by decide) (by decide) (by decide)), (qp_vin (c := 75) (by decide) (by decide) (by decide)), trivial⟩ ?_
  obtain ⟨v1, I1, J1, e1, h⟩ := qp_bd_s h
  refine qp_cS qp_ok187 (rest := []) (oj := 10) qp_f188 rfl rfl (gM_layStands_37 l G (qp_up I 37 56 p1) J e1 (Nat.le_refl 3)) rfl rfl rfl (Nat.le_trans (by decide) hd) ?_
  refine qp_run_E qp_ok187 4 (c' := (21, [some (.ref 37), some (.int p1), some (.int (I 37 56)), some (.int 0), some (.int (p1 + 1)), none, none], [], qp_mk I1 J1)) (by with_unfolding_all rfl) hd1 trivial ?_
  exact qp_E_fg [true, false, true, true, true, false, false] (gM_goBack_37_b21 hd 100000 (I 37 56) 0 (p1 + 1) I1 J1 h)
def fM_goDeed_37 (p1 : Int32) (I : Nat → Nat → Int32) (J : Nat → Nat → Int64) : Option (Int32 × (Nat → Nat → Int32) × (Nat → Nat → Int64)) :=
  if p1 < 300 then (
    if p1 < 200 then (
      if p1 < 100 then (
        some (0, I, J)
      ) else (
        qp_gd ((0 ≤ ((57 : Int32) + (I 37 56)) ∧ ((57 : Int32) + (I 37 56)) < 75)) <|
        qp_bd (fM_goTo_37 69 ((qp_up I 37 (Int32.toNatClampNeg ((57 : Int32) + (I 37 56))) (p1 - 100)) 37 0) ((p1 - 100) / 8) ((p1 - 100) - (p1 - 100) / 8 * 8) (qp_up (qp_up I 37 (Int32.toNatClampNeg ((57 : Int32) + (I 37 56))) (p1 - 100)) 37 56 (((qp_up I 37 (Int32.toNatClampNeg ((57 : Int32) + (I 37 56))) (p1 - 100)) 37 56) + 1)) J) fun _u I1 J1 =>
        some (0, I1, J1)
      )
    ) else (
      qp_bd (fM_goBack_37 (p1 - 200) I J) fun v2 I2 J2 =>
      some (v2, I2, J2)
    )
  ) else (
    some (0, (qp_up I 37 55 (p1 - 300)), J)
  )
set_option maxRecDepth 8000 in
theorem gM_goDeed_37 (l : Launch) (G : qp_G) (p1 : Int32) (I : Nat → Nat → Int32) (J : Nat → Nat → Int64) {v : Int32} {I' : Nat → Nat → Int32} {J' : Nat → Nat → Int64} (h : fM_goDeed_37 p1 I J = some (v, I', J')) {d : Nat} (hd : 5 ≤ d) : qp_Met l G d 186 [.ref 37, .int p1] (qp_mk I J) 0 0 (qp_R8 (some (.int v)) I' J') := by
  have hd1 : Nat.ble 1 d = true := Nat.ble_eq_true_of_le (Nat.le_trans (by decide) hd)
  refine qp_Met_of (by decide) (by rw [qp_r186.2]; rfl) [some (.ref 37), some (.int p1)] (by rw [qp_r186.2]; rfl) ?_
  unfold fM_goDeed_37 at h
  refine qp_run_E qp_ok186 2 (c' := (4, [some (.ref 37), some (.int p1)], [.int 300, .int p1], qp_mk I J)) (by with_unfolding_all rfl) hd1 trivial ?_
  refine qp_br_E qp_ok186 (f := p1 < 300) (ct := (19, [some (.ref 37), some (.int p1)], [], qp_mk I J)) (cf := (7, [some (.ref 37), some (.int p1)], [], qp_mk I J)) (by with_unfolding_all rfl) (fun h1 => ?_) (fun h1 => ?_)
  · replace h := qp_ift h1 h
    refine qp_run_E qp_ok186 2 (c' := (23, [some (.ref 37), some (.int p1)], [.int 200, .int p1], qp_mk I J)) (by with_unfolding_all rfl) hd1 trivial ?_
    refine qp_br_E qp_ok186 (f := p1 < 200) (ct := (36, [some (.ref 37), some (.int p1)], [], qp_mk I J)) (cf := (26, [some (.ref 37), some (.int p1)], [], qp_mk I J)) (by with_unfolding_all rfl) (fun h2 => ?_) (fun h2 => ?_)
    · replace h := qp_ift h2 h
      refine qp_run_E qp_ok186 2 (c' := (39, [some (.ref 37), some (.int p1)], [.int 100, .int p1], qp_mk I J)) (by with_unfolding_all rfl) hd1 trivial ?_
      refine qp_br_E qp_ok186 (f := p1 < 100) (ct := (86, [some (.ref 37), some (.int p1)], [], qp_mk I J)) (cf := (42, [some (.ref 37), some (.int p1)], [], qp_mk I J)) (by with_unfolding_all rfl) (fun h3 => ?_) (fun h3 => ?_)
      · replace h := qp_ift h3 h
        refine qp_run_E qp_ok186 1 (c' := (87, [some (.ref 37), some (.int p1)], [.int 0], qp_mk I J)) (by with_unfolding_all rfl) hd1 trivial ?_
        obtain ⟨rfl, rfl, rfl⟩ := qp_some3 h
        exact qp_retI_E qp_ok186 rfl qp_r186.1 ⟨rfl, rfl⟩ ⟨rfl, rfl⟩
      · replace h := qp_iff h3 h
        obtain ⟨h4, h⟩ := qp_gd_s h
        refine qp_run_E qp_ok186 32 (f := vp_in 56 75 ∧ vp_in ((57 : Int32) + (I 37 56)) 75 ∧ vp_in 56 75 ∧ vp_in 56 75 ∧ vp_in 0 75 ∧ ¬ (8 : Int32) = 0 ∧ ¬ (8 : Int32) = 0 ∧ True) (c' := (83, [some (.ref 37), some (.int p1)], [.int ((p1 - 100) - (p1 - 100) / 8 * 8), .int ((p1 - 100) / 8), .int ((qp_up I 37 (Int32.toNatClampNeg ((57 : Int32) + (I 37 56))) (p1 - 100)) 37 0), .int 69, .ref 37], qp_mk (qp_up (qp_up I 37 (Int32.toNatClampNeg ((57 : Int32) + (I 37 56))) (p1 - 100)) 37 56 (((qp_up I 37 (Int32.toNatClampNeg ((57 : Int32) + (I 37 56))) (p1 - 100)) 37 56) + 1)) J)) (by with_unfolding_all rfl) hd1 ⟨(qp_vin (c := 75) (by decide) (by decide) (by decide)), (qp_vin (c := 75) (by decide) h4.1 h4.2), (qp_vin (c := 75) (by decide) (by decide) (by decide)), (qp_vin (c := 75) (by decide) (by decide) (by decide)), (qp_vin (c := 75) (by decide) (by decide) (by decide)), (by decide), (by decide), trivial⟩ ?_
        obtain ⟨v1, I1, J1, e1, h⟩ := qp_bd_s h
        refine qp_cS qp_ok186 (rest := []) (oj := 10) qp_f189 rfl rfl (gM_goTo_37 l G 69 ((qp_up I 37 (Int32.toNatClampNeg ((57 : Int32) + (I 37 56))) (p1 - 100)) 37 0) ((p1 - 100) / 8) ((p1 - 100) - (p1 - 100) / 8 * 8) (qp_up (qp_up I 37 (Int32.toNatClampNeg ((57 : Int32) + (I 37 56))) (p1 - 100)) 37 56 (((qp_up I 37 (Int32.toNatClampNeg ((57 : Int32) + (I 37 56))) (p1 - 100)) 37 56) + 1)) J e1 (Nat.le_refl 2)) rfl rfl rfl (Nat.le_trans (by decide) hd) ?_
        refine qp_run_E qp_ok186 1 (c' := (87, [some (.ref 37), some (.int p1)], [.int 0], qp_mk I1 J1)) (by with_unfolding_all rfl) hd1 trivial ?_
        obtain ⟨rfl, rfl, rfl⟩ := qp_some3 h
        exact qp_retI_E qp_ok186 rfl qp_r186.1 ⟨rfl, rfl⟩ ⟨rfl, rfl⟩
    · replace h := qp_iff h2 h
      refine qp_run_E qp_ok186 4 (c' := (32, [some (.ref 37), some (.int p1)], [.int (p1 - 200), .ref 37], qp_mk I J)) (by with_unfolding_all rfl) hd1 trivial ?_
      obtain ⟨v2, I2, J2, e2, h⟩ := qp_bd_s h
      refine qp_cS qp_ok186 (rest := []) (oj := 10) qp_f187 rfl rfl (gM_goBack_37 l G (p1 - 200) I J e2 (Nat.le_refl 4)) rfl rfl rfl (Nat.le_trans (by decide) hd) ?_
      obtain ⟨rfl, rfl, rfl⟩ := qp_some3 h
      exact qp_retI_E qp_ok186 rfl qp_r186.1 ⟨rfl, rfl⟩ ⟨rfl, rfl⟩
  · replace h := qp_iff h1 h
    refine qp_run_E qp_ok186 8 (f := vp_in 55 75 ∧ True) (c' := (87, [some (.ref 37), some (.int p1)], [.int 0], qp_mk (qp_up I 37 55 (p1 - 300)) J)) (by with_unfolding_all rfl) hd1 ⟨(qp_vin (c := 75) (by decide) (by decide) (by decide)), trivial⟩ ?_
    obtain ⟨rfl, rfl, rfl⟩ := qp_some3 h
    exact qp_retI_E qp_ok186 rfl qp_r186.1 ⟨rfl, rfl⟩ ⟨rfl, rfl⟩
def fM_does (p1 : Int32) (I : Nat → Nat → Int32) (J : Nat → Nat → Int64) : Option (Int32 × (Nat → Nat → Int32) × (Nat → Nat → Int64)) :=
  qp_gd ((0 ≤ ((15 : Int32) + (I 37 14)) ∧ ((15 : Int32) + (I 37 14)) < 75)) <|
  qp_bd (fM_goDeed_37 p1 (qp_up (qp_up I 37 (Int32.toNatClampNeg ((15 : Int32) + (I 37 14))) p1) 37 14 (((qp_up I 37 (Int32.toNatClampNeg ((15 : Int32) + (I 37 14))) p1) 37 14) + 1)) J) fun v1 I1 J1 =>
  some (v1, I1, J1)
set_option maxRecDepth 8000 in
theorem gM_does (l : Launch) (G : qp_G) (p1 : Int32) (I : Nat → Nat → Int32) (J : Nat → Nat → Int64) {v : Int32} {I' : Nat → Nat → Int32} {J' : Nat → Nat → Int64} (h : fM_does p1 I J = some (v, I', J')) {d : Nat} (hd : 6 ≤ d) : qp_Met l G d 185 [.ref 36, .int p1] (qp_mk I J) 0 0 (qp_R8 (some (.int v)) I' J') := by
  have hd1 : Nat.ble 1 d = true := Nat.ble_eq_true_of_le (Nat.le_trans (by decide) hd)
  refine qp_Met_of (by decide) (by rw [qp_r185.2]; rfl) [some (.ref 36), some (.int p1)] (by rw [qp_r185.2]; rfl) ?_
  unfold fM_does at h
  obtain ⟨h1, h⟩ := qp_gd_s h
  refine qp_run_E qp_ok185 21 (f := vp_in 14 75 ∧ vp_in ((15 : Int32) + (I 37 14)) 75 ∧ vp_in 14 75 ∧ vp_in 14 75 ∧ True) (c' := (32, [some (.ref 36), some (.int p1)], [.int p1, .ref 37], qp_mk (qp_up (qp_up I 37 (Int32.toNatClampNeg ((15 : Int32) + (I 37 14))) p1) 37 14 (((qp_up I 37 (Int32.toNatClampNeg ((15 : Int32) + (I 37 14))) p1) 37 14) + 1)) J)) (by with_unfolding_all rfl) hd1 ⟨(qp_vin (c := 75) (by decide) (by decide) (by decide)), (qp_vin (c := 75) (by decide) h1.1 h1.2), (qp_vin (c := 75) (by decide) (by decide) (by decide)), (qp_vin (c := 75) (by decide) (by decide) (by decide)), trivial⟩ ?_
  obtain ⟨v1, I1, J1, e1, h⟩ := qp_bd_s h
  refine qp_cS qp_ok185 (rest := []) (oj := 10) qp_f186 rfl rfl (gM_goDeed_37 l G p1 (qp_up (qp_up I 37 (Int32.toNatClampNeg ((15 : Int32) + (I 37 14))) p1) 37 14 (((qp_up I 37 (Int32.toNatClampNeg ((15 : Int32) + (I 37 14))) p1) 37 14) + 1)) J e1 (Nat.le_refl 5)) rfl rfl rfl (Nat.le_trans (by decide) hd) ?_
  obtain ⟨rfl, rfl, rfl⟩ := qp_some3 h
  exact qp_retI_E qp_ok185 rfl qp_r185.1 ⟨rfl, rfl⟩ ⟨rfl, rfl⟩
def fM_ticket (p1 : Int32) (p2 : Int32) (I : Nat → Nat → Int32) (J : Nat → Nat → Int64) : Option (Int32 × (Nat → Nat → Int32) × (Nat → Nat → Int64)) :=
  qp_bd (fM_isOne p1 I J) fun v1 I1 J1 =>
  if v1 = 0 then (
    some ((-1), I1, J1)
  ) else (
    qp_bd (fM_isOne p2 I1 J1) fun v2 I2 J2 =>
    if ¬ v2 = 0 then (
      qp_gd ((0 ≤ ((69 : Int32) + p2) ∧ ((69 : Int32) + p2) < 75)) <|
      if (I2 37 (Int32.toNatClampNeg ((69 : Int32) + p2))) = p1 then (
        some ((-4), I2, J2)
      ) else (
        if ¬ (I2 37 56) = 12 then (
          if ¬ (I2 37 14) = 40 then (
            qp_bd (fM_does (((100 : Int32) + ((8 : Int32) * p1)) + p2) I2 J2) fun v3 I3 J3 =>
            some (((I3 37 56) - 1), I3, J3)
          ) else (
            some ((-2), I2, J2)
          )
        ) else (
          some ((-4), I2, J2)
        )
      )
    ) else (
      some ((-1), I2, J2)
    )
  )
set_option maxRecDepth 8000 in
theorem gM_ticket (l : Launch) (G : qp_G) (p1 : Int32) (p2 : Int32) (I : Nat → Nat → Int32) (J : Nat → Nat → Int64) {v : Int32} {I' : Nat → Nat → Int32} {J' : Nat → Nat → Int64} (h : fM_ticket p1 p2 I J = some (v, I', J')) {d : Nat} (hd : 7 ≤ d) : qp_Met l G d 184 [.ref 36, .int p1, .int p2] (qp_mk I J) 0 0 (qp_R8 (some (.int v)) I' J') := by
  have hd1 : Nat.ble 1 d = true := Nat.ble_eq_true_of_le (Nat.le_trans (by decide) hd)
  refine qp_Met_of (by decide) (by rw [qp_r184.2]; rfl) [some (.ref 36), some (.int p1), some (.int p2), none] (by rw [qp_r184.2]; rfl) ?_
  unfold fM_ticket at h
  refine qp_run_E qp_ok184 2 (c' := (2, [some (.ref 36), some (.int p1), some (.int p2), none], [.int p1, .ref 36], qp_mk I J)) (by with_unfolding_all rfl) hd1 trivial ?_
  obtain ⟨v1, I1, J1, e1, h⟩ := qp_bd_s h
  refine qp_cV qp_ok184 (rest := []) (oj := 10) qp_f172 rfl rfl (gM_isOne l G p1 I J e1 (Nat.le_refl 2)) rfl rfl rfl rfl (Nat.le_trans (by decide) hd) ?_
  refine qp_br_E qp_ok184 (f := v1 = 0) (ct := (16, [some (.ref 36), some (.int p1), some (.int p2), none], [], qp_mk I1 J1)) (cf := (8, [some (.ref 36), some (.int p1), some (.int p2), none], [], qp_mk I1 J1)) (by with_unfolding_all rfl) (fun h1 => ?_) (fun h1 => ?_)
  · replace h := qp_ift h1 h
    refine qp_run_E qp_ok184 1 (c' := (17, [some (.ref 36), some (.int p1), some (.int p2), none], [.int (-1)], qp_mk I1 J1)) (by with_unfolding_all rfl) hd1 trivial ?_
    obtain ⟨rfl, rfl, rfl⟩ := qp_some3 h
    exact qp_retI_E qp_ok184 rfl qp_r184.1 ⟨rfl, rfl⟩ ⟨rfl, rfl⟩
  · replace h := qp_iff h1 h
    refine qp_run_E qp_ok184 2 (c' := (10, [some (.ref 36), some (.int p1), some (.int p2), none], [.int p2, .ref 36], qp_mk I1 J1)) (by with_unfolding_all rfl) hd1 trivial ?_
    obtain ⟨v2, I2, J2, e2, h⟩ := qp_bd_s h
    refine qp_cV qp_ok184 (rest := []) (oj := 10) qp_f172 rfl rfl (gM_isOne l G p2 I1 J1 e2 (Nat.le_refl 2)) rfl rfl rfl rfl (Nat.le_trans (by decide) hd) ?_
    refine qp_br_E qp_ok184 (f := ¬ v2 = 0) (ct := (18, [some (.ref 36), some (.int p1), some (.int p2), none], [], qp_mk I2 J2)) (cf := (16, [some (.ref 36), some (.int p1), some (.int p2), none], [], qp_mk I2 J2)) (by with_unfolding_all rfl) (fun h2 => ?_) (fun h2 => ?_)
    · replace h := qp_ift h2 h
      obtain ⟨h3, h⟩ := qp_gd_s h
      refine qp_run_E qp_ok184 7 (f := vp_in ((69 : Int32) + p2) 75 ∧ True) (c' := (28, [some (.ref 36), some (.int p1), some (.int p2), none], [.int p1, .int (I2 37 (Int32.toNatClampNeg ((69 : Int32) + p2)))], qp_mk I2 J2)) (by with_unfolding_all rfl) hd1 ⟨(qp_vin (c := 75) (by decide) h3.1 h3.2), trivial⟩ ?_
      refine qp_br_E qp_ok184 (f := (I2 37 (Int32.toNatClampNeg ((69 : Int32) + p2))) = p1) (ct := (43, [some (.ref 36), some (.int p1), some (.int p2), none], [], qp_mk I2 J2)) (cf := (31, [some (.ref 36), some (.int p1), some (.int p2), none], [], qp_mk I2 J2)) (by with_unfolding_all rfl) (fun h4 => ?_) (fun h4 => ?_)
      · replace h := qp_ift h4 h
        refine qp_run_E qp_ok184 1 (c' := (45, [some (.ref 36), some (.int p1), some (.int p2), none], [.int (-4)], qp_mk I2 J2)) (by with_unfolding_all rfl) hd1 trivial ?_
        obtain ⟨rfl, rfl, rfl⟩ := qp_some3 h
        exact qp_retI_E qp_ok184 rfl qp_r184.1 ⟨rfl, rfl⟩ ⟨rfl, rfl⟩
      · replace h := qp_iff h4 h
        refine qp_run_E qp_ok184 5 (f := vp_in 56 75 ∧ True) (c' := (40, [some (.ref 36), some (.int p1), some (.int p2), none], [.int 12, .int (I2 37 56)], qp_mk I2 J2)) (by with_unfolding_all rfl) hd1 ⟨(qp_vin (c := 75) (by decide) (by decide) (by decide)), trivial⟩ ?_
        refine qp_br_E qp_ok184 (f := ¬ (I2 37 56) = 12) (ct := (46, [some (.ref 36), some (.int p1), some (.int p2), none], [], qp_mk I2 J2)) (cf := (43, [some (.ref 36), some (.int p1), some (.int p2), none], [], qp_mk I2 J2)) (by with_unfolding_all rfl) (fun h5 => ?_) (fun h5 => ?_)
        · replace h := qp_ift h5 h
          refine qp_run_E qp_ok184 5 (f := vp_in 14 75 ∧ True) (c' := (55, [some (.ref 36), some (.int p1), some (.int p2), none], [.int 40, .int (I2 37 14)], qp_mk I2 J2)) (by with_unfolding_all rfl) hd1 ⟨(qp_vin (c := 75) (by decide) (by decide) (by decide)), trivial⟩ ?_
          refine qp_br_E qp_ok184 (f := ¬ (I2 37 14) = 40) (ct := (61, [some (.ref 36), some (.int p1), some (.int p2), none], [], qp_mk I2 J2)) (cf := (58, [some (.ref 36), some (.int p1), some (.int p2), none], [], qp_mk I2 J2)) (by with_unfolding_all rfl) (fun h6 => ?_) (fun h6 => ?_)
          · replace h := qp_ift h6 h
            refine qp_run_E qp_ok184 8 (c' := (71, [some (.ref 36), some (.int p1), some (.int p2), none], [.int (((100 : Int32) + ((8 : Int32) * p1)) + p2), .ref 36], qp_mk I2 J2)) (by with_unfolding_all rfl) hd1 trivial ?_
            obtain ⟨v3, I3, J3, e3, h⟩ := qp_bd_s h
            refine qp_cV qp_ok184 (rest := []) (oj := 10) qp_f185 rfl rfl (gM_does l G (((100 : Int32) + ((8 : Int32) * p1)) + p2) I2 J2 e3 (Nat.le_refl 6)) rfl rfl rfl rfl (Nat.le_trans (by decide) hd) ?_
            refine qp_run_E qp_ok184 7 (f := vp_in 56 75 ∧ True) (c' := (84, [some (.ref 36), some (.int p1), some (.int p2), some (.int v3)], [.int ((I3 37 56) - 1)], qp_mk I3 J3)) (by with_unfolding_all rfl) hd1 ⟨(qp_vin (c := 75) (by decide) (by decide) (by decide)), trivial⟩ ?_
            obtain ⟨rfl, rfl, rfl⟩ := qp_some3 h
            exact qp_retI_E qp_ok184 rfl qp_r184.1 ⟨rfl, rfl⟩ ⟨rfl, rfl⟩
          · replace h := qp_iff h6 h
            refine qp_run_E qp_ok184 1 (c' := (60, [some (.ref 36), some (.int p1), some (.int p2), none], [.int (-2)], qp_mk I2 J2)) (by with_unfolding_all rfl) hd1 trivial ?_
            obtain ⟨rfl, rfl, rfl⟩ := qp_some3 h
            exact qp_retI_E qp_ok184 rfl qp_r184.1 ⟨rfl, rfl⟩ ⟨rfl, rfl⟩
        · replace h := qp_iff h5 h
          refine qp_run_E qp_ok184 1 (c' := (45, [some (.ref 36), some (.int p1), some (.int p2), none], [.int (-4)], qp_mk I2 J2)) (by with_unfolding_all rfl) hd1 trivial ?_
          obtain ⟨rfl, rfl, rfl⟩ := qp_some3 h
          exact qp_retI_E qp_ok184 rfl qp_r184.1 ⟨rfl, rfl⟩ ⟨rfl, rfl⟩
    · replace h := qp_iff h2 h
      refine qp_run_E qp_ok184 1 (c' := (17, [some (.ref 36), some (.int p1), some (.int p2), none], [.int (-1)], qp_mk I2 J2)) (by with_unfolding_all rfl) hd1 trivial ?_
      obtain ⟨rfl, rfl, rfl⟩ := qp_some3 h
      exact qp_retI_E qp_ok184 rfl qp_r184.1 ⟨rfl, rfl⟩ ⟨rfl, rfl⟩
def fM_isTicket (p1 : Int32) (I : Nat → Nat → Int32) (J : Nat → Nat → Int64) : Option (Int32 × (Nat → Nat → Int32) × (Nat → Nat → Int64)) :=
  qp_bd (fM_in (Int32.toInt64 p1) 0 (Int32.toInt64 ((I 37 56) - 1)) I J) fun v1 I1 J1 =>
  qp_gd (v1 = 0 ∨ v1 = 1) <| some (v1, I1, J1)
set_option maxRecDepth 8000 in
theorem gM_isTicket (l : Launch) (G : qp_G) (p1 : Int32) (I : Nat → Nat → Int32) (J : Nat → Nat → Int64) {v : Int32} {I' : Nat → Nat → Int32} {J' : Nat → Nat → Int64} (h : fM_isTicket p1 I J = some (v, I', J')) {d : Nat} (hd : 2 ≤ d) : qp_Met l G d 191 [.ref 36, .int p1] (qp_mk I J) 0 0 (qp_R8 (some (.int v)) I' J') := by
  have hd1 : Nat.ble 1 d = true := Nat.ble_eq_true_of_le (Nat.le_trans (by decide) hd)
  refine qp_Met_of (by decide) (by rw [qp_r191.2]; rfl) [some (.ref 36), some (.int p1)] (by rw [qp_r191.2]; rfl) ?_
  unfold fM_isTicket at h
  refine qp_run_E qp_ok191 10 (f := vp_in 56 75 ∧ True) (c' := (13, [some (.ref 36), some (.int p1)], [.long (Int32.toInt64 ((I 37 56) - 1)), .long 0, .long (Int32.toInt64 p1)], qp_mk I J)) (by with_unfolding_all rfl) hd1 ⟨(qp_vin (c := 75) (by decide) (by decide) (by decide)), trivial⟩ ?_
  obtain ⟨v1, I1, J1, e1, h⟩ := qp_bd_s h
  refine qp_cS qp_ok191 (rest := []) (oj := 10) qp_f150 rfl rfl (gM_in l G (Int32.toInt64 p1) 0 (Int32.toInt64 ((I 37 56) - 1)) I J e1 (Nat.le_refl 1)) rfl rfl rfl (Nat.le_trans (by decide) hd) ?_
  obtain ⟨h1, h⟩ := qp_gd_s h
  obtain ⟨rfl, rfl, rfl⟩ := qp_some3 h
  exact qp_retZ_E qp_ok191 rfl qp_r191.1 (qp_nar01 h1) ⟨rfl, rfl⟩ ⟨rfl, rfl⟩
def fM_back (p1 : Int32) (I : Nat → Nat → Int32) (J : Nat → Nat → Int64) : Option (Int32 × (Nat → Nat → Int32) × (Nat → Nat → Int64)) :=
  qp_bd (fM_isTicket p1 I J) fun v1 I1 J1 =>
  if ¬ v1 = 0 then (
    if ¬ (I1 37 14) = 40 then (
      qp_bd (fM_does ((200 : Int32) + p1) I1 J1) fun v2 I2 J2 =>
      some (v2, I2, J2)
    ) else (
      some ((-2), I1, J1)
    )
  ) else (
    some ((-1), I1, J1)
  )
set_option maxRecDepth 8000 in
theorem gM_back (l : Launch) (G : qp_G) (p1 : Int32) (I : Nat → Nat → Int32) (J : Nat → Nat → Int64) {v : Int32} {I' : Nat → Nat → Int32} {J' : Nat → Nat → Int64} (h : fM_back p1 I J = some (v, I', J')) {d : Nat} (hd : 7 ≤ d) : qp_Met l G d 190 [.ref 36, .int p1] (qp_mk I J) 0 0 (qp_R8 (some (.int v)) I' J') := by
  have hd1 : Nat.ble 1 d = true := Nat.ble_eq_true_of_le (Nat.le_trans (by decide) hd)
  refine qp_Met_of (by decide) (by rw [qp_r190.2]; rfl) [some (.ref 36), some (.int p1)] (by rw [qp_r190.2]; rfl) ?_
  unfold fM_back at h
  refine qp_run_E qp_ok190 2 (c' := (2, [some (.ref 36), some (.int p1)], [.int p1, .ref 36], qp_mk I J)) (by with_unfolding_all rfl) hd1 trivial ?_
  obtain ⟨v1, I1, J1, e1, h⟩ := qp_bd_s h
  refine qp_cV qp_ok190 (rest := []) (oj := 10) qp_f191 rfl rfl (gM_isTicket l G p1 I J e1 (Nat.le_refl 2)) rfl rfl rfl rfl (Nat.le_trans (by decide) hd) ?_
  refine qp_br_E qp_ok190 (f := ¬ v1 = 0) (ct := (10, [some (.ref 36), some (.int p1)], [], qp_mk I1 J1)) (cf := (8, [some (.ref 36), some (.int p1)], [], qp_mk I1 J1)) (by with_unfolding_all rfl) (fun h1 => ?_) (fun h1 => ?_)
  · replace h := qp_ift h1 h
    refine qp_run_E qp_ok190 5 (f := vp_in 14 75 ∧ True) (c' := (19, [some (.ref 36), some (.int p1)], [.int 40, .int (I1 37 14)], qp_mk I1 J1)) (by with_unfolding_all rfl) hd1 ⟨(qp_vin (c := 75) (by decide) (by decide) (by decide)), trivial⟩ ?_
    refine qp_br_E qp_ok190 (f := ¬ (I1 37 14) = 40) (ct := (27, [some (.ref 36), some (.int p1)], [], qp_mk I1 J1)) (cf := (22, [some (.ref 36), some (.int p1)], [], qp_mk I1 J1)) (by with_unfolding_all rfl) (fun h2 => ?_) (fun h2 => ?_)
    · replace h := qp_ift h2 h
      refine qp_run_E qp_ok190 4 (c' := (33, [some (.ref 36), some (.int p1)], [.int ((200 : Int32) + p1), .ref 36], qp_mk I1 J1)) (by with_unfolding_all rfl) hd1 trivial ?_
      obtain ⟨v2, I2, J2, e2, h⟩ := qp_bd_s h
      refine qp_cV qp_ok190 (rest := []) (oj := 10) qp_f185 rfl rfl (gM_does l G ((200 : Int32) + p1) I1 J1 e2 (Nat.le_refl 6)) rfl rfl rfl rfl (Nat.le_trans (by decide) hd) ?_
      obtain ⟨rfl, rfl, rfl⟩ := qp_some3 h
      exact qp_retI_E qp_ok190 rfl qp_r190.1 ⟨rfl, rfl⟩ ⟨rfl, rfl⟩
    · replace h := qp_iff h2 h
      refine qp_run_E qp_ok190 2 (c' := (36, [some (.ref 36), some (.int p1)], [.int (-2)], qp_mk I1 J1)) (by with_unfolding_all rfl) hd1 trivial ?_
      obtain ⟨rfl, rfl, rfl⟩ := qp_some3 h
      exact qp_retI_E qp_ok190 rfl qp_r190.1 ⟨rfl, rfl⟩ ⟨rfl, rfl⟩
  · replace h := qp_iff h1 h
    refine qp_run_E qp_ok190 1 (c' := (9, [some (.ref 36), some (.int p1)], [.int (-1)], qp_mk I1 J1)) (by with_unfolding_all rfl) hd1 trivial ?_
    obtain ⟨rfl, rfl, rfl⟩ := qp_some3 h
    exact qp_retI_E qp_ok190 rfl qp_r190.1 ⟨rfl, rfl⟩ ⟨rfl, rfl⟩
def fM_loaves (p1 : Int32) (I : Nat → Nat → Int32) (J : Nat → Nat → Int64) : Option (Int32 × (Nat → Nat → Int32) × (Nat → Nat → Int64)) :=
  qp_bd (fM_in (Int32.toInt64 p1) 0 20 I J) fun v1 I1 J1 =>
  if ¬ v1 = 0 then (
    if (I1 37 0) = 0 then (
      some ((-4), I1, J1)
    ) else (
      if ¬ (I1 37 55) = p1 then (
        if ¬ (I1 37 14) = 40 then (
          qp_bd (fM_does ((300 : Int32) + p1) I1 J1) fun v2 I2 J2 =>
          some ((I1 37 55), I2, J2)
        ) else (
          some ((-2), I1, J1)
        )
      ) else (
        some ((-4), I1, J1)
      )
    )
  ) else (
    some ((-1), I1, J1)
  )
set_option maxRecDepth 8000 in
theorem gM_loaves (l : Launch) (G : qp_G) (p1 : Int32) (I : Nat → Nat → Int32) (J : Nat → Nat → Int64) {v : Int32} {I' : Nat → Nat → Int32} {J' : Nat → Nat → Int64} (h : fM_loaves p1 I J = some (v, I', J')) {d : Nat} (hd : 7 ≤ d) : qp_Met l G d 192 [.ref 36, .int p1] (qp_mk I J) 0 0 (qp_R8 (some (.int v)) I' J') := by
  have hd1 : Nat.ble 1 d = true := Nat.ble_eq_true_of_le (Nat.le_trans (by decide) hd)
  refine qp_Met_of (by decide) (by rw [qp_r192.2]; rfl) [some (.ref 36), some (.int p1), none, none] (by rw [qp_r192.2]; rfl) ?_
  unfold fM_loaves at h
  refine qp_run_E qp_ok192 4 (c' := (6, [some (.ref 36), some (.int p1), none, none], [.long 20, .long 0, .long (Int32.toInt64 p1)], qp_mk I J)) (by with_unfolding_all rfl) hd1 trivial ?_
  obtain ⟨v1, I1, J1, e1, h⟩ := qp_bd_s h
  refine qp_cS qp_ok192 (rest := []) (oj := 10) qp_f150 rfl rfl (gM_in l G (Int32.toInt64 p1) 0 20 I J e1 (Nat.le_refl 1)) rfl rfl rfl (Nat.le_trans (by decide) hd) ?_
  refine qp_br_E qp_ok192 (f := ¬ v1 = 0) (ct := (14, [some (.ref 36), some (.int p1), none, none], [], qp_mk I1 J1)) (cf := (12, [some (.ref 36), some (.int p1), none, none], [], qp_mk I1 J1)) (by with_unfolding_all rfl) (fun h1 => ?_) (fun h1 => ?_)
  · replace h := qp_ift h1 h
    refine qp_run_E qp_ok192 4 (f := vp_in 0 75 ∧ True) (c' := (20, [some (.ref 36), some (.int p1), none, none], [.int (I1 37 0)], qp_mk I1 J1)) (by with_unfolding_all rfl) hd1 ⟨(qp_vin (c := 75) (by decide) (by decide) (by decide)), trivial⟩ ?_
    refine qp_br_E qp_ok192 (f := (I1 37 0) = 0) (ct := (34, [some (.ref 36), some (.int p1), none, none], [], qp_mk I1 J1)) (cf := (23, [some (.ref 36), some (.int p1), none, none], [], qp_mk I1 J1)) (by with_unfolding_all rfl) (fun h2 => ?_) (fun h2 => ?_)
    · replace h := qp_ift h2 h
      refine qp_run_E qp_ok192 1 (c' := (36, [some (.ref 36), some (.int p1), none, none], [.int (-4)], qp_mk I1 J1)) (by with_unfolding_all rfl) hd1 trivial ?_
      obtain ⟨rfl, rfl, rfl⟩ := qp_some3 h
      exact qp_retI_E qp_ok192 rfl qp_r192.1 ⟨rfl, rfl⟩ ⟨rfl, rfl⟩
    · replace h := qp_iff h2 h
      refine qp_run_E qp_ok192 5 (f := vp_in 55 75 ∧ True) (c' := (31, [some (.ref 36), some (.int p1), none, none], [.int p1, .int (I1 37 55)], qp_mk I1 J1)) (by with_unfolding_all rfl) hd1 ⟨(qp_vin (c := 75) (by decide) (by decide) (by decide)), trivial⟩ ?_
      refine qp_br_E qp_ok192 (f := ¬ (I1 37 55) = p1) (ct := (37, [some (.ref 36), some (.int p1), none, none], [], qp_mk I1 J1)) (cf := (34, [some (.ref 36), some (.int p1), none, none], [], qp_mk I1 J1)) (by with_unfolding_all rfl) (fun h3 => ?_) (fun h3 => ?_)
      · replace h := qp_ift h3 h
        refine qp_run_E qp_ok192 5 (f := vp_in 14 75 ∧ True) (c' := (46, [some (.ref 36), some (.int p1), none, none], [.int 40, .int (I1 37 14)], qp_mk I1 J1)) (by with_unfolding_all rfl) hd1 ⟨(qp_vin (c := 75) (by decide) (by decide) (by decide)), trivial⟩ ?_
        refine qp_br_E qp_ok192 (f := ¬ (I1 37 14) = 40) (ct := (52, [some (.ref 36), some (.int p1), none, none], [], qp_mk I1 J1)) (cf := (49, [some (.ref 36), some (.int p1), none, none], [], qp_mk I1 J1)) (by with_unfolding_all rfl) (fun h4 => ?_) (fun h4 => ?_)
        · replace h := qp_ift h4 h
          refine qp_run_E qp_ok192 9 (f := vp_in 55 75 ∧ True) (c' := (66, [some (.ref 36), some (.int p1), some (.int (I1 37 55)), none], [.int ((300 : Int32) + p1), .ref 36], qp_mk I1 J1)) (by with_unfolding_all rfl) hd1 ⟨(qp_vin (c := 75) (by decide) (by decide) (by decide)), trivial⟩ ?_
          obtain ⟨v2, I2, J2, e2, h⟩ := qp_bd_s h
          refine qp_cV qp_ok192 (rest := []) (oj := 10) qp_f185 rfl rfl (gM_does l G ((300 : Int32) + p1) I1 J1 e2 (Nat.le_refl 6)) rfl rfl rfl rfl (Nat.le_trans (by decide) hd) ?_
          refine qp_run_E qp_ok192 2 (c' := (71, [some (.ref 36), some (.int p1), some (.int (I1 37 55)), some (.int v2)], [.int (I1 37 55)], qp_mk I2 J2)) (by with_unfolding_all rfl) hd1 trivial ?_
          obtain ⟨rfl, rfl, rfl⟩ := qp_some3 h
          exact qp_retI_E qp_ok192 rfl qp_r192.1 ⟨rfl, rfl⟩ ⟨rfl, rfl⟩
        · replace h := qp_iff h4 h
          refine qp_run_E qp_ok192 1 (c' := (51, [some (.ref 36), some (.int p1), none, none], [.int (-2)], qp_mk I1 J1)) (by with_unfolding_all rfl) hd1 trivial ?_
          obtain ⟨rfl, rfl, rfl⟩ := qp_some3 h
          exact qp_retI_E qp_ok192 rfl qp_r192.1 ⟨rfl, rfl⟩ ⟨rfl, rfl⟩
      · replace h := qp_iff h3 h
        refine qp_run_E qp_ok192 1 (c' := (36, [some (.ref 36), some (.int p1), none, none], [.int (-4)], qp_mk I1 J1)) (by with_unfolding_all rfl) hd1 trivial ?_
        obtain ⟨rfl, rfl, rfl⟩ := qp_some3 h
        exact qp_retI_E qp_ok192 rfl qp_r192.1 ⟨rfl, rfl⟩ ⟨rfl, rfl⟩
  · replace h := qp_iff h1 h
    refine qp_run_E qp_ok192 1 (c' := (13, [some (.ref 36), some (.int p1), none, none], [.int (-1)], qp_mk I1 J1)) (by with_unfolding_all rfl) hd1 trivial ?_
    obtain ⟨rfl, rfl, rfl⟩ := qp_some3 h
    exact qp_retI_E qp_ok192 rfl qp_r192.1 ⟨rfl, rfl⟩ ⟨rfl, rfl⟩
def fM_undo_b38  : Nat → Int32 → Int32 → Int32 → (Nat → Nat → Int32) → (Nat → Nat → Int64) → Option (Int32 × (Nat → Nat → Int32) × (Nat → Nat → Int64))
  | 0, _, _, _, _, _ => none
  | n + 1, a1, a2, a3, I, J =>
    if a1 ≤ a3 then (
      some (a2, (qp_up I 37 14 a1), J)
    ) else (
      qp_gd ((0 ≤ ((15 : Int32) + a3) ∧ ((15 : Int32) + a3) < 75)) <|
      qp_bd (fM_goDeed_37 (I 37 (Int32.toNatClampNeg ((15 : Int32) + a3))) I J) fun v1 I1 J1 =>
      fM_undo_b38 n a1 a2 (a3 + 1) I1 J1
    )
set_option maxRecDepth 8000 in
theorem gM_undo_b38 {l : Launch} {G : qp_G} {d : Nat} (hd : 6 ≤ d) {r : (Int32 × (Nat → Nat → Int32) × (Nat → Nat → Int64))} {I0 : Nat → Nat → Int32} {J0 : Nat → Nat → Int64}   : ∀ (n : Nat) (a1 : Int32) (a2 : Int32) (a3 : Int32) (I : Nat → Nat → Int32) (J : Nat → Nat → Int64), fM_undo_b38  n a1 a2 a3 I J = some r → qp_E l G d 193 (qp_mk I0 J0) 0 0 (qp_R8 (some (.int r.1)) r.2.1 r.2.2) (38, [some (.ref 36), some (.int a1), some (.int a2), some (.int a3), none], [], qp_mk I J) := by
  have hd1 : Nat.ble 1 d = true := Nat.ble_eq_true_of_le (Nat.le_trans (by decide) hd)
  intro n
  induction n with
  | zero => intro a1 a2 a3 I J h; exact absurd h (by simp [fM_undo_b38])
  | succ n ih =>
    intro a1 a2 a3 I J h
    rw [fM_undo_b38] at h
    refine qp_run_E qp_ok193 2 (c' := (40, [some (.ref 36), some (.int a1), some (.int a2), some (.int a3), none], [.int a1, .int a3], qp_mk I J)) (by with_unfolding_all rfl) hd1 trivial ?_
    refine qp_br_E qp_ok193 (f := a1 ≤ a3) (ct := (67, [some (.ref 36), some (.int a1), some (.int a2), some (.int a3), none], [], qp_mk I J)) (cf := (43, [some (.ref 36), some (.int a1), some (.int a2), some (.int a3), none], [], qp_mk I J)) (by with_unfolding_all rfl) (fun h1 => ?_) (fun h1 => ?_)
    · replace h := qp_ift h1 h
      refine qp_run_E qp_ok193 6 (f := vp_in 14 75 ∧ True) (c' := (76, [some (.ref 36), some (.int a1), some (.int a2), some (.int a3), none], [.int a2], qp_mk (qp_up I 37 14 a1) J)) (by with_unfolding_all rfl) hd1 ⟨(qp_vin (c := 75) (by decide) (by decide) (by decide)), trivial⟩ ?_
      obtain rfl := Option.some.inj h
      exact qp_retI_E qp_ok193 rfl qp_r193.1 ⟨rfl, rfl⟩ ⟨rfl, rfl⟩
    · replace h := qp_iff h1 h
      obtain ⟨h2, h⟩ := qp_gd_s h
      refine qp_run_E qp_ok193 8 (f := vp_in ((15 : Int32) + a3) 75 ∧ True) (c' := (56, [some (.ref 36), some (.int a1), some (.int a2), some (.int a3), none], [.int (I 37 (Int32.toNatClampNeg ((15 : Int32) + a3))), .ref 37], qp_mk I J)) (by with_unfolding_all rfl) hd1 ⟨(qp_vin (c := 75) (by decide) h2.1 h2.2), trivial⟩ ?_
      obtain ⟨v1, I1, J1, e1, h⟩ := qp_bd_s h
      refine qp_cS qp_ok193 (rest := []) (oj := 10) qp_f186 rfl rfl (gM_goDeed_37 l G (I 37 (Int32.toNatClampNeg ((15 : Int32) + a3))) I J e1 (Nat.le_refl 5)) rfl rfl rfl (Nat.le_trans (by decide) hd) ?_
      refine qp_run_E qp_ok193 3 (c' := (38, [some (.ref 36), some (.int a1), some (.int a2), some (.int (a3 + 1)), some (.int v1)], [], qp_mk I1 J1)) (by with_unfolding_all rfl) hd1 trivial ?_
      exact qp_E_fg [true, true, true, true, false] (ih a1 a2 (a3 + 1) I1 J1 h)
def fM_undo (p1 : Int32) (I : Nat → Nat → Int32) (J : Nat → Nat → Int64) : Option (Int32 × (Nat → Nat → Int32) × (Nat → Nat → Int64)) :=
  qp_bd (fM_in (Int32.toInt64 p1) 0 (Int32.toInt64 (I 37 14)) I J) fun v1 I1 J1 =>
  if ¬ v1 = 0 then (
    qp_bd (fM_begin_37 I1 J1) fun _u I2 J2 =>
    fM_undo_b38 100000 p1 ((I1 37 14) - p1) 0 I2 J2
  ) else (
    some ((-1), I1, J1)
  )
set_option maxRecDepth 8000 in
theorem gM_undo (l : Launch) (G : qp_G) (p1 : Int32) (I : Nat → Nat → Int32) (J : Nat → Nat → Int64) {v : Int32} {I' : Nat → Nat → Int32} {J' : Nat → Nat → Int64} (h : fM_undo p1 I J = some (v, I', J')) {d : Nat} (hd : 6 ≤ d) : qp_Met l G d 193 [.ref 36, .int p1] (qp_mk I J) 0 0 (qp_R8 (some (.int v)) I' J') := by
  have hd1 : Nat.ble 1 d = true := Nat.ble_eq_true_of_le (Nat.le_trans (by decide) hd)
  refine qp_Met_of (by decide) (by rw [qp_r193.2]; rfl) [some (.ref 36), some (.int p1), none, none, none] (by rw [qp_r193.2]; rfl) ?_
  unfold fM_undo at h
  refine qp_run_E qp_ok193 8 (f := vp_in 14 75 ∧ True) (c' := (11, [some (.ref 36), some (.int p1), none, none, none], [.long (Int32.toInt64 (I 37 14)), .long 0, .long (Int32.toInt64 p1)], qp_mk I J)) (by with_unfolding_all rfl) hd1 ⟨(qp_vin (c := 75) (by decide) (by decide) (by decide)), trivial⟩ ?_
  obtain ⟨v1, I1, J1, e1, h⟩ := qp_bd_s h
  refine qp_cS qp_ok193 (rest := []) (oj := 10) qp_f150 rfl rfl (gM_in l G (Int32.toInt64 p1) 0 (Int32.toInt64 (I 37 14)) I J e1 (Nat.le_refl 1)) rfl rfl rfl (Nat.le_trans (by decide) hd) ?_
  refine qp_br_E qp_ok193 (f := ¬ v1 = 0) (ct := (19, [some (.ref 36), some (.int p1), none, none, none], [], qp_mk I1 J1)) (cf := (17, [some (.ref 36), some (.int p1), none, none, none], [], qp_mk I1 J1)) (by with_unfolding_all rfl) (fun h1 => ?_) (fun h1 => ?_)
  · replace h := qp_ift h1 h
    refine qp_run_E qp_ok193 9 (f := vp_in 14 75 ∧ True) (c' := (33, [some (.ref 36), some (.int p1), some (.int ((I1 37 14) - p1)), none, none], [.ref 37], qp_mk I1 J1)) (by with_unfolding_all rfl) hd1 ⟨(qp_vin (c := 75) (by decide) (by decide) (by decide)), trivial⟩ ?_
    obtain ⟨v2, I2, J2, e2, h⟩ := qp_bd_s h
    refine qp_cS qp_ok193 (rest := []) (oj := 10) qp_f170 rfl rfl (gM_begin_37 l G I1 J1 e2 (Nat.le_refl 1)) rfl rfl rfl (Nat.le_trans (by decide) hd) ?_
    refine qp_run_E qp_ok193 2 (c' := (38, [some (.ref 36), some (.int p1), some (.int ((I1 37 14) - p1)), some (.int 0), none], [], qp_mk I2 J2)) (by with_unfolding_all rfl) hd1 trivial ?_
    exact gM_undo_b38 hd 100000 p1 ((I1 37 14) - p1) 0 I2 J2 h
  · replace h := qp_iff h1 h
    refine qp_run_E qp_ok193 1 (c' := (18, [some (.ref 36), some (.int p1), none, none, none], [.int (-1)], qp_mk I1 J1)) (by with_unfolding_all rfl) hd1 trivial ?_
    obtain ⟨rfl, rfl, rfl⟩ := qp_some3 h
    exact qp_retI_E qp_ok193 rfl qp_r193.1 ⟨rfl, rfl⟩ ⟨rfl, rfl⟩
def fM_isShelf (p0 : Int32) (I : Nat → Nat → Int32) (J : Nat → Nat → Int64) : Option (Int32 × (Nat → Nat → Int32) × (Nat → Nat → Int64)) :=
  qp_bd (fM_in (Int32.toInt64 p0) 0 2 I J) fun v1 I1 J1 =>
  qp_gd (v1 = 0 ∨ v1 = 1) <| some (v1, I1, J1)
set_option maxRecDepth 8000 in
theorem gM_isShelf (l : Launch) (G : qp_G) (p0 : Int32) (I : Nat → Nat → Int32) (J : Nat → Nat → Int64) {v : Int32} {I' : Nat → Nat → Int32} {J' : Nat → Nat → Int64} (h : fM_isShelf p0 I J = some (v, I', J')) {d : Nat} (hd : 2 ≤ d) : qp_Met l G d 195 [.int p0] (qp_mk I J) 0 0 (qp_R8 (some (.int v)) I' J') := by
  have hd1 : Nat.ble 1 d = true := Nat.ble_eq_true_of_le (Nat.le_trans (by decide) hd)
  refine qp_Met_of (by decide) (by rw [qp_r195.2]; rfl) [some (.int p0)] (by rw [qp_r195.2]; rfl) ?_
  unfold fM_isShelf at h
  refine qp_run_E qp_ok195 4 (c' := (6, [some (.int p0)], [.long 2, .long 0, .long (Int32.toInt64 p0)], qp_mk I J)) (by with_unfolding_all rfl) hd1 trivial ?_
  obtain ⟨v1, I1, J1, e1, h⟩ := qp_bd_s h
  refine qp_cS qp_ok195 (rest := []) (oj := 10) qp_f150 rfl rfl (gM_in l G (Int32.toInt64 p0) 0 2 I J e1 (Nat.le_refl 1)) rfl rfl rfl (Nat.le_trans (by decide) hd) ?_
  obtain ⟨h1, h⟩ := qp_gd_s h
  obtain ⟨rfl, rfl, rfl⟩ := qp_some3 h
  exact qp_retZ_E qp_ok195 rfl qp_r195.1 (qp_nar01 h1) ⟨rfl, rfl⟩ ⟨rfl, rfl⟩
def fM_keep_b23  : Nat → Int32 → Int32 → (Nat → Nat → Int32) → (Nat → Nat → Int64) → Option (Int32 × (Nat → Nat → Int32) × (Nat → Nat → Int64))
  | 0, _, _, _, _ => none
  | n + 1, a1, a2, I, J =>
    if 75 ≤ a2 then (
      qp_gd ((0 ≤ a1 ∧ a1 < 3)) <|
      some ((I 37 14), (qp_up I 39 (Int32.toNatClampNeg a1) 1), J)
    ) else (
      qp_gd ((0 ≤ a2 ∧ a2 < 75) ∧ (0 ≤ (((75 : Int32) * a1) + a2) ∧ (((75 : Int32) * a1) + a2) < 225)) <|
      fM_keep_b23 n a1 (a2 + 1) (qp_up I 38 (Int32.toNatClampNeg (((75 : Int32) * a1) + a2)) (I 37 (Int32.toNatClampNeg a2))) J
    )
set_option maxRecDepth 8000 in
theorem gM_keep_b23 {l : Launch} {G : qp_G} {d : Nat} (hd : 3 ≤ d) {r : (Int32 × (Nat → Nat → Int32) × (Nat → Nat → Int64))} {I0 : Nat → Nat → Int32} {J0 : Nat → Nat → Int64}   : ∀ (n : Nat) (a1 : Int32) (a2 : Int32) (I : Nat → Nat → Int32) (J : Nat → Nat → Int64), fM_keep_b23  n a1 a2 I J = some r → qp_E l G d 194 (qp_mk I0 J0) 0 0 (qp_R8 (some (.int r.1)) r.2.1 r.2.2) (23, [some (.ref 36), some (.int a1), some (.int a2)], [], qp_mk I J) := by
  have hd1 : Nat.ble 1 d = true := Nat.ble_eq_true_of_le (Nat.le_trans (by decide) hd)
  intro n
  induction n with
  | zero => intro a1 a2 I J h; exact absurd h (by simp [fM_keep_b23])
  | succ n ih =>
    intro a1 a2 I J h
    rw [fM_keep_b23] at h
    refine qp_run_E qp_ok194 2 (c' := (26, [some (.ref 36), some (.int a1), some (.int a2)], [.int 75, .int a2], qp_mk I J)) (by with_unfolding_all rfl) hd1 trivial ?_
    refine qp_br_E qp_ok194 (f := 75 ≤ a2) (ct := (52, [some (.ref 36), some (.int a1), some (.int a2)], [], qp_mk I J)) (cf := (29, [some (.ref 36), some (.int a1), some (.int a2)], [], qp_mk I J)) (by with_unfolding_all rfl) (fun h1 => ?_) (fun h1 => ?_)
    · replace h := qp_ift h1 h
      obtain ⟨h2, h⟩ := qp_gd_s h
      refine qp_run_E qp_ok194 9 (f := (vp_in a1 3 ∧ vp_nar .boolean 1 = 1) ∧ vp_in 14 75 ∧ True) (c' := (66, [some (.ref 36), some (.int a1), some (.int a2)], [.int (I 37 14)], qp_mk (qp_up I 39 (Int32.toNatClampNeg a1) 1) J)) (by with_unfolding_all rfl) hd1 ⟨⟨(qp_vin (c := 3) (by decide) h2.1 h2.2), by rfl⟩, (qp_vin (c := 75) (by decide) (by decide) (by decide)), trivial⟩ ?_
      obtain rfl := Option.some.inj h
      exact qp_retI_E qp_ok194 rfl qp_r194.1 ⟨rfl, rfl⟩ ⟨rfl, rfl⟩
    · replace h := qp_iff h1 h
      obtain ⟨h3, h⟩ := qp_gd_s h
      refine qp_run_E qp_ok194 14 (f := vp_in a2 75 ∧ vp_in (((75 : Int32) * a1) + a2) 225 ∧ True) (c' := (23, [some (.ref 36), some (.int a1), some (.int (a2 + 1))], [], qp_mk (qp_up I 38 (Int32.toNatClampNeg (((75 : Int32) * a1) + a2)) (I 37 (Int32.toNatClampNeg a2))) J)) (by with_unfolding_all rfl) hd1 ⟨(qp_vin (c := 75) (by decide) h3.1.1 h3.1.2), (qp_vin (c := 225) (by decide) h3.2.1 h3.2.2), trivial⟩ ?_
      exact ih a1 (a2 + 1) (qp_up I 38 (Int32.toNatClampNeg (((75 : Int32) * a1) + a2)) (I 37 (Int32.toNatClampNeg a2))) J h
def fM_keep (p1 : Int32) (I : Nat → Nat → Int32) (J : Nat → Nat → Int64) : Option (Int32 × (Nat → Nat → Int32) × (Nat → Nat → Int64)) :=
  qp_bd (fM_isShelf p1 I J) fun v1 I1 J1 =>
  if ¬ v1 = 0 then (
    if ¬ (I1 37 0) = 0 then (
      fM_keep_b23 100000 p1 0 I1 J1
    ) else (
      some ((-4), I1, J1)
    )
  ) else (
    some ((-1), I1, J1)
  )
set_option maxRecDepth 8000 in
theorem gM_keep (l : Launch) (G : qp_G) (p1 : Int32) (I : Nat → Nat → Int32) (J : Nat → Nat → Int64) {v : Int32} {I' : Nat → Nat → Int32} {J' : Nat → Nat → Int64} (h : fM_keep p1 I J = some (v, I', J')) {d : Nat} (hd : 3 ≤ d) : qp_Met l G d 194 [.ref 36, .int p1] (qp_mk I J) 0 0 (qp_R8 (some (.int v)) I' J') := by
  have hd1 : Nat.ble 1 d = true := Nat.ble_eq_true_of_le (Nat.le_trans (by decide) hd)
  refine qp_Met_of (by decide) (by rw [qp_r194.2]; rfl) [some (.ref 36), some (.int p1), none] (by rw [qp_r194.2]; rfl) ?_
  unfold fM_keep at h
  refine qp_run_E qp_ok194 1 (c' := (1, [some (.ref 36), some (.int p1), none], [.int p1], qp_mk I J)) (by with_unfolding_all rfl) hd1 trivial ?_
  obtain ⟨v1, I1, J1, e1, h⟩ := qp_bd_s h
  refine qp_cS qp_ok194 (rest := []) (oj := 10) qp_f195 rfl rfl (gM_isShelf l G p1 I J e1 (Nat.le_refl 2)) rfl rfl rfl (Nat.le_trans (by decide) hd) ?_
  refine qp_br_E qp_ok194 (f := ¬ v1 = 0) (ct := (9, [some (.ref 36), some (.int p1), none], [], qp_mk I1 J1)) (cf := (7, [some (.ref 36), some (.int p1), none], [], qp_mk I1 J1)) (by with_unfolding_all rfl) (fun h1 => ?_) (fun h1 => ?_)
  · replace h := qp_ift h1 h
    refine qp_run_E qp_ok194 4 (f := vp_in 0 75 ∧ True) (c' := (15, [some (.ref 36), some (.int p1), none], [.int (I1 37 0)], qp_mk I1 J1)) (by with_unfolding_all rfl) hd1 ⟨(qp_vin (c := 75) (by decide) (by decide) (by decide)), trivial⟩ ?_
    refine qp_br_E qp_ok194 (f := ¬ (I1 37 0) = 0) (ct := (21, [some (.ref 36), some (.int p1), none], [], qp_mk I1 J1)) (cf := (18, [some (.ref 36), some (.int p1), none], [], qp_mk I1 J1)) (by with_unfolding_all rfl) (fun h2 => ?_) (fun h2 => ?_)
    · replace h := qp_ift h2 h
      refine qp_run_E qp_ok194 2 (c' := (23, [some (.ref 36), some (.int p1), some (.int 0)], [], qp_mk I1 J1)) (by with_unfolding_all rfl) hd1 trivial ?_
      exact gM_keep_b23 hd 100000 p1 0 I1 J1 h
    · replace h := qp_iff h2 h
      refine qp_run_E qp_ok194 1 (c' := (20, [some (.ref 36), some (.int p1), none], [.int (-4)], qp_mk I1 J1)) (by with_unfolding_all rfl) hd1 trivial ?_
      obtain ⟨rfl, rfl, rfl⟩ := qp_some3 h
      exact qp_retI_E qp_ok194 rfl qp_r194.1 ⟨rfl, rfl⟩ ⟨rfl, rfl⟩
  · replace h := qp_iff h1 h
    refine qp_run_E qp_ok194 1 (c' := (8, [some (.ref 36), some (.int p1), none], [.int (-1)], qp_mk I1 J1)) (by with_unfolding_all rfl) hd1 trivial ?_
    obtain ⟨rfl, rfl, rfl⟩ := qp_some3 h
    exact qp_retI_E qp_ok194 rfl qp_r194.1 ⟨rfl, rfl⟩ ⟨rfl, rfl⟩
def fM_on_b26  : Nat → Int32 → Int32 → (Nat → Nat → Int32) → (Nat → Nat → Int64) → Option (Int32 × (Nat → Nat → Int32) × (Nat → Nat → Int64))
  | 0, _, _, _, _ => none
  | n + 1, a1, a2, I, J =>
    if 75 ≤ a2 then (
      some ((I 37 14), I, J)
    ) else (
      qp_gd ((0 ≤ (((75 : Int32) * a1) + a2) ∧ (((75 : Int32) * a1) + a2) < 225) ∧ (0 ≤ a2 ∧ a2 < 75)) <|
      fM_on_b26 n a1 (a2 + 1) (qp_up I 37 (Int32.toNatClampNeg a2) (I 38 (Int32.toNatClampNeg (((75 : Int32) * a1) + a2)))) J
    )
set_option maxRecDepth 8000 in
theorem gM_on_b26 {l : Launch} {G : qp_G} {d : Nat} (hd : 3 ≤ d) {r : (Int32 × (Nat → Nat → Int32) × (Nat → Nat → Int64))} {I0 : Nat → Nat → Int32} {J0 : Nat → Nat → Int64}   : ∀ (n : Nat) (a1 : Int32) (a2 : Int32) (I : Nat → Nat → Int32) (J : Nat → Nat → Int64), fM_on_b26  n a1 a2 I J = some r → qp_E l G d 196 (qp_mk I0 J0) 0 0 (qp_R8 (some (.int r.1)) r.2.1 r.2.2) (26, [some (.ref 36), some (.int a1), some (.int a2)], [], qp_mk I J) := by
  have hd1 : Nat.ble 1 d = true := Nat.ble_eq_true_of_le (Nat.le_trans (by decide) hd)
  intro n
  induction n with
  | zero => intro a1 a2 I J h; exact absurd h (by simp [fM_on_b26])
  | succ n ih =>
    intro a1 a2 I J h
    rw [fM_on_b26] at h
    refine qp_run_E qp_ok196 2 (c' := (29, [some (.ref 36), some (.int a1), some (.int a2)], [.int 75, .int a2], qp_mk I J)) (by with_unfolding_all rfl) hd1 trivial ?_
    refine qp_br_E qp_ok196 (f := 75 ≤ a2) (ct := (55, [some (.ref 36), some (.int a1), some (.int a2)], [], qp_mk I J)) (cf := (32, [some (.ref 36), some (.int a1), some (.int a2)], [], qp_mk I J)) (by with_unfolding_all rfl) (fun h1 => ?_) (fun h1 => ?_)
    · replace h := qp_ift h1 h
      refine qp_run_E qp_ok196 4 (f := vp_in 14 75 ∧ True) (c' := (62, [some (.ref 36), some (.int a1), some (.int a2)], [.int (I 37 14)], qp_mk I J)) (by with_unfolding_all rfl) hd1 ⟨(qp_vin (c := 75) (by decide) (by decide) (by decide)), trivial⟩ ?_
      obtain rfl := Option.some.inj h
      exact qp_retI_E qp_ok196 rfl qp_r196.1 ⟨rfl, rfl⟩ ⟨rfl, rfl⟩
    · replace h := qp_iff h1 h
      obtain ⟨h2, h⟩ := qp_gd_s h
      refine qp_run_E qp_ok196 14 (f := vp_in (((75 : Int32) * a1) + a2) 225 ∧ vp_in a2 75 ∧ True) (c' := (26, [some (.ref 36), some (.int a1), some (.int (a2 + 1))], [], qp_mk (qp_up I 37 (Int32.toNatClampNeg a2) (I 38 (Int32.toNatClampNeg (((75 : Int32) * a1) + a2)))) J)) (by with_unfolding_all rfl) hd1 ⟨(qp_vin (c := 225) (by decide) h2.1.1 h2.1.2), (qp_vin (c := 75) (by decide) h2.2.1 h2.2.2), trivial⟩ ?_
      exact ih a1 (a2 + 1) (qp_up I 37 (Int32.toNatClampNeg a2) (I 38 (Int32.toNatClampNeg (((75 : Int32) * a1) + a2)))) J h
def fM_on (p1 : Int32) (I : Nat → Nat → Int32) (J : Nat → Nat → Int64) : Option (Int32 × (Nat → Nat → Int32) × (Nat → Nat → Int64)) :=
  qp_bd (fM_isShelf p1 I J) fun v1 I1 J1 =>
  if ¬ v1 = 0 then (
    qp_gd ((0 ≤ p1 ∧ p1 < 3)) <|
    if ¬ (I1 39 (Int32.toNatClampNeg p1)) = 0 then (
      fM_on_b26 100000 p1 0 I1 J1
    ) else (
      qp_bd (fM_finds 1 I1 J1) fun v2 I2 J2 =>
      some (v2, I2, J2)
    )
  ) else (
    some ((-1), I1, J1)
  )
set_option maxRecDepth 8000 in
theorem gM_on (l : Launch) (G : qp_G) (p1 : Int32) (I : Nat → Nat → Int32) (J : Nat → Nat → Int64) {v : Int32} {I' : Nat → Nat → Int32} {J' : Nat → Nat → Int64} (h : fM_on p1 I J = some (v, I', J')) {d : Nat} (hd : 3 ≤ d) : qp_Met l G d 196 [.ref 36, .int p1] (qp_mk I J) 0 0 (qp_R8 (some (.int v)) I' J') := by
  have hd1 : Nat.ble 1 d = true := Nat.ble_eq_true_of_le (Nat.le_trans (by decide) hd)
  refine qp_Met_of (by decide) (by rw [qp_r196.2]; rfl) [some (.ref 36), some (.int p1), none] (by rw [qp_r196.2]; rfl) ?_
  unfold fM_on at h
  refine qp_run_E qp_ok196 1 (c' := (1, [some (.ref 36), some (.int p1), none], [.int p1], qp_mk I J)) (by with_unfolding_all rfl) hd1 trivial ?_
  obtain ⟨v1, I1, J1, e1, h⟩ := qp_bd_s h
  refine qp_cS qp_ok196 (rest := []) (oj := 10) qp_f195 rfl rfl (gM_isShelf l G p1 I J e1 (Nat.le_refl 2)) rfl rfl rfl (Nat.le_trans (by decide) hd) ?_
  refine qp_br_E qp_ok196 (f := ¬ v1 = 0) (ct := (9, [some (.ref 36), some (.int p1), none], [], qp_mk I1 J1)) (cf := (7, [some (.ref 36), some (.int p1), none], [], qp_mk I1 J1)) (by with_unfolding_all rfl) (fun h1 => ?_) (fun h1 => ?_)
  · replace h := qp_ift h1 h
    obtain ⟨h2, h⟩ := qp_gd_s h
    refine qp_run_E qp_ok196 4 (f := vp_in p1 3 ∧ True) (c' := (15, [some (.ref 36), some (.int p1), none], [.int (I1 39 (Int32.toNatClampNeg p1))], qp_mk I1 J1)) (by with_unfolding_all rfl) hd1 ⟨(qp_vin (c := 3) (by decide) h2.1 h2.2), trivial⟩ ?_
    refine qp_br_E qp_ok196 (f := ¬ (I1 39 (Int32.toNatClampNeg p1)) = 0) (ct := (24, [some (.ref 36), some (.int p1), none], [], qp_mk I1 J1)) (cf := (18, [some (.ref 36), some (.int p1), none], [], qp_mk I1 J1)) (by with_unfolding_all rfl) (fun h3 => ?_) (fun h3 => ?_)
    · replace h := qp_ift h3 h
      refine qp_run_E qp_ok196 2 (c' := (26, [some (.ref 36), some (.int p1), some (.int 0)], [], qp_mk I1 J1)) (by with_unfolding_all rfl) hd1 trivial ?_
      exact gM_on_b26 hd 100000 p1 0 I1 J1 h
    · replace h := qp_iff h3 h
      refine qp_run_E qp_ok196 2 (c' := (20, [some (.ref 36), some (.int p1), none], [.int 1, .ref 36], qp_mk I1 J1)) (by with_unfolding_all rfl) hd1 trivial ?_
      obtain ⟨v2, I2, J2, e2, h⟩ := qp_bd_s h
      refine qp_cV qp_ok196 (rest := []) (oj := 10) qp_f151 rfl rfl (gM_finds l G 1 I1 J1 e2 (Nat.le_refl 1)) rfl rfl rfl rfl (Nat.le_trans (by decide) hd) ?_
      obtain ⟨rfl, rfl, rfl⟩ := qp_some3 h
      exact qp_retI_E qp_ok196 rfl qp_r196.1 ⟨rfl, rfl⟩ ⟨rfl, rfl⟩
  · replace h := qp_iff h1 h
    refine qp_run_E qp_ok196 1 (c' := (8, [some (.ref 36), some (.int p1), none], [.int (-1)], qp_mk I1 J1)) (by with_unfolding_all rfl) hd1 trivial ?_
    obtain ⟨rfl, rfl, rfl⟩ := qp_some3 h
    exact qp_retI_E qp_ok196 rfl qp_r196.1 ⟨rfl, rfl⟩ ⟨rfl, rfl⟩
def fM_who (p1 : Int32) (I : Nat → Nat → Int32) (J : Nat → Nat → Int64) : Option (Int32 × (Nat → Nat → Int32) × (Nat → Nat → Int64)) :=
  qp_bd (fM_isOne p1 I J) fun v1 I1 J1 =>
  if v1 = 0 then (
    some ((-1), I1, J1)
  ) else (
    qp_gd ((0 ≤ ((69 : Int32) + p1) ∧ ((69 : Int32) + p1) < 75)) <|
    some ((I1 37 (Int32.toNatClampNeg ((69 : Int32) + p1))), I1, J1)
  )
set_option maxRecDepth 8000 in
theorem gM_who (l : Launch) (G : qp_G) (p1 : Int32) (I : Nat → Nat → Int32) (J : Nat → Nat → Int64) {v : Int32} {I' : Nat → Nat → Int32} {J' : Nat → Nat → Int64} (h : fM_who p1 I J = some (v, I', J')) {d : Nat} (hd : 3 ≤ d) : qp_Met l G d 197 [.ref 36, .int p1] (qp_mk I J) 0 0 (qp_R8 (some (.int v)) I' J') := by
  have hd1 : Nat.ble 1 d = true := Nat.ble_eq_true_of_le (Nat.le_trans (by decide) hd)
  refine qp_Met_of (by decide) (by rw [qp_r197.2]; rfl) [some (.ref 36), some (.int p1)] (by rw [qp_r197.2]; rfl) ?_
  unfold fM_who at h
  refine qp_run_E qp_ok197 2 (c' := (2, [some (.ref 36), some (.int p1)], [.int p1, .ref 36], qp_mk I J)) (by with_unfolding_all rfl) hd1 trivial ?_
  obtain ⟨v1, I1, J1, e1, h⟩ := qp_bd_s h
  refine qp_cV qp_ok197 (rest := []) (oj := 10) qp_f172 rfl rfl (gM_isOne l G p1 I J e1 (Nat.le_refl 2)) rfl rfl rfl rfl (Nat.le_trans (by decide) hd) ?_
  refine qp_br_E qp_ok197 (f := v1 = 0) (ct := (20, [some (.ref 36), some (.int p1)], [], qp_mk I1 J1)) (cf := (8, [some (.ref 36), some (.int p1)], [], qp_mk I1 J1)) (by with_unfolding_all rfl) (fun h1 => ?_) (fun h1 => ?_)
  · replace h := qp_ift h1 h
    refine qp_run_E qp_ok197 1 (c' := (21, [some (.ref 36), some (.int p1)], [.int (-1)], qp_mk I1 J1)) (by with_unfolding_all rfl) hd1 trivial ?_
    obtain ⟨rfl, rfl, rfl⟩ := qp_some3 h
    exact qp_retI_E qp_ok197 rfl qp_r197.1 ⟨rfl, rfl⟩ ⟨rfl, rfl⟩
  · replace h := qp_iff h1 h
    obtain ⟨h2, h⟩ := qp_gd_s h
    refine qp_run_E qp_ok197 7 (f := vp_in ((69 : Int32) + p1) 75 ∧ True) (c' := (21, [some (.ref 36), some (.int p1)], [.int (I1 37 (Int32.toNatClampNeg ((69 : Int32) + p1)))], qp_mk I1 J1)) (by with_unfolding_all rfl) hd1 ⟨(qp_vin (c := 75) (by decide) h2.1 h2.2), trivial⟩ ?_
    obtain ⟨rfl, rfl, rfl⟩ := qp_some3 h
    exact qp_retI_E qp_ok197 rfl qp_r197.1 ⟨rfl, rfl⟩ ⟨rfl, rfl⟩
def fM_sold (p1 : Int32) (p2 : Int32) (I : Nat → Nat → Int32) (J : Nat → Nat → Int64) : Option (Int32 × (Nat → Nat → Int32) × (Nat → Nat → Int64)) :=
  qp_bd (fM_isTicket p1 I J) fun v1 I1 J1 =>
  if v1 = 0 then (
    some ((-1), I1, J1)
  ) else (
    qp_bd (fM_in (Int32.toInt64 p2) 0 1 I1 J1) fun v2 I2 J2 =>
    if ¬ v2 = 0 then (
      if ¬ p2 = 0 then (
        qp_gd ((0 ≤ ((57 : Int32) + p1) ∧ ((57 : Int32) + p1) < 75)) <|
        some (((I2 37 (Int32.toNatClampNeg ((57 : Int32) + p1))) - (I2 37 (Int32.toNatClampNeg ((57 : Int32) + p1))) / 8 * 8), I2, J2)
      ) else (
        qp_gd ((0 ≤ ((57 : Int32) + p1) ∧ ((57 : Int32) + p1) < 75)) <|
        some (((I2 37 (Int32.toNatClampNeg ((57 : Int32) + p1))) / 8), I2, J2)
      )
    ) else (
      some ((-1), I2, J2)
    )
  )
set_option maxRecDepth 8000 in
theorem gM_sold (l : Launch) (G : qp_G) (p1 : Int32) (p2 : Int32) (I : Nat → Nat → Int32) (J : Nat → Nat → Int64) {v : Int32} {I' : Nat → Nat → Int32} {J' : Nat → Nat → Int64} (h : fM_sold p1 p2 I J = some (v, I', J')) {d : Nat} (hd : 3 ≤ d) : qp_Met l G d 198 [.ref 36, .int p1, .int p2] (qp_mk I J) 0 0 (qp_R8 (some (.int v)) I' J') := by
  have hd1 : Nat.ble 1 d = true := Nat.ble_eq_true_of_le (Nat.le_trans (by decide) hd)
  refine qp_Met_of (by decide) (by rw [qp_r198.2]; rfl) [some (.ref 36), some (.int p1), some (.int p2)] (by rw [qp_r198.2]; rfl) ?_
  unfold fM_sold at h
  refine qp_run_E qp_ok198 2 (c' := (2, [some (.ref 36), some (.int p1), some (.int p2)], [.int p1, .ref 36], qp_mk I J)) (by with_unfolding_all rfl) hd1 trivial ?_
  obtain ⟨v1, I1, J1, e1, h⟩ := qp_bd_s h
  refine qp_cV qp_ok198 (rest := []) (oj := 10) qp_f191 rfl rfl (gM_isTicket l G p1 I J e1 (Nat.le_refl 2)) rfl rfl rfl rfl (Nat.le_trans (by decide) hd) ?_
  refine qp_br_E qp_ok198 (f := v1 = 0) (ct := (18, [some (.ref 36), some (.int p1), some (.int p2)], [], qp_mk I1 J1)) (cf := (8, [some (.ref 36), some (.int p1), some (.int p2)], [], qp_mk I1 J1)) (by with_unfolding_all rfl) (fun h1 => ?_) (fun h1 => ?_)
  · replace h := qp_ift h1 h
    refine qp_run_E qp_ok198 1 (c' := (19, [some (.ref 36), some (.int p1), some (.int p2)], [.int (-1)], qp_mk I1 J1)) (by with_unfolding_all rfl) hd1 trivial ?_
    obtain ⟨rfl, rfl, rfl⟩ := qp_some3 h
    exact qp_retI_E qp_ok198 rfl qp_r198.1 ⟨rfl, rfl⟩ ⟨rfl, rfl⟩
  · replace h := qp_iff h1 h
    refine qp_run_E qp_ok198 4 (c' := (12, [some (.ref 36), some (.int p1), some (.int p2)], [.long 1, .long 0, .long (Int32.toInt64 p2)], qp_mk I1 J1)) (by with_unfolding_all rfl) hd1 trivial ?_
    obtain ⟨v2, I2, J2, e2, h⟩ := qp_bd_s h
    refine qp_cS qp_ok198 (rest := []) (oj := 10) qp_f150 rfl rfl (gM_in l G (Int32.toInt64 p2) 0 1 I1 J1 e2 (Nat.le_refl 1)) rfl rfl rfl (Nat.le_trans (by decide) hd) ?_
    refine qp_br_E qp_ok198 (f := ¬ v2 = 0) (ct := (20, [some (.ref 36), some (.int p1), some (.int p2)], [], qp_mk I2 J2)) (cf := (18, [some (.ref 36), some (.int p1), some (.int p2)], [], qp_mk I2 J2)) (by with_unfolding_all rfl) (fun h2 => ?_) (fun h2 => ?_)
    · replace h := qp_ift h2 h
      refine qp_run_E qp_ok198 1 (c' := (21, [some (.ref 36), some (.int p1), some (.int p2)], [.int p2], qp_mk I2 J2)) (by with_unfolding_all rfl) hd1 trivial ?_
      refine qp_br_E qp_ok198 (f := ¬ p2 = 0) (ct := (39, [some (.ref 36), some (.int p1), some (.int p2)], [], qp_mk I2 J2)) (cf := (24, [some (.ref 36), some (.int p1), some (.int p2)], [], qp_mk I2 J2)) (by with_unfolding_all rfl) (fun h3 => ?_) (fun h3 => ?_)
      · replace h := qp_ift h3 h
        obtain ⟨h4, h⟩ := qp_gd_s h
        refine qp_run_E qp_ok198 8 (f := vp_in ((57 : Int32) + p1) 75 ∧ ¬ (8 : Int32) = 0 ∧ True) (c' := (51, [some (.ref 36), some (.int p1), some (.int p2)], [.int ((I2 37 (Int32.toNatClampNeg ((57 : Int32) + p1))) - (I2 37 (Int32.toNatClampNeg ((57 : Int32) + p1))) / 8 * 8)], qp_mk I2 J2)) (by with_unfolding_all rfl) hd1 ⟨(qp_vin (c := 75) (by decide) h4.1 h4.2), (by decide), trivial⟩ ?_
        obtain ⟨rfl, rfl, rfl⟩ := qp_some3 h
        exact qp_retI_E qp_ok198 rfl qp_r198.1 ⟨rfl, rfl⟩ ⟨rfl, rfl⟩
      · replace h := qp_iff h3 h
        obtain ⟨h5, h⟩ := qp_gd_s h
        refine qp_run_E qp_ok198 9 (f := vp_in ((57 : Int32) + p1) 75 ∧ ¬ (8 : Int32) = 0 ∧ True) (c' := (51, [some (.ref 36), some (.int p1), some (.int p2)], [.int ((I2 37 (Int32.toNatClampNeg ((57 : Int32) + p1))) / 8)], qp_mk I2 J2)) (by with_unfolding_all rfl) hd1 ⟨(qp_vin (c := 75) (by decide) h5.1 h5.2), (by decide), trivial⟩ ?_
        obtain ⟨rfl, rfl, rfl⟩ := qp_some3 h
        exact qp_retI_E qp_ok198 rfl qp_r198.1 ⟨rfl, rfl⟩ ⟨rfl, rfl⟩
    · replace h := qp_iff h2 h
      refine qp_run_E qp_ok198 1 (c' := (19, [some (.ref 36), some (.int p1), some (.int p2)], [.int (-1)], qp_mk I2 J2)) (by with_unfolding_all rfl) hd1 trivial ?_
      obtain ⟨rfl, rfl, rfl⟩ := qp_some3 h
      exact qp_retI_E qp_ok198 rfl qp_r198.1 ⟨rfl, rfl⟩ ⟨rfl, rfl⟩
def fM_wants (p1 : Int32) (p2 : Int32) (I : Nat → Nat → Int32) (J : Nat → Nat → Int64) : Option (Int32 × (Nat → Nat → Int32) × (Nat → Nat → Int64)) :=
  qp_bd (fM_isOne p1 I J) fun v1 I1 J1 =>
  if v1 = 0 then (
    some ((-1), I1, J1)
  ) else (
    qp_bd (fM_isOne p2 I1 J1) fun v2 I2 J2 =>
    if v2 = 0 then (
      some ((-1), I2, J2)
    ) else (
      qp_gd ((0 ≤ ((2 : Int32) + p1) ∧ ((2 : Int32) + p1) < 75)) <|
      if ¬ p2 = ((I2 37 0) - 1) then (
        qp_bd (fM_wantsAs (I2 37 (Int32.toNatClampNeg ((2 : Int32) + p1))) 0 I2 J2) fun v3 I3 J3 =>
        some (v3, I3, J3)
      ) else (
        qp_bd (fM_wantsAs (I2 37 (Int32.toNatClampNeg ((2 : Int32) + p1))) 1 I2 J2) fun v4 I4 J4 =>
        some (v4, I4, J4)
      )
    )
  )
set_option maxRecDepth 8000 in
theorem gM_wants (l : Launch) (G : qp_G) (p1 : Int32) (p2 : Int32) (I : Nat → Nat → Int32) (J : Nat → Nat → Int64) {v : Int32} {I' : Nat → Nat → Int32} {J' : Nat → Nat → Int64} (h : fM_wants p1 p2 I J = some (v, I', J')) {d : Nat} (hd : 3 ≤ d) : qp_Met l G d 199 [.ref 36, .int p1, .int p2] (qp_mk I J) 0 0 (qp_R8 (some (.int v)) I' J') := by
  have hd1 : Nat.ble 1 d = true := Nat.ble_eq_true_of_le (Nat.le_trans (by decide) hd)
  refine qp_Met_of (by decide) (by rw [qp_r199.2]; rfl) [some (.ref 36), some (.int p1), some (.int p2)] (by rw [qp_r199.2]; rfl) ?_
  unfold fM_wants at h
  refine qp_run_E qp_ok199 2 (c' := (2, [some (.ref 36), some (.int p1), some (.int p2)], [.int p1, .ref 36], qp_mk I J)) (by with_unfolding_all rfl) hd1 trivial ?_
  obtain ⟨v1, I1, J1, e1, h⟩ := qp_bd_s h
  refine qp_cV qp_ok199 (rest := []) (oj := 10) qp_f172 rfl rfl (gM_isOne l G p1 I J e1 (Nat.le_refl 2)) rfl rfl rfl rfl (Nat.le_trans (by decide) hd) ?_
  refine qp_br_E qp_ok199 (f := v1 = 0) (ct := (47, [some (.ref 36), some (.int p1), some (.int p2)], [], qp_mk I1 J1)) (cf := (8, [some (.ref 36), some (.int p1), some (.int p2)], [], qp_mk I1 J1)) (by with_unfolding_all rfl) (fun h1 => ?_) (fun h1 => ?_)
  · replace h := qp_ift h1 h
    refine qp_run_E qp_ok199 1 (c' := (48, [some (.ref 36), some (.int p1), some (.int p2)], [.int (-1)], qp_mk I1 J1)) (by with_unfolding_all rfl) hd1 trivial ?_
    obtain ⟨rfl, rfl, rfl⟩ := qp_some3 h
    exact qp_retI_E qp_ok199 rfl qp_r199.1 ⟨rfl, rfl⟩ ⟨rfl, rfl⟩
  · replace h := qp_iff h1 h
    refine qp_run_E qp_ok199 2 (c' := (10, [some (.ref 36), some (.int p1), some (.int p2)], [.int p2, .ref 36], qp_mk I1 J1)) (by with_unfolding_all rfl) hd1 trivial ?_
    obtain ⟨v2, I2, J2, e2, h⟩ := qp_bd_s h
    refine qp_cV qp_ok199 (rest := []) (oj := 10) qp_f172 rfl rfl (gM_isOne l G p2 I1 J1 e2 (Nat.le_refl 2)) rfl rfl rfl rfl (Nat.le_trans (by decide) hd) ?_
    refine qp_br_E qp_ok199 (f := v2 = 0) (ct := (47, [some (.ref 36), some (.int p1), some (.int p2)], [], qp_mk I2 J2)) (cf := (16, [some (.ref 36), some (.int p1), some (.int p2)], [], qp_mk I2 J2)) (by with_unfolding_all rfl) (fun h2 => ?_) (fun h2 => ?_)
    · replace h := qp_ift h2 h
      refine qp_run_E qp_ok199 1 (c' := (48, [some (.ref 36), some (.int p1), some (.int p2)], [.int (-1)], qp_mk I2 J2)) (by with_unfolding_all rfl) hd1 trivial ?_
      obtain ⟨rfl, rfl, rfl⟩ := qp_some3 h
      exact qp_retI_E qp_ok199 rfl qp_r199.1 ⟨rfl, rfl⟩ ⟨rfl, rfl⟩
    · replace h := qp_iff h2 h
      obtain ⟨h3, h⟩ := qp_gd_s h
      refine qp_run_E qp_ok199 13 (f := vp_in ((2 : Int32) + p1) 75 ∧ vp_in 0 75 ∧ True) (c' := (33, [some (.ref 36), some (.int p1), some (.int p2)], [.int ((I2 37 0) - 1), .int p2, .int (I2 37 (Int32.toNatClampNeg ((2 : Int32) + p1)))], qp_mk I2 J2)) (by with_unfolding_all rfl) hd1 ⟨(qp_vin (c := 75) (by decide) h3.1 h3.2), (qp_vin (c := 75) (by decide) (by decide) (by decide)), trivial⟩ ?_
      refine qp_br_E qp_ok199 (f := ¬ p2 = ((I2 37 0) - 1)) (ct := (40, [some (.ref 36), some (.int p1), some (.int p2)], [.int (I2 37 (Int32.toNatClampNeg ((2 : Int32) + p1)))], qp_mk I2 J2)) (cf := (36, [some (.ref 36), some (.int p1), some (.int p2)], [.int (I2 37 (Int32.toNatClampNeg ((2 : Int32) + p1)))], qp_mk I2 J2)) (by with_unfolding_all rfl) (fun h4 => ?_) (fun h4 => ?_)
      · replace h := qp_ift h4 h
        refine qp_run_E qp_ok199 1 (c' := (41, [some (.ref 36), some (.int p1), some (.int p2)], [.int 0, .int (I2 37 (Int32.toNatClampNeg ((2 : Int32) + p1)))], qp_mk I2 J2)) (by with_unfolding_all rfl) hd1 trivial ?_
        obtain ⟨v3, I3, J3, e3, h⟩ := qp_bd_s h
        refine qp_cS qp_ok199 (rest := []) (oj := 10) qp_f177 rfl rfl (gM_wantsAs l G (I2 37 (Int32.toNatClampNeg ((2 : Int32) + p1))) 0 I2 J2 e3 (Nat.le_refl 1)) rfl rfl rfl (Nat.le_trans (by decide) hd) ?_
        refine qp_run_E qp_ok199 1 (c' := (48, [some (.ref 36), some (.int p1), some (.int p2)], [.int v3], qp_mk I3 J3)) (by with_unfolding_all rfl) hd1 trivial ?_
        obtain ⟨rfl, rfl, rfl⟩ := qp_some3 h
        exact qp_retI_E qp_ok199 rfl qp_r199.1 ⟨rfl, rfl⟩ ⟨rfl, rfl⟩
      · replace h := qp_iff h4 h
        refine qp_run_E qp_ok199 2 (c' := (41, [some (.ref 36), some (.int p1), some (.int p2)], [.int 1, .int (I2 37 (Int32.toNatClampNeg ((2 : Int32) + p1)))], qp_mk I2 J2)) (by with_unfolding_all rfl) hd1 trivial ?_
        obtain ⟨v4, I4, J4, e4, h⟩ := qp_bd_s h
        refine qp_cS qp_ok199 (rest := []) (oj := 10) qp_f177 rfl rfl (gM_wantsAs l G (I2 37 (Int32.toNatClampNeg ((2 : Int32) + p1))) 1 I2 J2 e4 (Nat.le_refl 1)) rfl rfl rfl (Nat.le_trans (by decide) hd) ?_
        refine qp_run_E qp_ok199 1 (c' := (48, [some (.ref 36), some (.int p1), some (.int p2)], [.int v4], qp_mk I4 J4)) (by with_unfolding_all rfl) hd1 trivial ?_
        obtain ⟨rfl, rfl, rfl⟩ := qp_some3 h
        exact qp_retI_E qp_ok199 rfl qp_r199.1 ⟨rfl, rfl⟩ ⟨rfl, rfl⟩
def fM_layHand_b2  : Nat → Int32 → (Nat → Nat → Int32) → (Nat → Nat → Int64) → Option (Unit × (Nat → Nat → Int32) × (Nat → Nat → Int64))
  | 0, _, _, _ => none
  | n + 1, a1, I, J =>
    if 75 ≤ a1 then (
      some ((), I, J)
    ) else (
      qp_gd ((0 ≤ a1 ∧ a1 < 75)) <|
      fM_layHand_b2 n (a1 + 1) (qp_up I 47 (Int32.toNatClampNeg a1) (I 37 (Int32.toNatClampNeg a1))) J
    )
set_option maxRecDepth 8000 in
theorem gM_layHand_b2 {l : Launch} {G : qp_G} {d : Nat} (hd : 1 ≤ d) {r : (Unit × (Nat → Nat → Int32) × (Nat → Nat → Int64))} {I0 : Nat → Nat → Int32} {J0 : Nat → Nat → Int64}   : ∀ (n : Nat) (a1 : Int32) (I : Nat → Nat → Int32) (J : Nat → Nat → Int64), fM_layHand_b2  n a1 I J = some r → qp_E l G d 202 (qp_mk I0 J0) 0 0 (qp_R8 none r.2.1 r.2.2) (2, [some (.ref 36), some (.int a1)], [], qp_mk I J) := by
  have hd1 : Nat.ble 1 d = true := Nat.ble_eq_true_of_le (Nat.le_trans (by decide) hd)
  intro n
  induction n with
  | zero => intro a1 I J h; exact absurd h (by simp [fM_layHand_b2])
  | succ n ih =>
    intro a1 I J h
    rw [fM_layHand_b2] at h
    refine qp_run_E qp_ok202 2 (c' := (5, [some (.ref 36), some (.int a1)], [.int 75, .int a1], qp_mk I J)) (by with_unfolding_all rfl) hd1 trivial ?_
    refine qp_br_E qp_ok202 (f := 75 ≤ a1) (ct := (26, [some (.ref 36), some (.int a1)], [], qp_mk I J)) (cf := (8, [some (.ref 36), some (.int a1)], [], qp_mk I J)) (by with_unfolding_all rfl) (fun h1 => ?_) (fun h1 => ?_)
    · replace h := qp_ift h1 h
      obtain rfl := Option.some.inj h
      exact qp_retV_E qp_ok202 rfl qp_r202.1 ⟨rfl, rfl⟩ ⟨rfl, rfl⟩
    · replace h := qp_iff h1 h
      obtain ⟨h2, h⟩ := qp_gd_s h
      refine qp_run_E qp_ok202 10 (f := vp_in a1 75 ∧ vp_in a1 75 ∧ True) (c' := (2, [some (.ref 36), some (.int (a1 + 1))], [], qp_mk (qp_up I 47 (Int32.toNatClampNeg a1) (I 37 (Int32.toNatClampNeg a1))) J)) (by with_unfolding_all rfl) hd1 ⟨(qp_vin (c := 75) (by decide) h2.1 h2.2), (qp_vin (c := 75) (by decide) h2.1 h2.2), trivial⟩ ?_
      exact ih (a1 + 1) (qp_up I 47 (Int32.toNatClampNeg a1) (I 37 (Int32.toNatClampNeg a1))) J h
def fM_layHand  (I : Nat → Nat → Int32) (J : Nat → Nat → Int64) : Option (Unit × (Nat → Nat → Int32) × (Nat → Nat → Int64)) :=
  fM_layHand_b2 100000 0 I J
set_option maxRecDepth 8000 in
theorem gM_layHand (l : Launch) (G : qp_G)  (I : Nat → Nat → Int32) (J : Nat → Nat → Int64) {v : Unit} {I' : Nat → Nat → Int32} {J' : Nat → Nat → Int64} (h : fM_layHand  I J = some (v, I', J')) {d : Nat} (hd : 1 ≤ d) : qp_Met l G d 202 [.ref 36] (qp_mk I J) 0 0 (qp_R8 none I' J') := by
  have hd1 : Nat.ble 1 d = true := Nat.ble_eq_true_of_le (Nat.le_trans (by decide) hd)
  refine qp_Met_of (by decide) (by rw [qp_r202.2]; rfl) [some (.ref 36), none] (by rw [qp_r202.2]; rfl) ?_
  unfold fM_layHand at h
  refine qp_run_E qp_ok202 2 (c' := (2, [some (.ref 36), some (.int 0)], [], qp_mk I J)) (by with_unfolding_all rfl) hd1 trivial ?_
  exact gM_layHand_b2 hd 100000 0 I J h
def fM_placeIn_47_b3  : Nat → Int32 → Int32 → Int32 → Int32 → (Nat → Nat → Int32) → (Nat → Nat → Int64) → Option (Int32 × (Nat → Nat → Int32) × (Nat → Nat → Int64))
  | 0, _, _, _, _, _, _ => none
  | n + 1, a1, a2, a3, a4, I, J =>
    if a2 ≤ a4 then (
      some (a4, I, J)
    ) else (
      qp_gd ((0 ≤ (a1 + a4) ∧ (a1 + a4) < 75)) <|
      if (I 47 (Int32.toNatClampNeg (a1 + a4))) = a3 then (
        some (a4, I, J)
      ) else (
        fM_placeIn_47_b3 n a1 a2 a3 (a4 + 1) I J
      )
    )
set_option maxRecDepth 8000 in
theorem gM_placeIn_47_b3 {l : Launch} {G : qp_G} {d : Nat} (hd : 1 ≤ d) {r : (Int32 × (Nat → Nat → Int32) × (Nat → Nat → Int64))} {I0 : Nat → Nat → Int32} {J0 : Nat → Nat → Int64}   : ∀ (n : Nat) (a1 : Int32) (a2 : Int32) (a3 : Int32) (a4 : Int32) (I : Nat → Nat → Int32) (J : Nat → Nat → Int64), fM_placeIn_47_b3  n a1 a2 a3 a4 I J = some r → qp_E l G d 179 (qp_mk I0 J0) 0 0 (qp_R8 (some (.int r.1)) r.2.1 r.2.2) (3, [some (.ref 47), some (.int a1), some (.int a2), some (.int a3), some (.int a4)], [], qp_mk I J) := by
  have hd1 : Nat.ble 1 d = true := Nat.ble_eq_true_of_le (Nat.le_trans (by decide) hd)
  intro n
  induction n with
  | zero => intro a1 a2 a3 a4 I J h; exact absurd h (by simp [fM_placeIn_47_b3])
  | succ n ih =>
    intro a1 a2 a3 a4 I J h
    rw [fM_placeIn_47_b3] at h
    refine qp_run_E qp_ok179 2 (c' := (6, [some (.ref 47), some (.int a1), some (.int a2), some (.int a3), some (.int a4)], [.int a2, .int a4], qp_mk I J)) (by with_unfolding_all rfl) hd1 trivial ?_
    refine qp_br_E qp_ok179 (f := a2 ≤ a4) (ct := (25, [some (.ref 47), some (.int a1), some (.int a2), some (.int a3), some (.int a4)], [], qp_mk I J)) (cf := (9, [some (.ref 47), some (.int a1), some (.int a2), some (.int a3), some (.int a4)], [], qp_mk I J)) (by with_unfolding_all rfl) (fun h1 => ?_) (fun h1 => ?_)
    · replace h := qp_ift h1 h
      refine qp_run_E qp_ok179 1 (c' := (27, [some (.ref 47), some (.int a1), some (.int a2), some (.int a3), some (.int a4)], [.int a4], qp_mk I J)) (by with_unfolding_all rfl) hd1 trivial ?_
      obtain rfl := Option.some.inj h
      exact qp_retI_E qp_ok179 rfl qp_r179.1 ⟨rfl, rfl⟩ ⟨rfl, rfl⟩
    · replace h := qp_iff h1 h
      obtain ⟨h2, h⟩ := qp_gd_s h
      refine qp_run_E qp_ok179 6 (f := vp_in (a1 + a4) 75 ∧ True) (c' := (16, [some (.ref 47), some (.int a1), some (.int a2), some (.int a3), some (.int a4)], [.int a3, .int (I 47 (Int32.toNatClampNeg (a1 + a4)))], qp_mk I J)) (by with_unfolding_all rfl) hd1 ⟨(qp_vin (c := 75) (by decide) h2.1 h2.2), trivial⟩ ?_
      refine qp_br_E qp_ok179 (f := (I 47 (Int32.toNatClampNeg (a1 + a4))) = a3) (ct := (25, [some (.ref 47), some (.int a1), some (.int a2), some (.int a3), some (.int a4)], [], qp_mk I J)) (cf := (19, [some (.ref 47), some (.int a1), some (.int a2), some (.int a3), some (.int a4)], [], qp_mk I J)) (by with_unfolding_all rfl) (fun h3 => ?_) (fun h3 => ?_)
      · replace h := qp_ift h3 h
        refine qp_run_E qp_ok179 1 (c' := (27, [some (.ref 47), some (.int a1), some (.int a2), some (.int a3), some (.int a4)], [.int a4], qp_mk I J)) (by with_unfolding_all rfl) hd1 trivial ?_
        obtain rfl := Option.some.inj h
        exact qp_retI_E qp_ok179 rfl qp_r179.1 ⟨rfl, rfl⟩ ⟨rfl, rfl⟩
      · replace h := qp_iff h3 h
        refine qp_run_E qp_ok179 2 (c' := (3, [some (.ref 47), some (.int a1), some (.int a2), some (.int a3), some (.int (a4 + 1))], [], qp_mk I J)) (by with_unfolding_all rfl) hd1 trivial ?_
        exact ih a1 a2 a3 (a4 + 1) I J h
def fM_placeIn_47 (p1 : Int32) (p2 : Int32) (p3 : Int32) (I : Nat → Nat → Int32) (J : Nat → Nat → Int64) : Option (Int32 × (Nat → Nat → Int32) × (Nat → Nat → Int64)) :=
  fM_placeIn_47_b3 100000 p1 p2 p3 0 I J
set_option maxRecDepth 8000 in
theorem gM_placeIn_47 (l : Launch) (G : qp_G) (p1 : Int32) (p2 : Int32) (p3 : Int32) (I : Nat → Nat → Int32) (J : Nat → Nat → Int64) {v : Int32} {I' : Nat → Nat → Int32} {J' : Nat → Nat → Int64} (h : fM_placeIn_47 p1 p2 p3 I J = some (v, I', J')) {d : Nat} (hd : 1 ≤ d) : qp_Met l G d 179 [.ref 47, .int p1, .int p2, .int p3] (qp_mk I J) 0 0 (qp_R8 (some (.int v)) I' J') := by
  have hd1 : Nat.ble 1 d = true := Nat.ble_eq_true_of_le (Nat.le_trans (by decide) hd)
  refine qp_Met_of (by decide) (by rw [qp_r179.2]; rfl) [some (.ref 47), some (.int p1), some (.int p2), some (.int p3), none] (by rw [qp_r179.2]; rfl) ?_
  unfold fM_placeIn_47 at h
  refine qp_run_E qp_ok179 2 (c' := (3, [some (.ref 47), some (.int p1), some (.int p2), some (.int p3), some (.int 0)], [], qp_mk I J)) (by with_unfolding_all rfl) hd1 trivial ?_
  exact gM_placeIn_47_b3 hd 100000 p1 p2 p3 0 I J h
def fM_goTo_47_b36  : Nat → Int32 → Int32 → Int32 → Int32 → (Nat → Nat → Int32) → (Nat → Nat → Int64) → Option (Unit × (Nat → Nat → Int32) × (Nat → Nat → Int64))
  | 0, _, _, _, _, _, _ => none
  | n + 1, a1, a3, a4, a5, I, J =>
    if a5 ≤ a4 then (
      qp_gd ((0 ≤ (a1 + a4) ∧ (a1 + a4) < 75)) <|
      some ((), (qp_up I 47 (Int32.toNatClampNeg (a1 + a4)) a3), J)
    ) else (
      qp_gd ((0 ≤ ((a1 + a5) - 1) ∧ ((a1 + a5) - 1) < 75) ∧ (0 ≤ (a1 + a5) ∧ (a1 + a5) < 75)) <|
      fM_goTo_47_b36 n a1 a3 a4 (a5 + (-1)) (qp_up I 47 (Int32.toNatClampNeg (a1 + a5)) (I 47 (Int32.toNatClampNeg ((a1 + a5) - 1)))) J
    )
set_option maxRecDepth 8000 in
theorem gM_goTo_47_b36 {l : Launch} {G : qp_G} {d : Nat} (hd : 2 ≤ d) {r : (Unit × (Nat → Nat → Int32) × (Nat → Nat → Int64))} {I0 : Nat → Nat → Int32} {J0 : Nat → Nat → Int64}   : ∀ (n : Nat) (a1 : Int32) (a3 : Int32) (a4 : Int32) (a5 : Int32) (I : Nat → Nat → Int32) (J : Nat → Nat → Int64), fM_goTo_47_b36  n a1 a3 a4 a5 I J = some r → qp_E l G d 189 (qp_mk I0 J0) 0 0 (qp_R8 none r.2.1 r.2.2) (36, [some (.ref 47), some (.int a1), none, some (.int a3), some (.int a4), some (.int a5)], [], qp_mk I J) := by
  have hd1 : Nat.ble 1 d = true := Nat.ble_eq_true_of_le (Nat.le_trans (by decide) hd)
  intro n
  induction n with
  | zero => intro a1 a3 a4 a5 I J h; exact absurd h (by simp [fM_goTo_47_b36])
  | succ n ih =>
    intro a1 a3 a4 a5 I J h
    rw [fM_goTo_47_b36] at h
    refine qp_run_E qp_ok189 2 (c' := (40, [some (.ref 47), some (.int a1), none, some (.int a3), some (.int a4), some (.int a5)], [.int a4, .int a5], qp_mk I J)) (by with_unfolding_all rfl) hd1 trivial ?_
    refine qp_br_E qp_ok189 (f := a5 ≤ a4) (ct := (63, [some (.ref 47), some (.int a1), none, some (.int a3), some (.int a4), some (.int a5)], [], qp_mk I J)) (cf := (43, [some (.ref 47), some (.int a1), none, some (.int a3), some (.int a4), some (.int a5)], [], qp_mk I J)) (by with_unfolding_all rfl) (fun h1 => ?_) (fun h1 => ?_)
    · replace h := qp_ift h1 h
      obtain ⟨h2, h⟩ := qp_gd_s h
      refine qp_run_E qp_ok189 6 (f := vp_in (a1 + a4) 75 ∧ True) (c' := (70, [some (.ref 47), some (.int a1), none, some (.int a3), some (.int a4), some (.int a5)], [], qp_mk (qp_up I 47 (Int32.toNatClampNeg (a1 + a4)) a3) J)) (by with_unfolding_all rfl) hd1 ⟨(qp_vin (c := 75) (by decide) h2.1 h2.2), trivial⟩ ?_
      obtain rfl := Option.some.inj h
      exact qp_retV_E qp_ok189 rfl qp_r189.1 ⟨rfl, rfl⟩ ⟨rfl, rfl⟩
    · replace h := qp_iff h1 h
      obtain ⟨h3, h⟩ := qp_gd_s h
      refine qp_run_E qp_ok189 14 (f := vp_in ((a1 + a5) - 1) 75 ∧ vp_in (a1 + a5) 75 ∧ True) (c' := (36, [some (.ref 47), some (.int a1), none, some (.int a3), some (.int a4), some (.int (a5 + (-1)))], [], qp_mk (qp_up I 47 (Int32.toNatClampNeg (a1 + a5)) (I 47 (Int32.toNatClampNeg ((a1 + a5) - 1)))) J)) (by with_unfolding_all rfl) hd1 ⟨(qp_vin (c := 75) (by decide) h3.1.1 h3.1.2), (qp_vin (c := 75) (by decide) h3.2.1 h3.2.2), trivial⟩ ?_
      exact ih a1 a3 a4 (a5 + (-1)) (qp_up I 47 (Int32.toNatClampNeg (a1 + a5)) (I 47 (Int32.toNatClampNeg ((a1 + a5) - 1)))) J h
def fM_goTo_47_b9  : Nat → Int32 → Int32 → Int32 → Int32 → (Nat → Nat → Int32) → (Nat → Nat → Int64) → Option (Unit × (Nat → Nat → Int32) × (Nat → Nat → Int64))
  | 0, _, _, _, _, _, _ => none
  | n + 1, a1, a3, a4, a5, I, J =>
    if a4 ≤ a5 then (
      fM_goTo_47_b36 100000 a1 a3 a4 a5 I J
    ) else (
      qp_gd ((0 ≤ ((a1 + a5) + 1) ∧ ((a1 + a5) + 1) < 75) ∧ (0 ≤ (a1 + a5) ∧ (a1 + a5) < 75)) <|
      fM_goTo_47_b9 n a1 a3 a4 (a5 + 1) (qp_up I 47 (Int32.toNatClampNeg (a1 + a5)) (I 47 (Int32.toNatClampNeg ((a1 + a5) + 1)))) J
    )
set_option maxRecDepth 8000 in
theorem gM_goTo_47_b9 {l : Launch} {G : qp_G} {d : Nat} (hd : 2 ≤ d) {r : (Unit × (Nat → Nat → Int32) × (Nat → Nat → Int64))} {I0 : Nat → Nat → Int32} {J0 : Nat → Nat → Int64}   : ∀ (n : Nat) (a1 : Int32) (a3 : Int32) (a4 : Int32) (a5 : Int32) (I : Nat → Nat → Int32) (J : Nat → Nat → Int64), fM_goTo_47_b9  n a1 a3 a4 a5 I J = some r → qp_E l G d 189 (qp_mk I0 J0) 0 0 (qp_R8 none r.2.1 r.2.2) (9, [some (.ref 47), some (.int a1), none, some (.int a3), some (.int a4), some (.int a5)], [], qp_mk I J) := by
  have hd1 : Nat.ble 1 d = true := Nat.ble_eq_true_of_le (Nat.le_trans (by decide) hd)
  intro n
  induction n with
  | zero => intro a1 a3 a4 a5 I J h; exact absurd h (by simp [fM_goTo_47_b9])
  | succ n ih =>
    intro a1 a3 a4 a5 I J h
    rw [fM_goTo_47_b9] at h
    refine qp_run_E qp_ok189 2 (c' := (13, [some (.ref 47), some (.int a1), none, some (.int a3), some (.int a4), some (.int a5)], [.int a4, .int a5], qp_mk I J)) (by with_unfolding_all rfl) hd1 trivial ?_
    refine qp_br_E qp_ok189 (f := a4 ≤ a5) (ct := (36, [some (.ref 47), some (.int a1), none, some (.int a3), some (.int a4), some (.int a5)], [], qp_mk I J)) (cf := (16, [some (.ref 47), some (.int a1), none, some (.int a3), some (.int a4), some (.int a5)], [], qp_mk I J)) (by with_unfolding_all rfl) (fun h1 => ?_) (fun h1 => ?_)
    · replace h := qp_ift h1 h
      exact gM_goTo_47_b36 hd 100000 a1 a3 a4 a5 I J h
    · replace h := qp_iff h1 h
      obtain ⟨h2, h⟩ := qp_gd_s h
      refine qp_run_E qp_ok189 14 (f := vp_in ((a1 + a5) + 1) 75 ∧ vp_in (a1 + a5) 75 ∧ True) (c' := (9, [some (.ref 47), some (.int a1), none, some (.int a3), some (.int a4), some (.int (a5 + 1))], [], qp_mk (qp_up I 47 (Int32.toNatClampNeg (a1 + a5)) (I 47 (Int32.toNatClampNeg ((a1 + a5) + 1)))) J)) (by with_unfolding_all rfl) hd1 ⟨(qp_vin (c := 75) (by decide) h2.1.1 h2.1.2), (qp_vin (c := 75) (by decide) h2.2.1 h2.2.2), trivial⟩ ?_
      exact ih a1 a3 a4 (a5 + 1) (qp_up I 47 (Int32.toNatClampNeg (a1 + a5)) (I 47 (Int32.toNatClampNeg ((a1 + a5) + 1)))) J h
def fM_goTo_47 (p1 : Int32) (p2 : Int32) (p3 : Int32) (p4 : Int32) (I : Nat → Nat → Int32) (J : Nat → Nat → Int64) : Option (Unit × (Nat → Nat → Int32) × (Nat → Nat → Int64)) :=
  qp_bd (fM_placeIn_47 p1 p2 p3 I J) fun v1 I1 J1 =>
  fM_goTo_47_b9 100000 p1 p3 p4 v1 I1 J1
set_option maxRecDepth 8000 in
theorem gM_goTo_47 (l : Launch) (G : qp_G) (p1 : Int32) (p2 : Int32) (p3 : Int32) (p4 : Int32) (I : Nat → Nat → Int32) (J : Nat → Nat → Int64) {v : Unit} {I' : Nat → Nat → Int32} {J' : Nat → Nat → Int64} (h : fM_goTo_47 p1 p2 p3 p4 I J = some (v, I', J')) {d : Nat} (hd : 2 ≤ d) : qp_Met l G d 189 [.ref 47, .int p1, .int p2, .int p3, .int p4] (qp_mk I J) 0 0 (qp_R8 none I' J') := by
  have hd1 : Nat.ble 1 d = true := Nat.ble_eq_true_of_le (Nat.le_trans (by decide) hd)
  refine qp_Met_of (by decide) (by rw [qp_r189.2]; rfl) [some (.ref 47), some (.int p1), some (.int p2), some (.int p3), some (.int p4), none] (by rw [qp_r189.2]; rfl) ?_
  unfold fM_goTo_47 at h
  refine qp_run_E qp_ok189 4 (c' := (4, [some (.ref 47), some (.int p1), some (.int p2), some (.int p3), some (.int p4), none], [.int p3, .int p2, .int p1, .ref 47], qp_mk I J)) (by with_unfolding_all rfl) hd1 trivial ?_
  obtain ⟨v1, I1, J1, e1, h⟩ := qp_bd_s h
  refine qp_cS qp_ok189 (rest := []) (oj := 10) qp_f179 rfl rfl (gM_placeIn_47 l G p1 p2 p3 I J e1 (Nat.le_refl 1)) rfl rfl rfl (Nat.le_trans (by decide) hd) ?_
  refine qp_run_E qp_ok189 1 (c' := (9, [some (.ref 47), some (.int p1), some (.int p2), some (.int p3), some (.int p4), some (.int v1)], [], qp_mk I1 J1)) (by with_unfolding_all rfl) hd1 trivial ?_
  exact qp_E_fg [true, true, false, true, true, true] (gM_goTo_47_b9 hd 100000 p1 p3 p4 v1 I1 J1 h)

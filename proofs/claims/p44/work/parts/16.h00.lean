/-! methods as functions: 16.h 0 -/
def fW_up (p0 : Int32) (p1 : Int32) (I : Nat → Nat → Int32) (J : Nat → Nat → Int64) : Option (Int32 × (Nat → Nat → Int32) × (Nat → Nat → Int64)) :=
  qp_gd ((¬ p1 = 0)) <|
  some (((p0 &&& 2147483647) - (p0 &&& 2147483647) / p1 * p1), I, J)
set_option maxRecDepth 8000 in
theorem gW_up (l : Launch) (G : qp_G) (p0 : Int32) (p1 : Int32) (I : Nat → Nat → Int32) (J : Nat → Nat → Int64) {v : Int32} {I' : Nat → Nat → Int32} {J' : Nat → Nat → Int64} (h : fW_up p0 p1 I J = some (v, I', J')) {d : Nat} (hd : 1 ≤ d) : qp_Met l G d 132 [.int p0, .int p1] (qp_mk I J) 0 0 (qp_R8 (some (.int v)) I' J') := by
  have hd1 : Nat.ble 1 d = true := Nat.ble_eq_true_of_le (Nat.le_trans (by decide) hd)
  refine qp_Met_of (by decide) (by rw [qp_r132.2]; rfl) [some (.int p0), some (.int p1)] (by rw [qp_r132.2]; rfl) ?_
  unfold fW_up at h
  obtain ⟨h1, h⟩ := qp_gd_s h
  refine qp_run_E qp_ok132 5 (f := ¬ (p1 : Int32) = 0 ∧ True) (c' := (6, [some (.int p0), some (.int p1)], [.int ((p0 &&& 2147483647) - (p0 &&& 2147483647) / p1 * p1)], qp_mk I J)) (by with_unfolding_all rfl) hd1 ⟨h1, trivial⟩ ?_
  obtain ⟨rfl, rfl, rfl⟩ := qp_some3 h
  exact qp_retI_E qp_ok132 rfl qp_r132.1 ⟨rfl, rfl⟩ ⟨rfl, rfl⟩
def fW_lay_b91 (G : qp_G)  : Nat → Int32 → (Nat → Nat → Int32) → (Nat → Nat → Int64) → Option (Unit × (Nat → Nat → Int32) × (Nat → Nat → Int64))
  | 0, _, _, _ => none
  | n + 1, a2, I, J =>
    if (I 36 0) ≤ a2 then (
      some ((), I, J)
    ) else (
      qp_bd (fW_cell G ((1 : Int32) + a2) I J) fun v1 I1 J1 =>
      qp_bd (fW_up v1 6 (qp_g I I1) J1) fun v2 I2 J2 =>
      qp_gd ((0 ≤ ((2 : Int32) + a2) ∧ ((2 : Int32) + a2) < 34)) <|
      qp_bd (fW_up (v1 >>> ((20 : Int32) &&& 31)) 2 (qp_up (qp_g (qp_g I I1) I2) 36 (Int32.toNatClampNeg ((2 : Int32) + a2)) v2) J2) fun v3 I3 J3 =>
      if ¬ v3 = 0 then (
        qp_bd (fW_up (v1 >>> ((4 : Int32) &&& 31)) 4 (qp_g (qp_up (qp_g (qp_g I I1) I2) 36 (Int32.toNatClampNeg ((2 : Int32) + a2)) v2) I3) J3) fun v4 I4 J4 =>
        qp_gd ((0 ≤ ((8 : Int32) + a2) ∧ ((8 : Int32) + a2) < 34)) <|
        fW_lay_b91 G n (a2 + 1) (qp_up (qp_g (qp_g (qp_up (qp_g (qp_g I I1) I2) 36 (Int32.toNatClampNeg ((2 : Int32) + a2)) v2) I3) I4) 36 (Int32.toNatClampNeg ((8 : Int32) + a2)) ((1 : Int32) + v4)) J4
      ) else (
        qp_bd (fW_up (v1 >>> ((4 : Int32) &&& 31)) 9 (qp_g (qp_up (qp_g (qp_g I I1) I2) 36 (Int32.toNatClampNeg ((2 : Int32) + a2)) v2) I3) J3) fun v5 I5 J5 =>
        qp_gd ((0 ≤ ((8 : Int32) + a2) ∧ ((8 : Int32) + a2) < 34)) <|
        fW_lay_b91 G n (a2 + 1) (qp_up (qp_g (qp_g (qp_up (qp_g (qp_g I I1) I2) 36 (Int32.toNatClampNeg ((2 : Int32) + a2)) v2) I3) I5) 36 (Int32.toNatClampNeg ((8 : Int32) + a2)) ((1 : Int32) + v5)) J5
      )
    )
set_option maxRecDepth 8000 in
theorem gW_lay_b91 {l : Launch} {G : qp_G} {d : Nat} (hd : 2 ≤ d) {r : (Unit × (Nat → Nat → Int32) × (Nat → Nat → Int64))} {I0 : Nat → Nat → Int32} {J0 : Nat → Nat → Int64}   : ∀ (n : Nat) (a2 : Int32) (I : Nat → Nat → Int32) (J : Nat → Nat → Int64), fW_lay_b91 G  n a2 I J = some r → qp_E l G d 133 (qp_mkE 37 3018 I0 J0) 0 0 (qp_R8E 37 3018 none r.2.1 r.2.2) (91, [some (.ref 2000), some (.ref 36), some (.int a2), none], [], qp_mkE 37 3018 I J) := by
  have hd1 : Nat.ble 1 d = true := Nat.ble_eq_true_of_le (Nat.le_trans (by decide) hd)
  intro n
  induction n with
  | zero => intro a2 I J h; exact absurd h (by simp [fW_lay_b91])
  | succ n ih =>
    intro a2 I J h
    rw [fW_lay_b91] at h
    refine qp_run_E qp_ok133 4 (f := vp_in 0 34 ∧ True) (c' := (95, [some (.ref 2000), some (.ref 36), some (.int a2), none], [.int (I 36 0), .int a2], qp_mkE 37 3018 I J)) (by with_unfolding_all rfl) hd1 ⟨(qp_vin (c := 34) (by decide) (by decide) (by decide)), trivial⟩ ?_
    refine qp_br_E qp_ok133 (f := (I 36 0) ≤ a2) (ct := (154, [some (.ref 2000), some (.ref 36), some (.int a2), none], [], qp_mkE 37 3018 I J)) (cf := (98, [some (.ref 2000), some (.ref 36), some (.int a2), none], [], qp_mkE 37 3018 I J)) (by with_unfolding_all rfl) (fun h1 => ?_) (fun h1 => ?_)
    · replace h := qp_ift h1 h
      obtain rfl := Option.some.inj h
      exact qp_retV_E qp_ok133 rfl qp_r133.1 ⟨rfl, rfl⟩ ⟨rfl, rfl⟩
    · replace h := qp_iff h1 h
      refine qp_run_E qp_ok133 4 (c' := (102, [some (.ref 2000), some (.ref 36), some (.int a2), none], [.int ((1 : Int32) + a2), .ref 2000], qp_mkE 37 3018 I J)) (by with_unfolding_all rfl) hd1 trivial ?_
      obtain ⟨v1, I1, J1, e1, h⟩ := qp_bd_s h
      refine qp_cS qp_ok133 (rest := []) (oj := 13) qp_f131 rfl rfl (qp_lift (by decide) (gW_cell l G ((1 : Int32) + a2) I J e1 (Nat.le_refl 1))) rfl rfl rfl (Nat.le_trans (by decide) hd) ?_
      refine qp_run_E qp_ok133 7 (c' := (113, [some (.ref 2000), some (.ref 36), some (.int a2), some (.int v1)], [.int 6, .int v1, .int ((2 : Int32) + a2), .ref 36], qp_mkE 37 3018 (qp_g I I1) J1)) (by with_unfolding_all rfl) hd1 trivial ?_
      obtain ⟨v2, I2, J2, e2, h⟩ := qp_bd_s h
      refine qp_cS qp_ok133 (rest := [.int ((2 : Int32) + a2), .ref 36]) (oj := 13) qp_f132 rfl rfl (qp_lift (by decide) (gW_up l G v1 6 (qp_g I I1) J1 e2 (Nat.le_refl 1))) rfl rfl rfl (Nat.le_trans (by decide) hd) ?_
      obtain ⟨h2, h⟩ := qp_gd_s h
      refine qp_run_E qp_ok133 13 (f := vp_in ((2 : Int32) + a2) 34 ∧ True) (c' := (131, [some (.ref 2000), some (.ref 36), some (.int a2), some (.int v1)], [.int 2, .int (v1 >>> ((20 : Int32) &&& 31)), .int (v1 >>> ((4 : Int32) &&& 31)), .int 1, .int ((8 : Int32) + a2), .ref 36], qp_mkE 37 3018 (qp_up (qp_g (qp_g I I1) I2) 36 (Int32.toNatClampNeg ((2 : Int32) + a2)) v2) J2)) (by with_unfolding_all rfl) hd1 ⟨(qp_vin (c := 34) (by decide) h2.1 h2.2), trivial⟩ ?_
      obtain ⟨v3, I3, J3, e3, h⟩ := qp_bd_s h
      refine qp_cS qp_ok133 (rest := [.int (v1 >>> ((4 : Int32) &&& 31)), .int 1, .int ((8 : Int32) + a2), .ref 36]) (oj := 13) qp_f132 rfl rfl (qp_lift (by decide) (gW_up l G (v1 >>> ((20 : Int32) &&& 31)) 2 (qp_up (qp_g (qp_g I I1) I2) 36 (Int32.toNatClampNeg ((2 : Int32) + a2)) v2) J2 e3 (Nat.le_refl 1))) rfl rfl rfl (Nat.le_trans (by decide) hd) ?_
      refine qp_br_E qp_ok133 (f := ¬ v3 = 0) (ct := (142, [some (.ref 2000), some (.ref 36), some (.int a2), some (.int v1)], [.int (v1 >>> ((4 : Int32) &&& 31)), .int 1, .int ((8 : Int32) + a2), .ref 36], qp_mkE 37 3018 (qp_g (qp_up (qp_g (qp_g I I1) I2) 36 (Int32.toNatClampNeg ((2 : Int32) + a2)) v2) I3) J3)) (cf := (137, [some (.ref 2000), some (.ref 36), some (.int a2), some (.int v1)], [.int (v1 >>> ((4 : Int32) &&& 31)), .int 1, .int ((8 : Int32) + a2), .ref 36], qp_mkE 37 3018 (qp_g (qp_up (qp_g (qp_g I I1) I2) 36 (Int32.toNatClampNeg ((2 : Int32) + a2)) v2) I3) J3)) (by with_unfolding_all rfl) (fun h3 => ?_) (fun h3 => ?_)
      · replace h := qp_ift h3 h
        refine qp_run_E qp_ok133 1 (c' := (143, [some (.ref 2000), some (.ref 36), some (.int a2), some (.int v1)], [.int 4, .int (v1 >>> ((4 : Int32) &&& 31)), .int 1, .int ((8 : Int32) + a2), .ref 36], qp_mkE 37 3018 (qp_g (qp_up (qp_g (qp_g I I1) I2) 36 (Int32.toNatClampNeg ((2 : Int32) + a2)) v2) I3) J3)) (by with_unfolding_all rfl) hd1 trivial ?_
        obtain ⟨v4, I4, J4, e4, h⟩ := qp_bd_s h
        refine qp_cS qp_ok133 (rest := [.int 1, .int ((8 : Int32) + a2), .ref 36]) (oj := 13) qp_f132 rfl rfl (qp_lift (by decide) (gW_up l G (v1 >>> ((4 : Int32) &&& 31)) 4 (qp_g (qp_up (qp_g (qp_g I I1) I2) 36 (Int32.toNatClampNeg ((2 : Int32) + a2)) v2) I3) J3 e4 (Nat.le_refl 1))) rfl rfl rfl (Nat.le_trans (by decide) hd) ?_
        obtain ⟨h4, h⟩ := qp_gd_s h
        refine qp_run_E qp_ok133 4 (f := vp_in ((8 : Int32) + a2) 34 ∧ True) (c' := (91, [some (.ref 2000), some (.ref 36), some (.int (a2 + 1)), some (.int v1)], [], qp_mkE 37 3018 (qp_up (qp_g (qp_g (qp_up (qp_g (qp_g I I1) I2) 36 (Int32.toNatClampNeg ((2 : Int32) + a2)) v2) I3) I4) 36 (Int32.toNatClampNeg ((8 : Int32) + a2)) ((1 : Int32) + v4)) J4)) (by with_unfolding_all rfl) hd1 ⟨(qp_vin (c := 34) (by decide) h4.1 h4.2), trivial⟩ ?_
        exact qp_E_fg [true, true, true, false] (ih (a2 + 1) (qp_up (qp_g (qp_g (qp_up (qp_g (qp_g I I1) I2) 36 (Int32.toNatClampNeg ((2 : Int32) + a2)) v2) I3) I4) 36 (Int32.toNatClampNeg ((8 : Int32) + a2)) ((1 : Int32) + v4)) J4 h)
      · replace h := qp_iff h3 h
        refine qp_run_E qp_ok133 2 (c' := (143, [some (.ref 2000), some (.ref 36), some (.int a2), some (.int v1)], [.int 9, .int (v1 >>> ((4 : Int32) &&& 31)), .int 1, .int ((8 : Int32) + a2), .ref 36], qp_mkE 37 3018 (qp_g (qp_up (qp_g (qp_g I I1) I2) 36 (Int32.toNatClampNeg ((2 : Int32) + a2)) v2) I3) J3)) (by with_unfolding_all rfl) hd1 trivial ?_
        obtain ⟨v5, I5, J5, e5, h⟩ := qp_bd_s h
        refine qp_cS qp_ok133 (rest := [.int 1, .int ((8 : Int32) + a2), .ref 36]) (oj := 13) qp_f132 rfl rfl (qp_lift (by decide) (gW_up l G (v1 >>> ((4 : Int32) &&& 31)) 9 (qp_g (qp_up (qp_g (qp_g I I1) I2) 36 (Int32.toNatClampNeg ((2 : Int32) + a2)) v2) I3) J3 e5 (Nat.le_refl 1))) rfl rfl rfl (Nat.le_trans (by decide) hd) ?_
        obtain ⟨h5, h⟩ := qp_gd_s h
        refine qp_run_E qp_ok133 4 (f := vp_in ((8 : Int32) + a2) 34 ∧ True) (c' := (91, [some (.ref 2000), some (.ref 36), some (.int (a2 + 1)), some (.int v1)], [], qp_mkE 37 3018 (qp_up (qp_g (qp_g (qp_up (qp_g (qp_g I I1) I2) 36 (Int32.toNatClampNeg ((2 : Int32) + a2)) v2) I3) I5) 36 (Int32.toNatClampNeg ((8 : Int32) + a2)) ((1 : Int32) + v5)) J5)) (by with_unfolding_all rfl) hd1 ⟨(qp_vin (c := 34) (by decide) h5.1 h5.2), trivial⟩ ?_
        exact qp_E_fg [true, true, true, false] (ih (a2 + 1) (qp_up (qp_g (qp_g (qp_up (qp_g (qp_g I I1) I2) 36 (Int32.toNatClampNeg ((2 : Int32) + a2)) v2) I3) I5) 36 (Int32.toNatClampNeg ((8 : Int32) + a2)) ((1 : Int32) + v5)) J5 h)
def fW_lay_b70 (G : qp_G)  : Nat → Int32 → (Nat → Nat → Int32) → (Nat → Nat → Int64) → Option (Unit × (Nat → Nat → Int32) × (Nat → Nat → Int64))
  | 0, _, _, _ => none
  | n + 1, a2, I, J =>
    if 6 ≤ a2 then (
      fW_lay_b91 G 100000 0 I J
    ) else (
      qp_gd ((0 ≤ ((14 : Int32) + a2) ∧ ((14 : Int32) + a2) < 34)) <|
      fW_lay_b70 G n (a2 + 1) (qp_up I 36 (Int32.toNatClampNeg ((14 : Int32) + a2)) a2) J
    )
set_option maxRecDepth 8000 in
theorem gW_lay_b70 {l : Launch} {G : qp_G} {d : Nat} (hd : 2 ≤ d) {r : (Unit × (Nat → Nat → Int32) × (Nat → Nat → Int64))} {I0 : Nat → Nat → Int32} {J0 : Nat → Nat → Int64}   : ∀ (n : Nat) (a2 : Int32) (I : Nat → Nat → Int32) (J : Nat → Nat → Int64), fW_lay_b70 G  n a2 I J = some r → qp_E l G d 133 (qp_mkE 37 3018 I0 J0) 0 0 (qp_R8E 37 3018 none r.2.1 r.2.2) (70, [some (.ref 2000), some (.ref 36), some (.int a2), none], [], qp_mkE 37 3018 I J) := by
  have hd1 : Nat.ble 1 d = true := Nat.ble_eq_true_of_le (Nat.le_trans (by decide) hd)
  intro n
  induction n with
  | zero => intro a2 I J h; exact absurd h (by simp [fW_lay_b70])
  | succ n ih =>
    intro a2 I J h
    rw [fW_lay_b70] at h
    refine qp_run_E qp_ok133 2 (c' := (73, [some (.ref 2000), some (.ref 36), some (.int a2), none], [.int 6, .int a2], qp_mkE 37 3018 I J)) (by with_unfolding_all rfl) hd1 trivial ?_
    refine qp_br_E qp_ok133 (f := 6 ≤ a2) (ct := (89, [some (.ref 2000), some (.ref 36), some (.int a2), none], [], qp_mkE 37 3018 I J)) (cf := (76, [some (.ref 2000), some (.ref 36), some (.int a2), none], [], qp_mkE 37 3018 I J)) (by with_unfolding_all rfl) (fun h1 => ?_) (fun h1 => ?_)
    · replace h := qp_ift h1 h
      refine qp_run_E qp_ok133 2 (c' := (91, [some (.ref 2000), some (.ref 36), some (.int 0), none], [], qp_mkE 37 3018 I J)) (by with_unfolding_all rfl) hd1 trivial ?_
      exact gW_lay_b91 hd 100000 0 I J h
    · replace h := qp_iff h1 h
      obtain ⟨h2, h⟩ := qp_gd_s h
      refine qp_run_E qp_ok133 8 (f := vp_in ((14 : Int32) + a2) 34 ∧ True) (c' := (70, [some (.ref 2000), some (.ref 36), some (.int (a2 + 1)), none], [], qp_mkE 37 3018 (qp_up I 36 (Int32.toNatClampNeg ((14 : Int32) + a2)) a2) J)) (by with_unfolding_all rfl) hd1 ⟨(qp_vin (c := 34) (by decide) h2.1 h2.2), trivial⟩ ?_
      exact ih (a2 + 1) (qp_up I 36 (Int32.toNatClampNeg ((14 : Int32) + a2)) a2) J h
def fW_lay_b2 (G : qp_G)  : Nat → Int32 → (Nat → Nat → Int32) → (Nat → Nat → Int64) → Option (Unit × (Nat → Nat → Int32) × (Nat → Nat → Int64))
  | 0, _, _, _ => none
  | n + 1, a2, I, J =>
    if 34 ≤ a2 then (
      qp_bd (fW_cell G 0 I J) fun v1 I1 J1 =>
      qp_bd (fW_up v1 6 (qp_g I I1) J1) fun v2 I2 J2 =>
      qp_bd (fW_cell G 0 (qp_up (qp_g (qp_g I I1) I2) 36 0 ((1 : Int32) + v2)) J2) fun v3 I3 J3 =>
      qp_bd (fW_cell G 0 (qp_g (qp_up (qp_g (qp_g I I1) I2) 36 0 ((1 : Int32) + v2)) I3) J3) fun v4 I4 J4 =>
      qp_bd (fW_up (v4 >>> ((20 : Int32) &&& 31)) 2 (qp_g (qp_g (qp_up (qp_g (qp_g I I1) I2) 36 0 ((1 : Int32) + v2)) I3) I4) J4) fun v5 I5 J5 =>
      if ¬ v5 = 0 then (
        qp_bd (fW_up (v3 >>> ((4 : Int32) &&& 31)) 9 (qp_g (qp_g (qp_g (qp_up (qp_g (qp_g I I1) I2) 36 0 ((1 : Int32) + v2)) I3) I4) I5) J5) fun v6 I6 J6 =>
        fW_lay_b70 G 100000 0 (qp_up (qp_g (qp_g (qp_g (qp_g (qp_up (qp_g (qp_g I I1) I2) 36 0 ((1 : Int32) + v2)) I3) I4) I5) I6) 36 1 v6) J6
      ) else (
        qp_bd (fW_up (v3 >>> ((4 : Int32) &&& 31)) 21 (qp_g (qp_g (qp_g (qp_up (qp_g (qp_g I I1) I2) 36 0 ((1 : Int32) + v2)) I3) I4) I5) J5) fun v7 I7 J7 =>
        fW_lay_b70 G 100000 0 (qp_up (qp_g (qp_g (qp_g (qp_g (qp_up (qp_g (qp_g I I1) I2) 36 0 ((1 : Int32) + v2)) I3) I4) I5) I7) 36 1 v7) J7
      )
    ) else (
      qp_gd ((0 ≤ a2 ∧ a2 < 34)) <|
      fW_lay_b2 G n (a2 + 1) (qp_up I 36 (Int32.toNatClampNeg a2) 0) J
    )
set_option maxRecDepth 8000 in
theorem gW_lay_b2 {l : Launch} {G : qp_G} {d : Nat} (hd : 2 ≤ d) {r : (Unit × (Nat → Nat → Int32) × (Nat → Nat → Int64))} {I0 : Nat → Nat → Int32} {J0 : Nat → Nat → Int64}   : ∀ (n : Nat) (a2 : Int32) (I : Nat → Nat → Int32) (J : Nat → Nat → Int64), fW_lay_b2 G  n a2 I J = some r → qp_E l G d 133 (qp_mkE 37 3018 I0 J0) 0 0 (qp_R8E 37 3018 none r.2.1 r.2.2) (2, [some (.ref 2000), some (.ref 36), some (.int a2), none], [], qp_mkE 37 3018 I J) := by
  have hd1 : Nat.ble 1 d = true := Nat.ble_eq_true_of_le (Nat.le_trans (by decide) hd)
  intro n
  induction n with
  | zero => intro a2 I J h; exact absurd h (by simp [fW_lay_b2])
  | succ n ih =>
    intro a2 I J h
    rw [fW_lay_b2] at h
    refine qp_run_E qp_ok133 2 (c' := (5, [some (.ref 2000), some (.ref 36), some (.int a2), none], [.int 34, .int a2], qp_mkE 37 3018 I J)) (by with_unfolding_all rfl) hd1 trivial ?_
    refine qp_br_E qp_ok133 (f := 34 ≤ a2) (ct := (18, [some (.ref 2000), some (.ref 36), some (.int a2), none], [], qp_mkE 37 3018 I J)) (cf := (8, [some (.ref 2000), some (.ref 36), some (.int a2), none], [], qp_mkE 37 3018 I J)) (by with_unfolding_all rfl) (fun h1 => ?_) (fun h1 => ?_)
    · replace h := qp_ift h1 h
      refine qp_run_E qp_ok133 5 (c' := (23, [some (.ref 2000), some (.ref 36), some (.int a2), none], [.int 0, .ref 2000, .int 1, .int 0, .ref 36], qp_mkE 37 3018 I J)) (by with_unfolding_all rfl) hd1 trivial ?_
      obtain ⟨v1, I1, J1, e1, h⟩ := qp_bd_s h
      refine qp_cS qp_ok133 (rest := [.int 1, .int 0, .ref 36]) (oj := 13) qp_f131 rfl rfl (qp_lift (by decide) (gW_cell l G 0 I J e1 (Nat.le_refl 1))) rfl rfl rfl (Nat.le_trans (by decide) hd) ?_
      refine qp_run_E qp_ok133 1 (c' := (28, [some (.ref 2000), some (.ref 36), some (.int a2), none], [.int 6, .int v1, .int 1, .int 0, .ref 36], qp_mkE 37 3018 (qp_g I I1) J1)) (by with_unfolding_all rfl) hd1 trivial ?_
      obtain ⟨v2, I2, J2, e2, h⟩ := qp_bd_s h
      refine qp_cS qp_ok133 (rest := [.int 1, .int 0, .ref 36]) (oj := 13) qp_f132 rfl rfl (qp_lift (by decide) (gW_up l G v1 6 (qp_g I I1) J1 e2 (Nat.le_refl 1))) rfl rfl rfl (Nat.le_trans (by decide) hd) ?_
      refine qp_run_E qp_ok133 6 (f := vp_in 0 34 ∧ True) (c' := (37, [some (.ref 2000), some (.ref 36), some (.int a2), none], [.int 0, .ref 2000, .int 1, .ref 36], qp_mkE 37 3018 (qp_up (qp_g (qp_g I I1) I2) 36 0 ((1 : Int32) + v2)) J2)) (by with_unfolding_all rfl) hd1 ⟨(qp_vin (c := 34) (by decide) (by decide) (by decide)), trivial⟩ ?_
      obtain ⟨v3, I3, J3, e3, h⟩ := qp_bd_s h
      refine qp_cS qp_ok133 (rest := [.int 1, .ref 36]) (oj := 13) qp_f131 rfl rfl (qp_lift (by decide) (gW_cell l G 0 (qp_up (qp_g (qp_g I I1) I2) 36 0 ((1 : Int32) + v2)) J2 e3 (Nat.le_refl 1))) rfl rfl rfl (Nat.le_trans (by decide) hd) ?_
      refine qp_run_E qp_ok133 4 (c' := (44, [some (.ref 2000), some (.ref 36), some (.int a2), none], [.int 0, .ref 2000, .int (v3 >>> ((4 : Int32) &&& 31)), .int 1, .ref 36], qp_mkE 37 3018 (qp_g (qp_up (qp_g (qp_g I I1) I2) 36 0 ((1 : Int32) + v2)) I3) J3)) (by with_unfolding_all rfl) hd1 trivial ?_
      obtain ⟨v4, I4, J4, e4, h⟩ := qp_bd_s h
      refine qp_cS qp_ok133 (rest := [.int (v3 >>> ((4 : Int32) &&& 31)), .int 1, .ref 36]) (oj := 13) qp_f131 rfl rfl (qp_lift (by decide) (gW_cell l G 0 (qp_g (qp_up (qp_g (qp_g I I1) I2) 36 0 ((1 : Int32) + v2)) I3) J3 e4 (Nat.le_refl 1))) rfl rfl rfl (Nat.le_trans (by decide) hd) ?_
      refine qp_run_E qp_ok133 3 (c' := (51, [some (.ref 2000), some (.ref 36), some (.int a2), none], [.int 2, .int (v4 >>> ((20 : Int32) &&& 31)), .int (v3 >>> ((4 : Int32) &&& 31)), .int 1, .ref 36], qp_mkE 37 3018 (qp_g (qp_g (qp_up (qp_g (qp_g I I1) I2) 36 0 ((1 : Int32) + v2)) I3) I4) J4)) (by with_unfolding_all rfl) hd1 trivial ?_
      obtain ⟨v5, I5, J5, e5, h⟩ := qp_bd_s h
      refine qp_cS qp_ok133 (rest := [.int (v3 >>> ((4 : Int32) &&& 31)), .int 1, .ref 36]) (oj := 13) qp_f132 rfl rfl (qp_lift (by decide) (gW_up l G (v4 >>> ((20 : Int32) &&& 31)) 2 (qp_g (qp_g (qp_up (qp_g (qp_g I I1) I2) 36 0 ((1 : Int32) + v2)) I3) I4) J4 e5 (Nat.le_refl 1))) rfl rfl rfl (Nat.le_trans (by decide) hd) ?_
      refine qp_br_E qp_ok133 (f := ¬ v5 = 0) (ct := (62, [some (.ref 2000), some (.ref 36), some (.int a2), none], [.int (v3 >>> ((4 : Int32) &&& 31)), .int 1, .ref 36], qp_mkE 37 3018 (qp_g (qp_g (qp_g (qp_up (qp_g (qp_g I I1) I2) 36 0 ((1 : Int32) + v2)) I3) I4) I5) J5)) (cf := (57, [some (.ref 2000), some (.ref 36), some (.int a2), none], [.int (v3 >>> ((4 : Int32) &&& 31)), .int 1, .ref 36], qp_mkE 37 3018 (qp_g (qp_g (qp_g (qp_up (qp_g (qp_g I I1) I2) 36 0 ((1 : Int32) + v2)) I3) I4) I5) J5)) (by with_unfolding_all rfl) (fun h2 => ?_) (fun h2 => ?_)
      · replace h := qp_ift h2 h
        refine qp_run_E qp_ok133 1 (c' := (64, [some (.ref 2000), some (.ref 36), some (.int a2), none], [.int 9, .int (v3 >>> ((4 : Int32) &&& 31)), .int 1, .ref 36], qp_mkE 37 3018 (qp_g (qp_g (qp_g (qp_up (qp_g (qp_g I I1) I2) 36 0 ((1 : Int32) + v2)) I3) I4) I5) J5)) (by with_unfolding_all rfl) hd1 trivial ?_
        obtain ⟨v6, I6, J6, e6, h⟩ := qp_bd_s h
        refine qp_cS qp_ok133 (rest := [.int 1, .ref 36]) (oj := 13) qp_f132 rfl rfl (qp_lift (by decide) (gW_up l G (v3 >>> ((4 : Int32) &&& 31)) 9 (qp_g (qp_g (qp_g (qp_up (qp_g (qp_g I I1) I2) 36 0 ((1 : Int32) + v2)) I3) I4) I5) J5 e6 (Nat.le_refl 1))) rfl rfl rfl (Nat.le_trans (by decide) hd) ?_
        refine qp_run_E qp_ok133 3 (f := vp_in 1 34 ∧ True) (c' := (70, [some (.ref 2000), some (.ref 36), some (.int 0), none], [], qp_mkE 37 3018 (qp_up (qp_g (qp_g (qp_g (qp_g (qp_up (qp_g (qp_g I I1) I2) 36 0 ((1 : Int32) + v2)) I3) I4) I5) I6) 36 1 v6) J6)) (by with_unfolding_all rfl) hd1 ⟨(qp_vin (c := 34) (by decide) (by decide) (by decide)), trivial⟩ ?_
        exact gW_lay_b70 hd 100000 0 (qp_up (qp_g (qp_g (qp_g (qp_g (qp_up (qp_g (qp_g I I1) I2) 36 0 ((1 : Int32) + v2)) I3) I4) I5) I6) 36 1 v6) J6 h
      · replace h := qp_iff h2 h
        refine qp_run_E qp_ok133 2 (c' := (64, [some (.ref 2000), some (.ref 36), some (.int a2), none], [.int 21, .int (v3 >>> ((4 : Int32) &&& 31)), .int 1, .ref 36], qp_mkE 37 3018 (qp_g (qp_g (qp_g (qp_up (qp_g (qp_g I I1) I2) 36 0 ((1 : Int32) + v2)) I3) I4) I5) J5)) (by with_unfolding_all rfl) hd1 trivial ?_
        obtain ⟨v7, I7, J7, e7, h⟩ := qp_bd_s h
        refine qp_cS qp_ok133 (rest := [.int 1, .ref 36]) (oj := 13) qp_f132 rfl rfl (qp_lift (by decide) (gW_up l G (v3 >>> ((4 : Int32) &&& 31)) 21 (qp_g (qp_g (qp_g (qp_up (qp_g (qp_g I I1) I2) 36 0 ((1 : Int32) + v2)) I3) I4) I5) J5 e7 (Nat.le_refl 1))) rfl rfl rfl (Nat.le_trans (by decide) hd) ?_
        refine qp_run_E qp_ok133 3 (f := vp_in 1 34 ∧ True) (c' := (70, [some (.ref 2000), some (.ref 36), some (.int 0), none], [], qp_mkE 37 3018 (qp_up (qp_g (qp_g (qp_g (qp_g (qp_up (qp_g (qp_g I I1) I2) 36 0 ((1 : Int32) + v2)) I3) I4) I5) I7) 36 1 v7) J7)) (by with_unfolding_all rfl) hd1 ⟨(qp_vin (c := 34) (by decide) (by decide) (by decide)), trivial⟩ ?_
        exact gW_lay_b70 hd 100000 0 (qp_up (qp_g (qp_g (qp_g (qp_g (qp_up (qp_g (qp_g I I1) I2) 36 0 ((1 : Int32) + v2)) I3) I4) I5) I7) 36 1 v7) J7 h
    · replace h := qp_iff h1 h
      obtain ⟨h3, h⟩ := qp_gd_s h
      refine qp_run_E qp_ok133 6 (f := vp_in a2 34 ∧ True) (c' := (2, [some (.ref 2000), some (.ref 36), some (.int (a2 + 1)), none], [], qp_mkE 37 3018 (qp_up I 36 (Int32.toNatClampNeg a2) 0) J)) (by with_unfolding_all rfl) hd1 ⟨(qp_vin (c := 34) (by decide) h3.1 h3.2), trivial⟩ ?_
      exact ih (a2 + 1) (qp_up I 36 (Int32.toNatClampNeg a2) 0) J h
def fW_lay (G : qp_G)  (I : Nat → Nat → Int32) (J : Nat → Nat → Int64) : Option (Unit × (Nat → Nat → Int32) × (Nat → Nat → Int64)) :=
  fW_lay_b2 G 100000 0 I J
set_option maxRecDepth 8000 in
theorem gW_lay (l : Launch) (G : qp_G)  (I : Nat → Nat → Int32) (J : Nat → Nat → Int64) {v : Unit} {I' : Nat → Nat → Int32} {J' : Nat → Nat → Int64} (h : fW_lay G  I J = some (v, I', J')) {d : Nat} (hd : 2 ≤ d) : qp_Met l G d 133 [.ref 2000, .ref 36] (qp_mkE 37 3018 I J) 0 0 (qp_R8E 37 3018 none I' J') := by
  have hd1 : Nat.ble 1 d = true := Nat.ble_eq_true_of_le (Nat.le_trans (by decide) hd)
  refine qp_Met_of (by decide) (by rw [qp_r133.2]; rfl) [some (.ref 2000), some (.ref 36), none, none] (by rw [qp_r133.2]; rfl) ?_
  unfold fW_lay at h
  refine qp_run_E qp_ok133 2 (c' := (2, [some (.ref 2000), some (.ref 36), some (.int 0), none], [], qp_mkE 37 3018 I J)) (by with_unfolding_all rfl) hd1 trivial ?_
  exact gW_lay_b2 hd 100000 0 I J h
def fW_letter (p0 : Int32) (I : Nat → Nat → Int32) (J : Nat → Nat → Int64) : Option (Int32 × (Nat → Nat → Int32) × (Nat → Nat → Int64)) :=
  if ¬ p0 = 0 then (
    if ¬ p0 = 1 then (
      if ¬ p0 = 2 then (
        if ¬ p0 = 3 then (
          if ¬ p0 = 4 then (
            some (111, I, J)
          ) else (
            some (103, I, J)
          )
        ) else (
          some (117, I, J)
        )
      ) else (
        some (99, I, J)
      )
    ) else (
      some (115, I, J)
    )
  ) else (
    some (112, I, J)
  )
set_option maxRecDepth 8000 in
theorem gW_letter (l : Launch) (G : qp_G) (p0 : Int32) (I : Nat → Nat → Int32) (J : Nat → Nat → Int64) {v : Int32} {I' : Nat → Nat → Int32} {J' : Nat → Nat → Int64} (h : fW_letter p0 I J = some (v, I', J')) {d : Nat} (hd : 1 ≤ d) : qp_Met l G d 137 [.int p0] (qp_mk I J) 0 0 (qp_R8 (some (.int v)) I' J') := by
  have hd1 : Nat.ble 1 d = true := Nat.ble_eq_true_of_le (Nat.le_trans (by decide) hd)
  refine qp_Met_of (by decide) (by rw [qp_r137.2]; rfl) [some (.int p0)] (by rw [qp_r137.2]; rfl) ?_
  unfold fW_letter at h
  refine qp_run_E qp_ok137 1 (c' := (1, [some (.int p0)], [.int p0], qp_mk I J)) (by with_unfolding_all rfl) hd1 trivial ?_
  refine qp_br_E qp_ok137 (f := ¬ p0 = 0) (ct := (9, [some (.int p0)], [], qp_mk I J)) (cf := (4, [some (.int p0)], [], qp_mk I J)) (by with_unfolding_all rfl) (fun h1 => ?_) (fun h1 => ?_)
  · replace h := qp_ift h1 h
    refine qp_run_E qp_ok137 2 (c' := (11, [some (.int p0)], [.int 1, .int p0], qp_mk I J)) (by with_unfolding_all rfl) hd1 trivial ?_
    refine qp_br_E qp_ok137 (f := ¬ p0 = 1) (ct := (19, [some (.int p0)], [], qp_mk I J)) (cf := (14, [some (.int p0)], [], qp_mk I J)) (by with_unfolding_all rfl) (fun h2 => ?_) (fun h2 => ?_)
    · replace h := qp_ift h2 h
      refine qp_run_E qp_ok137 2 (c' := (21, [some (.int p0)], [.int 2, .int p0], qp_mk I J)) (by with_unfolding_all rfl) hd1 trivial ?_
      refine qp_br_E qp_ok137 (f := ¬ p0 = 2) (ct := (29, [some (.int p0)], [], qp_mk I J)) (cf := (24, [some (.int p0)], [], qp_mk I J)) (by with_unfolding_all rfl) (fun h3 => ?_) (fun h3 => ?_)
      · replace h := qp_ift h3 h
        refine qp_run_E qp_ok137 2 (c' := (31, [some (.int p0)], [.int 3, .int p0], qp_mk I J)) (by with_unfolding_all rfl) hd1 trivial ?_
        refine qp_br_E qp_ok137 (f := ¬ p0 = 3) (ct := (39, [some (.int p0)], [], qp_mk I J)) (cf := (34, [some (.int p0)], [], qp_mk I J)) (by with_unfolding_all rfl) (fun h4 => ?_) (fun h4 => ?_)
        · replace h := qp_ift h4 h
          refine qp_run_E qp_ok137 2 (c' := (41, [some (.int p0)], [.int 4, .int p0], qp_mk I J)) (by with_unfolding_all rfl) hd1 trivial ?_
          refine qp_br_E qp_ok137 (f := ¬ p0 = 4) (ct := (49, [some (.int p0)], [], qp_mk I J)) (cf := (44, [some (.int p0)], [], qp_mk I J)) (by with_unfolding_all rfl) (fun h5 => ?_) (fun h5 => ?_)
          · replace h := qp_ift h5 h
            refine qp_run_E qp_ok137 1 (c' := (51, [some (.int p0)], [.int 111], qp_mk I J)) (by with_unfolding_all rfl) hd1 trivial ?_
            obtain ⟨rfl, rfl, rfl⟩ := qp_some3 h
            exact qp_retI_E qp_ok137 rfl qp_r137.1 ⟨rfl, rfl⟩ ⟨rfl, rfl⟩
          · replace h := qp_iff h5 h
            refine qp_run_E qp_ok137 2 (c' := (51, [some (.int p0)], [.int 103], qp_mk I J)) (by with_unfolding_all rfl) hd1 trivial ?_
            obtain ⟨rfl, rfl, rfl⟩ := qp_some3 h
            exact qp_retI_E qp_ok137 rfl qp_r137.1 ⟨rfl, rfl⟩ ⟨rfl, rfl⟩
        · replace h := qp_iff h4 h
          refine qp_run_E qp_ok137 2 (c' := (51, [some (.int p0)], [.int 117], qp_mk I J)) (by with_unfolding_all rfl) hd1 trivial ?_
          obtain ⟨rfl, rfl, rfl⟩ := qp_some3 h
          exact qp_retI_E qp_ok137 rfl qp_r137.1 ⟨rfl, rfl⟩ ⟨rfl, rfl⟩
      · replace h := qp_iff h3 h
        refine qp_run_E qp_ok137 2 (c' := (51, [some (.int p0)], [.int 99], qp_mk I J)) (by with_unfolding_all rfl) hd1 trivial ?_
        obtain ⟨rfl, rfl, rfl⟩ := qp_some3 h
        exact qp_retI_E qp_ok137 rfl qp_r137.1 ⟨rfl, rfl⟩ ⟨rfl, rfl⟩
    · replace h := qp_iff h2 h
      refine qp_run_E qp_ok137 2 (c' := (51, [some (.int p0)], [.int 115], qp_mk I J)) (by with_unfolding_all rfl) hd1 trivial ?_
      obtain ⟨rfl, rfl, rfl⟩ := qp_some3 h
      exact qp_retI_E qp_ok137 rfl qp_r137.1 ⟨rfl, rfl⟩ ⟨rfl, rfl⟩
  · replace h := qp_iff h1 h
    refine qp_run_E qp_ok137 2 (c' := (51, [some (.int p0)], [.int 112], qp_mk I J)) (by with_unfolding_all rfl) hd1 trivial ?_
    obtain ⟨rfl, rfl, rfl⟩ := qp_some3 h
    exact qp_retI_E qp_ok137 rfl qp_r137.1 ⟨rfl, rfl⟩ ⟨rfl, rfl⟩
def fW_made_b83  : Nat → Int32 → Int32 → (Nat → Nat → Int32) → (Nat → Nat → Int64) → Option (Int32 × (Nat → Nat → Int32) × (Nat → Nat → Int64))
  | 0, _, _, _, _ => none
  | n + 1, a3, a4, I, J =>
    if (I 36 0) ≤ a4 then (
      if a3 = 0 then (
        some (0, I, J)
      ) else (
        qp_bd (fX_line 0 I J) fun v1 I1 J1 =>
        if ¬ v1 = ((qp_g I I1) 36 0) then (
          some (0, (qp_g I I1), J1)
        ) else (
          some (1, (qp_g I I1), J1)
        )
      )
    ) else (
      if a3 = 0 then (
        fW_made_b83 n 0 (a4 + 1) I J
      ) else (
        qp_gd ((0 ≤ ((2 : Int32) + a4) ∧ ((2 : Int32) + a4) < 34)) <|
        qp_bd (fW_letter (I 36 (Int32.toNatClampNeg ((2 : Int32) + a4))) I J) fun v2 I2 J2 =>
        qp_bd (fX_put 0 ((4 : Int32) + ((2 : Int32) * a4)) v2 (qp_g I I2) J2) fun v3 I3 J3 =>
        if ¬ v3 = 1032 then (
          fW_made_b83 n 0 (a4 + 1) (qp_g (qp_g I I2) I3) J3
        ) else (
          qp_gd ((0 ≤ ((8 : Int32) + a4) ∧ ((8 : Int32) + a4) < 34)) <|
          qp_bd (fX_put 0 ((5 : Int32) + ((2 : Int32) * a4)) ((48 : Int32) + ((qp_g (qp_g I I2) I3) 36 (Int32.toNatClampNeg ((8 : Int32) + a4)))) (qp_g (qp_g I I2) I3) J3) fun v4 I4 J4 =>
          if ¬ v4 = 1032 then (
            fW_made_b83 n 0 (a4 + 1) (qp_g (qp_g (qp_g I I2) I3) I4) J4
          ) else (
            fW_made_b83 n 1 (a4 + 1) (qp_g (qp_g (qp_g I I2) I3) I4) J4
          )
        )
      )
    )
set_option maxRecDepth 8000 in
theorem gW_made_b83 {l : Launch} {G : qp_G} {d : Nat} (hd : 8 ≤ d) {r : (Int32 × (Nat → Nat → Int32) × (Nat → Nat → Int64))} {I0 : Nat → Nat → Int32} {J0 : Nat → Nat → Int64}   : ∀ (n : Nat) (a3 : Int32) (a4 : Int32) (I : Nat → Nat → Int32) (J : Nat → Nat → Int64), fW_made_b83  n a3 a4 I J = some r → qp_E l G d 134 (qp_mkE 37 3018 I0 J0) 0 0 (qp_R8E 37 3018 (some (.int r.1)) r.2.1 r.2.2) (83, [some (.ref 0), some (.ref 36), none, some (.int a3), some (.int a4)], [], qp_mkE 37 3018 I J) := by
  have hd1 : Nat.ble 1 d = true := Nat.ble_eq_true_of_le (Nat.le_trans (by decide) hd)
  intro n
  induction n with
  | zero => intro a3 a4 I J h; exact absurd h (by simp [fW_made_b83])
  | succ n ih =>
    intro a3 a4 I J h
    rw [fW_made_b83] at h
    refine qp_run_E qp_ok134 4 (f := vp_in 0 34 ∧ True) (c' := (88, [some (.ref 0), some (.ref 36), none, some (.int a3), some (.int a4)], [.int (I 36 0), .int a4], qp_mkE 37 3018 I J)) (by with_unfolding_all rfl) hd1 ⟨(qp_vin (c := 34) (by decide) (by decide) (by decide)), trivial⟩ ?_
    refine qp_br_E qp_ok134 (f := (I 36 0) ≤ a4) (ct := (160, [some (.ref 0), some (.ref 36), none, some (.int a3), some (.int a4)], [], qp_mkE 37 3018 I J)) (cf := (91, [some (.ref 0), some (.ref 36), none, some (.int a3), some (.int a4)], [], qp_mkE 37 3018 I J)) (by with_unfolding_all rfl) (fun h1 => ?_) (fun h1 => ?_)
    · replace h := qp_ift h1 h
      refine qp_run_E qp_ok134 1 (c' := (161, [some (.ref 0), some (.ref 36), none, some (.int a3), some (.int a4)], [.int a3], qp_mkE 37 3018 I J)) (by with_unfolding_all rfl) hd1 trivial ?_
      refine qp_br_E qp_ok134 (f := a3 = 0) (ct := (179, [some (.ref 0), some (.ref 36), none, some (.int a3), some (.int a4)], [], qp_mkE 37 3018 I J)) (cf := (164, [some (.ref 0), some (.ref 36), none, some (.int a3), some (.int a4)], [], qp_mkE 37 3018 I J)) (by with_unfolding_all rfl) (fun h2 => ?_) (fun h2 => ?_)
      · replace h := qp_ift h2 h
        refine qp_run_E qp_ok134 1 (c' := (180, [some (.ref 0), some (.ref 36), none, some (.int a3), some (.int a4)], [.int 0], qp_mkE 37 3018 I J)) (by with_unfolding_all rfl) hd1 trivial ?_
        obtain rfl := Option.some.inj h
        exact qp_retZ_E qp_ok134 rfl qp_r134.1 rfl ⟨rfl, rfl⟩ ⟨rfl, rfl⟩
      · replace h := qp_iff h2 h
        refine qp_run_E qp_ok134 2 (c' := (166, [some (.ref 0), some (.ref 36), none, some (.int a3), some (.int a4)], [.int 0, .ref 0], qp_mkE 37 3018 I J)) (by with_unfolding_all rfl) hd1 trivial ?_
        obtain ⟨v1, I1, J1, e1, h⟩ := qp_bd_s h
        refine qp_cV qp_ok134 (rest := []) (oj := 0) qp_f26 rfl rfl (qp_lift (by decide) (gX_line l G 0 I J e1 (Nat.le_refl 7))) rfl rfl rfl rfl (Nat.le_trans (by decide) hd) ?_
        refine qp_run_E qp_ok134 3 (f := vp_in 0 34 ∧ True) (c' := (172, [some (.ref 0), some (.ref 36), none, some (.int a3), some (.int a4)], [.int ((qp_g I I1) 36 0), .int v1], qp_mkE 37 3018 (qp_g I I1) J1)) (by with_unfolding_all rfl) hd1 ⟨(qp_vin (c := 34) (by decide) (by decide) (by decide)), trivial⟩ ?_
        refine qp_br_E qp_ok134 (f := ¬ v1 = ((qp_g I I1) 36 0)) (ct := (179, [some (.ref 0), some (.ref 36), none, some (.int a3), some (.int a4)], [], qp_mkE 37 3018 (qp_g I I1) J1)) (cf := (175, [some (.ref 0), some (.ref 36), none, some (.int a3), some (.int a4)], [], qp_mkE 37 3018 (qp_g I I1) J1)) (by with_unfolding_all rfl) (fun h3 => ?_) (fun h3 => ?_)
        · replace h := qp_ift h3 h
          refine qp_run_E qp_ok134 1 (c' := (180, [some (.ref 0), some (.ref 36), none, some (.int a3), some (.int a4)], [.int 0], qp_mkE 37 3018 (qp_g I I1) J1)) (by with_unfolding_all rfl) hd1 trivial ?_
          obtain rfl := Option.some.inj h
          exact qp_retZ_E qp_ok134 rfl qp_r134.1 rfl ⟨rfl, rfl⟩ ⟨rfl, rfl⟩
        · replace h := qp_iff h3 h
          refine qp_run_E qp_ok134 2 (c' := (180, [some (.ref 0), some (.ref 36), none, some (.int a3), some (.int a4)], [.int 1], qp_mkE 37 3018 (qp_g I I1) J1)) (by with_unfolding_all rfl) hd1 trivial ?_
          obtain rfl := Option.some.inj h
          exact qp_retZ_E qp_ok134 rfl qp_r134.1 rfl ⟨rfl, rfl⟩ ⟨rfl, rfl⟩
    · replace h := qp_iff h1 h
      refine qp_run_E qp_ok134 1 (c' := (92, [some (.ref 0), some (.ref 36), none, some (.int a3), some (.int a4)], [.int a3], qp_mkE 37 3018 I J)) (by with_unfolding_all rfl) hd1 trivial ?_
      refine qp_br_E qp_ok134 (f := a3 = 0) (ct := (152, [some (.ref 0), some (.ref 36), none, some (.int a3), some (.int a4)], [], qp_mkE 37 3018 I J)) (cf := (95, [some (.ref 0), some (.ref 36), none, some (.int a3), some (.int a4)], [], qp_mkE 37 3018 I J)) (by with_unfolding_all rfl) (fun h4 => ?_) (fun h4 => ?_)
      · replace h := qp_ift h4 h
        refine qp_run_E qp_ok134 4 (c' := (83, [some (.ref 0), some (.ref 36), none, some (.int 0), some (.int (a4 + 1))], [], qp_mkE 37 3018 I J)) (by with_unfolding_all rfl) hd1 trivial ?_
        exact ih 0 (a4 + 1) I J h
      · replace h := qp_iff h4 h
        obtain ⟨h5, h⟩ := qp_gd_s h
        refine qp_run_E qp_ok134 12 (f := vp_in ((2 : Int32) + a4) 34 ∧ True) (c' := (109, [some (.ref 0), some (.ref 36), none, some (.int a3), some (.int a4)], [.int (I 36 (Int32.toNatClampNeg ((2 : Int32) + a4))), .int ((4 : Int32) + ((2 : Int32) * a4)), .int 0, .ref 0], qp_mkE 37 3018 I J)) (by with_unfolding_all rfl) hd1 ⟨(qp_vin (c := 34) (by decide) h5.1 h5.2), trivial⟩ ?_
        obtain ⟨v2, I2, J2, e2, h⟩ := qp_bd_s h
        refine qp_cS qp_ok134 (rest := [.int ((4 : Int32) + ((2 : Int32) * a4)), .int 0, .ref 0]) (oj := 13) qp_f137 rfl rfl (qp_lift (by decide) (gW_letter l G (I 36 (Int32.toNatClampNeg ((2 : Int32) + a4))) I J e2 (Nat.le_refl 1))) rfl rfl rfl (Nat.le_trans (by decide) hd) ?_
        obtain ⟨v3, I3, J3, e3, h⟩ := qp_bd_s h
        refine qp_cV qp_ok134 (rest := []) (oj := 0) qp_f136 rfl rfl (qp_lift (by decide) (gX_put l G 0 ((4 : Int32) + ((2 : Int32) * a4)) v2 (qp_g I I2) J2 e3 (Nat.le_refl 6))) rfl rfl rfl rfl (Nat.le_trans (by decide) hd) ?_
        refine qp_run_E qp_ok134 1 (c' := (118, [some (.ref 0), some (.ref 36), none, some (.int a3), some (.int a4)], [.int 1032, .int v3], qp_mkE 37 3018 (qp_g (qp_g I I2) I3) J3)) (by with_unfolding_all rfl) hd1 trivial ?_
        refine qp_br_E qp_ok134 (f := ¬ v3 = 1032) (ct := (152, [some (.ref 0), some (.ref 36), none, some (.int a3), some (.int a4)], [], qp_mkE 37 3018 (qp_g (qp_g I I2) I3) J3)) (cf := (121, [some (.ref 0), some (.ref 36), none, some (.int a3), some (.int a4)], [], qp_mkE 37 3018 (qp_g (qp_g I I2) I3) J3)) (by with_unfolding_all rfl) (fun h6 => ?_) (fun h6 => ?_)
        · replace h := qp_ift h6 h
          refine qp_run_E qp_ok134 4 (c' := (83, [some (.ref 0), some (.ref 36), none, some (.int 0), some (.int (a4 + 1))], [], qp_mkE 37 3018 (qp_g (qp_g I I2) I3) J3)) (by with_unfolding_all rfl) hd1 trivial ?_
          exact ih 0 (a4 + 1) (qp_g (qp_g I I2) I3) J3 h
        · replace h := qp_iff h6 h
          obtain ⟨h7, h⟩ := qp_gd_s h
          refine qp_run_E qp_ok134 14 (f := vp_in ((8 : Int32) + a4) 34 ∧ True) (c' := (139, [some (.ref 0), some (.ref 36), none, some (.int a3), some (.int a4)], [.int ((48 : Int32) + ((qp_g (qp_g I I2) I3) 36 (Int32.toNatClampNeg ((8 : Int32) + a4)))), .int ((5 : Int32) + ((2 : Int32) * a4)), .int 0, .ref 0], qp_mkE 37 3018 (qp_g (qp_g I I2) I3) J3)) (by with_unfolding_all rfl) hd1 ⟨(qp_vin (c := 34) (by decide) h7.1 h7.2), trivial⟩ ?_
          obtain ⟨v4, I4, J4, e4, h⟩ := qp_bd_s h
          refine qp_cV qp_ok134 (rest := []) (oj := 0) qp_f136 rfl rfl (qp_lift (by decide) (gX_put l G 0 ((5 : Int32) + ((2 : Int32) * a4)) ((48 : Int32) + ((qp_g (qp_g I I2) I3) 36 (Int32.toNatClampNeg ((8 : Int32) + a4)))) (qp_g (qp_g I I2) I3) J3 e4 (Nat.le_refl 6))) rfl rfl rfl rfl (Nat.le_trans (by decide) hd) ?_
          refine qp_run_E qp_ok134 1 (c' := (145, [some (.ref 0), some (.ref 36), none, some (.int a3), some (.int a4)], [.int 1032, .int v4], qp_mkE 37 3018 (qp_g (qp_g (qp_g I I2) I3) I4) J4)) (by with_unfolding_all rfl) hd1 trivial ?_
          refine qp_br_E qp_ok134 (f := ¬ v4 = 1032) (ct := (152, [some (.ref 0), some (.ref 36), none, some (.int a3), some (.int a4)], [], qp_mkE 37 3018 (qp_g (qp_g (qp_g I I2) I3) I4) J4)) (cf := (148, [some (.ref 0), some (.ref 36), none, some (.int a3), some (.int a4)], [], qp_mkE 37 3018 (qp_g (qp_g (qp_g I I2) I3) I4) J4)) (by with_unfolding_all rfl) (fun h8 => ?_) (fun h8 => ?_)
          · replace h := qp_ift h8 h
            refine qp_run_E qp_ok134 4 (c' := (83, [some (.ref 0), some (.ref 36), none, some (.int 0), some (.int (a4 + 1))], [], qp_mkE 37 3018 (qp_g (qp_g (qp_g I I2) I3) I4) J4)) (by with_unfolding_all rfl) hd1 trivial ?_
            exact ih 0 (a4 + 1) (qp_g (qp_g (qp_g I I2) I3) I4) J4 h
          · replace h := qp_iff h8 h
            refine qp_run_E qp_ok134 5 (c' := (83, [some (.ref 0), some (.ref 36), none, some (.int 1), some (.int (a4 + 1))], [], qp_mkE 37 3018 (qp_g (qp_g (qp_g I I2) I3) I4) J4)) (by with_unfolding_all rfl) hd1 trivial ?_
            exact ih 1 (a4 + 1) (qp_g (qp_g (qp_g I I2) I3) I4) J4 h
def fW_made  (I : Nat → Nat → Int32) (J : Nat → Nat → Int64) : Option (Int32 × (Nat → Nat → Int32) × (Nat → Nat → Int64)) :=
  qp_bd (fX_text 0 ((4 : Int32) + ((2 : Int32) * (I 36 0))) I J) fun v1 I1 J1 =>
  if ¬ v1 = ((4 : Int32) + ((2 : Int32) * (I 36 0))) then (
    fW_made_b83 100000 0 0 (qp_g I I1) J1
  ) else (
    qp_bd (fX_put 0 0 113 (qp_g I I1) J1) fun v2 I2 J2 =>
    if ¬ v2 = 1032 then (
      fW_made_b83 100000 0 0 (qp_g (qp_g I I1) I2) J2
    ) else (
      qp_bd (fX_put 0 1 ((48 : Int32) + (((qp_g (qp_g I I1) I2) 36 1) / 10)) (qp_g (qp_g I I1) I2) J2) fun v3 I3 J3 =>
      if ¬ v3 = 1032 then (
        fW_made_b83 100000 0 0 (qp_g (qp_g (qp_g I I1) I2) I3) J3
      ) else (
        qp_bd (fX_put 0 2 ((48 : Int32) + (((qp_g (qp_g (qp_g I I1) I2) I3) 36 1) - ((qp_g (qp_g (qp_g I I1) I2) I3) 36 1) / 10 * 10)) (qp_g (qp_g (qp_g I I1) I2) I3) J3) fun v4 I4 J4 =>
        if ¬ v4 = 1032 then (
          fW_made_b83 100000 0 0 (qp_g (qp_g (qp_g (qp_g I I1) I2) I3) I4) J4
        ) else (
          fW_made_b83 100000 1 0 (qp_g (qp_g (qp_g (qp_g I I1) I2) I3) I4) J4
        )
      )
    )
  )
set_option maxRecDepth 8000 in
theorem gW_made (l : Launch) (G : qp_G)  (I : Nat → Nat → Int32) (J : Nat → Nat → Int64) {v : Int32} {I' : Nat → Nat → Int32} {J' : Nat → Nat → Int64} (h : fW_made  I J = some (v, I', J')) {d : Nat} (hd : 8 ≤ d) : qp_Met l G d 134 [.ref 0, .ref 36] (qp_mkE 37 3018 I J) 0 0 (qp_R8E 37 3018 (some (.int v)) I' J') := by
  have hd1 : Nat.ble 1 d = true := Nat.ble_eq_true_of_le (Nat.le_trans (by decide) hd)
  refine qp_Met_of (by decide) (by rw [qp_r134.2]; rfl) [some (.ref 0), some (.ref 36), none, none, none] (by rw [qp_r134.2]; rfl) ?_
  unfold fW_made at h
  refine qp_run_E qp_ok134 11 (f := vp_in 0 34 ∧ True) (c' := (11, [some (.ref 0), some (.ref 36), some (.int ((4 : Int32) + ((2 : Int32) * (I 36 0)))), none, none], [.int ((4 : Int32) + ((2 : Int32) * (I 36 0))), .int 0, .ref 0], qp_mkE 37 3018 I J)) (by with_unfolding_all rfl) hd1 ⟨(qp_vin (c := 34) (by decide) (by decide) (by decide)), trivial⟩ ?_
  obtain ⟨v1, I1, J1, e1, h⟩ := qp_bd_s h
  refine qp_cV qp_ok134 (rest := []) (oj := 0) qp_f135 rfl rfl (qp_lift (by decide) (gX_text l G 0 ((4 : Int32) + ((2 : Int32) * (I 36 0))) I J e1 (Nat.le_refl 6))) rfl rfl rfl rfl (Nat.le_trans (by decide) hd) ?_
  refine qp_run_E qp_ok134 1 (c' := (15, [some (.ref 0), some (.ref 36), some (.int ((4 : Int32) + ((2 : Int32) * (I 36 0)))), none, none], [.int ((4 : Int32) + ((2 : Int32) * (I 36 0))), .int v1], qp_mkE 37 3018 (qp_g I I1) J1)) (by with_unfolding_all rfl) hd1 trivial ?_
  refine qp_br_E qp_ok134 (f := ¬ v1 = ((4 : Int32) + ((2 : Int32) * (I 36 0)))) (ct := (78, [some (.ref 0), some (.ref 36), some (.int ((4 : Int32) + ((2 : Int32) * (I 36 0)))), none, none], [], qp_mkE 37 3018 (qp_g I I1) J1)) (cf := (18, [some (.ref 0), some (.ref 36), some (.int ((4 : Int32) + ((2 : Int32) * (I 36 0)))), none, none], [], qp_mkE 37 3018 (qp_g I I1) J1)) (by with_unfolding_all rfl) (fun h1 => ?_) (fun h1 => ?_)
  · replace h := qp_ift h1 h
    refine qp_run_E qp_ok134 4 (c' := (83, [some (.ref 0), some (.ref 36), some (.int ((4 : Int32) + ((2 : Int32) * (I 36 0)))), some (.int 0), some (.int 0)], [], qp_mkE 37 3018 (qp_g I I1) J1)) (by with_unfolding_all rfl) hd1 trivial ?_
    exact qp_E_fg [true, true, false, true, true] (gW_made_b83 hd 100000 0 0 (qp_g I I1) J1 h)
  · replace h := qp_iff h1 h
    refine qp_run_E qp_ok134 4 (c' := (23, [some (.ref 0), some (.ref 36), some (.int ((4 : Int32) + ((2 : Int32) * (I 36 0)))), none, none], [.int 113, .int 0, .int 0, .ref 0], qp_mkE 37 3018 (qp_g I I1) J1)) (by with_unfolding_all rfl) hd1 trivial ?_
    obtain ⟨v2, I2, J2, e2, h⟩ := qp_bd_s h
    refine qp_cV qp_ok134 (rest := []) (oj := 0) qp_f136 rfl rfl (qp_lift (by decide) (gX_put l G 0 0 113 (qp_g I I1) J1 e2 (Nat.le_refl 6))) rfl rfl rfl rfl (Nat.le_trans (by decide) hd) ?_
    refine qp_run_E qp_ok134 1 (c' := (29, [some (.ref 0), some (.ref 36), some (.int ((4 : Int32) + ((2 : Int32) * (I 36 0)))), none, none], [.int 1032, .int v2], qp_mkE 37 3018 (qp_g (qp_g I I1) I2) J2)) (by with_unfolding_all rfl) hd1 trivial ?_
    refine qp_br_E qp_ok134 (f := ¬ v2 = 1032) (ct := (78, [some (.ref 0), some (.ref 36), some (.int ((4 : Int32) + ((2 : Int32) * (I 36 0)))), none, none], [], qp_mkE 37 3018 (qp_g (qp_g I I1) I2) J2)) (cf := (32, [some (.ref 0), some (.ref 36), some (.int ((4 : Int32) + ((2 : Int32) * (I 36 0)))), none, none], [], qp_mkE 37 3018 (qp_g (qp_g I I1) I2) J2)) (by with_unfolding_all rfl) (fun h2 => ?_) (fun h2 => ?_)
    · replace h := qp_ift h2 h
      refine qp_run_E qp_ok134 4 (c' := (83, [some (.ref 0), some (.ref 36), some (.int ((4 : Int32) + ((2 : Int32) * (I 36 0)))), some (.int 0), some (.int 0)], [], qp_mkE 37 3018 (qp_g (qp_g I I1) I2) J2)) (by with_unfolding_all rfl) hd1 trivial ?_
      exact qp_E_fg [true, true, false, true, true] (gW_made_b83 hd 100000 0 0 (qp_g (qp_g I I1) I2) J2 h)
    · replace h := qp_iff h2 h
      refine qp_run_E qp_ok134 10 (f := vp_in 1 34 ∧ ¬ (10 : Int32) = 0 ∧ True) (c' := (44, [some (.ref 0), some (.ref 36), some (.int ((4 : Int32) + ((2 : Int32) * (I 36 0)))), none, none], [.int ((48 : Int32) + (((qp_g (qp_g I I1) I2) 36 1) / 10)), .int 1, .int 0, .ref 0], qp_mkE 37 3018 (qp_g (qp_g I I1) I2) J2)) (by with_unfolding_all rfl) hd1 ⟨(qp_vin (c := 34) (by decide) (by decide) (by decide)), (by decide), trivial⟩ ?_
      obtain ⟨v3, I3, J3, e3, h⟩ := qp_bd_s h
      refine qp_cV qp_ok134 (rest := []) (oj := 0) qp_f136 rfl rfl (qp_lift (by decide) (gX_put l G 0 1 ((48 : Int32) + (((qp_g (qp_g I I1) I2) 36 1) / 10)) (qp_g (qp_g I I1) I2) J2 e3 (Nat.le_refl 6))) rfl rfl rfl rfl (Nat.le_trans (by decide) hd) ?_
      refine qp_run_E qp_ok134 1 (c' := (50, [some (.ref 0), some (.ref 36), some (.int ((4 : Int32) + ((2 : Int32) * (I 36 0)))), none, none], [.int 1032, .int v3], qp_mkE 37 3018 (qp_g (qp_g (qp_g I I1) I2) I3) J3)) (by with_unfolding_all rfl) hd1 trivial ?_
      refine qp_br_E qp_ok134 (f := ¬ v3 = 1032) (ct := (78, [some (.ref 0), some (.ref 36), some (.int ((4 : Int32) + ((2 : Int32) * (I 36 0)))), none, none], [], qp_mkE 37 3018 (qp_g (qp_g (qp_g I I1) I2) I3) J3)) (cf := (53, [some (.ref 0), some (.ref 36), some (.int ((4 : Int32) + ((2 : Int32) * (I 36 0)))), none, none], [], qp_mkE 37 3018 (qp_g (qp_g (qp_g I I1) I2) I3) J3)) (by with_unfolding_all rfl) (fun h3 => ?_) (fun h3 => ?_)
      · replace h := qp_ift h3 h
        refine qp_run_E qp_ok134 4 (c' := (83, [some (.ref 0), some (.ref 36), some (.int ((4 : Int32) + ((2 : Int32) * (I 36 0)))), some (.int 0), some (.int 0)], [], qp_mkE 37 3018 (qp_g (qp_g (qp_g I I1) I2) I3) J3)) (by with_unfolding_all rfl) hd1 trivial ?_
        exact qp_E_fg [true, true, false, true, true] (gW_made_b83 hd 100000 0 0 (qp_g (qp_g (qp_g I I1) I2) I3) J3 h)
      · replace h := qp_iff h3 h
        refine qp_run_E qp_ok134 10 (f := vp_in 1 34 ∧ ¬ (10 : Int32) = 0 ∧ True) (c' := (65, [some (.ref 0), some (.ref 36), some (.int ((4 : Int32) + ((2 : Int32) * (I 36 0)))), none, none], [.int ((48 : Int32) + (((qp_g (qp_g (qp_g I I1) I2) I3) 36 1) - ((qp_g (qp_g (qp_g I I1) I2) I3) 36 1) / 10 * 10)), .int 2, .int 0, .ref 0], qp_mkE 37 3018 (qp_g (qp_g (qp_g I I1) I2) I3) J3)) (by with_unfolding_all rfl) hd1 ⟨(qp_vin (c := 34) (by decide) (by decide) (by decide)), (by decide), trivial⟩ ?_
        obtain ⟨v4, I4, J4, e4, h⟩ := qp_bd_s h
        refine qp_cV qp_ok134 (rest := []) (oj := 0) qp_f136 rfl rfl (qp_lift (by decide) (gX_put l G 0 2 ((48 : Int32) + (((qp_g (qp_g (qp_g I I1) I2) I3) 36 1) - ((qp_g (qp_g (qp_g I I1) I2) I3) 36 1) / 10 * 10)) (qp_g (qp_g (qp_g I I1) I2) I3) J3 e4 (Nat.le_refl 6))) rfl rfl rfl rfl (Nat.le_trans (by decide) hd) ?_
        refine qp_run_E qp_ok134 1 (c' := (71, [some (.ref 0), some (.ref 36), some (.int ((4 : Int32) + ((2 : Int32) * (I 36 0)))), none, none], [.int 1032, .int v4], qp_mkE 37 3018 (qp_g (qp_g (qp_g (qp_g I I1) I2) I3) I4) J4)) (by with_unfolding_all rfl) hd1 trivial ?_
        refine qp_br_E qp_ok134 (f := ¬ v4 = 1032) (ct := (78, [some (.ref 0), some (.ref 36), some (.int ((4 : Int32) + ((2 : Int32) * (I 36 0)))), none, none], [], qp_mkE 37 3018 (qp_g (qp_g (qp_g (qp_g I I1) I2) I3) I4) J4)) (cf := (74, [some (.ref 0), some (.ref 36), some (.int ((4 : Int32) + ((2 : Int32) * (I 36 0)))), none, none], [], qp_mkE 37 3018 (qp_g (qp_g (qp_g (qp_g I I1) I2) I3) I4) J4)) (by with_unfolding_all rfl) (fun h4 => ?_) (fun h4 => ?_)
        · replace h := qp_ift h4 h
          refine qp_run_E qp_ok134 4 (c' := (83, [some (.ref 0), some (.ref 36), some (.int ((4 : Int32) + ((2 : Int32) * (I 36 0)))), some (.int 0), some (.int 0)], [], qp_mkE 37 3018 (qp_g (qp_g (qp_g (qp_g I I1) I2) I3) I4) J4)) (by with_unfolding_all rfl) hd1 trivial ?_
          exact qp_E_fg [true, true, false, true, true] (gW_made_b83 hd 100000 0 0 (qp_g (qp_g (qp_g (qp_g I I1) I2) I3) I4) J4 h)
        · replace h := qp_iff h4 h
          refine qp_run_E qp_ok134 5 (c' := (83, [some (.ref 0), some (.ref 36), some (.int ((4 : Int32) + ((2 : Int32) * (I 36 0)))), some (.int 1), some (.int 0)], [], qp_mkE 37 3018 (qp_g (qp_g (qp_g (qp_g I I1) I2) I3) I4) J4)) (by with_unfolding_all rfl) hd1 trivial ?_
          exact qp_E_fg [true, true, false, true, true] (gW_made_b83 hd 100000 1 0 (qp_g (qp_g (qp_g (qp_g I I1) I2) I3) I4) J4 h)
def fW_bits_b4  : Nat → Int32 → Int32 → (Nat → Nat → Int32) → (Nat → Nat → Int64) → Option (Int32 × (Nat → Nat → Int32) × (Nat → Nat → Int64))
  | 0, _, _, _, _ => none
  | n + 1, a1, a2, I, J =>
    if a2 ≤ 0 then (
      some (a1, I, J)
    ) else (
      fW_bits_b4 n (a1 + (a2 &&& 1)) (a2 >>> ((1 : Int32) &&& 31)) I J
    )
set_option maxRecDepth 8000 in
theorem gW_bits_b4 {l : Launch} {G : qp_G} {d : Nat} (hd : 1 ≤ d) {r : (Int32 × (Nat → Nat → Int32) × (Nat → Nat → Int64))} {I0 : Nat → Nat → Int32} {J0 : Nat → Nat → Int64}   : ∀ (n : Nat) (a1 : Int32) (a2 : Int32) (I : Nat → Nat → Int32) (J : Nat → Nat → Int64), fW_bits_b4  n a1 a2 I J = some r → qp_E l G d 138 (qp_mk I0 J0) 0 0 (qp_R8 (some (.int r.1)) r.2.1 r.2.2) (4, [none, some (.int a1), some (.int a2)], [], qp_mk I J) := by
  have hd1 : Nat.ble 1 d = true := Nat.ble_eq_true_of_le (Nat.le_trans (by decide) hd)
  intro n
  induction n with
  | zero => intro a1 a2 I J h; exact absurd h (by simp [fW_bits_b4])
  | succ n ih =>
    intro a1 a2 I J h
    rw [fW_bits_b4] at h
    refine qp_run_E qp_ok138 1 (c' := (5, [none, some (.int a1), some (.int a2)], [.int a2], qp_mk I J)) (by with_unfolding_all rfl) hd1 trivial ?_
    refine qp_br_E qp_ok138 (f := a2 ≤ 0) (ct := (21, [none, some (.int a1), some (.int a2)], [], qp_mk I J)) (cf := (8, [none, some (.int a1), some (.int a2)], [], qp_mk I J)) (by with_unfolding_all rfl) (fun h1 => ?_) (fun h1 => ?_)
    · replace h := qp_ift h1 h
      refine qp_run_E qp_ok138 1 (c' := (22, [none, some (.int a1), some (.int a2)], [.int a1], qp_mk I J)) (by with_unfolding_all rfl) hd1 trivial ?_
      obtain rfl := Option.some.inj h
      exact qp_retI_E qp_ok138 rfl qp_r138.1 ⟨rfl, rfl⟩ ⟨rfl, rfl⟩
    · replace h := qp_iff h1 h
      refine qp_run_E qp_ok138 11 (c' := (4, [none, some (.int (a1 + (a2 &&& 1))), some (.int (a2 >>> ((1 : Int32) &&& 31)))], [], qp_mk I J)) (by with_unfolding_all rfl) hd1 trivial ?_
      exact ih (a1 + (a2 &&& 1)) (a2 >>> ((1 : Int32) &&& 31)) I J h
def fW_bits (p0 : Int32) (I : Nat → Nat → Int32) (J : Nat → Nat → Int64) : Option (Int32 × (Nat → Nat → Int32) × (Nat → Nat → Int64)) :=
  fW_bits_b4 100000 0 p0 I J
set_option maxRecDepth 8000 in
theorem gW_bits (l : Launch) (G : qp_G) (p0 : Int32) (I : Nat → Nat → Int32) (J : Nat → Nat → Int64) {v : Int32} {I' : Nat → Nat → Int32} {J' : Nat → Nat → Int64} (h : fW_bits p0 I J = some (v, I', J')) {d : Nat} (hd : 1 ≤ d) : qp_Met l G d 138 [.int p0] (qp_mk I J) 0 0 (qp_R8 (some (.int v)) I' J') := by
  have hd1 : Nat.ble 1 d = true := Nat.ble_eq_true_of_le (Nat.le_trans (by decide) hd)
  refine qp_Met_of (by decide) (by rw [qp_r138.2]; rfl) [some (.int p0), none, none] (by rw [qp_r138.2]; rfl) ?_
  unfold fW_bits at h
  refine qp_run_E qp_ok138 4 (c' := (4, [some (.int p0), some (.int 0), some (.int p0)], [], qp_mk I J)) (by with_unfolding_all rfl) hd1 trivial ?_
  exact qp_E_fg [false, true, true] (gW_bits_b4 hd 100000 0 p0 I J h)
def fW_told (p1 : Int32) (p2 : Int32) (I : Nat → Nat → Int32) (J : Nat → Nat → Int64) : Option (Int32 × (Nat → Nat → Int32) × (Nat → Nat → Int64)) :=
  qp_bd (fX_one p1 p2 I J) fun v1 I1 J1 =>
  if ¬ v1 = 1 then (
    some ((-100), I1, J1)
  ) else (
    qp_bd (fX_asked I1 J1) fun v2 I2 J2 =>
    some (v2, I2, J2)
  )
set_option maxRecDepth 8000 in
theorem gW_told (l : Launch) (G : qp_G) (p1 : Int32) (p2 : Int32) (I : Nat → Nat → Int32) (J : Nat → Nat → Int64) {v : Int32} {I' : Nat → Nat → Int32} {J' : Nat → Nat → Int64} (h : fW_told p1 p2 I J = some (v, I', J')) {d : Nat} (hd : 7 ≤ d) : qp_Met l G d 139 [.ref 0, .int p1, .int p2] (qp_mk I J) 0 0 (qp_R8 (some (.int v)) I' J') := by
  have hd1 : Nat.ble 1 d = true := Nat.ble_eq_true_of_le (Nat.le_trans (by decide) hd)
  refine qp_Met_of (by decide) (by rw [qp_r139.2]; rfl) [some (.ref 0), some (.int p1), some (.int p2)] (by rw [qp_r139.2]; rfl) ?_
  unfold fW_told at h
  refine qp_run_E qp_ok139 3 (c' := (3, [some (.ref 0), some (.int p1), some (.int p2)], [.int p2, .int p1, .ref 0], qp_mk I J)) (by with_unfolding_all rfl) hd1 trivial ?_
  obtain ⟨v1, I1, J1, e1, h⟩ := qp_bd_s h
  refine qp_cV qp_ok139 (rest := []) (oj := 0) qp_f140 rfl rfl (gX_one l G p1 p2 I J e1 (Nat.le_refl 6)) rfl rfl rfl rfl (Nat.le_trans (by decide) hd) ?_
  refine qp_run_E qp_ok139 1 (c' := (7, [some (.ref 0), some (.int p1), some (.int p2)], [.int 1, .int v1], qp_mk I1 J1)) (by with_unfolding_all rfl) hd1 trivial ?_
  refine qp_br_E qp_ok139 (f := ¬ v1 = 1) (ct := (17, [some (.ref 0), some (.int p1), some (.int p2)], [], qp_mk I1 J1)) (cf := (10, [some (.ref 0), some (.int p1), some (.int p2)], [], qp_mk I1 J1)) (by with_unfolding_all rfl) (fun h1 => ?_) (fun h1 => ?_)
  · replace h := qp_ift h1 h
    refine qp_run_E qp_ok139 1 (c' := (19, [some (.ref 0), some (.int p1), some (.int p2)], [.int (-100)], qp_mk I1 J1)) (by with_unfolding_all rfl) hd1 trivial ?_
    obtain ⟨rfl, rfl, rfl⟩ := qp_some3 h
    exact qp_retI_E qp_ok139 rfl qp_r139.1 ⟨rfl, rfl⟩ ⟨rfl, rfl⟩
  · replace h := qp_iff h1 h
    refine qp_run_E qp_ok139 1 (c' := (11, [some (.ref 0), some (.int p1), some (.int p2)], [.ref 0], qp_mk I1 J1)) (by with_unfolding_all rfl) hd1 trivial ?_
    obtain ⟨v2, I2, J2, e2, h⟩ := qp_bd_s h
    refine qp_cV qp_ok139 (rest := []) (oj := 0) qp_f118 rfl rfl (gX_asked l G I1 J1 e2 (Nat.le_refl 1)) rfl rfl rfl rfl (Nat.le_trans (by decide) hd) ?_
    refine qp_run_E qp_ok139 1 (c' := (19, [some (.ref 0), some (.int p1), some (.int p2)], [.int v2], qp_mk I2 J2)) (by with_unfolding_all rfl) hd1 trivial ?_
    obtain ⟨rfl, rfl, rfl⟩ := qp_some3 h
    exact qp_retI_E qp_ok139 rfl qp_r139.1 ⟨rfl, rfl⟩ ⟨rfl, rfl⟩

/-! methods as functions: 16.f 3 -/
def fH_goOn_b23  (k14 : Int32 → Int32 → Int32 → Int32 → (Nat → Nat → Int32) → (Nat → Nat → Int64) → Option (Unit × (Nat → Nat → Int32) × (Nat → Nat → Int64))) : Nat → Int32 → Int32 → Int32 → Int32 → Int32 → (Nat → Nat → Int32) → (Nat → Nat → Int64) → Option (Unit × (Nat → Nat → Int32) × (Nat → Nat → Int64))
  | 0, _, _, _, _, _, _, _ => none
  | n + 1, a1, a2, a3, a4, a5, I, J =>
    if a3 ≤ a5 then (
      k14 a1 a2 a3 (a4 + 1) I J
    ) else (
      qp_bd (fD_by a1 a3 (((8 : Int32) * a4) + a5) I J) fun v1 I1 J1 =>
      qp_bd (fH_reach v1 ((a2 <<< ((6 : Int32) &&& 31)) ||| (((8 : Int32) * a4) + a5)) I1 J1) fun _u I2 J2 =>
      fH_goOn_b23 k14 n a1 a2 a3 a4 (a5 + 1) I2 J2
    )
set_option maxRecDepth 8000 in
theorem gH_goOn_b23 {l : Launch} {G : qp_G} {d : Nat} (hd : 4 ≤ d) {r : (Unit × (Nat → Nat → Int32) × (Nat → Nat → Int64))} {I0 : Nat → Nat → Int32} {J0 : Nat → Nat → Int64}  (k14 : Int32 → Int32 → Int32 → Int32 → (Nat → Nat → Int32) → (Nat → Nat → Int64) → Option (Unit × (Nat → Nat → Int32) × (Nat → Nat → Int64))) (hk14 : ∀ a1 a2 a3 a4 I J, k14 a1 a2 a3 a4 I J = some r → qp_E l G d 84 (qp_mk I0 J0) 0 0 (qp_R8 none r.2.1 r.2.2) (14, [some (.ref 25), some (.int a1), some (.int a2), some (.int a3), some (.int a4), none], [], qp_mk I J)) : ∀ (n : Nat) (a1 : Int32) (a2 : Int32) (a3 : Int32) (a4 : Int32) (a5 : Int32) (I : Nat → Nat → Int32) (J : Nat → Nat → Int64), fH_goOn_b23 k14 n a1 a2 a3 a4 a5 I J = some r → qp_E l G d 84 (qp_mk I0 J0) 0 0 (qp_R8 none r.2.1 r.2.2) (23, [some (.ref 25), some (.int a1), some (.int a2), some (.int a3), some (.int a4), some (.int a5)], [], qp_mk I J) := by
  have hd1 : Nat.ble 1 d = true := Nat.ble_eq_true_of_le (Nat.le_trans (by decide) hd)
  intro n
  induction n with
  | zero => intro a1 a2 a3 a4 a5 I J h; exact absurd h (by simp [fH_goOn_b23])
  | succ n ih =>
    intro a1 a2 a3 a4 a5 I J h
    rw [fH_goOn_b23] at h
    refine qp_run_E qp_ok84 2 (c' := (26, [some (.ref 25), some (.int a1), some (.int a2), some (.int a3), some (.int a4), some (.int a5)], [.int a3, .int a5], qp_mk I J)) (by with_unfolding_all rfl) hd1 trivial ?_
    refine qp_br_E qp_ok84 (f := a3 ≤ a5) (ct := (65, [some (.ref 25), some (.int a1), some (.int a2), some (.int a3), some (.int a4), some (.int a5)], [], qp_mk I J)) (cf := (29, [some (.ref 25), some (.int a1), some (.int a2), some (.int a3), some (.int a4), some (.int a5)], [], qp_mk I J)) (by with_unfolding_all rfl) (fun h1 => ?_) (fun h1 => ?_)
    · replace h := qp_ift h1 h
      refine qp_run_E qp_ok84 2 (c' := (14, [some (.ref 25), some (.int a1), some (.int a2), some (.int a3), some (.int (a4 + 1)), some (.int a5)], [], qp_mk I J)) (by with_unfolding_all rfl) hd1 trivial ?_
      exact qp_E_fg [true, true, true, true, true, false] (hk14 a1 a2 a3 (a4 + 1) I J h)
    · replace h := qp_iff h1 h
      refine qp_run_E qp_ok84 8 (c' := (40, [some (.ref 25), some (.int a1), some (.int a2), some (.int a3), some (.int a4), some (.int a5)], [.int (((8 : Int32) * a4) + a5), .int a3, .int a1, .ref 25], qp_mk I J)) (by with_unfolding_all rfl) hd1 trivial ?_
      obtain ⟨v1, I1, J1, e1, h⟩ := qp_bd_s h
      refine qp_cS qp_ok84 (rest := [.ref 25]) (oj := 10) qp_f50 rfl rfl (gD_by l G a1 a3 (((8 : Int32) * a4) + a5) I J e1 (Nat.le_refl 3)) rfl rfl rfl (Nat.le_trans (by decide) hd) ?_
      refine qp_run_E qp_ok84 9 (c' := (56, [some (.ref 25), some (.int a1), some (.int a2), some (.int a3), some (.int a4), some (.int a5)], [.int ((a2 <<< ((6 : Int32) &&& 31)) ||| (((8 : Int32) * a4) + a5)), .int v1, .ref 25], qp_mk I1 J1)) (by with_unfolding_all rfl) hd1 trivial ?_
      obtain ⟨v2, I2, J2, e2, h⟩ := qp_bd_s h
      refine qp_cV qp_ok84 (rest := []) (oj := 6) qp_f77 rfl rfl (gH_reach l G v1 ((a2 <<< ((6 : Int32) &&& 31)) ||| (((8 : Int32) * a4) + a5)) I1 J1 e2 (Nat.le_refl 3)) rfl rfl rfl rfl (Nat.le_trans (by decide) hd) ?_
      refine qp_run_E qp_ok84 2 (c' := (23, [some (.ref 25), some (.int a1), some (.int a2), some (.int a3), some (.int a4), some (.int (a5 + 1))], [], qp_mk I2 J2)) (by with_unfolding_all rfl) hd1 trivial ?_
      exact ih a1 a2 a3 a4 (a5 + 1) I2 J2 h
def fH_goOn_b14  : Nat → Int32 → Int32 → Int32 → Int32 → (Nat → Nat → Int32) → (Nat → Nat → Int64) → Option (Unit × (Nat → Nat → Int32) × (Nat → Nat → Int64))
  | 0, _, _, _, _, _, _ => none
  | n + 1, a1, a2, a3, a4, I, J =>
    if a3 ≤ a4 then (
      some ((), I, J)
    ) else (
      fH_goOn_b23 (fun a0 a1 a2 a3 I J => fH_goOn_b14 n a0 a1 a2 a3 I J) 100000 a1 a2 a3 a4 0 I J
    )
set_option maxRecDepth 8000 in
theorem gH_goOn_b14 {l : Launch} {G : qp_G} {d : Nat} (hd : 4 ≤ d) {r : (Unit × (Nat → Nat → Int32) × (Nat → Nat → Int64))} {I0 : Nat → Nat → Int32} {J0 : Nat → Nat → Int64}   : ∀ (n : Nat) (a1 : Int32) (a2 : Int32) (a3 : Int32) (a4 : Int32) (I : Nat → Nat → Int32) (J : Nat → Nat → Int64), fH_goOn_b14  n a1 a2 a3 a4 I J = some r → qp_E l G d 84 (qp_mk I0 J0) 0 0 (qp_R8 none r.2.1 r.2.2) (14, [some (.ref 25), some (.int a1), some (.int a2), some (.int a3), some (.int a4), none], [], qp_mk I J) := by
  have hd1 : Nat.ble 1 d = true := Nat.ble_eq_true_of_le (Nat.le_trans (by decide) hd)
  intro n
  induction n with
  | zero => intro a1 a2 a3 a4 I J h; exact absurd h (by simp [fH_goOn_b14])
  | succ n ih =>
    intro a1 a2 a3 a4 I J h
    rw [fH_goOn_b14] at h
    refine qp_run_E qp_ok84 2 (c' := (17, [some (.ref 25), some (.int a1), some (.int a2), some (.int a3), some (.int a4), none], [.int a3, .int a4], qp_mk I J)) (by with_unfolding_all rfl) hd1 trivial ?_
    refine qp_br_E qp_ok84 (f := a3 ≤ a4) (ct := (71, [some (.ref 25), some (.int a1), some (.int a2), some (.int a3), some (.int a4), none], [], qp_mk I J)) (cf := (20, [some (.ref 25), some (.int a1), some (.int a2), some (.int a3), some (.int a4), none], [], qp_mk I J)) (by with_unfolding_all rfl) (fun h1 => ?_) (fun h1 => ?_)
    · replace h := qp_ift h1 h
      obtain rfl := Option.some.inj h
      exact qp_retV_E qp_ok84 rfl qp_r84.1 ⟨rfl, rfl⟩ ⟨rfl, rfl⟩
    · replace h := qp_iff h1 h
      refine qp_run_E qp_ok84 2 (c' := (23, [some (.ref 25), some (.int a1), some (.int a2), some (.int a3), some (.int a4), some (.int 0)], [], qp_mk I J)) (by with_unfolding_all rfl) hd1 trivial ?_
      exact gH_goOn_b23 hd (fun a0 a1 a2 a3 I J => fH_goOn_b14 n a0 a1 a2 a3 I J) (fun a0 a1 a2 a3 I J h => ih a0 a1 a2 a3 I J h) 100000 a1 a2 a3 a4 0 I J h
def fH_goOn (p1 : Int32) (p2 : Int32) (I : Nat → Nat → Int32) (J : Nat → Nat → Int64) : Option (Unit × (Nat → Nat → Int32) × (Nat → Nat → Int64)) :=
  fH_goOn_b14 100000 p1 p2 (I 15 0) 0 I J
set_option maxRecDepth 8000 in
theorem gH_goOn (l : Launch) (G : qp_G) (p1 : Int32) (p2 : Int32) (I : Nat → Nat → Int32) (J : Nat → Nat → Int64) {v : Unit} {I' : Nat → Nat → Int32} {J' : Nat → Nat → Int64} (h : fH_goOn p1 p2 I J = some (v, I', J')) {d : Nat} (hd : 4 ≤ d) : qp_Met l G d 84 [.ref 25, .int p1, .int p2] (qp_mk I J) 0 0 (qp_R8 none I' J') := by
  have hd1 : Nat.ble 1 d = true := Nat.ble_eq_true_of_le (Nat.le_trans (by decide) hd)
  refine qp_Met_of (by decide) (by rw [qp_r84.2]; rfl) [some (.ref 25), some (.int p1), some (.int p2), none, none, none] (by rw [qp_r84.2]; rfl) ?_
  unfold fH_goOn at h
  refine qp_run_E qp_ok84 7 (c' := (14, [some (.ref 25), some (.int p1), some (.int p2), some (.int (I 15 0)), some (.int 0), none], [], qp_mk I J)) (by with_unfolding_all rfl) hd1 trivial ?_
  exact gH_goOn_b14 hd 100000 p1 p2 (I 15 0) 0 I J h
def fH_fits (p1 : Int32) (p2 : Int32) (p3 : Int32) (p4 : Int32) (I : Nat → Nat → Int32) (J : Nat → Nat → Int64) : Option (Int32 × (Nat → Nat → Int32) × (Nat → Nat → Int64)) :=
  qp_bd (fD_haveMet p1 (I 15 0) p2 p3 I J) fun v1 I1 J1 =>
  if ¬ v1 = 0 then (
    qp_bd (fL_serve p1 I1 J1) fun _u I2 J2 =>
    qp_bd (fV_gainOf p4 I2 J2) fun v3 I3 J3 =>
    qp_bd (fV_wantOf p4 I3 J3) fun v4 I4 J4 =>
    if ¬ v3 = v4 then (
      some (0, I4, J4)
    ) else (
      some (1, I4, J4)
    )
  ) else (
    some (0, I1, J1)
  )
set_option maxRecDepth 8000 in
theorem gH_fits (l : Launch) (G : qp_G) (p1 : Int32) (p2 : Int32) (p3 : Int32) (p4 : Int32) (I : Nat → Nat → Int32) (J : Nat → Nat → Int64) {v : Int32} {I' : Nat → Nat → Int32} {J' : Nat → Nat → Int64} (h : fH_fits p1 p2 p3 p4 I J = some (v, I', J')) {d : Nat} (hd : 5 ≤ d) : qp_Met l G d 80 [.ref 25, .int p1, .int p2, .int p3, .int p4] (qp_mk I J) 0 0 (qp_R8 (some (.int v)) I' J') := by
  have hd1 : Nat.ble 1 d = true := Nat.ble_eq_true_of_le (Nat.le_trans (by decide) hd)
  refine qp_Met_of (by decide) (by rw [qp_r80.2]; rfl) [some (.ref 25), some (.int p1), some (.int p2), some (.int p3), some (.int p4)] (by rw [qp_r80.2]; rfl) ?_
  unfold fH_fits at h
  refine qp_run_E qp_ok80 7 (c' := (13, [some (.ref 25), some (.int p1), some (.int p2), some (.int p3), some (.int p4)], [.int p3, .int p2, .int (I 15 0), .int p1], qp_mk I J)) (by with_unfolding_all rfl) hd1 trivial ?_
  obtain ⟨v1, I1, J1, e1, h⟩ := qp_bd_s h
  refine qp_cS qp_ok80 (rest := []) (oj := 10) qp_f81 rfl rfl (gD_haveMet l G p1 (I 15 0) p2 p3 I J e1 (Nat.le_refl 3)) rfl rfl rfl (Nat.le_trans (by decide) hd) ?_
  refine qp_br_E qp_ok80 (f := ¬ v1 = 0) (ct := (21, [some (.ref 25), some (.int p1), some (.int p2), some (.int p3), some (.int p4)], [], qp_mk I1 J1)) (cf := (19, [some (.ref 25), some (.int p1), some (.int p2), some (.int p3), some (.int p4)], [], qp_mk I1 J1)) (by with_unfolding_all rfl) (fun h1 => ?_) (fun h1 => ?_)
  · replace h := qp_ift h1 h
    refine qp_run_E qp_ok80 3 (c' := (26, [some (.ref 25), some (.int p1), some (.int p2), some (.int p3), some (.int p4)], [.int p1, .ref 14], qp_mk I1 J1)) (by with_unfolding_all rfl) hd1 trivial ?_
    obtain ⟨v2, I2, J2, e2, h⟩ := qp_bd_s h
    refine qp_cV qp_ok80 (rest := []) (oj := 4) qp_f67 rfl rfl (gL_serve l G p1 I1 J1 e2 (Nat.le_refl 4)) rfl rfl rfl rfl (Nat.le_trans (by decide) hd) ?_
    refine qp_run_E qp_ok80 4 (c' := (38, [some (.ref 25), some (.int p1), some (.int p2), some (.int p3), some (.int p4)], [.int p4, .ref 18], qp_mk I2 J2)) (by with_unfolding_all rfl) hd1 trivial ?_
    obtain ⟨v3, I3, J3, e3, h⟩ := qp_bd_s h
    refine qp_cV qp_ok80 (rest := []) (oj := 5) qp_f72 rfl rfl (gV_gainOf l G p4 I2 J2 e3 (Nat.le_refl 1)) rfl rfl rfl rfl (Nat.le_trans (by decide) hd) ?_
    refine qp_run_E qp_ok80 4 (c' := (50, [some (.ref 25), some (.int p1), some (.int p2), some (.int p3), some (.int p4)], [.int p4, .ref 18, .int v3], qp_mk I3 J3)) (by with_unfolding_all rfl) hd1 trivial ?_
    obtain ⟨v4, I4, J4, e4, h⟩ := qp_bd_s h
    refine qp_cV qp_ok80 (rest := [.int v3]) (oj := 5) qp_f83 rfl rfl (gV_wantOf l G p4 I3 J3 e4 (Nat.le_refl 1)) rfl rfl rfl rfl (Nat.le_trans (by decide) hd) ?_
    refine qp_br_E qp_ok80 (f := ¬ v3 = v4) (ct := (60, [some (.ref 25), some (.int p1), some (.int p2), some (.int p3), some (.int p4)], [], qp_mk I4 J4)) (cf := (56, [some (.ref 25), some (.int p1), some (.int p2), some (.int p3), some (.int p4)], [], qp_mk I4 J4)) (by with_unfolding_all rfl) (fun h2 => ?_) (fun h2 => ?_)
    · replace h := qp_ift h2 h
      refine qp_run_E qp_ok80 1 (c' := (61, [some (.ref 25), some (.int p1), some (.int p2), some (.int p3), some (.int p4)], [.int 0], qp_mk I4 J4)) (by with_unfolding_all rfl) hd1 trivial ?_
      obtain ⟨rfl, rfl, rfl⟩ := qp_some3 h
      exact qp_retZ_E qp_ok80 rfl qp_r80.1 rfl ⟨rfl, rfl⟩ ⟨rfl, rfl⟩
    · replace h := qp_iff h2 h
      refine qp_run_E qp_ok80 2 (c' := (61, [some (.ref 25), some (.int p1), some (.int p2), some (.int p3), some (.int p4)], [.int 1], qp_mk I4 J4)) (by with_unfolding_all rfl) hd1 trivial ?_
      obtain ⟨rfl, rfl, rfl⟩ := qp_some3 h
      exact qp_retZ_E qp_ok80 rfl qp_r80.1 rfl ⟨rfl, rfl⟩ ⟨rfl, rfl⟩
  · replace h := qp_iff h1 h
    refine qp_run_E qp_ok80 1 (c' := (20, [some (.ref 25), some (.int p1), some (.int p2), some (.int p3), some (.int p4)], [.int 0], qp_mk I1 J1)) (by with_unfolding_all rfl) hd1 trivial ?_
    obtain ⟨rfl, rfl, rfl⟩ := qp_some3 h
    exact qp_retZ_E qp_ok80 rfl qp_r80.1 rfl ⟨rfl, rfl⟩ ⟨rfl, rfl⟩
def fH_fewest_b122  (k50 : Int32 → Int32 → Int32 → Int32 → Int32 → (Nat → Nat → Int32) → (Nat → Nat → Int64) → Option (Int32 × (Nat → Nat → Int32) × (Nat → Nat → Int64))) : Nat → Int32 → Int32 → Int32 → Int32 → Int32 → Int32 → (Nat → Nat → Int32) → (Nat → Nat → Int64) → Option (Int32 × (Nat → Nat → Int32) × (Nat → Nat → Int64))
  | 0, _, _, _, _, _, _, _, _ => none
  | n + 1, a1, a2, a3, a5, a6, a7, I, J =>
    if a6 ≤ a7 then (
      k50 a1 a2 a3 a6 (a5 + 1) I J
    ) else (
      if 720 ≤ a7 then (
        k50 a1 a2 a3 a6 (a5 + 1) I J
      ) else (
        if 3 ≤ a5 then (
          k50 a1 a2 a3 a6 (a5 + 1) I J
        ) else (
          qp_gd ((0 ≤ a7 ∧ a7 < 720)) <|
          qp_bd (fH_goOn (I 26 (Int32.toNatClampNeg a7)) (I 27 (Int32.toNatClampNeg a7)) I J) fun _u I1 J1 =>
          fH_fewest_b122 k50 n a1 a2 a3 a5 a6 (a7 + 1) I1 J1
        )
      )
    )
set_option maxRecDepth 8000 in
theorem gH_fewest_b122 {l : Launch} {G : qp_G} {d : Nat} (hd : 6 ≤ d) {r : (Int32 × (Nat → Nat → Int32) × (Nat → Nat → Int64))} {I0 : Nat → Nat → Int32} {J0 : Nat → Nat → Int64}  (k50 : Int32 → Int32 → Int32 → Int32 → Int32 → (Nat → Nat → Int32) → (Nat → Nat → Int64) → Option (Int32 × (Nat → Nat → Int32) × (Nat → Nat → Int64))) (hk50 : ∀ a1 a2 a3 a4 a5 I J, k50 a1 a2 a3 a4 a5 I J = some r → qp_E l G d 76 (qp_mk I0 J0) 0 0 (qp_R8 (some (.int r.1)) r.2.1 r.2.2) (50, [some (.ref 25), some (.int a1), some (.int a2), some (.int a3), some (.int a4), some (.int a5), none, none], [], qp_mk I J)) : ∀ (n : Nat) (a1 : Int32) (a2 : Int32) (a3 : Int32) (a5 : Int32) (a6 : Int32) (a7 : Int32) (I : Nat → Nat → Int32) (J : Nat → Nat → Int64), fH_fewest_b122 k50 n a1 a2 a3 a5 a6 a7 I J = some r → qp_E l G d 76 (qp_mk I0 J0) 0 0 (qp_R8 (some (.int r.1)) r.2.1 r.2.2) (122, [some (.ref 25), some (.int a1), some (.int a2), some (.int a3), none, some (.int a5), some (.int a6), some (.int a7)], [], qp_mk I J) := by
  have hd1 : Nat.ble 1 d = true := Nat.ble_eq_true_of_le (Nat.le_trans (by decide) hd)
  intro n
  induction n with
  | zero => intro a1 a2 a3 a5 a6 a7 I J h; exact absurd h (by simp [fH_fewest_b122])
  | succ n ih =>
    intro a1 a2 a3 a5 a6 a7 I J h
    rw [fH_fewest_b122] at h
    refine qp_run_E qp_ok76 2 (c' := (126, [some (.ref 25), some (.int a1), some (.int a2), some (.int a3), none, some (.int a5), some (.int a6), some (.int a7)], [.int a6, .int a7], qp_mk I J)) (by with_unfolding_all rfl) hd1 trivial ?_
    refine qp_br_E qp_ok76 (f := a6 ≤ a7) (ct := (167, [some (.ref 25), some (.int a1), some (.int a2), some (.int a3), none, some (.int a5), some (.int a6), some (.int a7)], [], qp_mk I J)) (cf := (129, [some (.ref 25), some (.int a1), some (.int a2), some (.int a3), none, some (.int a5), some (.int a6), some (.int a7)], [], qp_mk I J)) (by with_unfolding_all rfl) (fun h1 => ?_) (fun h1 => ?_)
    · replace h := qp_ift h1 h
      refine qp_run_E qp_ok76 4 (c' := (50, [some (.ref 25), some (.int a1), some (.int a2), some (.int a3), some (.int a6), some (.int (a5 + 1)), some (.int a6), some (.int a7)], [], qp_mk I J)) (by with_unfolding_all rfl) hd1 trivial ?_
      exact qp_E_fg [true, true, true, true, true, true, false, false] (hk50 a1 a2 a3 a6 (a5 + 1) I J h)
    · replace h := qp_iff h1 h
      refine qp_run_E qp_ok76 2 (c' := (134, [some (.ref 25), some (.int a1), some (.int a2), some (.int a3), none, some (.int a5), some (.int a6), some (.int a7)], [.int 720, .int a7], qp_mk I J)) (by with_unfolding_all rfl) hd1 trivial ?_
      refine qp_br_E qp_ok76 (f := 720 ≤ a7) (ct := (167, [some (.ref 25), some (.int a1), some (.int a2), some (.int a3), none, some (.int a5), some (.int a6), some (.int a7)], [], qp_mk I J)) (cf := (137, [some (.ref 25), some (.int a1), some (.int a2), some (.int a3), none, some (.int a5), some (.int a6), some (.int a7)], [], qp_mk I J)) (by with_unfolding_all rfl) (fun h2 => ?_) (fun h2 => ?_)
      · replace h := qp_ift h2 h
        refine qp_run_E qp_ok76 4 (c' := (50, [some (.ref 25), some (.int a1), some (.int a2), some (.int a3), some (.int a6), some (.int (a5 + 1)), some (.int a6), some (.int a7)], [], qp_mk I J)) (by with_unfolding_all rfl) hd1 trivial ?_
        exact qp_E_fg [true, true, true, true, true, true, false, false] (hk50 a1 a2 a3 a6 (a5 + 1) I J h)
      · replace h := qp_iff h2 h
        refine qp_run_E qp_ok76 2 (c' := (140, [some (.ref 25), some (.int a1), some (.int a2), some (.int a3), none, some (.int a5), some (.int a6), some (.int a7)], [.int 3, .int a5], qp_mk I J)) (by with_unfolding_all rfl) hd1 trivial ?_
        refine qp_br_E qp_ok76 (f := 3 ≤ a5) (ct := (167, [some (.ref 25), some (.int a1), some (.int a2), some (.int a3), none, some (.int a5), some (.int a6), some (.int a7)], [], qp_mk I J)) (cf := (143, [some (.ref 25), some (.int a1), some (.int a2), some (.int a3), none, some (.int a5), some (.int a6), some (.int a7)], [], qp_mk I J)) (by with_unfolding_all rfl) (fun h3 => ?_) (fun h3 => ?_)
        · replace h := qp_ift h3 h
          refine qp_run_E qp_ok76 4 (c' := (50, [some (.ref 25), some (.int a1), some (.int a2), some (.int a3), some (.int a6), some (.int (a5 + 1)), some (.int a6), some (.int a7)], [], qp_mk I J)) (by with_unfolding_all rfl) hd1 trivial ?_
          exact qp_E_fg [true, true, true, true, true, true, false, false] (hk50 a1 a2 a3 a6 (a5 + 1) I J h)
        · replace h := qp_iff h3 h
          obtain ⟨h4, h⟩ := qp_gd_s h
          refine qp_run_E qp_ok76 9 (f := vp_in a7 720 ∧ vp_in a7 720 ∧ True) (c' := (158, [some (.ref 25), some (.int a1), some (.int a2), some (.int a3), none, some (.int a5), some (.int a6), some (.int a7)], [.int (I 27 (Int32.toNatClampNeg a7)), .int (I 26 (Int32.toNatClampNeg a7)), .ref 25], qp_mk I J)) (by with_unfolding_all rfl) hd1 ⟨(qp_vin (c := 720) (by decide) h4.1 h4.2), (qp_vin (c := 720) (by decide) h4.1 h4.2), trivial⟩ ?_
          obtain ⟨v1, I1, J1, e1, h⟩ := qp_bd_s h
          refine qp_cV qp_ok76 (rest := []) (oj := 6) qp_f84 rfl rfl (gH_goOn l G (I 26 (Int32.toNatClampNeg a7)) (I 27 (Int32.toNatClampNeg a7)) I J e1 (Nat.le_refl 4)) rfl rfl rfl rfl (Nat.le_trans (by decide) hd) ?_
          refine qp_run_E qp_ok76 2 (c' := (122, [some (.ref 25), some (.int a1), some (.int a2), some (.int a3), none, some (.int a5), some (.int a6), some (.int (a7 + 1))], [], qp_mk I1 J1)) (by with_unfolding_all rfl) hd1 trivial ?_
          exact ih a1 a2 a3 a5 a6 (a7 + 1) I1 J1 h
def fH_fewest_b66  (k50 : Int32 → Int32 → Int32 → Int32 → Int32 → (Nat → Nat → Int32) → (Nat → Nat → Int64) → Option (Int32 × (Nat → Nat → Int32) × (Nat → Nat → Int64))) : Nat → Int32 → Int32 → Int32 → Int32 → Int32 → Int32 → Int32 → (Nat → Nat → Int32) → (Nat → Nat → Int64) → Option (Int32 × (Nat → Nat → Int32) × (Nat → Nat → Int64))
  | 0, _, _, _, _, _, _, _, _, _ => none
  | n + 1, a1, a2, a3, a4, a5, a6, a7, I, J =>
    if a6 ≤ a7 then (
      fH_fewest_b122 k50 100000 a1 a2 a3 a5 a6 a4 I J
    ) else (
      if 720 ≤ a7 then (
        fH_fewest_b122 k50 100000 a1 a2 a3 a5 a6 a4 I J
      ) else (
        qp_gd ((0 ≤ a7 ∧ a7 < 720)) <|
        qp_bd (fH_fits (I 26 (Int32.toNatClampNeg a7)) a1 a2 a3 I J) fun v1 I1 J1 =>
        if v1 = 0 then (
          fH_fewest_b66 k50 n a1 a2 a3 a4 a5 a6 (a7 + 1) I1 J1
        ) else (
          qp_gd ((0 ≤ a7 ∧ a7 < 720)) <|
          some (a5, (qp_up I1 25 5 (I1 27 (Int32.toNatClampNeg a7))), J1)
        )
      )
    )
set_option maxRecDepth 8000 in
theorem gH_fewest_b66 {l : Launch} {G : qp_G} {d : Nat} (hd : 6 ≤ d) {r : (Int32 × (Nat → Nat → Int32) × (Nat → Nat → Int64))} {I0 : Nat → Nat → Int32} {J0 : Nat → Nat → Int64}  (k50 : Int32 → Int32 → Int32 → Int32 → Int32 → (Nat → Nat → Int32) → (Nat → Nat → Int64) → Option (Int32 × (Nat → Nat → Int32) × (Nat → Nat → Int64))) (hk50 : ∀ a1 a2 a3 a4 a5 I J, k50 a1 a2 a3 a4 a5 I J = some r → qp_E l G d 76 (qp_mk I0 J0) 0 0 (qp_R8 (some (.int r.1)) r.2.1 r.2.2) (50, [some (.ref 25), some (.int a1), some (.int a2), some (.int a3), some (.int a4), some (.int a5), none, none], [], qp_mk I J)) : ∀ (n : Nat) (a1 : Int32) (a2 : Int32) (a3 : Int32) (a4 : Int32) (a5 : Int32) (a6 : Int32) (a7 : Int32) (I : Nat → Nat → Int32) (J : Nat → Nat → Int64), fH_fewest_b66 k50 n a1 a2 a3 a4 a5 a6 a7 I J = some r → qp_E l G d 76 (qp_mk I0 J0) 0 0 (qp_R8 (some (.int r.1)) r.2.1 r.2.2) (66, [some (.ref 25), some (.int a1), some (.int a2), some (.int a3), some (.int a4), some (.int a5), some (.int a6), some (.int a7)], [], qp_mk I J) := by
  have hd1 : Nat.ble 1 d = true := Nat.ble_eq_true_of_le (Nat.le_trans (by decide) hd)
  intro n
  induction n with
  | zero => intro a1 a2 a3 a4 a5 a6 a7 I J h; exact absurd h (by simp [fH_fewest_b66])
  | succ n ih =>
    intro a1 a2 a3 a4 a5 a6 a7 I J h
    rw [fH_fewest_b66] at h
    refine qp_run_E qp_ok76 2 (c' := (70, [some (.ref 25), some (.int a1), some (.int a2), some (.int a3), some (.int a4), some (.int a5), some (.int a6), some (.int a7)], [.int a6, .int a7], qp_mk I J)) (by with_unfolding_all rfl) hd1 trivial ?_
    refine qp_br_E qp_ok76 (f := a6 ≤ a7) (ct := (118, [some (.ref 25), some (.int a1), some (.int a2), some (.int a3), some (.int a4), some (.int a5), some (.int a6), some (.int a7)], [], qp_mk I J)) (cf := (73, [some (.ref 25), some (.int a1), some (.int a2), some (.int a3), some (.int a4), some (.int a5), some (.int a6), some (.int a7)], [], qp_mk I J)) (by with_unfolding_all rfl) (fun h1 => ?_) (fun h1 => ?_)
    · replace h := qp_ift h1 h
      refine qp_run_E qp_ok76 2 (c' := (122, [some (.ref 25), some (.int a1), some (.int a2), some (.int a3), some (.int a4), some (.int a5), some (.int a6), some (.int a4)], [], qp_mk I J)) (by with_unfolding_all rfl) hd1 trivial ?_
      exact qp_E_fg [true, true, true, true, false, true, true, true] (gH_fewest_b122 hd k50 hk50 100000 a1 a2 a3 a5 a6 a4 I J h)
    · replace h := qp_iff h1 h
      refine qp_run_E qp_ok76 2 (c' := (78, [some (.ref 25), some (.int a1), some (.int a2), some (.int a3), some (.int a4), some (.int a5), some (.int a6), some (.int a7)], [.int 720, .int a7], qp_mk I J)) (by with_unfolding_all rfl) hd1 trivial ?_
      refine qp_br_E qp_ok76 (f := 720 ≤ a7) (ct := (118, [some (.ref 25), some (.int a1), some (.int a2), some (.int a3), some (.int a4), some (.int a5), some (.int a6), some (.int a7)], [], qp_mk I J)) (cf := (81, [some (.ref 25), some (.int a1), some (.int a2), some (.int a3), some (.int a4), some (.int a5), some (.int a6), some (.int a7)], [], qp_mk I J)) (by with_unfolding_all rfl) (fun h2 => ?_) (fun h2 => ?_)
      · replace h := qp_ift h2 h
        refine qp_run_E qp_ok76 2 (c' := (122, [some (.ref 25), some (.int a1), some (.int a2), some (.int a3), some (.int a4), some (.int a5), some (.int a6), some (.int a4)], [], qp_mk I J)) (by with_unfolding_all rfl) hd1 trivial ?_
        exact qp_E_fg [true, true, true, true, false, true, true, true] (gH_fewest_b122 hd k50 hk50 100000 a1 a2 a3 a5 a6 a4 I J h)
      · replace h := qp_iff h2 h
        obtain ⟨h3, h⟩ := qp_gd_s h
        refine qp_run_E qp_ok76 8 (f := vp_in a7 720 ∧ True) (c' := (92, [some (.ref 25), some (.int a1), some (.int a2), some (.int a3), some (.int a4), some (.int a5), some (.int a6), some (.int a7)], [.int a3, .int a2, .int a1, .int (I 26 (Int32.toNatClampNeg a7)), .ref 25], qp_mk I J)) (by with_unfolding_all rfl) hd1 ⟨(qp_vin (c := 720) (by decide) h3.1 h3.2), trivial⟩ ?_
        obtain ⟨v1, I1, J1, e1, h⟩ := qp_bd_s h
        refine qp_cV qp_ok76 (rest := []) (oj := 6) qp_f80 rfl rfl (gH_fits l G (I 26 (Int32.toNatClampNeg a7)) a1 a2 a3 I J e1 (Nat.le_refl 5)) rfl rfl rfl rfl (Nat.le_trans (by decide) hd) ?_
        refine qp_br_E qp_ok76 (f := v1 = 0) (ct := (112, [some (.ref 25), some (.int a1), some (.int a2), some (.int a3), some (.int a4), some (.int a5), some (.int a6), some (.int a7)], [], qp_mk I1 J1)) (cf := (98, [some (.ref 25), some (.int a1), some (.int a2), some (.int a3), some (.int a4), some (.int a5), some (.int a6), some (.int a7)], [], qp_mk I1 J1)) (by with_unfolding_all rfl) (fun h4 => ?_) (fun h4 => ?_)
        · replace h := qp_ift h4 h
          refine qp_run_E qp_ok76 2 (c' := (66, [some (.ref 25), some (.int a1), some (.int a2), some (.int a3), some (.int a4), some (.int a5), some (.int a6), some (.int (a7 + 1))], [], qp_mk I1 J1)) (by with_unfolding_all rfl) hd1 trivial ?_
          exact ih a1 a2 a3 a4 a5 a6 (a7 + 1) I1 J1 h
        · replace h := qp_iff h4 h
          obtain ⟨h5, h⟩ := qp_gd_s h
          refine qp_run_E qp_ok76 7 (f := vp_in a7 720 ∧ True) (c' := (111, [some (.ref 25), some (.int a1), some (.int a2), some (.int a3), some (.int a4), some (.int a5), some (.int a6), some (.int a7)], [.int a5], qp_mk (qp_up I1 25 5 (I1 27 (Int32.toNatClampNeg a7))) J1)) (by with_unfolding_all rfl) hd1 ⟨(qp_vin (c := 720) (by decide) h5.1 h5.2), trivial⟩ ?_
          obtain rfl := Option.some.inj h
          exact qp_retI_E qp_ok76 rfl qp_r76.1 ⟨rfl, rfl⟩ ⟨rfl, rfl⟩
def fH_fewest_b50  : Nat → Int32 → Int32 → Int32 → Int32 → Int32 → (Nat → Nat → Int32) → (Nat → Nat → Int64) → Option (Int32 × (Nat → Nat → Int32) × (Nat → Nat → Int64))
  | 0, _, _, _, _, _, _, _ => none
  | n + 1, a1, a2, a3, a4, a5, I, J =>
    if 3 < a5 then (
      some ((-9), I, J)
    ) else (
      fH_fewest_b66 (fun a0 a1 a2 a3 a4 I J => fH_fewest_b50 n a0 a1 a2 a3 a4 I J) 100000 a1 a2 a3 a4 a5 (I 25 4) a4 I J
    )
set_option maxRecDepth 8000 in
theorem gH_fewest_b50 {l : Launch} {G : qp_G} {d : Nat} (hd : 6 ≤ d) {r : (Int32 × (Nat → Nat → Int32) × (Nat → Nat → Int64))} {I0 : Nat → Nat → Int32} {J0 : Nat → Nat → Int64}   : ∀ (n : Nat) (a1 : Int32) (a2 : Int32) (a3 : Int32) (a4 : Int32) (a5 : Int32) (I : Nat → Nat → Int32) (J : Nat → Nat → Int64), fH_fewest_b50  n a1 a2 a3 a4 a5 I J = some r → qp_E l G d 76 (qp_mk I0 J0) 0 0 (qp_R8 (some (.int r.1)) r.2.1 r.2.2) (50, [some (.ref 25), some (.int a1), some (.int a2), some (.int a3), some (.int a4), some (.int a5), none, none], [], qp_mk I J) := by
  have hd1 : Nat.ble 1 d = true := Nat.ble_eq_true_of_le (Nat.le_trans (by decide) hd)
  intro n
  induction n with
  | zero => intro a1 a2 a3 a4 a5 I J h; exact absurd h (by simp [fH_fewest_b50])
  | succ n ih =>
    intro a1 a2 a3 a4 a5 I J h
    rw [fH_fewest_b50] at h
    refine qp_run_E qp_ok76 2 (c' := (53, [some (.ref 25), some (.int a1), some (.int a2), some (.int a3), some (.int a4), some (.int a5), none, none], [.int 3, .int a5], qp_mk I J)) (by with_unfolding_all rfl) hd1 trivial ?_
    refine qp_br_E qp_ok76 (f := 3 < a5) (ct := (177, [some (.ref 25), some (.int a1), some (.int a2), some (.int a3), some (.int a4), some (.int a5), none, none], [], qp_mk I J)) (cf := (56, [some (.ref 25), some (.int a1), some (.int a2), some (.int a3), some (.int a4), some (.int a5), none, none], [], qp_mk I J)) (by with_unfolding_all rfl) (fun h1 => ?_) (fun h1 => ?_)
    · replace h := qp_ift h1 h
      refine qp_run_E qp_ok76 1 (c' := (179, [some (.ref 25), some (.int a1), some (.int a2), some (.int a3), some (.int a4), some (.int a5), none, none], [.int (-9)], qp_mk I J)) (by with_unfolding_all rfl) hd1 trivial ?_
      obtain rfl := Option.some.inj h
      exact qp_retI_E qp_ok76 rfl qp_r76.1 ⟨rfl, rfl⟩ ⟨rfl, rfl⟩
    · replace h := qp_iff h1 h
      refine qp_run_E qp_ok76 5 (c' := (66, [some (.ref 25), some (.int a1), some (.int a2), some (.int a3), some (.int a4), some (.int a5), some (.int (I 25 4)), some (.int a4)], [], qp_mk I J)) (by with_unfolding_all rfl) hd1 trivial ?_
      exact gH_fewest_b66 hd (fun a0 a1 a2 a3 a4 I J => fH_fewest_b50 n a0 a1 a2 a3 a4 I J) (fun a0 a1 a2 a3 a4 I J h => ih a0 a1 a2 a3 a4 I J h) 100000 a1 a2 a3 a4 a5 (I 25 4) a4 I J h
def fH_fewest_b3  : Nat → Int32 → Int32 → Int32 → Int32 → (Nat → Nat → Int32) → (Nat → Nat → Int64) → Option (Int32 × (Nat → Nat → Int32) × (Nat → Nat → Int64))
  | 0, _, _, _, _, _, _ => none
  | n + 1, a1, a2, a3, a4, I, J =>
    if 720 ≤ a4 then (
      qp_bd (fH_reach (I 14 2) 0 (qp_up I 25 4 0) J) fun _u I1 J1 =>
      fH_fewest_b50 100000 a1 a2 a3 0 0 I1 J1
    ) else (
      qp_gd ((0 ≤ a4 ∧ a4 < 720)) <|
      fH_fewest_b3 n a1 a2 a3 (a4 + 1) (qp_up I 28 (Int32.toNatClampNeg a4) 0) J
    )
set_option maxRecDepth 8000 in
theorem gH_fewest_b3 {l : Launch} {G : qp_G} {d : Nat} (hd : 6 ≤ d) {r : (Int32 × (Nat → Nat → Int32) × (Nat → Nat → Int64))} {I0 : Nat → Nat → Int32} {J0 : Nat → Nat → Int64}   : ∀ (n : Nat) (a1 : Int32) (a2 : Int32) (a3 : Int32) (a4 : Int32) (I : Nat → Nat → Int32) (J : Nat → Nat → Int64), fH_fewest_b3  n a1 a2 a3 a4 I J = some r → qp_E l G d 76 (qp_mk I0 J0) 0 0 (qp_R8 (some (.int r.1)) r.2.1 r.2.2) (3, [some (.ref 25), some (.int a1), some (.int a2), some (.int a3), some (.int a4), none, none, none], [], qp_mk I J) := by
  have hd1 : Nat.ble 1 d = true := Nat.ble_eq_true_of_le (Nat.le_trans (by decide) hd)
  intro n
  induction n with
  | zero => intro a1 a2 a3 a4 I J h; exact absurd h (by simp [fH_fewest_b3])
  | succ n ih =>
    intro a1 a2 a3 a4 I J h
    rw [fH_fewest_b3] at h
    refine qp_run_E qp_ok76 4 (c' := (10, [some (.ref 25), some (.int a1), some (.int a2), some (.int a3), some (.int a4), none, none, none], [.int 720, .int a4], qp_mk I J)) (by with_unfolding_all rfl) hd1 trivial ?_
    refine qp_br_E qp_ok76 (f := 720 ≤ a4) (ct := (27, [some (.ref 25), some (.int a1), some (.int a2), some (.int a3), some (.int a4), none, none, none], [], qp_mk I J)) (cf := (13, [some (.ref 25), some (.int a1), some (.int a2), some (.int a3), some (.int a4), none, none, none], [], qp_mk I J)) (by with_unfolding_all rfl) (fun h1 => ?_) (fun h1 => ?_)
    · replace h := qp_ift h1 h
      refine qp_run_E qp_ok76 8 (c' := (41, [some (.ref 25), some (.int a1), some (.int a2), some (.int a3), some (.int a4), none, none, none], [.int 0, .int (I 14 2), .ref 25], qp_mk (qp_up I 25 4 0) J)) (by with_unfolding_all rfl) hd1 trivial ?_
      obtain ⟨v1, I1, J1, e1, h⟩ := qp_bd_s h
      refine qp_cV qp_ok76 (rest := []) (oj := 6) qp_f77 rfl rfl (gH_reach l G (I 14 2) 0 (qp_up I 25 4 0) J e1 (Nat.le_refl 3)) rfl rfl rfl rfl (Nat.le_trans (by decide) hd) ?_
      refine qp_run_E qp_ok76 4 (c' := (50, [some (.ref 25), some (.int a1), some (.int a2), some (.int a3), some (.int 0), some (.int 0), none, none], [], qp_mk I1 J1)) (by with_unfolding_all rfl) hd1 trivial ?_
      exact gH_fewest_b50 hd 100000 a1 a2 a3 0 0 I1 J1 h
    · replace h := qp_iff h1 h
      obtain ⟨h2, h⟩ := qp_gd_s h
      refine qp_run_E qp_ok76 7 (f := (vp_in a4 720 ∧ vp_nar .boolean 0 = 0) ∧ True) (c' := (3, [some (.ref 25), some (.int a1), some (.int a2), some (.int a3), some (.int (a4 + 1)), none, none, none], [], qp_mk (qp_up I 28 (Int32.toNatClampNeg a4) 0) J)) (by with_unfolding_all rfl) hd1 ⟨⟨(qp_vin (c := 720) (by decide) h2.1 h2.2), by rfl⟩, trivial⟩ ?_
      exact ih a1 a2 a3 (a4 + 1) (qp_up I 28 (Int32.toNatClampNeg a4) 0) J h
def fH_fewest (p1 : Int32) (p2 : Int32) (p3 : Int32) (I : Nat → Nat → Int32) (J : Nat → Nat → Int64) : Option (Int32 × (Nat → Nat → Int32) × (Nat → Nat → Int64)) :=
  fH_fewest_b3 100000 p1 p2 p3 0 I J
set_option maxRecDepth 8000 in
theorem gH_fewest (l : Launch) (G : qp_G) (p1 : Int32) (p2 : Int32) (p3 : Int32) (I : Nat → Nat → Int32) (J : Nat → Nat → Int64) {v : Int32} {I' : Nat → Nat → Int32} {J' : Nat → Nat → Int64} (h : fH_fewest p1 p2 p3 I J = some (v, I', J')) {d : Nat} (hd : 6 ≤ d) : qp_Met l G d 76 [.ref 25, .int p1, .int p2, .int p3] (qp_mk I J) 0 0 (qp_R8 (some (.int v)) I' J') := by
  have hd1 : Nat.ble 1 d = true := Nat.ble_eq_true_of_le (Nat.le_trans (by decide) hd)
  refine qp_Met_of (by decide) (by rw [qp_r76.2]; rfl) [some (.ref 25), some (.int p1), some (.int p2), some (.int p3), none, none, none, none] (by rw [qp_r76.2]; rfl) ?_
  unfold fH_fewest at h
  refine qp_run_E qp_ok76 2 (c' := (3, [some (.ref 25), some (.int p1), some (.int p2), some (.int p3), some (.int 0), none, none, none], [], qp_mk I J)) (by with_unfolding_all rfl) hd1 trivial ?_
  exact gH_fewest_b3 hd 100000 p1 p2 p3 0 I J h
def fH_step (p1 : Int32) (p2 : Int32) (I : Nat → Nat → Int32) (J : Nat → Nat → Int64) : Option (Int32 × (Nat → Nat → Int32) × (Nat → Nat → Int64)) :=
  some ((((I 25 5) >>> (((6 : Int32) * ((p2 - 1) - p1)) &&& 31)) &&& 63), I, J)
set_option maxRecDepth 8000 in
theorem gH_step (l : Launch) (G : qp_G) (p1 : Int32) (p2 : Int32) (I : Nat → Nat → Int32) (J : Nat → Nat → Int64) {v : Int32} {I' : Nat → Nat → Int32} {J' : Nat → Nat → Int64} (h : fH_step p1 p2 I J = some (v, I', J')) {d : Nat} (hd : 1 ≤ d) : qp_Met l G d 85 [.ref 25, .int p1, .int p2] (qp_mk I J) 0 0 (qp_R8 (some (.int v)) I' J') := by
  have hd1 : Nat.ble 1 d = true := Nat.ble_eq_true_of_le (Nat.le_trans (by decide) hd)
  refine qp_Met_of (by decide) (by rw [qp_r85.2]; rfl) [some (.ref 25), some (.int p1), some (.int p2)] (by rw [qp_r85.2]; rfl) ?_
  unfold fH_step at h
  refine qp_run_E qp_ok85 12 (c' := (16, [some (.ref 25), some (.int p1), some (.int p2)], [.int (((I 25 5) >>> (((6 : Int32) * ((p2 - 1) - p1)) &&& 31)) &&& 63)], qp_mk I J)) (by with_unfolding_all rfl) hd1 trivial ?_
  obtain ⟨rfl, rfl, rfl⟩ := qp_some3 h
  exact qp_retI_E qp_ok85 rfl qp_r85.1 ⟨rfl, rfl⟩ ⟨rfl, rfl⟩
def fX_wish_b92  : Nat → Int32 → Int32 → Int32 → (Nat → Nat → Int32) → (Nat → Nat → Int64) → Option (Int32 × (Nat → Nat → Int32) × (Nat → Nat → Int64))
  | 0, _, _, _, _, _ => none
  | n + 1, a4, a6, a7, I, J =>
    if a6 ≤ a7 then (
      some (a6, I, J)
    ) else (
      qp_bd (fH_step a7 a6 I J) fun v1 I1 J1 =>
      qp_bd (fS_set_1 a4 a7 v1 I1 J1) fun _u I2 J2 =>
      fX_wish_b92 n a4 a6 (a7 + 1) I2 J2
    )
set_option maxRecDepth 8000 in
theorem gX_wish_b92 {l : Launch} {G : qp_G} {d : Nat} (hd : 7 ≤ d) {r : (Int32 × (Nat → Nat → Int32) × (Nat → Nat → Int64))} {I0 : Nat → Nat → Int32} {J0 : Nat → Nat → Int64}   : ∀ (n : Nat) (a4 : Int32) (a6 : Int32) (a7 : Int32) (I : Nat → Nat → Int32) (J : Nat → Nat → Int64), fX_wish_b92  n a4 a6 a7 I J = some r → qp_E l G d 75 (qp_mk I0 J0) 0 0 (qp_R8 (some (.int r.1)) r.2.1 r.2.2) (92, [some (.ref 0), none, none, none, some (.int a4), none, some (.int a6), some (.int a7)], [], qp_mk I J) := by
  have hd1 : Nat.ble 1 d = true := Nat.ble_eq_true_of_le (Nat.le_trans (by decide) hd)
  intro n
  induction n with
  | zero => intro a4 a6 a7 I J h; exact absurd h (by simp [fX_wish_b92])
  | succ n ih =>
    intro a4 a6 a7 I J h
    rw [fX_wish_b92] at h
    refine qp_run_E qp_ok75 2 (c' := (96, [some (.ref 0), none, none, none, some (.int a4), none, some (.int a6), some (.int a7)], [.int a6, .int a7], qp_mk I J)) (by with_unfolding_all rfl) hd1 trivial ?_
    refine qp_br_E qp_ok75 (f := a6 ≤ a7) (ct := (127, [some (.ref 0), none, none, none, some (.int a4), none, some (.int a6), some (.int a7)], [], qp_mk I J)) (cf := (99, [some (.ref 0), none, none, none, some (.int a4), none, some (.int a6), some (.int a7)], [], qp_mk I J)) (by with_unfolding_all rfl) (fun h1 => ?_) (fun h1 => ?_)
    · replace h := qp_ift h1 h
      refine qp_run_E qp_ok75 1 (c' := (129, [some (.ref 0), none, none, none, some (.int a4), none, some (.int a6), some (.int a7)], [.int a6], qp_mk I J)) (by with_unfolding_all rfl) hd1 trivial ?_
      obtain rfl := Option.some.inj h
      exact qp_retI_E qp_ok75 rfl qp_r75.1 ⟨rfl, rfl⟩ ⟨rfl, rfl⟩
    · replace h := qp_iff h1 h
      refine qp_run_E qp_ok75 8 (c' := (115, [some (.ref 0), none, none, none, some (.int a4), none, some (.int a6), some (.int a7)], [.int a6, .int a7, .ref 25, .int a7, .int a4, .ref 1], qp_mk I J)) (by with_unfolding_all rfl) hd1 trivial ?_
      obtain ⟨v1, I1, J1, e1, h⟩ := qp_bd_s h
      refine qp_cV qp_ok75 (rest := [.int a7, .int a4, .ref 1]) (oj := 6) qp_f85 rfl rfl (gH_step l G a7 a6 I J e1 (Nat.le_refl 1)) rfl rfl rfl rfl (Nat.le_trans (by decide) hd) ?_
      obtain ⟨v2, I2, J2, e2, h⟩ := qp_bd_s h
      refine qp_cV qp_ok75 (rest := []) (oj := 1) qp_f16 rfl rfl (gS_set_1 l G a4 a7 v1 I1 J1 e2 (Nat.le_refl 3)) rfl rfl rfl rfl (Nat.le_trans (by decide) hd) ?_
      refine qp_run_E qp_ok75 2 (c' := (92, [some (.ref 0), none, none, none, some (.int a4), none, some (.int a6), some (.int (a7 + 1))], [], qp_mk I2 J2)) (by with_unfolding_all rfl) hd1 trivial ?_
      exact ih a4 a6 (a7 + 1) I2 J2 h
def fX_wish (p1 : Int32) (p2 : Int32) (p3 : Int32) (p4 : Int32) (I : Nat → Nat → Int32) (J : Nat → Nat → Int64) : Option (Int32 × (Nat → Nat → Int32) × (Nat → Nat → Int64)) :=
  qp_bd (fC_has_15 p1 I J) fun v1 I1 J1 =>
  if v1 = 0 then (
    some ((-1), I1, J1)
  ) else (
    qp_bd (fC_has_15 p2 I1 J1) fun v2 I2 J2 =>
    if v2 = 0 then (
      some ((-1), I2, J2)
    ) else (
      qp_bd (fC_has_15 p3 I2 J2) fun v3 I3 J3 =>
      if v3 = 0 then (
        some ((-1), I3, J3)
      ) else (
        if p1 = p2 then (
          some ((-1), I3, J3)
        ) else (
          qp_bd (fS_isNumber_1 p4 I3 J3) fun v4 I4 J4 =>
          if ¬ v4 = 0 then (
            qp_bd (fH_fewest p1 p2 p3 I4 J4) fun v5 I5 J5 =>
            if ¬ v5 = (-9) then (
              qp_bd (fS_fresh_1 p4 v5 0 I5 J5) fun _u I6 J6 =>
              fX_wish_b92 100000 p4 v5 0 I6 J6
            ) else (
              some ((-9), I5, J5)
            )
          ) else (
            some ((-1), I4, J4)
          )
        )
      )
    )
  )
set_option maxRecDepth 8000 in
theorem gX_wish (l : Launch) (G : qp_G) (p1 : Int32) (p2 : Int32) (p3 : Int32) (p4 : Int32) (I : Nat → Nat → Int32) (J : Nat → Nat → Int64) {v : Int32} {I' : Nat → Nat → Int32} {J' : Nat → Nat → Int64} (h : fX_wish p1 p2 p3 p4 I J = some (v, I', J')) {d : Nat} (hd : 7 ≤ d) : qp_Met l G d 75 [.ref 0, .int p1, .int p2, .int p3, .int p4] (qp_mk I J) 0 0 (qp_R8 (some (.int v)) I' J') := by
  have hd1 : Nat.ble 1 d = true := Nat.ble_eq_true_of_le (Nat.le_trans (by decide) hd)
  refine qp_Met_of (by decide) (by rw [qp_r75.2]; rfl) [some (.ref 0), some (.int p1), some (.int p2), some (.int p3), some (.int p4), none, none, none] (by rw [qp_r75.2]; rfl) ?_
  unfold fX_wish at h
  refine qp_run_E qp_ok75 6 (c' := (12, [some (.ref 0), some (.int p1), some (.int p2), some (.int p3), some (.int p4), some (.ref 15), none, none], [.int p1, .ref 15], qp_mk I J)) (by with_unfolding_all rfl) hd1 trivial ?_
  obtain ⟨v1, I1, J1, e1, h⟩ := qp_bd_s h
  refine qp_cV qp_ok75 (rest := []) (oj := 3) qp_f43 rfl rfl (gC_has_15 l G p1 I J e1 (Nat.le_refl 1)) rfl rfl rfl rfl (Nat.le_trans (by decide) hd) ?_
  refine qp_br_E qp_ok75 (f := v1 = 0) (ct := (53, [some (.ref 0), some (.int p1), some (.int p2), some (.int p3), some (.int p4), some (.ref 15), none, none], [], qp_mk I1 J1)) (cf := (18, [some (.ref 0), some (.int p1), some (.int p2), some (.int p3), some (.int p4), some (.ref 15), none, none], [], qp_mk I1 J1)) (by with_unfolding_all rfl) (fun h1 => ?_) (fun h1 => ?_)
  · replace h := qp_ift h1 h
    refine qp_run_E qp_ok75 1 (c' := (54, [some (.ref 0), some (.int p1), some (.int p2), some (.int p3), some (.int p4), some (.ref 15), none, none], [.int (-1)], qp_mk I1 J1)) (by with_unfolding_all rfl) hd1 trivial ?_
    obtain ⟨rfl, rfl, rfl⟩ := qp_some3 h
    exact qp_retI_E qp_ok75 rfl qp_r75.1 ⟨rfl, rfl⟩ ⟨rfl, rfl⟩
  · replace h := qp_iff h1 h
    refine qp_run_E qp_ok75 2 (c' := (21, [some (.ref 0), some (.int p1), some (.int p2), some (.int p3), some (.int p4), some (.ref 15), none, none], [.int p2, .ref 15], qp_mk I1 J1)) (by with_unfolding_all rfl) hd1 trivial ?_
    obtain ⟨v2, I2, J2, e2, h⟩ := qp_bd_s h
    refine qp_cV qp_ok75 (rest := []) (oj := 3) qp_f43 rfl rfl (gC_has_15 l G p2 I1 J1 e2 (Nat.le_refl 1)) rfl rfl rfl rfl (Nat.le_trans (by decide) hd) ?_
    refine qp_br_E qp_ok75 (f := v2 = 0) (ct := (53, [some (.ref 0), some (.int p1), some (.int p2), some (.int p3), some (.int p4), some (.ref 15), none, none], [], qp_mk I2 J2)) (cf := (27, [some (.ref 0), some (.int p1), some (.int p2), some (.int p3), some (.int p4), some (.ref 15), none, none], [], qp_mk I2 J2)) (by with_unfolding_all rfl) (fun h2 => ?_) (fun h2 => ?_)
    · replace h := qp_ift h2 h
      refine qp_run_E qp_ok75 1 (c' := (54, [some (.ref 0), some (.int p1), some (.int p2), some (.int p3), some (.int p4), some (.ref 15), none, none], [.int (-1)], qp_mk I2 J2)) (by with_unfolding_all rfl) hd1 trivial ?_
      obtain ⟨rfl, rfl, rfl⟩ := qp_some3 h
      exact qp_retI_E qp_ok75 rfl qp_r75.1 ⟨rfl, rfl⟩ ⟨rfl, rfl⟩
    · replace h := qp_iff h2 h
      refine qp_run_E qp_ok75 2 (c' := (30, [some (.ref 0), some (.int p1), some (.int p2), some (.int p3), some (.int p4), some (.ref 15), none, none], [.int p3, .ref 15], qp_mk I2 J2)) (by with_unfolding_all rfl) hd1 trivial ?_
      obtain ⟨v3, I3, J3, e3, h⟩ := qp_bd_s h
      refine qp_cV qp_ok75 (rest := []) (oj := 3) qp_f43 rfl rfl (gC_has_15 l G p3 I2 J2 e3 (Nat.le_refl 1)) rfl rfl rfl rfl (Nat.le_trans (by decide) hd) ?_
      refine qp_br_E qp_ok75 (f := v3 = 0) (ct := (53, [some (.ref 0), some (.int p1), some (.int p2), some (.int p3), some (.int p4), some (.ref 15), none, none], [], qp_mk I3 J3)) (cf := (36, [some (.ref 0), some (.int p1), some (.int p2), some (.int p3), some (.int p4), some (.ref 15), none, none], [], qp_mk I3 J3)) (by with_unfolding_all rfl) (fun h3 => ?_) (fun h3 => ?_)
      · replace h := qp_ift h3 h
        refine qp_run_E qp_ok75 1 (c' := (54, [some (.ref 0), some (.int p1), some (.int p2), some (.int p3), some (.int p4), some (.ref 15), none, none], [.int (-1)], qp_mk I3 J3)) (by with_unfolding_all rfl) hd1 trivial ?_
        obtain ⟨rfl, rfl, rfl⟩ := qp_some3 h
        exact qp_retI_E qp_ok75 rfl qp_r75.1 ⟨rfl, rfl⟩ ⟨rfl, rfl⟩
      · replace h := qp_iff h3 h
        refine qp_run_E qp_ok75 2 (c' := (38, [some (.ref 0), some (.int p1), some (.int p2), some (.int p3), some (.int p4), some (.ref 15), none, none], [.int p2, .int p1], qp_mk I3 J3)) (by with_unfolding_all rfl) hd1 trivial ?_
        refine qp_br_E qp_ok75 (f := p1 = p2) (ct := (53, [some (.ref 0), some (.int p1), some (.int p2), some (.int p3), some (.int p4), some (.ref 15), none, none], [], qp_mk I3 J3)) (cf := (41, [some (.ref 0), some (.int p1), some (.int p2), some (.int p3), some (.int p4), some (.ref 15), none, none], [], qp_mk I3 J3)) (by with_unfolding_all rfl) (fun h4 => ?_) (fun h4 => ?_)
        · replace h := qp_ift h4 h
          refine qp_run_E qp_ok75 1 (c' := (54, [some (.ref 0), some (.int p1), some (.int p2), some (.int p3), some (.int p4), some (.ref 15), none, none], [.int (-1)], qp_mk I3 J3)) (by with_unfolding_all rfl) hd1 trivial ?_
          obtain ⟨rfl, rfl, rfl⟩ := qp_some3 h
          exact qp_retI_E qp_ok75 rfl qp_r75.1 ⟨rfl, rfl⟩ ⟨rfl, rfl⟩
        · replace h := qp_iff h4 h
          refine qp_run_E qp_ok75 3 (c' := (47, [some (.ref 0), some (.int p1), some (.int p2), some (.int p3), some (.int p4), some (.ref 15), none, none], [.int p4, .ref 1], qp_mk I3 J3)) (by with_unfolding_all rfl) hd1 trivial ?_
          obtain ⟨v4, I4, J4, e4, h⟩ := qp_bd_s h
          refine qp_cV qp_ok75 (rest := []) (oj := 1) qp_f13 rfl rfl (gS_isNumber_1 l G p4 I3 J3 e4 (Nat.le_refl 1)) rfl rfl rfl rfl (Nat.le_trans (by decide) hd) ?_
          refine qp_br_E qp_ok75 (f := ¬ v4 = 0) (ct := (55, [some (.ref 0), some (.int p1), some (.int p2), some (.int p3), some (.int p4), some (.ref 15), none, none], [], qp_mk I4 J4)) (cf := (53, [some (.ref 0), some (.int p1), some (.int p2), some (.int p3), some (.int p4), some (.ref 15), none, none], [], qp_mk I4 J4)) (by with_unfolding_all rfl) (fun h5 => ?_) (fun h5 => ?_)
          · replace h := qp_ift h5 h
            refine qp_run_E qp_ok75 5 (c' := (62, [some (.ref 0), some (.int p1), some (.int p2), some (.int p3), some (.int p4), some (.ref 15), none, none], [.int p3, .int p2, .int p1, .ref 25], qp_mk I4 J4)) (by with_unfolding_all rfl) hd1 trivial ?_
            obtain ⟨v5, I5, J5, e5, h⟩ := qp_bd_s h
            refine qp_cV qp_ok75 (rest := []) (oj := 6) qp_f76 rfl rfl (gH_fewest l G p1 p2 p3 I4 J4 e5 (Nat.le_refl 6)) rfl rfl rfl rfl (Nat.le_trans (by decide) hd) ?_
            refine qp_run_E qp_ok75 3 (c' := (71, [some (.ref 0), some (.int p1), some (.int p2), some (.int p3), some (.int p4), some (.ref 15), some (.int v5), none], [.int (-9), .int v5], qp_mk I5 J5)) (by with_unfolding_all rfl) hd1 trivial ?_
            refine qp_br_E qp_ok75 (f := ¬ v5 = (-9)) (ct := (77, [some (.ref 0), some (.int p1), some (.int p2), some (.int p3), some (.int p4), some (.ref 15), some (.int v5), none], [], qp_mk I5 J5)) (cf := (74, [some (.ref 0), some (.int p1), some (.int p2), some (.int p3), some (.int p4), some (.ref 15), some (.int v5), none], [], qp_mk I5 J5)) (by with_unfolding_all rfl) (fun h6 => ?_) (fun h6 => ?_)
            · replace h := qp_ift h6 h
              refine qp_run_E qp_ok75 5 (c' := (86, [some (.ref 0), some (.int p1), some (.int p2), some (.int p3), some (.int p4), some (.ref 15), some (.int v5), none], [.int 0, .int v5, .int p4, .ref 1], qp_mk I5 J5)) (by with_unfolding_all rfl) hd1 trivial ?_
              obtain ⟨v6, I6, J6, e6, h⟩ := qp_bd_s h
              refine qp_cV qp_ok75 (rest := []) (oj := 1) qp_f15 rfl rfl (gS_fresh_1 l G p4 v5 0 I5 J5 e6 (Nat.le_refl 4)) rfl rfl rfl rfl (Nat.le_trans (by decide) hd) ?_
              refine qp_run_E qp_ok75 2 (c' := (92, [some (.ref 0), some (.int p1), some (.int p2), some (.int p3), some (.int p4), some (.ref 15), some (.int v5), some (.int 0)], [], qp_mk I6 J6)) (by with_unfolding_all rfl) hd1 trivial ?_
              exact qp_E_fg [true, false, false, false, true, false, true, true] (gX_wish_b92 hd 100000 p4 v5 0 I6 J6 h)
            · replace h := qp_iff h6 h
              refine qp_run_E qp_ok75 1 (c' := (76, [some (.ref 0), some (.int p1), some (.int p2), some (.int p3), some (.int p4), some (.ref 15), some (.int v5), none], [.int (-9)], qp_mk I5 J5)) (by with_unfolding_all rfl) hd1 trivial ?_
              obtain ⟨rfl, rfl, rfl⟩ := qp_some3 h
              exact qp_retI_E qp_ok75 rfl qp_r75.1 ⟨rfl, rfl⟩ ⟨rfl, rfl⟩
          · replace h := qp_iff h5 h
            refine qp_run_E qp_ok75 1 (c' := (54, [some (.ref 0), some (.int p1), some (.int p2), some (.int p3), some (.int p4), some (.ref 15), none, none], [.int (-1)], qp_mk I4 J4)) (by with_unfolding_all rfl) hd1 trivial ?_
            obtain ⟨rfl, rfl, rfl⟩ := qp_some3 h
            exact qp_retI_E qp_ok75 rfl qp_r75.1 ⟨rfl, rfl⟩ ⟨rfl, rfl⟩
def fX_refusalOfPairs_b46  : Nat → Int32 → Int32 → Int32 → (Nat → Nat → Int32) → (Nat → Nat → Int64) → Option (Int32 × (Nat → Nat → Int32) × (Nat → Nat → Int64))
  | 0, _, _, _, _, _ => none
  | n + 1, a1, a3, a4, I, J =>
    if a3 ≤ a4 then (
      some (0, I, J)
    ) else (
      qp_bd (fS_get_1 a1 (a4 + 1) I J) fun v1 I1 J1 =>
      qp_bd (fS_get_1 a1 a4 I1 J1) fun v2 I2 J2 =>
      qp_bd (fC_has_15 v2 I2 J2) fun v3 I3 J3 =>
      if v3 = 0 then (
        qp_bd (fX_found 3 I3 J3) fun v4 I4 J4 =>
        some (v4, I4, J4)
      ) else (
        if v1 < 0 then (
          qp_bd (fX_found 3 I3 J3) fun v5 I5 J5 =>
          some (v5, I5, J5)
        ) else (
          if v1 ≤ 9 then (
            fX_refusalOfPairs_b46 n a1 a3 (a4 + 2) I3 J3
          ) else (
            qp_bd (fX_found 3 I3 J3) fun v6 I6 J6 =>
            some (v6, I6, J6)
          )
        )
      )
    )
set_option maxRecDepth 8000 in
theorem gX_refusalOfPairs_b46 {l : Launch} {G : qp_G} {d : Nat} (hd : 5 ≤ d) {r : (Int32 × (Nat → Nat → Int32) × (Nat → Nat → Int64))} {I0 : Nat → Nat → Int32} {J0 : Nat → Nat → Int64}   : ∀ (n : Nat) (a1 : Int32) (a3 : Int32) (a4 : Int32) (I : Nat → Nat → Int32) (J : Nat → Nat → Int64), fX_refusalOfPairs_b46  n a1 a3 a4 I J = some r → qp_E l G d 87 (qp_mk I0 J0) 0 0 (qp_R8 (some (.int r.1)) r.2.1 r.2.2) (46, [some (.ref 0), some (.int a1), none, some (.int a3), some (.int a4), none], [], qp_mk I J) := by
  have hd1 : Nat.ble 1 d = true := Nat.ble_eq_true_of_le (Nat.le_trans (by decide) hd)
  intro n
  induction n with
  | zero => intro a1 a3 a4 I J h; exact absurd h (by simp [fX_refusalOfPairs_b46])
  | succ n ih =>
    intro a1 a3 a4 I J h
    rw [fX_refusalOfPairs_b46] at h
    refine qp_run_E qp_ok87 2 (c' := (49, [some (.ref 0), some (.int a1), none, some (.int a3), some (.int a4), none], [.int a3, .int a4], qp_mk I J)) (by with_unfolding_all rfl) hd1 trivial ?_
    refine qp_br_E qp_ok87 (f := a3 ≤ a4) (ct := (113, [some (.ref 0), some (.int a1), none, some (.int a3), some (.int a4), none], [], qp_mk I J)) (cf := (52, [some (.ref 0), some (.int a1), none, some (.int a3), some (.int a4), none], [], qp_mk I J)) (by with_unfolding_all rfl) (fun h1 => ?_) (fun h1 => ?_)
    · replace h := qp_ift h1 h
      refine qp_run_E qp_ok87 1 (c' := (114, [some (.ref 0), some (.int a1), none, some (.int a3), some (.int a4), none], [.int 0], qp_mk I J)) (by with_unfolding_all rfl) hd1 trivial ?_
      obtain rfl := Option.some.inj h
      exact qp_retI_E qp_ok87 rfl qp_r87.1 ⟨rfl, rfl⟩ ⟨rfl, rfl⟩
    · replace h := qp_iff h1 h
      refine qp_run_E qp_ok87 6 (c' := (61, [some (.ref 0), some (.int a1), none, some (.int a3), some (.int a4), none], [.int (a4 + 1), .int a1, .ref 1], qp_mk I J)) (by with_unfolding_all rfl) hd1 trivial ?_
      obtain ⟨v1, I1, J1, e1, h⟩ := qp_bd_s h
      refine qp_cV qp_ok87 (rest := []) (oj := 1) qp_f23 rfl rfl (gS_get_1 l G a1 (a4 + 1) I J e1 (Nat.le_refl 3)) rfl rfl rfl rfl (Nat.le_trans (by decide) hd) ?_
      refine qp_run_E qp_ok87 8 (c' := (80, [some (.ref 0), some (.int a1), none, some (.int a3), some (.int a4), some (.int v1)], [.int a4, .int a1, .ref 1, .ref 15], qp_mk I1 J1)) (by with_unfolding_all rfl) hd1 trivial ?_
      obtain ⟨v2, I2, J2, e2, h⟩ := qp_bd_s h
      refine qp_cV qp_ok87 (rest := [.ref 15]) (oj := 1) qp_f23 rfl rfl (gS_get_1 l G a1 a4 I1 J1 e2 (Nat.le_refl 3)) rfl rfl rfl rfl (Nat.le_trans (by decide) hd) ?_
      obtain ⟨v3, I3, J3, e3, h⟩ := qp_bd_s h
      refine qp_cV qp_ok87 (rest := []) (oj := 3) qp_f43 rfl rfl (gC_has_15 l G v2 I2 J2 e3 (Nat.le_refl 1)) rfl rfl rfl rfl (Nat.le_trans (by decide) hd) ?_
      refine qp_br_E qp_ok87 (f := v3 = 0) (ct := (101, [some (.ref 0), some (.int a1), none, some (.int a3), some (.int a4), some (.int v1)], [], qp_mk I3 J3)) (cf := (89, [some (.ref 0), some (.int a1), none, some (.int a3), some (.int a4), some (.int v1)], [], qp_mk I3 J3)) (by with_unfolding_all rfl) (fun h2 => ?_) (fun h2 => ?_)
      · replace h := qp_ift h2 h
        refine qp_run_E qp_ok87 2 (c' := (103, [some (.ref 0), some (.int a1), none, some (.int a3), some (.int a4), some (.int v1)], [.int 3, .ref 0], qp_mk I3 J3)) (by with_unfolding_all rfl) hd1 trivial ?_
        obtain ⟨v4, I4, J4, e4, h⟩ := qp_bd_s h
        refine qp_cV qp_ok87 (rest := []) (oj := 0) qp_f14 rfl rfl (gX_found l G 3 I3 J3 e4 (Nat.le_refl 1)) rfl rfl rfl rfl (Nat.le_trans (by decide) hd) ?_
        obtain rfl := Option.some.inj h
        exact qp_retI_E qp_ok87 rfl qp_r87.1 ⟨rfl, rfl⟩ ⟨rfl, rfl⟩
      · replace h := qp_iff h2 h
        refine qp_run_E qp_ok87 1 (c' := (91, [some (.ref 0), some (.int a1), none, some (.int a3), some (.int a4), some (.int v1)], [.int v1], qp_mk I3 J3)) (by with_unfolding_all rfl) hd1 trivial ?_
        refine qp_br_E qp_ok87 (f := v1 < 0) (ct := (101, [some (.ref 0), some (.int a1), none, some (.int a3), some (.int a4), some (.int v1)], [], qp_mk I3 J3)) (cf := (94, [some (.ref 0), some (.int a1), none, some (.int a3), some (.int a4), some (.int v1)], [], qp_mk I3 J3)) (by with_unfolding_all rfl) (fun h3 => ?_) (fun h3 => ?_)
        · replace h := qp_ift h3 h
          refine qp_run_E qp_ok87 2 (c' := (103, [some (.ref 0), some (.int a1), none, some (.int a3), some (.int a4), some (.int v1)], [.int 3, .ref 0], qp_mk I3 J3)) (by with_unfolding_all rfl) hd1 trivial ?_
          obtain ⟨v5, I5, J5, e5, h⟩ := qp_bd_s h
          refine qp_cV qp_ok87 (rest := []) (oj := 0) qp_f14 rfl rfl (gX_found l G 3 I3 J3 e5 (Nat.le_refl 1)) rfl rfl rfl rfl (Nat.le_trans (by decide) hd) ?_
          obtain rfl := Option.some.inj h
          exact qp_retI_E qp_ok87 rfl qp_r87.1 ⟨rfl, rfl⟩ ⟨rfl, rfl⟩
        · replace h := qp_iff h3 h
          refine qp_run_E qp_ok87 2 (c' := (98, [some (.ref 0), some (.int a1), none, some (.int a3), some (.int a4), some (.int v1)], [.int 9, .int v1], qp_mk I3 J3)) (by with_unfolding_all rfl) hd1 trivial ?_
          refine qp_br_E qp_ok87 (f := v1 ≤ 9) (ct := (107, [some (.ref 0), some (.int a1), none, some (.int a3), some (.int a4), some (.int v1)], [], qp_mk I3 J3)) (cf := (101, [some (.ref 0), some (.int a1), none, some (.int a3), some (.int a4), some (.int v1)], [], qp_mk I3 J3)) (by with_unfolding_all rfl) (fun h4 => ?_) (fun h4 => ?_)
          · replace h := qp_ift h4 h
            refine qp_run_E qp_ok87 2 (c' := (46, [some (.ref 0), some (.int a1), none, some (.int a3), some (.int (a4 + 2)), some (.int v1)], [], qp_mk I3 J3)) (by with_unfolding_all rfl) hd1 trivial ?_
            exact qp_E_fg [true, true, false, true, true, false] (ih a1 a3 (a4 + 2) I3 J3 h)
          · replace h := qp_iff h4 h
            refine qp_run_E qp_ok87 2 (c' := (103, [some (.ref 0), some (.int a1), none, some (.int a3), some (.int a4), some (.int v1)], [.int 3, .ref 0], qp_mk I3 J3)) (by with_unfolding_all rfl) hd1 trivial ?_
            obtain ⟨v6, I6, J6, e6, h⟩ := qp_bd_s h
            refine qp_cV qp_ok87 (rest := []) (oj := 0) qp_f14 rfl rfl (gX_found l G 3 I3 J3 e6 (Nat.le_refl 1)) rfl rfl rfl rfl (Nat.le_trans (by decide) hd) ?_
            obtain rfl := Option.some.inj h
            exact qp_retI_E qp_ok87 rfl qp_r87.1 ⟨rfl, rfl⟩ ⟨rfl, rfl⟩
def fX_refusalOfPairs (p1 : Int32) (I : Nat → Nat → Int32) (J : Nat → Nat → Int64) : Option (Int32 × (Nat → Nat → Int32) × (Nat → Nat → Int64)) :=
  qp_bd (fX_refusalOf_0_1 p1 I J) fun v1 I1 J1 =>
  if v1 = 0 then (
    qp_bd (fS_sizeOf_1 p1 I1 J1) fun v2 I2 J2 =>
    if ¬ (v2 - v2 / 2 * 2) = 0 then (
      qp_bd (fX_found 5 I2 J2) fun v3 I3 J3 =>
      some (v3, I3, J3)
    ) else (
      if v2 ≤ 16 then (
        fX_refusalOfPairs_b46 100000 p1 v2 0 I2 J2
      ) else (
        qp_bd (fX_found 5 I2 J2) fun v4 I4 J4 =>
        some (v4, I4, J4)
      )
    )
  ) else (
    some (v1, I1, J1)
  )
set_option maxRecDepth 8000 in
theorem gX_refusalOfPairs (l : Launch) (G : qp_G) (p1 : Int32) (I : Nat → Nat → Int32) (J : Nat → Nat → Int64) {v : Int32} {I' : Nat → Nat → Int32} {J' : Nat → Nat → Int64} (h : fX_refusalOfPairs p1 I J = some (v, I', J')) {d : Nat} (hd : 5 ≤ d) : qp_Met l G d 87 [.ref 0, .int p1] (qp_mk I J) 0 0 (qp_R8 (some (.int v)) I' J') := by
  have hd1 : Nat.ble 1 d = true := Nat.ble_eq_true_of_le (Nat.le_trans (by decide) hd)
  refine qp_Met_of (by decide) (by rw [qp_r87.2]; rfl) [some (.ref 0), some (.int p1), none, none, none, none] (by rw [qp_r87.2]; rfl) ?_
  unfold fX_refusalOfPairs at h
  refine qp_run_E qp_ok87 4 (c' := (6, [some (.ref 0), some (.int p1), none, none, none, none], [.int p1, .ref 1, .ref 0], qp_mk I J)) (by with_unfolding_all rfl) hd1 trivial ?_
  obtain ⟨v1, I1, J1, e1, h⟩ := qp_bd_s h
  refine qp_cV qp_ok87 (rest := []) (oj := 0) qp_f20 rfl rfl (gX_refusalOf_0_1 l G p1 I J e1 (Nat.le_refl 4)) rfl rfl rfl rfl (Nat.le_trans (by decide) hd) ?_
  refine qp_run_E qp_ok87 2 (c' := (11, [some (.ref 0), some (.int p1), some (.int v1), none, none, none], [.int v1], qp_mk I1 J1)) (by with_unfolding_all rfl) hd1 trivial ?_
  refine qp_br_E qp_ok87 (f := v1 = 0) (ct := (16, [some (.ref 0), some (.int p1), some (.int v1), none, none, none], [], qp_mk I1 J1)) (cf := (14, [some (.ref 0), some (.int p1), some (.int v1), none, none, none], [], qp_mk I1 J1)) (by with_unfolding_all rfl) (fun h1 => ?_) (fun h1 => ?_)
  · replace h := qp_ift h1 h
    refine qp_run_E qp_ok87 3 (c' := (21, [some (.ref 0), some (.int p1), some (.int v1), none, none, none], [.int p1, .ref 1], qp_mk I1 J1)) (by with_unfolding_all rfl) hd1 trivial ?_
    obtain ⟨v2, I2, J2, e2, h⟩ := qp_bd_s h
    refine qp_cV qp_ok87 (rest := []) (oj := 1) qp_f22 rfl rfl (gS_sizeOf_1 l G p1 I1 J1 e2 (Nat.le_refl 2)) rfl rfl rfl rfl (Nat.le_trans (by decide) hd) ?_
    refine qp_run_E qp_ok87 4 (f := ¬ (2 : Int32) = 0 ∧ True) (c' := (28, [some (.ref 0), some (.int p1), some (.int v1), some (.int v2), none, none], [.int (v2 - v2 / 2 * 2)], qp_mk I2 J2)) (by with_unfolding_all rfl) hd1 ⟨(by decide), trivial⟩ ?_
    refine qp_br_E qp_ok87 (f := ¬ (v2 - v2 / 2 * 2) = 0) (ct := (37, [some (.ref 0), some (.int p1), some (.int v1), some (.int v2), none, none], [], qp_mk I2 J2)) (cf := (31, [some (.ref 0), some (.int p1), some (.int v1), some (.int v2), none, none], [], qp_mk I2 J2)) (by with_unfolding_all rfl) (fun h2 => ?_) (fun h2 => ?_)
    · replace h := qp_ift h2 h
      refine qp_run_E qp_ok87 2 (c' := (39, [some (.ref 0), some (.int p1), some (.int v1), some (.int v2), none, none], [.int 5, .ref 0], qp_mk I2 J2)) (by with_unfolding_all rfl) hd1 trivial ?_
      obtain ⟨v3, I3, J3, e3, h⟩ := qp_bd_s h
      refine qp_cV qp_ok87 (rest := []) (oj := 0) qp_f14 rfl rfl (gX_found l G 5 I2 J2 e3 (Nat.le_refl 1)) rfl rfl rfl rfl (Nat.le_trans (by decide) hd) ?_
      obtain ⟨rfl, rfl, rfl⟩ := qp_some3 h
      exact qp_retI_E qp_ok87 rfl qp_r87.1 ⟨rfl, rfl⟩ ⟨rfl, rfl⟩
    · replace h := qp_iff h2 h
      refine qp_run_E qp_ok87 2 (c' := (34, [some (.ref 0), some (.int p1), some (.int v1), some (.int v2), none, none], [.int 16, .int v2], qp_mk I2 J2)) (by with_unfolding_all rfl) hd1 trivial ?_
      refine qp_br_E qp_ok87 (f := v2 ≤ 16) (ct := (43, [some (.ref 0), some (.int p1), some (.int v1), some (.int v2), none, none], [], qp_mk I2 J2)) (cf := (37, [some (.ref 0), some (.int p1), some (.int v1), some (.int v2), none, none], [], qp_mk I2 J2)) (by with_unfolding_all rfl) (fun h3 => ?_) (fun h3 => ?_)
      · replace h := qp_ift h3 h
        refine qp_run_E qp_ok87 2 (c' := (46, [some (.ref 0), some (.int p1), some (.int v1), some (.int v2), some (.int 0), none], [], qp_mk I2 J2)) (by with_unfolding_all rfl) hd1 trivial ?_
        exact qp_E_fg [true, true, false, true, true, false] (gX_refusalOfPairs_b46 hd 100000 p1 v2 0 I2 J2 h)
      · replace h := qp_iff h3 h
        refine qp_run_E qp_ok87 2 (c' := (39, [some (.ref 0), some (.int p1), some (.int v1), some (.int v2), none, none], [.int 5, .ref 0], qp_mk I2 J2)) (by with_unfolding_all rfl) hd1 trivial ?_
        obtain ⟨v4, I4, J4, e4, h⟩ := qp_bd_s h
        refine qp_cV qp_ok87 (rest := []) (oj := 0) qp_f14 rfl rfl (gX_found l G 5 I2 J2 e4 (Nat.le_refl 1)) rfl rfl rfl rfl (Nat.le_trans (by decide) hd) ?_
        obtain ⟨rfl, rfl, rfl⟩ := qp_some3 h
        exact qp_retI_E qp_ok87 rfl qp_r87.1 ⟨rfl, rfl⟩ ⟨rfl, rfl⟩
  · replace h := qp_iff h1 h
    refine qp_run_E qp_ok87 1 (c' := (15, [some (.ref 0), some (.int p1), some (.int v1), none, none, none], [.int v1], qp_mk I1 J1)) (by with_unfolding_all rfl) hd1 trivial ?_
    obtain ⟨rfl, rfl, rfl⟩ := qp_some3 h
    exact qp_retI_E qp_ok87 rfl qp_r87.1 ⟨rfl, rfl⟩ ⟨rfl, rfl⟩
def fO_forget_b35  : Nat → Int32 → (Nat → Nat → Int32) → (Nat → Nat → Int64) → Option (Unit × (Nat → Nat → Int32) × (Nat → Nat → Int64))
  | 0, _, _, _ => none
  | n + 1, a1, I, J =>
    if 24 ≤ a1 then (
      some ((), I, J)
    ) else (
      qp_gd ((0 ≤ a1 ∧ a1 < 24)) <|
      fO_forget_b35 n (a1 + 1) (qp_up I 32 (Int32.toNatClampNeg a1) 0) J
    )
set_option maxRecDepth 8000 in
theorem gO_forget_b35 {l : Launch} {G : qp_G} {d : Nat} (hd : 1 ≤ d) {r : (Unit × (Nat → Nat → Int32) × (Nat → Nat → Int64))} {I0 : Nat → Nat → Int32} {J0 : Nat → Nat → Int64}   : ∀ (n : Nat) (a1 : Int32) (I : Nat → Nat → Int32) (J : Nat → Nat → Int64), fO_forget_b35  n a1 I J = some r → qp_E l G d 89 (qp_mk I0 J0) 0 0 (qp_R8 none r.2.1 r.2.2) (35, [some (.ref 29), some (.int a1)], [], qp_mk I J) := by
  have hd1 : Nat.ble 1 d = true := Nat.ble_eq_true_of_le (Nat.le_trans (by decide) hd)
  intro n
  induction n with
  | zero => intro a1 I J h; exact absurd h (by simp [fO_forget_b35])
  | succ n ih =>
    intro a1 I J h
    rw [fO_forget_b35] at h
    refine qp_run_E qp_ok89 4 (c' := (41, [some (.ref 29), some (.int a1)], [.int 24, .int a1], qp_mk I J)) (by with_unfolding_all rfl) hd1 trivial ?_
    refine qp_br_E qp_ok89 (f := 24 ≤ a1) (ct := (57, [some (.ref 29), some (.int a1)], [], qp_mk I J)) (cf := (44, [some (.ref 29), some (.int a1)], [], qp_mk I J)) (by with_unfolding_all rfl) (fun h1 => ?_) (fun h1 => ?_)
    · replace h := qp_ift h1 h
      obtain rfl := Option.some.inj h
      exact qp_retV_E qp_ok89 rfl qp_r89.1 ⟨rfl, rfl⟩ ⟨rfl, rfl⟩
    · replace h := qp_iff h1 h
      obtain ⟨h2, h⟩ := qp_gd_s h
      refine qp_run_E qp_ok89 7 (f := vp_in a1 24 ∧ True) (c' := (35, [some (.ref 29), some (.int (a1 + 1))], [], qp_mk (qp_up I 32 (Int32.toNatClampNeg a1) 0) J)) (by with_unfolding_all rfl) hd1 ⟨(qp_vin (c := 24) (by decide) h2.1 h2.2), trivial⟩ ?_
      exact ih (a1 + 1) (qp_up I 32 (Int32.toNatClampNeg a1) 0) J h
def fO_forget_b7  : Nat → Int32 → (Nat → Nat → Int32) → (Nat → Nat → Int64) → Option (Unit × (Nat → Nat → Int32) × (Nat → Nat → Int64))
  | 0, _, _, _ => none
  | n + 1, a1, I, J =>
    if 6 ≤ a1 then (
      fO_forget_b35 100000 0 I J
    ) else (
      qp_gd ((0 ≤ a1 ∧ a1 < 6)) <|
      fO_forget_b7 n (a1 + 1) (qp_up (qp_up I 30 (Int32.toNatClampNeg a1) (-1)) 31 (Int32.toNatClampNeg a1) 0) J
    )
set_option maxRecDepth 8000 in
theorem gO_forget_b7 {l : Launch} {G : qp_G} {d : Nat} (hd : 1 ≤ d) {r : (Unit × (Nat → Nat → Int32) × (Nat → Nat → Int64))} {I0 : Nat → Nat → Int32} {J0 : Nat → Nat → Int64}   : ∀ (n : Nat) (a1 : Int32) (I : Nat → Nat → Int32) (J : Nat → Nat → Int64), fO_forget_b7  n a1 I J = some r → qp_E l G d 89 (qp_mk I0 J0) 0 0 (qp_R8 none r.2.1 r.2.2) (7, [some (.ref 29), some (.int a1)], [], qp_mk I J) := by
  have hd1 : Nat.ble 1 d = true := Nat.ble_eq_true_of_le (Nat.le_trans (by decide) hd)
  intro n
  induction n with
  | zero => intro a1 I J h; exact absurd h (by simp [fO_forget_b7])
  | succ n ih =>
    intro a1 I J h
    rw [fO_forget_b7] at h
    refine qp_run_E qp_ok89 2 (c' := (10, [some (.ref 29), some (.int a1)], [.int 6, .int a1], qp_mk I J)) (by with_unfolding_all rfl) hd1 trivial ?_
    refine qp_br_E qp_ok89 (f := 6 ≤ a1) (ct := (33, [some (.ref 29), some (.int a1)], [], qp_mk I J)) (cf := (13, [some (.ref 29), some (.int a1)], [], qp_mk I J)) (by with_unfolding_all rfl) (fun h1 => ?_) (fun h1 => ?_)
    · replace h := qp_ift h1 h
      refine qp_run_E qp_ok89 2 (c' := (35, [some (.ref 29), some (.int 0)], [], qp_mk I J)) (by with_unfolding_all rfl) hd1 trivial ?_
      exact gO_forget_b35 hd 100000 0 I J h
    · replace h := qp_iff h1 h
      obtain ⟨h2, h⟩ := qp_gd_s h
      refine qp_run_E qp_ok89 12 (f := vp_in a1 6 ∧ vp_in a1 6 ∧ True) (c' := (7, [some (.ref 29), some (.int (a1 + 1))], [], qp_mk (qp_up (qp_up I 30 (Int32.toNatClampNeg a1) (-1)) 31 (Int32.toNatClampNeg a1) 0) J)) (by with_unfolding_all rfl) hd1 ⟨(qp_vin (c := 6) (by decide) h2.1 h2.2), (qp_vin (c := 6) (by decide) h2.1 h2.2), trivial⟩ ?_
      exact ih (a1 + 1) (qp_up (qp_up I 30 (Int32.toNatClampNeg a1) (-1)) 31 (Int32.toNatClampNeg a1) 0) J h
def fO_forget  (I : Nat → Nat → Int32) (J : Nat → Nat → Int64) : Option (Unit × (Nat → Nat → Int32) × (Nat → Nat → Int64)) :=
  fO_forget_b7 100000 0 (qp_up I 29 0 0) J
set_option maxRecDepth 8000 in
theorem gO_forget (l : Launch) (G : qp_G)  (I : Nat → Nat → Int32) (J : Nat → Nat → Int64) {v : Unit} {I' : Nat → Nat → Int32} {J' : Nat → Nat → Int64} (h : fO_forget  I J = some (v, I', J')) {d : Nat} (hd : 1 ≤ d) : qp_Met l G d 89 [.ref 29] (qp_mk I J) 0 0 (qp_R8 none I' J') := by
  have hd1 : Nat.ble 1 d = true := Nat.ble_eq_true_of_le (Nat.le_trans (by decide) hd)
  refine qp_Met_of (by decide) (by rw [qp_r89.2]; rfl) [some (.ref 29), none] (by rw [qp_r89.2]; rfl) ?_
  unfold fO_forget at h
  refine qp_run_E qp_ok89 5 (c' := (7, [some (.ref 29), some (.int 0)], [], qp_mk (qp_up I 29 0 0) J)) (by with_unfolding_all rfl) hd1 trivial ?_
  exact gO_forget_b7 hd 100000 0 (qp_up I 29 0 0) J h
def fO_tallyOne_b84  : Nat → Int32 → Int32 → Int32 → (Nat → Nat → Int32) → (Nat → Nat → Int64) → Option (Unit × (Nat → Nat → Int32) × (Nat → Nat → Int64))
  | 0, _, _, _, _, _ => none
  | n + 1, a1, a2, a3, I, J =>
    if a2 ≤ a3 then (
      some ((), I, J)
    ) else (
      if 6 ≤ a3 then (
        some ((), I, J)
      ) else (
        qp_gd ((0 ≤ a3 ∧ a3 < 6)) <|
        qp_bd (fD_whoAt a1 a3 I J) fun v1 I1 J1 =>
        qp_gd ((0 ≤ a3 ∧ a3 < 6)) <|
        qp_bd (fV_gainOf a3 (qp_up I1 31 (Int32.toNatClampNeg a3) ((I 31 (Int32.toNatClampNeg a3)) ||| ((1 : Int32) <<< (v1 &&& 31)))) J1) fun v2 I2 J2 =>
        if ((a3 * 4) + v2) < 0 then (
          fO_tallyOne_b84 n a1 a2 (a3 + 1) I2 J2
        ) else (
          if 24 ≤ ((a3 * 4) + v2) then (
            fO_tallyOne_b84 n a1 a2 (a3 + 1) I2 J2
          ) else (
            qp_gd ((0 ≤ ((a3 * 4) + v2) ∧ ((a3 * 4) + v2) < 24)) <|
            fO_tallyOne_b84 n a1 a2 (a3 + 1) (qp_up I2 32 (Int32.toNatClampNeg ((a3 * 4) + v2)) ((I2 32 (Int32.toNatClampNeg ((a3 * 4) + v2))) + 1)) J2
          )
        )
      )
    )
set_option maxRecDepth 8000 in
theorem gO_tallyOne_b84 {l : Launch} {G : qp_G} {d : Nat} (hd : 5 ≤ d) {r : (Unit × (Nat → Nat → Int32) × (Nat → Nat → Int64))} {I0 : Nat → Nat → Int32} {J0 : Nat → Nat → Int64}   : ∀ (n : Nat) (a1 : Int32) (a2 : Int32) (a3 : Int32) (I : Nat → Nat → Int32) (J : Nat → Nat → Int64), fO_tallyOne_b84  n a1 a2 a3 I J = some r → qp_E l G d 92 (qp_mk I0 J0) 0 0 (qp_R8 none r.2.1 r.2.2) (84, [some (.ref 29), some (.int a1), some (.int a2), some (.int a3), none], [], qp_mk I J) := by
  have hd1 : Nat.ble 1 d = true := Nat.ble_eq_true_of_le (Nat.le_trans (by decide) hd)
  intro n
  induction n with
  | zero => intro a1 a2 a3 I J h; exact absurd h (by simp [fO_tallyOne_b84])
  | succ n ih =>
    intro a1 a2 a3 I J h
    rw [fO_tallyOne_b84] at h
    refine qp_run_E qp_ok92 2 (c' := (86, [some (.ref 29), some (.int a1), some (.int a2), some (.int a3), none], [.int a2, .int a3], qp_mk I J)) (by with_unfolding_all rfl) hd1 trivial ?_
    refine qp_br_E qp_ok92 (f := a2 ≤ a3) (ct := (163, [some (.ref 29), some (.int a1), some (.int a2), some (.int a3), none], [], qp_mk I J)) (cf := (89, [some (.ref 29), some (.int a1), some (.int a2), some (.int a3), none], [], qp_mk I J)) (by with_unfolding_all rfl) (fun h1 => ?_) (fun h1 => ?_)
    · replace h := qp_ift h1 h
      obtain rfl := Option.some.inj h
      exact qp_retV_E qp_ok92 rfl qp_r92.1 ⟨rfl, rfl⟩ ⟨rfl, rfl⟩
    · replace h := qp_iff h1 h
      refine qp_run_E qp_ok92 4 (c' := (95, [some (.ref 29), some (.int a1), some (.int a2), some (.int a3), none], [.int 6, .int a3], qp_mk I J)) (by with_unfolding_all rfl) hd1 trivial ?_
      refine qp_br_E qp_ok92 (f := 6 ≤ a3) (ct := (163, [some (.ref 29), some (.int a1), some (.int a2), some (.int a3), none], [], qp_mk I J)) (cf := (98, [some (.ref 29), some (.int a1), some (.int a2), some (.int a3), none], [], qp_mk I J)) (by with_unfolding_all rfl) (fun h2 => ?_) (fun h2 => ?_)
      · replace h := qp_ift h2 h
        obtain rfl := Option.some.inj h
        exact qp_retV_E qp_ok92 rfl qp_r92.1 ⟨rfl, rfl⟩ ⟨rfl, rfl⟩
      · replace h := qp_iff h2 h
        obtain ⟨h3, h⟩ := qp_gd_s h
        refine qp_run_E qp_ok92 8 (f := vp_in a3 6 ∧ True) (c' := (108, [some (.ref 29), some (.int a1), some (.int a2), some (.int a3), none], [.int a3, .int a1, .int 1, .int (I 31 (Int32.toNatClampNeg a3)), .int a3, .ref 31], qp_mk I J)) (by with_unfolding_all rfl) hd1 ⟨(qp_vin (c := 6) (by decide) h3.1 h3.2), trivial⟩ ?_
        obtain ⟨v1, I1, J1, e1, h⟩ := qp_bd_s h
        refine qp_cS qp_ok92 (rest := [.int 1, .int (I 31 (Int32.toNatClampNeg a3)), .int a3, .ref 31]) (oj := 10) qp_f47 rfl rfl (gD_whoAt l G a1 a3 I J e1 (Nat.le_refl 1)) rfl rfl rfl (Nat.le_trans (by decide) hd) ?_
        obtain ⟨h4, h⟩ := qp_gd_s h
        refine qp_run_E qp_ok92 10 (f := vp_in a3 6 ∧ True) (c' := (125, [some (.ref 29), some (.int a1), some (.int a2), some (.int a3), none], [.int a3, .ref 18, .int (a3 * 4)], qp_mk (qp_up I1 31 (Int32.toNatClampNeg a3) ((I 31 (Int32.toNatClampNeg a3)) ||| ((1 : Int32) <<< (v1 &&& 31)))) J1)) (by with_unfolding_all rfl) hd1 ⟨(qp_vin (c := 6) (by decide) h4.1 h4.2), trivial⟩ ?_
        obtain ⟨v2, I2, J2, e2, h⟩ := qp_bd_s h
        refine qp_cV qp_ok92 (rest := [.int (a3 * 4)]) (oj := 5) qp_f72 rfl rfl (gV_gainOf l G a3 (qp_up I1 31 (Int32.toNatClampNeg a3) ((I 31 (Int32.toNatClampNeg a3)) ||| ((1 : Int32) <<< (v1 &&& 31)))) J1 e2 (Nat.le_refl 1)) rfl rfl rfl rfl (Nat.le_trans (by decide) hd) ?_
        refine qp_run_E qp_ok92 3 (c' := (133, [some (.ref 29), some (.int a1), some (.int a2), some (.int a3), some (.int ((a3 * 4) + v2))], [.int ((a3 * 4) + v2)], qp_mk I2 J2)) (by with_unfolding_all rfl) hd1 trivial ?_
        refine qp_br_E qp_ok92 (f := ((a3 * 4) + v2) < 0) (ct := (157, [some (.ref 29), some (.int a1), some (.int a2), some (.int a3), some (.int ((a3 * 4) + v2))], [], qp_mk I2 J2)) (cf := (136, [some (.ref 29), some (.int a1), some (.int a2), some (.int a3), some (.int ((a3 * 4) + v2))], [], qp_mk I2 J2)) (by with_unfolding_all rfl) (fun h5 => ?_) (fun h5 => ?_)
        · replace h := qp_ift h5 h
          refine qp_run_E qp_ok92 2 (c' := (84, [some (.ref 29), some (.int a1), some (.int a2), some (.int (a3 + 1)), some (.int ((a3 * 4) + v2))], [], qp_mk I2 J2)) (by with_unfolding_all rfl) hd1 trivial ?_
          exact qp_E_fg [true, true, true, true, false] (ih a1 a2 (a3 + 1) I2 J2 h)
        · replace h := qp_iff h5 h
          refine qp_run_E qp_ok92 4 (c' := (143, [some (.ref 29), some (.int a1), some (.int a2), some (.int a3), some (.int ((a3 * 4) + v2))], [.int 24, .int ((a3 * 4) + v2)], qp_mk I2 J2)) (by with_unfolding_all rfl) hd1 trivial ?_
          refine qp_br_E qp_ok92 (f := 24 ≤ ((a3 * 4) + v2)) (ct := (157, [some (.ref 29), some (.int a1), some (.int a2), some (.int a3), some (.int ((a3 * 4) + v2))], [], qp_mk I2 J2)) (cf := (146, [some (.ref 29), some (.int a1), some (.int a2), some (.int a3), some (.int ((a3 * 4) + v2))], [], qp_mk I2 J2)) (by with_unfolding_all rfl) (fun h6 => ?_) (fun h6 => ?_)
          · replace h := qp_ift h6 h
            refine qp_run_E qp_ok92 2 (c' := (84, [some (.ref 29), some (.int a1), some (.int a2), some (.int (a3 + 1)), some (.int ((a3 * 4) + v2))], [], qp_mk I2 J2)) (by with_unfolding_all rfl) hd1 trivial ?_
            exact qp_E_fg [true, true, true, true, false] (ih a1 a2 (a3 + 1) I2 J2 h)
          · replace h := qp_iff h6 h
            obtain ⟨h7, h⟩ := qp_gd_s h
            refine qp_run_E qp_ok92 10 (f := vp_in ((a3 * 4) + v2) 24 ∧ vp_in ((a3 * 4) + v2) 24 ∧ True) (c' := (84, [some (.ref 29), some (.int a1), some (.int a2), some (.int (a3 + 1)), some (.int ((a3 * 4) + v2))], [], qp_mk (qp_up I2 32 (Int32.toNatClampNeg ((a3 * 4) + v2)) ((I2 32 (Int32.toNatClampNeg ((a3 * 4) + v2))) + 1)) J2)) (by with_unfolding_all rfl) hd1 ⟨(qp_vin (c := 24) (by decide) h7.1 h7.2), (qp_vin (c := 24) (by decide) h7.1 h7.2), trivial⟩ ?_
            exact qp_E_fg [true, true, true, true, false] (ih a1 a2 (a3 + 1) (qp_up I2 32 (Int32.toNatClampNeg ((a3 * 4) + v2)) ((I2 32 (Int32.toNatClampNeg ((a3 * 4) + v2))) + 1)) J2 h)
def fO_tallyOne_b21  : Nat → Int32 → Int32 → Int32 → (Nat → Nat → Int32) → (Nat → Nat → Int64) → Option (Unit × (Nat → Nat → Int32) × (Nat → Nat → Int64))
  | 0, _, _, _, _, _ => none
  | n + 1, a1, a2, a3, I, J =>
    if a2 ≤ a3 then (
      fO_tallyOne_b84 100000 a1 a2 0 (qp_up I 29 0 ((I 29 0) + 1)) J
    ) else (
      if 6 ≤ a3 then (
        fO_tallyOne_b84 100000 a1 a2 0 (qp_up I 29 0 ((I 29 0) + 1)) J
      ) else (
        qp_gd ((0 ≤ a3 ∧ a3 < 6)) <|
        if (I 30 (Int32.toNatClampNeg a3)) = (-1) then (
          fO_tallyOne_b21 n a1 a2 (a3 + 1) I J
        ) else (
          qp_gd ((0 ≤ a3 ∧ a3 < 6)) <|
          qp_bd (fV_gainOf a3 I J) fun v1 I1 J1 =>
          if (I 30 (Int32.toNatClampNeg a3)) = v1 then (
            fO_tallyOne_b21 n a1 a2 (a3 + 1) I1 J1
          ) else (
            some ((), I1, J1)
          )
        )
      )
    )
set_option maxRecDepth 8000 in
theorem gO_tallyOne_b21 {l : Launch} {G : qp_G} {d : Nat} (hd : 5 ≤ d) {r : (Unit × (Nat → Nat → Int32) × (Nat → Nat → Int64))} {I0 : Nat → Nat → Int32} {J0 : Nat → Nat → Int64}   : ∀ (n : Nat) (a1 : Int32) (a2 : Int32) (a3 : Int32) (I : Nat → Nat → Int32) (J : Nat → Nat → Int64), fO_tallyOne_b21  n a1 a2 a3 I J = some r → qp_E l G d 92 (qp_mk I0 J0) 0 0 (qp_R8 none r.2.1 r.2.2) (21, [some (.ref 29), some (.int a1), some (.int a2), some (.int a3), none], [], qp_mk I J) := by
  have hd1 : Nat.ble 1 d = true := Nat.ble_eq_true_of_le (Nat.le_trans (by decide) hd)
  intro n
  induction n with
  | zero => intro a1 a2 a3 I J h; exact absurd h (by simp [fO_tallyOne_b21])
  | succ n ih =>
    intro a1 a2 a3 I J h
    rw [fO_tallyOne_b21] at h
    refine qp_run_E qp_ok92 2 (c' := (23, [some (.ref 29), some (.int a1), some (.int a2), some (.int a3), none], [.int a2, .int a3], qp_mk I J)) (by with_unfolding_all rfl) hd1 trivial ?_
    refine qp_br_E qp_ok92 (f := a2 ≤ a3) (ct := (72, [some (.ref 29), some (.int a1), some (.int a2), some (.int a3), none], [], qp_mk I J)) (cf := (26, [some (.ref 29), some (.int a1), some (.int a2), some (.int a3), none], [], qp_mk I J)) (by with_unfolding_all rfl) (fun h1 => ?_) (fun h1 => ?_)
    · replace h := qp_ift h1 h
      refine qp_run_E qp_ok92 8 (c' := (84, [some (.ref 29), some (.int a1), some (.int a2), some (.int 0), none], [], qp_mk (qp_up I 29 0 ((I 29 0) + 1)) J)) (by with_unfolding_all rfl) hd1 trivial ?_
      exact gO_tallyOne_b84 hd 100000 a1 a2 0 (qp_up I 29 0 ((I 29 0) + 1)) J h
    · replace h := qp_iff h1 h
      refine qp_run_E qp_ok92 4 (c' := (32, [some (.ref 29), some (.int a1), some (.int a2), some (.int a3), none], [.int 6, .int a3], qp_mk I J)) (by with_unfolding_all rfl) hd1 trivial ?_
      refine qp_br_E qp_ok92 (f := 6 ≤ a3) (ct := (72, [some (.ref 29), some (.int a1), some (.int a2), some (.int a3), none], [], qp_mk I J)) (cf := (35, [some (.ref 29), some (.int a1), some (.int a2), some (.int a3), none], [], qp_mk I J)) (by with_unfolding_all rfl) (fun h2 => ?_) (fun h2 => ?_)
      · replace h := qp_ift h2 h
        refine qp_run_E qp_ok92 8 (c' := (84, [some (.ref 29), some (.int a1), some (.int a2), some (.int 0), none], [], qp_mk (qp_up I 29 0 ((I 29 0) + 1)) J)) (by with_unfolding_all rfl) hd1 trivial ?_
        exact gO_tallyOne_b84 hd 100000 a1 a2 0 (qp_up I 29 0 ((I 29 0) + 1)) J h
      · replace h := qp_iff h2 h
        obtain ⟨h3, h⟩ := qp_gd_s h
        refine qp_run_E qp_ok92 5 (f := vp_in a3 6 ∧ True) (c' := (42, [some (.ref 29), some (.int a1), some (.int a2), some (.int a3), none], [.int (-1), .int (I 30 (Int32.toNatClampNeg a3))], qp_mk I J)) (by with_unfolding_all rfl) hd1 ⟨(qp_vin (c := 6) (by decide) h3.1 h3.2), trivial⟩ ?_
        refine qp_br_E qp_ok92 (f := (I 30 (Int32.toNatClampNeg a3)) = (-1)) (ct := (66, [some (.ref 29), some (.int a1), some (.int a2), some (.int a3), none], [], qp_mk I J)) (cf := (45, [some (.ref 29), some (.int a1), some (.int a2), some (.int a3), none], [], qp_mk I J)) (by with_unfolding_all rfl) (fun h4 => ?_) (fun h4 => ?_)
        · replace h := qp_ift h4 h
          refine qp_run_E qp_ok92 2 (c' := (21, [some (.ref 29), some (.int a1), some (.int a2), some (.int (a3 + 1)), none], [], qp_mk I J)) (by with_unfolding_all rfl) hd1 trivial ?_
          exact ih a1 a2 (a3 + 1) I J h
        · replace h := qp_iff h4 h
          obtain ⟨h5, h⟩ := qp_gd_s h
          refine qp_run_E qp_ok92 8 (f := vp_in a3 6 ∧ True) (c' := (59, [some (.ref 29), some (.int a1), some (.int a2), some (.int a3), none], [.int a3, .ref 18, .int (I 30 (Int32.toNatClampNeg a3))], qp_mk I J)) (by with_unfolding_all rfl) hd1 ⟨(qp_vin (c := 6) (by decide) h5.1 h5.2), trivial⟩ ?_
          obtain ⟨v1, I1, J1, e1, h⟩ := qp_bd_s h
          refine qp_cV qp_ok92 (rest := [.int (I 30 (Int32.toNatClampNeg a3))]) (oj := 5) qp_f72 rfl rfl (gV_gainOf l G a3 I J e1 (Nat.le_refl 1)) rfl rfl rfl rfl (Nat.le_trans (by decide) hd) ?_
          refine qp_br_E qp_ok92 (f := (I 30 (Int32.toNatClampNeg a3)) = v1) (ct := (66, [some (.ref 29), some (.int a1), some (.int a2), some (.int a3), none], [], qp_mk I1 J1)) (cf := (65, [some (.ref 29), some (.int a1), some (.int a2), some (.int a3), none], [], qp_mk I1 J1)) (by with_unfolding_all rfl) (fun h6 => ?_) (fun h6 => ?_)
          · replace h := qp_ift h6 h
            refine qp_run_E qp_ok92 2 (c' := (21, [some (.ref 29), some (.int a1), some (.int a2), some (.int (a3 + 1)), none], [], qp_mk I1 J1)) (by with_unfolding_all rfl) hd1 trivial ?_
            exact ih a1 a2 (a3 + 1) I1 J1 h
          · replace h := qp_iff h6 h
            obtain rfl := Option.some.inj h
            exact qp_retV_E qp_ok92 rfl qp_r92.1 ⟨rfl, rfl⟩ ⟨rfl, rfl⟩
def fO_tallyOne (p1 : Int32) (I : Nat → Nat → Int32) (J : Nat → Nat → Int64) : Option (Unit × (Nat → Nat → Int32) × (Nat → Nat → Int64)) :=
  qp_bd (fL_serve p1 I J) fun _u I1 J1 =>
  fO_tallyOne_b21 100000 p1 (I1 15 0) 0 I1 J1
set_option maxRecDepth 8000 in
theorem gO_tallyOne (l : Launch) (G : qp_G) (p1 : Int32) (I : Nat → Nat → Int32) (J : Nat → Nat → Int64) {v : Unit} {I' : Nat → Nat → Int32} {J' : Nat → Nat → Int64} (h : fO_tallyOne p1 I J = some (v, I', J')) {d : Nat} (hd : 5 ≤ d) : qp_Met l G d 92 [.ref 29, .int p1] (qp_mk I J) 0 0 (qp_R8 none I' J') := by
  have hd1 : Nat.ble 1 d = true := Nat.ble_eq_true_of_le (Nat.le_trans (by decide) hd)
  refine qp_Met_of (by decide) (by rw [qp_r92.2]; rfl) [some (.ref 29), some (.int p1), none, none, none] (by rw [qp_r92.2]; rfl) ?_
  unfold fO_tallyOne at h
  refine qp_run_E qp_ok92 3 (c' := (5, [some (.ref 29), some (.int p1), none, none, none], [.int p1, .ref 14], qp_mk I J)) (by with_unfolding_all rfl) hd1 trivial ?_
  obtain ⟨v1, I1, J1, e1, h⟩ := qp_bd_s h
  refine qp_cV qp_ok92 (rest := []) (oj := 4) qp_f67 rfl rfl (gL_serve l G p1 I J e1 (Nat.le_refl 4)) rfl rfl rfl rfl (Nat.le_trans (by decide) hd) ?_
  refine qp_run_E qp_ok92 7 (c' := (21, [some (.ref 29), some (.int p1), some (.int (I1 15 0)), some (.int 0), none], [], qp_mk I1 J1)) (by with_unfolding_all rfl) hd1 trivial ?_
  exact gO_tallyOne_b21 hd 100000 p1 (I1 15 0) 0 I1 J1 h
def fO_extend_b27 (rec : Int32 → Int32 → Int32 → (Nat → Nat → Int32) → (Nat → Nat → Int64) → Option (Unit × (Nat → Nat → Int32) × (Nat → Nat → Int64))) : Nat → Int32 → Int32 → Int32 → Int32 → Int32 → (Nat → Nat → Int32) → (Nat → Nat → Int64) → Option (Unit × (Nat → Nat → Int32) × (Nat → Nat → Int64))
  | 0, _, _, _, _, _, _, _ => none
  | n + 1, a1, a2, a3, a4, a5, I, J =>
    if a4 ≤ a5 then (
      some ((), I, J)
    ) else (
      if ¬ ((a3 >>> (a5 &&& 31)) &&& 1) = 0 then (
        fO_extend_b27 rec n a1 a2 a3 a4 (a5 + 1) I J
      ) else (
        qp_bd (fD_with a1 a2 a5 I J) fun v1 I1 J1 =>
        qp_bd (rec v1 (a2 + 1) (a3 ||| ((1 : Int32) <<< (a5 &&& 31))) I1 J1) fun _u I2 J2 =>
        fO_extend_b27 rec n a1 a2 a3 a4 (a5 + 1) I2 J2
      )
    )
set_option maxRecDepth 8000 in
theorem gO_extend_b27 {l : Launch} {G : qp_G} {d : Nat} (hd : 6 ≤ d) {r : (Unit × (Nat → Nat → Int32) × (Nat → Nat → Int64))} {I0 : Nat → Nat → Int32} {J0 : Nat → Nat → Int64} (rec : Int32 → Int32 → Int32 → (Nat → Nat → Int32) → (Nat → Nat → Int64) → Option (Unit × (Nat → Nat → Int32) × (Nat → Nat → Int64))) {d' : Nat} (hrec : ∀ p1 p2 p3 I J {v I' J'}, rec p1 p2 p3 I J = some (v, I', J') → qp_Met l G d' 91 [.ref 29, .int p1, .int p2, .int p3] (qp_mk I J) 0 0 (qp_R8 none I' J')) (hdr : d' + 1 ≤ d)  : ∀ (n : Nat) (a1 : Int32) (a2 : Int32) (a3 : Int32) (a4 : Int32) (a5 : Int32) (I : Nat → Nat → Int32) (J : Nat → Nat → Int64), fO_extend_b27 rec n a1 a2 a3 a4 a5 I J = some r → qp_E l G d 91 (qp_mk I0 J0) 0 0 (qp_R8 none r.2.1 r.2.2) (27, [some (.ref 29), some (.int a1), some (.int a2), some (.int a3), some (.int a4), some (.int a5)], [], qp_mk I J) := by
  have hd1 : Nat.ble 1 d = true := Nat.ble_eq_true_of_le (Nat.le_trans (by decide) hd)
  intro n
  induction n with
  | zero => intro a1 a2 a3 a4 a5 I J h; exact absurd h (by simp [fO_extend_b27])
  | succ n ih =>
    intro a1 a2 a3 a4 a5 I J h
    rw [fO_extend_b27] at h
    refine qp_run_E qp_ok91 2 (c' := (31, [some (.ref 29), some (.int a1), some (.int a2), some (.int a3), some (.int a4), some (.int a5)], [.int a4, .int a5], qp_mk I J)) (by with_unfolding_all rfl) hd1 trivial ?_
    refine qp_br_E qp_ok91 (f := a4 ≤ a5) (ct := (69, [some (.ref 29), some (.int a1), some (.int a2), some (.int a3), some (.int a4), some (.int a5)], [], qp_mk I J)) (cf := (34, [some (.ref 29), some (.int a1), some (.int a2), some (.int a3), some (.int a4), some (.int a5)], [], qp_mk I J)) (by with_unfolding_all rfl) (fun h1 => ?_) (fun h1 => ?_)
    · replace h := qp_ift h1 h
      obtain rfl := Option.some.inj h
      exact qp_retV_E qp_ok91 rfl qp_r91.1 ⟨rfl, rfl⟩ ⟨rfl, rfl⟩
    · replace h := qp_iff h1 h
      refine qp_run_E qp_ok91 5 (c' := (40, [some (.ref 29), some (.int a1), some (.int a2), some (.int a3), some (.int a4), some (.int a5)], [.int ((a3 >>> (a5 &&& 31)) &&& 1)], qp_mk I J)) (by with_unfolding_all rfl) hd1 trivial ?_
      refine qp_br_E qp_ok91 (f := ¬ ((a3 >>> (a5 &&& 31)) &&& 1) = 0) (ct := (63, [some (.ref 29), some (.int a1), some (.int a2), some (.int a3), some (.int a4), some (.int a5)], [], qp_mk I J)) (cf := (43, [some (.ref 29), some (.int a1), some (.int a2), some (.int a3), some (.int a4), some (.int a5)], [], qp_mk I J)) (by with_unfolding_all rfl) (fun h2 => ?_) (fun h2 => ?_)
      · replace h := qp_ift h2 h
        refine qp_run_E qp_ok91 2 (c' := (27, [some (.ref 29), some (.int a1), some (.int a2), some (.int a3), some (.int a4), some (.int (a5 + 1))], [], qp_mk I J)) (by with_unfolding_all rfl) hd1 trivial ?_
        exact ih a1 a2 a3 a4 (a5 + 1) I J h
      · replace h := qp_iff h2 h
        refine qp_run_E qp_ok91 4 (c' := (48, [some (.ref 29), some (.int a1), some (.int a2), some (.int a3), some (.int a4), some (.int a5)], [.int a5, .int a2, .int a1, .ref 29], qp_mk I J)) (by with_unfolding_all rfl) hd1 trivial ?_
        obtain ⟨v1, I1, J1, e1, h⟩ := qp_bd_s h
        refine qp_cS qp_ok91 (rest := [.ref 29]) (oj := 10) qp_f40 rfl rfl (gD_with l G a1 a2 a5 I J e1 (Nat.le_refl 1)) rfl rfl rfl (Nat.le_trans (by decide) hd) ?_
        refine qp_run_E qp_ok91 8 (c' := (60, [some (.ref 29), some (.int a1), some (.int a2), some (.int a3), some (.int a4), some (.int a5)], [.int (a3 ||| ((1 : Int32) <<< (a5 &&& 31))), .int (a2 + 1), .int v1, .ref 29], qp_mk I1 J1)) (by with_unfolding_all rfl) hd1 trivial ?_
        obtain ⟨v2, I2, J2, e2, h⟩ := qp_bd_s h
        refine qp_cS qp_ok91 (rest := []) (oj := 7) qp_f91 rfl rfl (hrec v1 (a2 + 1) (a3 ||| ((1 : Int32) <<< (a5 &&& 31))) I1 J1 e2) rfl rfl rfl hdr ?_
        refine qp_run_E qp_ok91 2 (c' := (27, [some (.ref 29), some (.int a1), some (.int a2), some (.int a3), some (.int a4), some (.int (a5 + 1))], [], qp_mk I2 J2)) (by with_unfolding_all rfl) hd1 trivial ?_
        exact ih a1 a2 a3 a4 (a5 + 1) I2 J2 h
def fO_extend_b0 (rec : Int32 → Int32 → Int32 → (Nat → Nat → Int32) → (Nat → Nat → Int64) → Option (Unit × (Nat → Nat → Int32) × (Nat → Nat → Int64)))  (a1 : Int32) (a2 : Int32) (a3 : Int32) (I : Nat → Nat → Int32) (J : Nat → Nat → Int64) : Option (Unit × (Nat → Nat → Int32) × (Nat → Nat → Int64)) :=
  if a2 < (I 15 0) then (
    fO_extend_b27 rec 100000 a1 a2 a3 (I 15 0) 0 I J
  ) else (
    qp_bd (fO_tallyOne a1 I J) fun _u I1 J1 =>
    some ((), I1, J1)
  )
set_option maxRecDepth 8000 in
theorem gO_extend_b0 {l : Launch} {G : qp_G} {d : Nat} (hd : 6 ≤ d) {r : (Unit × (Nat → Nat → Int32) × (Nat → Nat → Int64))} {I0 : Nat → Nat → Int32} {J0 : Nat → Nat → Int64} (rec : Int32 → Int32 → Int32 → (Nat → Nat → Int32) → (Nat → Nat → Int64) → Option (Unit × (Nat → Nat → Int32) × (Nat → Nat → Int64))) {d' : Nat} (hrec : ∀ p1 p2 p3 I J {v I' J'}, rec p1 p2 p3 I J = some (v, I', J') → qp_Met l G d' 91 [.ref 29, .int p1, .int p2, .int p3] (qp_mk I J) 0 0 (qp_R8 none I' J')) (hdr : d' + 1 ≤ d)  : ∀ (a1 : Int32) (a2 : Int32) (a3 : Int32) (I : Nat → Nat → Int32) (J : Nat → Nat → Int64), fO_extend_b0 rec a1 a2 a3 I J = some r → qp_E l G d 91 (qp_mk I0 J0) 0 0 (qp_R8 none r.2.1 r.2.2) (0, [some (.ref 29), some (.int a1), some (.int a2), some (.int a3), none, none], [], qp_mk I J) := by
  have hd1 : Nat.ble 1 d = true := Nat.ble_eq_true_of_le (Nat.le_trans (by decide) hd)
  intro a1 a2 a3 I J h
  unfold fO_extend_b0 at h
  refine qp_run_E qp_ok91 7 (c' := (15, [some (.ref 29), some (.int a1), some (.int a2), some (.int a3), some (.int (I 15 0)), none], [.int (I 15 0), .int a2], qp_mk I J)) (by with_unfolding_all rfl) hd1 trivial ?_
  refine qp_br_E qp_ok91 (f := a2 < (I 15 0)) (ct := (24, [some (.ref 29), some (.int a1), some (.int a2), some (.int a3), some (.int (I 15 0)), none], [], qp_mk I J)) (cf := (18, [some (.ref 29), some (.int a1), some (.int a2), some (.int a3), some (.int (I 15 0)), none], [], qp_mk I J)) (by with_unfolding_all rfl) (fun h1 => ?_) (fun h1 => ?_)
  · replace h := qp_ift h1 h
    refine qp_run_E qp_ok91 2 (c' := (27, [some (.ref 29), some (.int a1), some (.int a2), some (.int a3), some (.int (I 15 0)), some (.int 0)], [], qp_mk I J)) (by with_unfolding_all rfl) hd1 trivial ?_
    exact gO_extend_b27 hd rec hrec hdr 100000 a1 a2 a3 (I 15 0) 0 I J h
  · replace h := qp_iff h1 h
    refine qp_run_E qp_ok91 2 (c' := (20, [some (.ref 29), some (.int a1), some (.int a2), some (.int a3), some (.int (I 15 0)), none], [.int a1, .ref 29], qp_mk I J)) (by with_unfolding_all rfl) hd1 trivial ?_
    obtain ⟨v1, I1, J1, e1, h⟩ := qp_bd_s h
    refine qp_cV qp_ok91 (rest := []) (oj := 7) qp_f92 rfl rfl (gO_tallyOne l G a1 I J e1 (Nat.le_refl 5)) rfl rfl rfl rfl (Nat.le_trans (by decide) hd) ?_
    obtain rfl := Option.some.inj h
    exact qp_retV_E qp_ok91 rfl qp_r91.1 ⟨rfl, rfl⟩ ⟨rfl, rfl⟩
def fO_extend : Nat → Int32 → Int32 → Int32 → (Nat → Nat → Int32) → (Nat → Nat → Int64) → Option (Unit × (Nat → Nat → Int32) × (Nat → Nat → Int64))
  | 0, _, _, _, _, _ => none
  | n + 1, p1, p2, p3, I, J => fO_extend_b0 (fO_extend n) p1 p2 p3 I J
set_option maxRecDepth 8000 in
theorem gO_extend (l : Launch) (G : qp_G) : ∀ (n : Nat) (p1 : Int32) (p2 : Int32) (p3 : Int32) (I : Nat → Nat → Int32) (J : Nat → Nat → Int64) {v : Unit} {I' : Nat → Nat → Int32} {J' : Nat → Nat → Int64} (h : fO_extend n p1 p2 p3 I J = some (v, I', J')) {d : Nat} (hd : 6 + n ≤ d), qp_Met l G d 91 [.ref 29, .int p1, .int p2, .int p3] (qp_mk I J) 0 0 (qp_R8 none I' J') := by
  intro n
  induction n with
  | zero => intro p1 p2 p3 I J v I' J' h d hd; exact absurd h (by simp [fO_extend])
  | succ n ih =>
    intro p1 p2 p3 I J v I' J' h d hd
    rw [fO_extend] at h
    refine qp_Met_of (by decide) (by rw [qp_r91.2]; rfl) [some (.ref 29), some (.int p1), some (.int p2), some (.int p3), none, none] (by rw [qp_r91.2]; rfl) ?_
    exact qp_E_fg [true, true, true, true, false, false] (gO_extend_b0 (d := d) (by omega) (r := (v, I', J')) (fO_extend n) (d' := 6 + n) (fun p1 p2 p3 I J _ _ _ h => ih p1 p2 p3 I J h (Nat.le_refl _)) (by omega) p1 p2 p3 I J h)
def fO_learn (p1 : Int32) (p2 : Int32) (I : Nat → Nat → Int32) (J : Nat → Nat → Int64) : Option (Unit × (Nat → Nat → Int32) × (Nat → Nat → Int64)) :=
  if p1 < 0 then (
    some ((), I, J)
  ) else (
    if 6 ≤ p1 then (
      some ((), I, J)
    ) else (
      qp_gd ((0 ≤ p1 ∧ p1 < 6)) <|
      if (I 30 (Int32.toNatClampNeg p1)) = (-1) then (
        qp_gd ((0 ≤ p1 ∧ p1 < 6)) <|
        some ((), (qp_up I 30 (Int32.toNatClampNeg p1) p2), J)
      ) else (
        qp_gd ((0 ≤ p1 ∧ p1 < 6)) <|
        if ¬ (I 30 (Int32.toNatClampNeg p1)) = p2 then (
          qp_gd ((0 ≤ p1 ∧ p1 < 6)) <|
          some ((), (qp_up I 30 (Int32.toNatClampNeg p1) (-2)), J)
        ) else (
          qp_gd ((0 ≤ p1 ∧ p1 < 6)) <|
          some ((), (qp_up I 30 (Int32.toNatClampNeg p1) p2), J)
        )
      )
    )
  )
set_option maxRecDepth 8000 in
theorem gO_learn (l : Launch) (G : qp_G) (p1 : Int32) (p2 : Int32) (I : Nat → Nat → Int32) (J : Nat → Nat → Int64) {v : Unit} {I' : Nat → Nat → Int32} {J' : Nat → Nat → Int64} (h : fO_learn p1 p2 I J = some (v, I', J')) {d : Nat} (hd : 1 ≤ d) : qp_Met l G d 90 [.ref 29, .int p1, .int p2] (qp_mk I J) 0 0 (qp_R8 none I' J') := by
  have hd1 : Nat.ble 1 d = true := Nat.ble_eq_true_of_le (Nat.le_trans (by decide) hd)
  refine qp_Met_of (by decide) (by rw [qp_r90.2]; rfl) [some (.ref 29), some (.int p1), some (.int p2)] (by rw [qp_r90.2]; rfl) ?_
  unfold fO_learn at h
  refine qp_run_E qp_ok90 1 (c' := (1, [some (.ref 29), some (.int p1), some (.int p2)], [.int p1], qp_mk I J)) (by with_unfolding_all rfl) hd1 trivial ?_
  refine qp_br_E qp_ok90 (f := p1 < 0) (ct := (45, [some (.ref 29), some (.int p1), some (.int p2)], [], qp_mk I J)) (cf := (4, [some (.ref 29), some (.int p1), some (.int p2)], [], qp_mk I J)) (by with_unfolding_all rfl) (fun h1 => ?_) (fun h1 => ?_)
  · replace h := qp_ift h1 h
    obtain ⟨rfl, rfl, rfl⟩ := qp_some3 h
    exact qp_retV_E qp_ok90 rfl qp_r90.1 ⟨rfl, rfl⟩ ⟨rfl, rfl⟩
  · replace h := qp_iff h1 h
    refine qp_run_E qp_ok90 4 (c' := (10, [some (.ref 29), some (.int p1), some (.int p2)], [.int 6, .int p1], qp_mk I J)) (by with_unfolding_all rfl) hd1 trivial ?_
    refine qp_br_E qp_ok90 (f := 6 ≤ p1) (ct := (45, [some (.ref 29), some (.int p1), some (.int p2)], [], qp_mk I J)) (cf := (13, [some (.ref 29), some (.int p1), some (.int p2)], [], qp_mk I J)) (by with_unfolding_all rfl) (fun h2 => ?_) (fun h2 => ?_)
    · replace h := qp_ift h2 h
      obtain ⟨rfl, rfl, rfl⟩ := qp_some3 h
      exact qp_retV_E qp_ok90 rfl qp_r90.1 ⟨rfl, rfl⟩ ⟨rfl, rfl⟩
    · replace h := qp_iff h2 h
      obtain ⟨h3, h⟩ := qp_gd_s h
      refine qp_run_E qp_ok90 8 (f := vp_in p1 6 ∧ True) (c' := (25, [some (.ref 29), some (.int p1), some (.int p2)], [.int (-1), .int (I 30 (Int32.toNatClampNeg p1)), .int p1, .ref 30], qp_mk I J)) (by with_unfolding_all rfl) hd1 ⟨(qp_vin (c := 6) (by decide) h3.1 h3.2), trivial⟩ ?_
      refine qp_br_E qp_ok90 (f := (I 30 (Int32.toNatClampNeg p1)) = (-1)) (ct := (38, [some (.ref 29), some (.int p1), some (.int p2)], [.int p1, .ref 30], qp_mk I J)) (cf := (28, [some (.ref 29), some (.int p1), some (.int p2)], [.int p1, .ref 30], qp_mk I J)) (by with_unfolding_all rfl) (fun h4 => ?_) (fun h4 => ?_)
      · replace h := qp_ift h4 h
        obtain ⟨h5, h⟩ := qp_gd_s h
        refine qp_run_E qp_ok90 3 (f := vp_in p1 6 ∧ True) (c' := (45, [some (.ref 29), some (.int p1), some (.int p2)], [], qp_mk (qp_up I 30 (Int32.toNatClampNeg p1) p2) J)) (by with_unfolding_all rfl) hd1 ⟨(qp_vin (c := 6) (by decide) h5.1 h5.2), trivial⟩ ?_
        obtain ⟨rfl, rfl, rfl⟩ := qp_some3 h
        exact qp_retV_E qp_ok90 rfl qp_r90.1 ⟨rfl, rfl⟩ ⟨rfl, rfl⟩
      · replace h := qp_iff h4 h
        obtain ⟨h6, h⟩ := qp_gd_s h
        refine qp_run_E qp_ok90 5 (f := vp_in p1 6 ∧ True) (c' := (35, [some (.ref 29), some (.int p1), some (.int p2)], [.int p2, .int (I 30 (Int32.toNatClampNeg p1)), .int p1, .ref 30], qp_mk I J)) (by with_unfolding_all rfl) hd1 ⟨(qp_vin (c := 6) (by decide) h6.1 h6.2), trivial⟩ ?_
        refine qp_br_E qp_ok90 (f := ¬ (I 30 (Int32.toNatClampNeg p1)) = p2) (ct := (42, [some (.ref 29), some (.int p1), some (.int p2)], [.int p1, .ref 30], qp_mk I J)) (cf := (38, [some (.ref 29), some (.int p1), some (.int p2)], [.int p1, .ref 30], qp_mk I J)) (by with_unfolding_all rfl) (fun h7 => ?_) (fun h7 => ?_)
        · replace h := qp_ift h7 h
          obtain ⟨h8, h⟩ := qp_gd_s h
          refine qp_run_E qp_ok90 2 (f := vp_in p1 6 ∧ True) (c' := (45, [some (.ref 29), some (.int p1), some (.int p2)], [], qp_mk (qp_up I 30 (Int32.toNatClampNeg p1) (-2)) J)) (by with_unfolding_all rfl) hd1 ⟨(qp_vin (c := 6) (by decide) h8.1 h8.2), trivial⟩ ?_
          obtain ⟨rfl, rfl, rfl⟩ := qp_some3 h
          exact qp_retV_E qp_ok90 rfl qp_r90.1 ⟨rfl, rfl⟩ ⟨rfl, rfl⟩
        · replace h := qp_iff h7 h
          obtain ⟨h9, h⟩ := qp_gd_s h
          refine qp_run_E qp_ok90 3 (f := vp_in p1 6 ∧ True) (c' := (45, [some (.ref 29), some (.int p1), some (.int p2)], [], qp_mk (qp_up I 30 (Int32.toNatClampNeg p1) p2) J)) (by with_unfolding_all rfl) hd1 ⟨(qp_vin (c := 6) (by decide) h9.1 h9.2), trivial⟩ ?_
          obtain ⟨rfl, rfl, rfl⟩ := qp_some3 h
          exact qp_retV_E qp_ok90 rfl qp_r90.1 ⟨rfl, rfl⟩ ⟨rfl, rfl⟩
def fX_tallyOrders_b18  : Nat → Int32 → Int32 → Int32 → (Nat → Nat → Int32) → (Nat → Nat → Int64) → Option (Unit × (Nat → Nat → Int32) × (Nat → Nat → Int64))
  | 0, _, _, _, _, _ => none
  | n + 1, a1, a2, a3, I, J =>
    if a2 ≤ a3 then (
      qp_bd (fO_extend 8 0 0 0 I J) fun _u I1 J1 =>
      some ((), I1, J1)
    ) else (
      qp_bd (fS_get_1 a1 a3 I J) fun v2 I2 J2 =>
      qp_bd (fS_get_1 a1 (a3 + 1) I2 J2) fun v3 I3 J3 =>
      qp_bd (fO_learn v2 v3 I3 J3) fun _u I4 J4 =>
      fX_tallyOrders_b18 n a1 a2 (a3 + 2) I4 J4
    )
set_option maxRecDepth 8000 in
theorem gX_tallyOrders_b18 {l : Launch} {G : qp_G} {d : Nat} (hd : 15 ≤ d) {r : (Unit × (Nat → Nat → Int32) × (Nat → Nat → Int64))} {I0 : Nat → Nat → Int32} {J0 : Nat → Nat → Int64}   : ∀ (n : Nat) (a1 : Int32) (a2 : Int32) (a3 : Int32) (I : Nat → Nat → Int32) (J : Nat → Nat → Int64), fX_tallyOrders_b18  n a1 a2 a3 I J = some r → qp_E l G d 88 (qp_mk I0 J0) 0 0 (qp_R8 none r.2.1 r.2.2) (18, [some (.ref 0), some (.int a1), some (.int a2), some (.int a3)], [], qp_mk I J) := by
  have hd1 : Nat.ble 1 d = true := Nat.ble_eq_true_of_le (Nat.le_trans (by decide) hd)
  intro n
  induction n with
  | zero => intro a1 a2 a3 I J h; exact absurd h (by simp [fX_tallyOrders_b18])
  | succ n ih =>
    intro a1 a2 a3 I J h
    rw [fX_tallyOrders_b18] at h
    refine qp_run_E qp_ok88 2 (c' := (20, [some (.ref 0), some (.int a1), some (.int a2), some (.int a3)], [.int a2, .int a3], qp_mk I J)) (by with_unfolding_all rfl) hd1 trivial ?_
    refine qp_br_E qp_ok88 (f := a2 ≤ a3) (ct := (56, [some (.ref 0), some (.int a1), some (.int a2), some (.int a3)], [], qp_mk I J)) (cf := (23, [some (.ref 0), some (.int a1), some (.int a2), some (.int a3)], [], qp_mk I J)) (by with_unfolding_all rfl) (fun h1 => ?_) (fun h1 => ?_)
    · replace h := qp_ift h1 h
      refine qp_run_E qp_ok88 5 (c' := (63, [some (.ref 0), some (.int a1), some (.int a2), some (.int a3)], [.int 0, .int 0, .int 0, .ref 29], qp_mk I J)) (by with_unfolding_all rfl) hd1 trivial ?_
      obtain ⟨v1, I1, J1, e1, h⟩ := qp_bd_s h
      refine qp_cS qp_ok88 (rest := []) (oj := 7) qp_f91 rfl rfl (gO_extend l G 8 0 0 0 I J e1 (Nat.le_refl 14)) rfl rfl rfl (Nat.le_trans (by decide) hd) ?_
      obtain rfl := Option.some.inj h
      exact qp_retV_E qp_ok88 rfl qp_r88.1 ⟨rfl, rfl⟩ ⟨rfl, rfl⟩
    · replace h := qp_iff h1 h
      refine qp_run_E qp_ok88 6 (c' := (33, [some (.ref 0), some (.int a1), some (.int a2), some (.int a3)], [.int a3, .int a1, .ref 1, .ref 29], qp_mk I J)) (by with_unfolding_all rfl) hd1 trivial ?_
      obtain ⟨v2, I2, J2, e2, h⟩ := qp_bd_s h
      refine qp_cV qp_ok88 (rest := [.ref 29]) (oj := 1) qp_f23 rfl rfl (gS_get_1 l G a1 a3 I J e2 (Nat.le_refl 3)) rfl rfl rfl rfl (Nat.le_trans (by decide) hd) ?_
      refine qp_run_E qp_ok88 6 (c' := (44, [some (.ref 0), some (.int a1), some (.int a2), some (.int a3)], [.int (a3 + 1), .int a1, .ref 1, .int v2, .ref 29], qp_mk I2 J2)) (by with_unfolding_all rfl) hd1 trivial ?_
      obtain ⟨v3, I3, J3, e3, h⟩ := qp_bd_s h
      refine qp_cV qp_ok88 (rest := [.int v2, .ref 29]) (oj := 1) qp_f23 rfl rfl (gS_get_1 l G a1 (a3 + 1) I2 J2 e3 (Nat.le_refl 3)) rfl rfl rfl rfl (Nat.le_trans (by decide) hd) ?_
      obtain ⟨v4, I4, J4, e4, h⟩ := qp_bd_s h
      refine qp_cV qp_ok88 (rest := []) (oj := 7) qp_f90 rfl rfl (gO_learn l G v2 v3 I3 J3 e4 (Nat.le_refl 1)) rfl rfl rfl rfl (Nat.le_trans (by decide) hd) ?_
      refine qp_run_E qp_ok88 2 (c' := (18, [some (.ref 0), some (.int a1), some (.int a2), some (.int (a3 + 2))], [], qp_mk I4 J4)) (by with_unfolding_all rfl) hd1 trivial ?_
      exact ih a1 a2 (a3 + 2) I4 J4 h
def fX_tallyOrders (p1 : Int32) (I : Nat → Nat → Int32) (J : Nat → Nat → Int64) : Option (Unit × (Nat → Nat → Int32) × (Nat → Nat → Int64)) :=
  qp_bd (fO_forget I J) fun _u I1 J1 =>
  qp_bd (fS_sizeOf_1 p1 I1 J1) fun v2 I2 J2 =>
  fX_tallyOrders_b18 100000 p1 v2 0 I2 J2
set_option maxRecDepth 8000 in
theorem gX_tallyOrders (l : Launch) (G : qp_G) (p1 : Int32) (I : Nat → Nat → Int32) (J : Nat → Nat → Int64) {v : Unit} {I' : Nat → Nat → Int32} {J' : Nat → Nat → Int64} (h : fX_tallyOrders p1 I J = some (v, I', J')) {d : Nat} (hd : 15 ≤ d) : qp_Met l G d 88 [.ref 0, .int p1] (qp_mk I J) 0 0 (qp_R8 none I' J') := by
  have hd1 : Nat.ble 1 d = true := Nat.ble_eq_true_of_le (Nat.le_trans (by decide) hd)
  refine qp_Met_of (by decide) (by rw [qp_r88.2]; rfl) [some (.ref 0), some (.int p1), none, none] (by rw [qp_r88.2]; rfl) ?_
  unfold fX_tallyOrders at h
  refine qp_run_E qp_ok88 2 (c' := (4, [some (.ref 0), some (.int p1), none, none], [.ref 29], qp_mk I J)) (by with_unfolding_all rfl) hd1 trivial ?_
  obtain ⟨v1, I1, J1, e1, h⟩ := qp_bd_s h
  refine qp_cV qp_ok88 (rest := []) (oj := 7) qp_f89 rfl rfl (gO_forget l G I J e1 (Nat.le_refl 1)) rfl rfl rfl rfl (Nat.le_trans (by decide) hd) ?_
  refine qp_run_E qp_ok88 3 (c' := (12, [some (.ref 0), some (.int p1), none, none], [.int p1, .ref 1], qp_mk I1 J1)) (by with_unfolding_all rfl) hd1 trivial ?_
  obtain ⟨v2, I2, J2, e2, h⟩ := qp_bd_s h
  refine qp_cV qp_ok88 (rest := []) (oj := 1) qp_f22 rfl rfl (gS_sizeOf_1 l G p1 I1 J1 e2 (Nat.le_refl 2)) rfl rfl rfl rfl (Nat.le_trans (by decide) hd) ?_
  refine qp_run_E qp_ok88 3 (c' := (18, [some (.ref 0), some (.int p1), some (.int v2), some (.int 0)], [], qp_mk I2 J2)) (by with_unfolding_all rfl) hd1 trivial ?_
  exact gX_tallyOrders_b18 hd 100000 p1 v2 0 I2 J2 h
def fX_greatestDivisor_b9  : Nat → Int64 → Int64 → Int32 → (Nat → Nat → Int32) → (Nat → Nat → Int64) → Option (Int64 × (Nat → Nat → Int32) × (Nat → Nat → Int64))
  | 0, _, _, _, _, _ => none
  | n + 1, a4, a6, a8, I, J =>
    if 200 ≤ a8 then (
      some (a4, I, J)
    ) else (
      if (lg_cmp a6 0) = 0 then (
        some (a4, I, J)
      ) else (
        qp_gd ((¬ a6 = 0)) <|
        fX_greatestDivisor_b9 n a6 (a4 - a4 / a6 * a6) (a8 + 1) I J
      )
    )
set_option maxRecDepth 8000 in
theorem gX_greatestDivisor_b9 {l : Launch} {G : qp_G} {d : Nat} (hd : 1 ≤ d) {r : (Int64 × (Nat → Nat → Int32) × (Nat → Nat → Int64))} {I0 : Nat → Nat → Int32} {J0 : Nat → Nat → Int64}   : ∀ (n : Nat) (a4 : Int64) (a6 : Int64) (a8 : Int32) (I : Nat → Nat → Int32) (J : Nat → Nat → Int64), fX_greatestDivisor_b9  n a4 a6 a8 I J = some r → qp_E l G d 94 (qp_mk I0 J0) 0 0 (qp_R8 (some (.long r.1)) r.2.1 r.2.2) (9, [none, none, none, none, some (.long a4), none, some (.long a6), none, some (.int a8), none, none], [], qp_mk I J) := by
  have hd1 : Nat.ble 1 d = true := Nat.ble_eq_true_of_le (Nat.le_trans (by decide) hd)
  intro n
  induction n with
  | zero => intro a4 a6 a8 I J h; exact absurd h (by simp [fX_greatestDivisor_b9])
  | succ n ih =>
    intro a4 a6 a8 I J h
    rw [fX_greatestDivisor_b9] at h
    refine qp_run_E qp_ok94 2 (c' := (14, [none, none, none, none, some (.long a4), none, some (.long a6), none, some (.int a8), none, none], [.int 200, .int a8], qp_mk I J)) (by with_unfolding_all rfl) hd1 trivial ?_
    refine qp_br_E qp_ok94 (f := 200 ≤ a8) (ct := (45, [none, none, none, none, some (.long a4), none, some (.long a6), none, some (.int a8), none, none], [], qp_mk I J)) (cf := (17, [none, none, none, none, some (.long a4), none, some (.long a6), none, some (.int a8), none, none], [], qp_mk I J)) (by with_unfolding_all rfl) (fun h1 => ?_) (fun h1 => ?_)
    · replace h := qp_ift h1 h
      refine qp_run_E qp_ok94 1 (c' := (47, [none, none, none, none, some (.long a4), none, some (.long a6), none, some (.int a8), none, none], [.long a4], qp_mk I J)) (by with_unfolding_all rfl) hd1 trivial ?_
      obtain rfl := Option.some.inj h
      exact qp_retL_E qp_ok94 rfl qp_r94.1 ⟨rfl, rfl⟩ ⟨rfl, rfl⟩
    · replace h := qp_iff h1 h
      refine qp_run_E qp_ok94 3 (c' := (21, [none, none, none, none, some (.long a4), none, some (.long a6), none, some (.int a8), none, none], [.int (lg_cmp a6 0)], qp_mk I J)) (by with_unfolding_all rfl) hd1 trivial ?_
      refine qp_br_E qp_ok94 (f := (lg_cmp a6 0) = 0) (ct := (45, [none, none, none, none, some (.long a4), none, some (.long a6), none, some (.int a8), none, none], [], qp_mk I J)) (cf := (24, [none, none, none, none, some (.long a4), none, some (.long a6), none, some (.int a8), none, none], [], qp_mk I J)) (by with_unfolding_all rfl) (fun h2 => ?_) (fun h2 => ?_)
      · replace h := qp_ift h2 h
        refine qp_run_E qp_ok94 1 (c' := (47, [none, none, none, none, some (.long a4), none, some (.long a6), none, some (.int a8), none, none], [.long a4], qp_mk I J)) (by with_unfolding_all rfl) hd1 trivial ?_
        obtain rfl := Option.some.inj h
        exact qp_retL_E qp_ok94 rfl qp_r94.1 ⟨rfl, rfl⟩ ⟨rfl, rfl⟩
      · replace h := qp_iff h2 h
        obtain ⟨h3, h⟩ := qp_gd_s h
        refine qp_run_E qp_ok94 10 (f := ¬ (a6 : Int64) = 0 ∧ True) (c' := (9, [none, none, none, none, some (.long a6), none, some (.long (a4 - a4 / a6 * a6)), none, some (.int (a8 + 1)), some (.long (a4 - a4 / a6 * a6)), none], [], qp_mk I J)) (by with_unfolding_all rfl) hd1 ⟨h3, trivial⟩ ?_
        exact qp_E_fg [false, false, false, false, true, false, true, false, true, false, false] (ih a6 (a4 - a4 / a6 * a6) (a8 + 1) I J h)
def fX_greatestDivisor (p0 : Int64) (p2 : Int64) (I : Nat → Nat → Int32) (J : Nat → Nat → Int64) : Option (Int64 × (Nat → Nat → Int32) × (Nat → Nat → Int64)) :=
  fX_greatestDivisor_b9 100000 p0 p2 0 I J
set_option maxRecDepth 8000 in
theorem gX_greatestDivisor (l : Launch) (G : qp_G) (p0 : Int64) (p2 : Int64) (I : Nat → Nat → Int32) (J : Nat → Nat → Int64) {v : Int64} {I' : Nat → Nat → Int32} {J' : Nat → Nat → Int64} (h : fX_greatestDivisor p0 p2 I J = some (v, I', J')) {d : Nat} (hd : 1 ≤ d) : qp_Met l G d 94 [.long p0, .long p2] (qp_mk I J) 0 0 (qp_R8 (some (.long v)) I' J') := by
  have hd1 : Nat.ble 1 d = true := Nat.ble_eq_true_of_le (Nat.le_trans (by decide) hd)
  refine qp_Met_of (by decide) (by rw [qp_r94.2]; rfl) [some (.long p0), none, some (.long p2), none, none, none, none, none, none, none, none] (by rw [qp_r94.2]; rfl) ?_
  unfold fX_greatestDivisor at h
  refine qp_run_E qp_ok94 6 (c' := (9, [some (.long p0), none, some (.long p2), none, some (.long p0), none, some (.long p2), none, some (.int 0), none, none], [], qp_mk I J)) (by with_unfolding_all rfl) hd1 trivial ?_
  exact qp_E_fg [false, false, false, false, true, false, true, false, true, false, false] (gX_greatestDivisor_b9 hd 100000 p0 p2 0 I J h)
def fX_tellRatio (p1 : Int64) (p3 : Int64) (I : Nat → Nat → Int32) (J : Nat → Nat → Int64) : Option (Int32 × (Nat → Nat → Int32) × (Nat → Nat → Int64)) :=
  qp_bd (fX_greatestDivisor p1 p3 I J) fun v1 I1 J1 =>
  if (lg_cmp v1 0) ≤ 0 then (
    some (1, I1, J1)
  ) else (
    qp_gd ((¬ v1 = 0)) <|
    some (1, I1, (qp_up (qp_up J1 0 12 (p1 / v1)) 0 13 (p3 / v1)))
  )
set_option maxRecDepth 8000 in
theorem gX_tellRatio (l : Launch) (G : qp_G) (p1 : Int64) (p3 : Int64) (I : Nat → Nat → Int32) (J : Nat → Nat → Int64) {v : Int32} {I' : Nat → Nat → Int32} {J' : Nat → Nat → Int64} (h : fX_tellRatio p1 p3 I J = some (v, I', J')) {d : Nat} (hd : 2 ≤ d) : qp_Met l G d 93 [.ref 0, .long p1, .long p3] (qp_mk I J) 0 0 (qp_R8 (some (.int v)) I' J') := by
  have hd1 : Nat.ble 1 d = true := Nat.ble_eq_true_of_le (Nat.le_trans (by decide) hd)
  refine qp_Met_of (by decide) (by rw [qp_r93.2]; rfl) [some (.ref 0), some (.long p1), none, some (.long p3), none, none, none] (by rw [qp_r93.2]; rfl) ?_
  unfold fX_tellRatio at h
  refine qp_run_E qp_ok93 2 (c' := (2, [some (.ref 0), some (.long p1), none, some (.long p3), none, none, none], [.long p3, .long p1], qp_mk I J)) (by with_unfolding_all rfl) hd1 trivial ?_
  obtain ⟨v1, I1, J1, e1, h⟩ := qp_bd_s h
  refine qp_cS qp_ok93 (rest := []) (oj := 0) qp_f94 rfl rfl (gX_greatestDivisor l G p1 p3 I J e1 (Nat.le_refl 1)) rfl rfl rfl (Nat.le_trans (by decide) hd) ?_
  refine qp_run_E qp_ok93 4 (c' := (11, [some (.ref 0), some (.long p1), none, some (.long p3), none, some (.long v1), none], [.int (lg_cmp v1 0)], qp_mk I1 J1)) (by with_unfolding_all rfl) hd1 trivial ?_
  refine qp_br_E qp_ok93 (f := (lg_cmp v1 0) ≤ 0) (ct := (30, [some (.ref 0), some (.long p1), none, some (.long p3), none, some (.long v1), none], [], qp_mk I1 J1)) (cf := (14, [some (.ref 0), some (.long p1), none, some (.long p3), none, some (.long v1), none], [], qp_mk I1 J1)) (by with_unfolding_all rfl) (fun h1 => ?_) (fun h1 => ?_)
  · replace h := qp_ift h1 h
    refine qp_run_E qp_ok93 1 (c' := (31, [some (.ref 0), some (.long p1), none, some (.long p3), none, some (.long v1), none], [.int 1], qp_mk I1 J1)) (by with_unfolding_all rfl) hd1 trivial ?_
    obtain ⟨rfl, rfl, rfl⟩ := qp_some3 h
    exact qp_retI_E qp_ok93 rfl qp_r93.1 ⟨rfl, rfl⟩ ⟨rfl, rfl⟩
  · replace h := qp_iff h1 h
    obtain ⟨h2, h⟩ := qp_gd_s h
    refine qp_run_E qp_ok93 11 (f := ¬ (v1 : Int64) = 0 ∧ ¬ (v1 : Int64) = 0 ∧ True) (c' := (31, [some (.ref 0), some (.long p1), none, some (.long p3), none, some (.long v1), none], [.int 1], qp_mk I1 (qp_up (qp_up J1 0 12 (p1 / v1)) 0 13 (p3 / v1)))) (by with_unfolding_all rfl) hd1 ⟨h2, h2, trivial⟩ ?_
    obtain ⟨rfl, rfl, rfl⟩ := qp_some3 h
    exact qp_retI_E qp_ok93 rfl qp_r93.1 ⟨rfl, rfl⟩ ⟨rfl, rfl⟩
def fX_lines_b34   (a1 : Int32) (s0 : Int32) (I : Nat → Nat → Int32) (J : Nat → Nat → Int64) : Option (Int32 × (Nat → Nat → Int32) × (Nat → Nat → Int64)) :=
  if s0 = 0 then (
    qp_bd (fX_tallyOrders a1 I J) fun _u I1 J1 =>
    qp_bd (fX_tellRatio (Int32.toInt64 (I1 29 0)) 1 I1 J1) fun v2 I2 J2 =>
    some (v2, I2, J2)
  ) else (
    some (s0, I, J)
  )
set_option maxRecDepth 8000 in
theorem gX_lines_b34 {l : Launch} {G : qp_G} {d : Nat} (hd : 16 ≤ d) {r : (Int32 × (Nat → Nat → Int32) × (Nat → Nat → Int64))} {I0 : Nat → Nat → Int32} {J0 : Nat → Nat → Int64}   : ∀ (a1 : Int32) (s0 : Int32) (I : Nat → Nat → Int32) (J : Nat → Nat → Int64), fX_lines_b34  a1 s0 I J = some r → qp_E l G d 86 (qp_mk I0 J0) 0 0 (qp_R8 (some (.int r.1)) r.2.1 r.2.2) (34, [some (.ref 0), some (.int a1), none], [.int s0], qp_mk I J) := by
  have hd1 : Nat.ble 1 d = true := Nat.ble_eq_true_of_le (Nat.le_trans (by decide) hd)
  intro a1 s0 I J h
  unfold fX_lines_b34 at h
  refine qp_run_E qp_ok86 2 (c' := (36, [some (.ref 0), some (.int a1), some (.int s0)], [.int s0], qp_mk I J)) (by with_unfolding_all rfl) hd1 trivial ?_
  refine qp_br_E qp_ok86 (f := s0 = 0) (ct := (41, [some (.ref 0), some (.int a1), some (.int s0)], [], qp_mk I J)) (cf := (39, [some (.ref 0), some (.int a1), some (.int s0)], [], qp_mk I J)) (by with_unfolding_all rfl) (fun h1 => ?_) (fun h1 => ?_)
  · replace h := qp_ift h1 h
    refine qp_run_E qp_ok86 2 (c' := (43, [some (.ref 0), some (.int a1), some (.int s0)], [.int a1, .ref 0], qp_mk I J)) (by with_unfolding_all rfl) hd1 trivial ?_
    obtain ⟨v1, I1, J1, e1, h⟩ := qp_bd_s h
    refine qp_cV qp_ok86 (rest := []) (oj := 0) qp_f88 rfl rfl (gX_tallyOrders l G a1 I J e1 (Nat.le_refl 15)) rfl rfl rfl rfl (Nat.le_trans (by decide) hd) ?_
    refine qp_run_E qp_ok86 6 (c' := (56, [some (.ref 0), some (.int a1), some (.int s0)], [.long 1, .long (Int32.toInt64 (I1 29 0)), .ref 0], qp_mk I1 J1)) (by with_unfolding_all rfl) hd1 trivial ?_
    obtain ⟨v2, I2, J2, e2, h⟩ := qp_bd_s h
    refine qp_cV qp_ok86 (rest := []) (oj := 0) qp_f93 rfl rfl (gX_tellRatio l G (Int32.toInt64 (I1 29 0)) 1 I1 J1 e2 (Nat.le_refl 2)) rfl rfl rfl rfl (Nat.le_trans (by decide) hd) ?_
    obtain rfl := Option.some.inj h
    exact qp_retI_E qp_ok86 rfl qp_r86.1 ⟨rfl, rfl⟩ ⟨rfl, rfl⟩
  · replace h := qp_iff h1 h
    refine qp_run_E qp_ok86 1 (c' := (40, [some (.ref 0), some (.int a1), some (.int s0)], [.int s0], qp_mk I J)) (by with_unfolding_all rfl) hd1 trivial ?_
    obtain rfl := Option.some.inj h
    exact qp_retI_E qp_ok86 rfl qp_r86.1 ⟨rfl, rfl⟩ ⟨rfl, rfl⟩
def fX_lines_b29   (a1 : Int32) (I : Nat → Nat → Int32) (J : Nat → Nat → Int64) : Option (Int32 × (Nat → Nat → Int32) × (Nat → Nat → Int64)) :=
  qp_bd (fX_refusalOfPairs a1 I J) fun v1 I1 J1 =>
  fX_lines_b34 a1 v1 I1 J1
set_option maxRecDepth 8000 in
theorem gX_lines_b29 {l : Launch} {G : qp_G} {d : Nat} (hd : 16 ≤ d) {r : (Int32 × (Nat → Nat → Int32) × (Nat → Nat → Int64))} {I0 : Nat → Nat → Int32} {J0 : Nat → Nat → Int64}   : ∀ (a1 : Int32) (I : Nat → Nat → Int32) (J : Nat → Nat → Int64), fX_lines_b29  a1 I J = some r → qp_E l G d 86 (qp_mk I0 J0) 0 0 (qp_R8 (some (.int r.1)) r.2.1 r.2.2) (29, [some (.ref 0), some (.int a1), none], [], qp_mk I J) := by
  have hd1 : Nat.ble 1 d = true := Nat.ble_eq_true_of_le (Nat.le_trans (by decide) hd)
  intro a1 I J h
  unfold fX_lines_b29 at h
  refine qp_run_E qp_ok86 2 (c' := (31, [some (.ref 0), some (.int a1), none], [.int a1, .ref 0], qp_mk I J)) (by with_unfolding_all rfl) hd1 trivial ?_
  obtain ⟨v1, I1, J1, e1, h⟩ := qp_bd_s h
  refine qp_cV qp_ok86 (rest := []) (oj := 0) qp_f87 rfl rfl (gX_refusalOfPairs l G a1 I J e1 (Nat.le_refl 5)) rfl rfl rfl rfl (Nat.le_trans (by decide) hd) ?_
  exact gX_lines_b34 hd a1 v1 I1 J1 h
def fX_lines (p1 : Int32) (I : Nat → Nat → Int32) (J : Nat → Nat → Int64) : Option (Int32 × (Nat → Nat → Int32) × (Nat → Nat → Int64)) :=
  if ¬ (I 15 0) = 0 then (
    fX_lines_b29 p1 I J
  ) else (
    qp_bd (fS_isNumber_1 p1 I J) fun v1 I1 J1 =>
    if v1 = 0 then (
      fX_lines_b29 p1 I1 J1
    ) else (
      fX_lines_b34 p1 (-4) I1 J1
    )
  )
set_option maxRecDepth 8000 in
theorem gX_lines (l : Launch) (G : qp_G) (p1 : Int32) (I : Nat → Nat → Int32) (J : Nat → Nat → Int64) {v : Int32} {I' : Nat → Nat → Int32} {J' : Nat → Nat → Int64} (h : fX_lines p1 I J = some (v, I', J')) {d : Nat} (hd : 16 ≤ d) : qp_Met l G d 86 [.ref 0, .int p1] (qp_mk I J) 0 0 (qp_R8 (some (.int v)) I' J') := by
  have hd1 : Nat.ble 1 d = true := Nat.ble_eq_true_of_le (Nat.le_trans (by decide) hd)
  refine qp_Met_of (by decide) (by rw [qp_r86.2]; rfl) [some (.ref 0), some (.int p1), none] (by rw [qp_r86.2]; rfl) ?_
  unfold fX_lines at h
  refine qp_run_E qp_ok86 4 (c' := (10, [some (.ref 0), some (.int p1), none], [.int (I 15 0)], qp_mk I J)) (by with_unfolding_all rfl) hd1 trivial ?_
  refine qp_br_E qp_ok86 (f := ¬ (I 15 0) = 0) (ct := (29, [some (.ref 0), some (.int p1), none], [], qp_mk I J)) (cf := (13, [some (.ref 0), some (.int p1), none], [], qp_mk I J)) (by with_unfolding_all rfl) (fun h1 => ?_) (fun h1 => ?_)
  · replace h := qp_ift h1 h
    exact gX_lines_b29 hd p1 I J h
  · replace h := qp_iff h1 h
    refine qp_run_E qp_ok86 3 (c' := (18, [some (.ref 0), some (.int p1), none], [.int p1, .ref 1], qp_mk I J)) (by with_unfolding_all rfl) hd1 trivial ?_
    obtain ⟨v1, I1, J1, e1, h⟩ := qp_bd_s h
    refine qp_cV qp_ok86 (rest := []) (oj := 1) qp_f13 rfl rfl (gS_isNumber_1 l G p1 I J e1 (Nat.le_refl 1)) rfl rfl rfl rfl (Nat.le_trans (by decide) hd) ?_
    refine qp_br_E qp_ok86 (f := v1 = 0) (ct := (29, [some (.ref 0), some (.int p1), none], [], qp_mk I1 J1)) (cf := (24, [some (.ref 0), some (.int p1), none], [], qp_mk I1 J1)) (by with_unfolding_all rfl) (fun h2 => ?_) (fun h2 => ?_)
    · replace h := qp_ift h2 h
      exact gX_lines_b29 hd p1 I1 J1 h
    · replace h := qp_iff h2 h
      refine qp_run_E qp_ok86 2 (c' := (34, [some (.ref 0), some (.int p1), none], [.int (-4)], qp_mk I1 J1)) (by with_unfolding_all rfl) hd1 trivial ?_
      exact gX_lines_b34 hd p1 (-4) I1 J1 h
def fO_whoCan (p1 : Int32) (I : Nat → Nat → Int32) (J : Nat → Nat → Int64) : Option (Int32 × (Nat → Nat → Int32) × (Nat → Nat → Int64)) :=
  if p1 < 0 then (
    some (0, I, J)
  ) else (
    if 6 ≤ p1 then (
      some (0, I, J)
    ) else (
      qp_gd ((0 ≤ p1 ∧ p1 < 6)) <|
      some ((I 31 (Int32.toNatClampNeg p1)), I, J)
    )
  )
set_option maxRecDepth 8000 in
theorem gO_whoCan (l : Launch) (G : qp_G) (p1 : Int32) (I : Nat → Nat → Int32) (J : Nat → Nat → Int64) {v : Int32} {I' : Nat → Nat → Int32} {J' : Nat → Nat → Int64} (h : fO_whoCan p1 I J = some (v, I', J')) {d : Nat} (hd : 1 ≤ d) : qp_Met l G d 96 [.ref 29, .int p1] (qp_mk I J) 0 0 (qp_R8 (some (.int v)) I' J') := by
  have hd1 : Nat.ble 1 d = true := Nat.ble_eq_true_of_le (Nat.le_trans (by decide) hd)
  refine qp_Met_of (by decide) (by rw [qp_r96.2]; rfl) [some (.ref 29), some (.int p1)] (by rw [qp_r96.2]; rfl) ?_
  unfold fO_whoCan at h
  refine qp_run_E qp_ok96 1 (c' := (1, [some (.ref 29), some (.int p1)], [.int p1], qp_mk I J)) (by with_unfolding_all rfl) hd1 trivial ?_
  refine qp_br_E qp_ok96 (f := p1 < 0) (ct := (22, [some (.ref 29), some (.int p1)], [], qp_mk I J)) (cf := (4, [some (.ref 29), some (.int p1)], [], qp_mk I J)) (by with_unfolding_all rfl) (fun h1 => ?_) (fun h1 => ?_)
  · replace h := qp_ift h1 h
    refine qp_run_E qp_ok96 1 (c' := (23, [some (.ref 29), some (.int p1)], [.int 0], qp_mk I J)) (by with_unfolding_all rfl) hd1 trivial ?_
    obtain ⟨rfl, rfl, rfl⟩ := qp_some3 h
    exact qp_retI_E qp_ok96 rfl qp_r96.1 ⟨rfl, rfl⟩ ⟨rfl, rfl⟩
  · replace h := qp_iff h1 h
    refine qp_run_E qp_ok96 4 (c' := (10, [some (.ref 29), some (.int p1)], [.int 6, .int p1], qp_mk I J)) (by with_unfolding_all rfl) hd1 trivial ?_
    refine qp_br_E qp_ok96 (f := 6 ≤ p1) (ct := (22, [some (.ref 29), some (.int p1)], [], qp_mk I J)) (cf := (13, [some (.ref 29), some (.int p1)], [], qp_mk I J)) (by with_unfolding_all rfl) (fun h2 => ?_) (fun h2 => ?_)
    · replace h := qp_ift h2 h
      refine qp_run_E qp_ok96 1 (c' := (23, [some (.ref 29), some (.int p1)], [.int 0], qp_mk I J)) (by with_unfolding_all rfl) hd1 trivial ?_
      obtain ⟨rfl, rfl, rfl⟩ := qp_some3 h
      exact qp_retI_E qp_ok96 rfl qp_r96.1 ⟨rfl, rfl⟩ ⟨rfl, rfl⟩
    · replace h := qp_iff h2 h
      obtain ⟨h3, h⟩ := qp_gd_s h
      refine qp_run_E qp_ok96 5 (f := vp_in p1 6 ∧ True) (c' := (23, [some (.ref 29), some (.int p1)], [.int (I 31 (Int32.toNatClampNeg p1))], qp_mk I J)) (by with_unfolding_all rfl) hd1 ⟨(qp_vin (c := 6) (by decide) h3.1 h3.2), trivial⟩ ?_
      obtain ⟨rfl, rfl, rfl⟩ := qp_some3 h
      exact qp_retI_E qp_ok96 rfl qp_r96.1 ⟨rfl, rfl⟩ ⟨rfl, rfl⟩
def fX_can_b23   (a1 : Int32) (a2 : Int32) (s0 : Int32) (I : Nat → Nat → Int32) (J : Nat → Nat → Int64) : Option (Int32 × (Nat → Nat → Int32) × (Nat → Nat → Int64)) :=
  if s0 = 0 then (
    qp_bd (fX_tallyOrders a1 I J) fun _u I1 J1 =>
    qp_bd (fO_whoCan a2 I1 J1) fun v2 I2 J2 =>
    some (v2, I2, J2)
  ) else (
    some (s0, I, J)
  )
set_option maxRecDepth 8000 in
theorem gX_can_b23 {l : Launch} {G : qp_G} {d : Nat} (hd : 16 ≤ d) {r : (Int32 × (Nat → Nat → Int32) × (Nat → Nat → Int64))} {I0 : Nat → Nat → Int32} {J0 : Nat → Nat → Int64}   : ∀ (a1 : Int32) (a2 : Int32) (s0 : Int32) (I : Nat → Nat → Int32) (J : Nat → Nat → Int64), fX_can_b23  a1 a2 s0 I J = some r → qp_E l G d 95 (qp_mk I0 J0) 0 0 (qp_R8 (some (.int r.1)) r.2.1 r.2.2) (23, [some (.ref 0), some (.int a1), some (.int a2), none], [.int s0], qp_mk I J) := by
  have hd1 : Nat.ble 1 d = true := Nat.ble_eq_true_of_le (Nat.le_trans (by decide) hd)
  intro a1 a2 s0 I J h
  unfold fX_can_b23 at h
  refine qp_run_E qp_ok95 2 (c' := (25, [some (.ref 0), some (.int a1), some (.int a2), some (.int s0)], [.int s0], qp_mk I J)) (by with_unfolding_all rfl) hd1 trivial ?_
  refine qp_br_E qp_ok95 (f := s0 = 0) (ct := (30, [some (.ref 0), some (.int a1), some (.int a2), some (.int s0)], [], qp_mk I J)) (cf := (28, [some (.ref 0), some (.int a1), some (.int a2), some (.int s0)], [], qp_mk I J)) (by with_unfolding_all rfl) (fun h1 => ?_) (fun h1 => ?_)
  · replace h := qp_ift h1 h
    refine qp_run_E qp_ok95 2 (c' := (32, [some (.ref 0), some (.int a1), some (.int a2), some (.int s0)], [.int a1, .ref 0], qp_mk I J)) (by with_unfolding_all rfl) hd1 trivial ?_
    obtain ⟨v1, I1, J1, e1, h⟩ := qp_bd_s h
    refine qp_cV qp_ok95 (rest := []) (oj := 0) qp_f88 rfl rfl (gX_tallyOrders l G a1 I J e1 (Nat.le_refl 15)) rfl rfl rfl rfl (Nat.le_trans (by decide) hd) ?_
    refine qp_run_E qp_ok95 3 (c' := (40, [some (.ref 0), some (.int a1), some (.int a2), some (.int s0)], [.int a2, .ref 29], qp_mk I1 J1)) (by with_unfolding_all rfl) hd1 trivial ?_
    obtain ⟨v2, I2, J2, e2, h⟩ := qp_bd_s h
    refine qp_cV qp_ok95 (rest := []) (oj := 7) qp_f96 rfl rfl (gO_whoCan l G a2 I1 J1 e2 (Nat.le_refl 1)) rfl rfl rfl rfl (Nat.le_trans (by decide) hd) ?_
    obtain rfl := Option.some.inj h
    exact qp_retI_E qp_ok95 rfl qp_r95.1 ⟨rfl, rfl⟩ ⟨rfl, rfl⟩
  · replace h := qp_iff h1 h
    refine qp_run_E qp_ok95 1 (c' := (29, [some (.ref 0), some (.int a1), some (.int a2), some (.int s0)], [.int s0], qp_mk I J)) (by with_unfolding_all rfl) hd1 trivial ?_
    obtain rfl := Option.some.inj h
    exact qp_retI_E qp_ok95 rfl qp_r95.1 ⟨rfl, rfl⟩ ⟨rfl, rfl⟩
def fX_can (p1 : Int32) (p2 : Int32) (I : Nat → Nat → Int32) (J : Nat → Nat → Int64) : Option (Int32 × (Nat → Nat → Int32) × (Nat → Nat → Int64)) :=
  qp_bd (fC_has_15 p2 I J) fun v1 I1 J1 =>
  if v1 = 0 then (
    fX_can_b23 p1 p2 (-1) I1 J1
  ) else (
    qp_bd (fX_refusalOfPairs p1 I1 J1) fun v2 I2 J2 =>
    fX_can_b23 p1 p2 v2 I2 J2
  )
set_option maxRecDepth 8000 in
theorem gX_can (l : Launch) (G : qp_G) (p1 : Int32) (p2 : Int32) (I : Nat → Nat → Int32) (J : Nat → Nat → Int64) {v : Int32} {I' : Nat → Nat → Int32} {J' : Nat → Nat → Int64} (h : fX_can p1 p2 I J = some (v, I', J')) {d : Nat} (hd : 16 ≤ d) : qp_Met l G d 95 [.ref 0, .int p1, .int p2] (qp_mk I J) 0 0 (qp_R8 (some (.int v)) I' J') := by
  have hd1 : Nat.ble 1 d = true := Nat.ble_eq_true_of_le (Nat.le_trans (by decide) hd)
  refine qp_Met_of (by decide) (by rw [qp_r95.2]; rfl) [some (.ref 0), some (.int p1), some (.int p2), none] (by rw [qp_r95.2]; rfl) ?_
  unfold fX_can at h
  refine qp_run_E qp_ok95 4 (c' := (8, [some (.ref 0), some (.int p1), some (.int p2), none], [.int p2, .ref 15], qp_mk I J)) (by with_unfolding_all rfl) hd1 trivial ?_
  obtain ⟨v1, I1, J1, e1, h⟩ := qp_bd_s h
  refine qp_cV qp_ok95 (rest := []) (oj := 3) qp_f43 rfl rfl (gC_has_15 l G p2 I J e1 (Nat.le_refl 1)) rfl rfl rfl rfl (Nat.le_trans (by decide) hd) ?_
  refine qp_br_E qp_ok95 (f := v1 = 0) (ct := (22, [some (.ref 0), some (.int p1), some (.int p2), none], [], qp_mk I1 J1)) (cf := (14, [some (.ref 0), some (.int p1), some (.int p2), none], [], qp_mk I1 J1)) (by with_unfolding_all rfl) (fun h1 => ?_) (fun h1 => ?_)
  · replace h := qp_ift h1 h
    refine qp_run_E qp_ok95 1 (c' := (23, [some (.ref 0), some (.int p1), some (.int p2), none], [.int (-1)], qp_mk I1 J1)) (by with_unfolding_all rfl) hd1 trivial ?_
    exact gX_can_b23 hd p1 p2 (-1) I1 J1 h
  · replace h := qp_iff h1 h
    refine qp_run_E qp_ok95 2 (c' := (16, [some (.ref 0), some (.int p1), some (.int p2), none], [.int p1, .ref 0], qp_mk I1 J1)) (by with_unfolding_all rfl) hd1 trivial ?_
    obtain ⟨v2, I2, J2, e2, h⟩ := qp_bd_s h
    refine qp_cV qp_ok95 (rest := []) (oj := 0) qp_f87 rfl rfl (gX_refusalOfPairs l G p1 I1 J1 e2 (Nat.le_refl 5)) rfl rfl rfl rfl (Nat.le_trans (by decide) hd) ?_
    refine qp_run_E qp_ok95 1 (c' := (23, [some (.ref 0), some (.int p1), some (.int p2), none], [.int v2], qp_mk I2 J2)) (by with_unfolding_all rfl) hd1 trivial ?_
    exact gX_can_b23 hd p1 p2 v2 I2 J2 h
def fJ_max (p0 : Int32) (p1 : Int32) (I : Nat → Nat → Int32) (J : Nat → Nat → Int64) : Option (Int32 × (Nat → Nat → Int32) × (Nat → Nat → Int64)) :=
  if p0 < p1 then (
    some (p1, I, J)
  ) else (
    some (p0, I, J)
  )
set_option maxRecDepth 8000 in
theorem gJ_max (l : Launch) (G : qp_G) (p0 : Int32) (p1 : Int32) (I : Nat → Nat → Int32) (J : Nat → Nat → Int64) {v : Int32} {I' : Nat → Nat → Int32} {J' : Nat → Nat → Int64} (h : fJ_max p0 p1 I J = some (v, I', J')) {d : Nat} (hd : 1 ≤ d) : qp_Met l G d 2 [.int p0, .int p1] (qp_mk I J) 0 0 (qp_R8 (some (.int v)) I' J') := by
  have hd1 : Nat.ble 1 d = true := Nat.ble_eq_true_of_le (Nat.le_trans (by decide) hd)
  refine qp_Met_of (by decide) (by rw [qp_r2.2]; rfl) [some (.int p0), some (.int p1)] (by rw [qp_r2.2]; rfl) ?_
  unfold fJ_max at h
  refine qp_run_E qp_ok2 2 (c' := (2, [some (.int p0), some (.int p1)], [.int p1, .int p0], qp_mk I J)) (by with_unfolding_all rfl) hd1 trivial ?_
  refine qp_br_E qp_ok2 (f := p0 < p1) (ct := (9, [some (.int p0), some (.int p1)], [], qp_mk I J)) (cf := (5, [some (.int p0), some (.int p1)], [], qp_mk I J)) (by with_unfolding_all rfl) (fun h1 => ?_) (fun h1 => ?_)
  · replace h := qp_ift h1 h
    refine qp_run_E qp_ok2 1 (c' := (10, [some (.int p0), some (.int p1)], [.int p1], qp_mk I J)) (by with_unfolding_all rfl) hd1 trivial ?_
    obtain ⟨rfl, rfl, rfl⟩ := qp_some3 h
    exact qp_retI_E qp_ok2 rfl qp_r2.1 ⟨rfl, rfl⟩ ⟨rfl, rfl⟩
  · replace h := qp_iff h1 h
    refine qp_run_E qp_ok2 2 (c' := (10, [some (.int p0), some (.int p1)], [.int p0], qp_mk I J)) (by with_unfolding_all rfl) hd1 trivial ?_
    obtain ⟨rfl, rfl, rfl⟩ := qp_some3 h
    exact qp_retI_E qp_ok2 rfl qp_r2.1 ⟨rfl, rfl⟩ ⟨rfl, rfl⟩
def fO_greatestPart_b6  : Nat → Int32 → Int32 → Int32 → (Nat → Nat → Int32) → (Nat → Nat → Int64) → Option (Int32 × (Nat → Nat → Int32) × (Nat → Nat → Int64))
  | 0, _, _, _, _, _ => none
  | n + 1, a1, a2, a3, I, J =>
    if ((a1 + 1) * 4) ≤ a3 then (
      some (a2, I, J)
    ) else (
      if a3 < 0 then (
        fO_greatestPart_b6 n a1 a2 (a3 + 1) I J
      ) else (
        if 24 ≤ a3 then (
          fO_greatestPart_b6 n a1 a2 (a3 + 1) I J
        ) else (
          qp_gd ((0 ≤ a3 ∧ a3 < 24)) <|
          qp_bd (fJ_max a2 (I 32 (Int32.toNatClampNeg a3)) I J) fun v1 I1 J1 =>
          fO_greatestPart_b6 n a1 v1 (a3 + 1) I1 J1
        )
      )
    )
set_option maxRecDepth 8000 in
theorem gO_greatestPart_b6 {l : Launch} {G : qp_G} {d : Nat} (hd : 2 ≤ d) {r : (Int32 × (Nat → Nat → Int32) × (Nat → Nat → Int64))} {I0 : Nat → Nat → Int32} {J0 : Nat → Nat → Int64}   : ∀ (n : Nat) (a1 : Int32) (a2 : Int32) (a3 : Int32) (I : Nat → Nat → Int32) (J : Nat → Nat → Int64), fO_greatestPart_b6  n a1 a2 a3 I J = some r → qp_E l G d 98 (qp_mk I0 J0) 0 0 (qp_R8 (some (.int r.1)) r.2.1 r.2.2) (6, [some (.ref 29), some (.int a1), some (.int a2), some (.int a3)], [], qp_mk I J) := by
  have hd1 : Nat.ble 1 d = true := Nat.ble_eq_true_of_le (Nat.le_trans (by decide) hd)
  intro n
  induction n with
  | zero => intro a1 a2 a3 I J h; exact absurd h (by simp [fO_greatestPart_b6])
  | succ n ih =>
    intro a1 a2 a3 I J h
    rw [fO_greatestPart_b6] at h
    refine qp_run_E qp_ok98 6 (c' := (12, [some (.ref 29), some (.int a1), some (.int a2), some (.int a3)], [.int ((a1 + 1) * 4), .int a3], qp_mk I J)) (by with_unfolding_all rfl) hd1 trivial ?_
    refine qp_br_E qp_ok98 (f := ((a1 + 1) * 4) ≤ a3) (ct := (45, [some (.ref 29), some (.int a1), some (.int a2), some (.int a3)], [], qp_mk I J)) (cf := (15, [some (.ref 29), some (.int a1), some (.int a2), some (.int a3)], [], qp_mk I J)) (by with_unfolding_all rfl) (fun h1 => ?_) (fun h1 => ?_)
    · replace h := qp_ift h1 h
      refine qp_run_E qp_ok98 1 (c' := (46, [some (.ref 29), some (.int a1), some (.int a2), some (.int a3)], [.int a2], qp_mk I J)) (by with_unfolding_all rfl) hd1 trivial ?_
      obtain rfl := Option.some.inj h
      exact qp_retI_E qp_ok98 rfl qp_r98.1 ⟨rfl, rfl⟩ ⟨rfl, rfl⟩
    · replace h := qp_iff h1 h
      refine qp_run_E qp_ok98 1 (c' := (16, [some (.ref 29), some (.int a1), some (.int a2), some (.int a3)], [.int a3], qp_mk I J)) (by with_unfolding_all rfl) hd1 trivial ?_
      refine qp_br_E qp_ok98 (f := a3 < 0) (ct := (39, [some (.ref 29), some (.int a1), some (.int a2), some (.int a3)], [], qp_mk I J)) (cf := (19, [some (.ref 29), some (.int a1), some (.int a2), some (.int a3)], [], qp_mk I J)) (by with_unfolding_all rfl) (fun h2 => ?_) (fun h2 => ?_)
      · replace h := qp_ift h2 h
        refine qp_run_E qp_ok98 2 (c' := (6, [some (.ref 29), some (.int a1), some (.int a2), some (.int (a3 + 1))], [], qp_mk I J)) (by with_unfolding_all rfl) hd1 trivial ?_
        exact ih a1 a2 (a3 + 1) I J h
      · replace h := qp_iff h2 h
        refine qp_run_E qp_ok98 4 (c' := (25, [some (.ref 29), some (.int a1), some (.int a2), some (.int a3)], [.int 24, .int a3], qp_mk I J)) (by with_unfolding_all rfl) hd1 trivial ?_
        refine qp_br_E qp_ok98 (f := 24 ≤ a3) (ct := (39, [some (.ref 29), some (.int a1), some (.int a2), some (.int a3)], [], qp_mk I J)) (cf := (28, [some (.ref 29), some (.int a1), some (.int a2), some (.int a3)], [], qp_mk I J)) (by with_unfolding_all rfl) (fun h3 => ?_) (fun h3 => ?_)
        · replace h := qp_ift h3 h
          refine qp_run_E qp_ok98 2 (c' := (6, [some (.ref 29), some (.int a1), some (.int a2), some (.int (a3 + 1))], [], qp_mk I J)) (by with_unfolding_all rfl) hd1 trivial ?_
          exact ih a1 a2 (a3 + 1) I J h
        · replace h := qp_iff h3 h
          obtain ⟨h4, h⟩ := qp_gd_s h
          refine qp_run_E qp_ok98 5 (f := vp_in a3 24 ∧ True) (c' := (35, [some (.ref 29), some (.int a1), some (.int a2), some (.int a3)], [.int (I 32 (Int32.toNatClampNeg a3)), .int a2], qp_mk I J)) (by with_unfolding_all rfl) hd1 ⟨(qp_vin (c := 24) (by decide) h4.1 h4.2), trivial⟩ ?_
          obtain ⟨v1, I1, J1, e1, h⟩ := qp_bd_s h
          refine qp_cS qp_ok98 (rest := []) (oj := 12) qp_f2 rfl rfl (gJ_max l G a2 (I 32 (Int32.toNatClampNeg a3)) I J e1 (Nat.le_refl 1)) rfl rfl rfl (Nat.le_trans (by decide) hd) ?_
          refine qp_run_E qp_ok98 3 (c' := (6, [some (.ref 29), some (.int a1), some (.int v1), some (.int (a3 + 1))], [], qp_mk I1 J1)) (by with_unfolding_all rfl) hd1 trivial ?_
          exact ih a1 v1 (a3 + 1) I1 J1 h
def fO_greatestPart (p1 : Int32) (I : Nat → Nat → Int32) (J : Nat → Nat → Int64) : Option (Int32 × (Nat → Nat → Int32) × (Nat → Nat → Int64)) :=
  fO_greatestPart_b6 100000 p1 0 (p1 * 4) I J
set_option maxRecDepth 8000 in
theorem gO_greatestPart (l : Launch) (G : qp_G) (p1 : Int32) (I : Nat → Nat → Int32) (J : Nat → Nat → Int64) {v : Int32} {I' : Nat → Nat → Int32} {J' : Nat → Nat → Int64} (h : fO_greatestPart p1 I J = some (v, I', J')) {d : Nat} (hd : 2 ≤ d) : qp_Met l G d 98 [.ref 29, .int p1] (qp_mk I J) 0 0 (qp_R8 (some (.int v)) I' J') := by
  have hd1 : Nat.ble 1 d = true := Nat.ble_eq_true_of_le (Nat.le_trans (by decide) hd)
  refine qp_Met_of (by decide) (by rw [qp_r98.2]; rfl) [some (.ref 29), some (.int p1), none, none] (by rw [qp_r98.2]; rfl) ?_
  unfold fO_greatestPart at h
  refine qp_run_E qp_ok98 6 (c' := (6, [some (.ref 29), some (.int p1), some (.int 0), some (.int (p1 * 4))], [], qp_mk I J)) (by with_unfolding_all rfl) hd1 trivial ?_
  exact gO_greatestPart_b6 hd 100000 p1 0 (p1 * 4) I J h
def fX_next_b64  : Nat → Int32 → Int32 → (Nat → Nat → Int32) → (Nat → Nat → Int64) → Option (Int32 × (Nat → Nat → Int32) × (Nat → Nat → Int64))
  | 0, _, _, _, _ => none
  | n + 1, a3, a4, I, J =>
    if (I 15 0) ≤ a4 then (
      qp_bd (fO_greatestPart a3 I J) fun v1 I1 J1 =>
      qp_bd (fX_tell v1 I1 J1) fun v2 I2 J2 =>
      some (a3, I2, J2)
    ) else (
      qp_bd (fO_greatestPart a4 I J) fun v3 I3 J3 =>
      qp_bd (fO_greatestPart a3 I3 J3) fun v4 I4 J4 =>
      if v4 ≤ v3 then (
        fX_next_b64 n a3 (a4 + 1) I4 J4
      ) else (
        fX_next_b64 n a4 (a4 + 1) I4 J4
      )
    )
set_option maxRecDepth 8000 in
theorem gX_next_b64 {l : Launch} {G : qp_G} {d : Nat} (hd : 16 ≤ d) {r : (Int32 × (Nat → Nat → Int32) × (Nat → Nat → Int64))} {I0 : Nat → Nat → Int32} {J0 : Nat → Nat → Int64}   : ∀ (n : Nat) (a3 : Int32) (a4 : Int32) (I : Nat → Nat → Int32) (J : Nat → Nat → Int64), fX_next_b64  n a3 a4 I J = some r → qp_E l G d 97 (qp_mk I0 J0) 0 0 (qp_R8 (some (.int r.1)) r.2.1 r.2.2) (64, [some (.ref 0), none, none, some (.int a3), some (.int a4)], [], qp_mk I J) := by
  have hd1 : Nat.ble 1 d = true := Nat.ble_eq_true_of_le (Nat.le_trans (by decide) hd)
  intro n
  induction n with
  | zero => intro a3 a4 I J h; exact absurd h (by simp [fX_next_b64])
  | succ n ih =>
    intro a3 a4 I J h
    rw [fX_next_b64] at h
    refine qp_run_E qp_ok97 5 (c' := (76, [some (.ref 0), none, none, some (.int a3), some (.int a4)], [.int (I 15 0), .int a4], qp_mk I J)) (by with_unfolding_all rfl) hd1 trivial ?_
    refine qp_br_E qp_ok97 (f := (I 15 0) ≤ a4) (ct := (108, [some (.ref 0), none, none, some (.int a3), some (.int a4)], [], qp_mk I J)) (cf := (79, [some (.ref 0), none, none, some (.int a3), some (.int a4)], [], qp_mk I J)) (by with_unfolding_all rfl) (fun h1 => ?_) (fun h1 => ?_)
    · replace h := qp_ift h1 h
      refine qp_run_E qp_ok97 4 (c' := (114, [some (.ref 0), none, none, some (.int a3), some (.int a4)], [.int a3, .ref 29, .ref 0], qp_mk I J)) (by with_unfolding_all rfl) hd1 trivial ?_
      obtain ⟨v1, I1, J1, e1, h⟩ := qp_bd_s h
      refine qp_cV qp_ok97 (rest := [.ref 0]) (oj := 7) qp_f98 rfl rfl (gO_greatestPart l G a3 I J e1 (Nat.le_refl 2)) rfl rfl rfl rfl (Nat.le_trans (by decide) hd) ?_
      obtain ⟨v2, I2, J2, e2, h⟩ := qp_bd_s h
      refine qp_cV qp_ok97 (rest := []) (oj := 0) qp_f24 rfl rfl (gX_tell l G v1 I1 J1 e2 (Nat.le_refl 1)) rfl rfl rfl rfl (Nat.le_trans (by decide) hd) ?_
      refine qp_run_E qp_ok97 2 (c' := (122, [some (.ref 0), none, none, some (.int a3), some (.int a4)], [.int a3], qp_mk I2 J2)) (by with_unfolding_all rfl) hd1 trivial ?_
      obtain rfl := Option.some.inj h
      exact qp_retI_E qp_ok97 rfl qp_r97.1 ⟨rfl, rfl⟩ ⟨rfl, rfl⟩
    · replace h := qp_iff h1 h
      refine qp_run_E qp_ok97 3 (c' := (85, [some (.ref 0), none, none, some (.int a3), some (.int a4)], [.int a4, .ref 29], qp_mk I J)) (by with_unfolding_all rfl) hd1 trivial ?_
      obtain ⟨v3, I3, J3, e3, h⟩ := qp_bd_s h
      refine qp_cV qp_ok97 (rest := []) (oj := 7) qp_f98 rfl rfl (gO_greatestPart l G a4 I J e3 (Nat.le_refl 2)) rfl rfl rfl rfl (Nat.le_trans (by decide) hd) ?_
      refine qp_run_E qp_ok97 3 (c' := (93, [some (.ref 0), none, none, some (.int a3), some (.int a4)], [.int a3, .ref 29, .int v3], qp_mk I3 J3)) (by with_unfolding_all rfl) hd1 trivial ?_
      obtain ⟨v4, I4, J4, e4, h⟩ := qp_bd_s h
      refine qp_cV qp_ok97 (rest := [.int v3]) (oj := 7) qp_f98 rfl rfl (gO_greatestPart l G a3 I3 J3 e4 (Nat.le_refl 2)) rfl rfl rfl rfl (Nat.le_trans (by decide) hd) ?_
      refine qp_br_E qp_ok97 (f := v4 ≤ v3) (ct := (102, [some (.ref 0), none, none, some (.int a3), some (.int a4)], [], qp_mk I4 J4)) (cf := (99, [some (.ref 0), none, none, some (.int a3), some (.int a4)], [], qp_mk I4 J4)) (by with_unfolding_all rfl) (fun h2 => ?_) (fun h2 => ?_)
      · replace h := qp_ift h2 h
        refine qp_run_E qp_ok97 2 (c' := (64, [some (.ref 0), none, none, some (.int a3), some (.int (a4 + 1))], [], qp_mk I4 J4)) (by with_unfolding_all rfl) hd1 trivial ?_
        exact ih a3 (a4 + 1) I4 J4 h
      · replace h := qp_iff h2 h
        refine qp_run_E qp_ok97 4 (c' := (64, [some (.ref 0), none, none, some (.int a4), some (.int (a4 + 1))], [], qp_mk I4 J4)) (by with_unfolding_all rfl) hd1 trivial ?_
        exact ih a4 (a4 + 1) I4 J4 h
def fX_next_b34   (a1 : Int32) (s0 : Int32) (I : Nat → Nat → Int32) (J : Nat → Nat → Int64) : Option (Int32 × (Nat → Nat → Int32) × (Nat → Nat → Int64)) :=
  if s0 = 0 then (
    qp_bd (fX_tallyOrders a1 I J) fun _u I1 J1 =>
    if ¬ (I1 29 0) = 0 then (
      fX_next_b64 100000 0 1 I1 J1
    ) else (
      some ((-9), I1, J1)
    )
  ) else (
    some (s0, I, J)
  )
set_option maxRecDepth 8000 in
theorem gX_next_b34 {l : Launch} {G : qp_G} {d : Nat} (hd : 16 ≤ d) {r : (Int32 × (Nat → Nat → Int32) × (Nat → Nat → Int64))} {I0 : Nat → Nat → Int32} {J0 : Nat → Nat → Int64}   : ∀ (a1 : Int32) (s0 : Int32) (I : Nat → Nat → Int32) (J : Nat → Nat → Int64), fX_next_b34  a1 s0 I J = some r → qp_E l G d 97 (qp_mk I0 J0) 0 0 (qp_R8 (some (.int r.1)) r.2.1 r.2.2) (34, [some (.ref 0), some (.int a1), none, none, none], [.int s0], qp_mk I J) := by
  have hd1 : Nat.ble 1 d = true := Nat.ble_eq_true_of_le (Nat.le_trans (by decide) hd)
  intro a1 s0 I J h
  unfold fX_next_b34 at h
  refine qp_run_E qp_ok97 2 (c' := (36, [some (.ref 0), some (.int a1), some (.int s0), none, none], [.int s0], qp_mk I J)) (by with_unfolding_all rfl) hd1 trivial ?_
  refine qp_br_E qp_ok97 (f := s0 = 0) (ct := (41, [some (.ref 0), some (.int a1), some (.int s0), none, none], [], qp_mk I J)) (cf := (39, [some (.ref 0), some (.int a1), some (.int s0), none, none], [], qp_mk I J)) (by with_unfolding_all rfl) (fun h1 => ?_) (fun h1 => ?_)
  · replace h := qp_ift h1 h
    refine qp_run_E qp_ok97 2 (c' := (43, [some (.ref 0), some (.int a1), some (.int s0), none, none], [.int a1, .ref 0], qp_mk I J)) (by with_unfolding_all rfl) hd1 trivial ?_
    obtain ⟨v1, I1, J1, e1, h⟩ := qp_bd_s h
    refine qp_cV qp_ok97 (rest := []) (oj := 0) qp_f88 rfl rfl (gX_tallyOrders l G a1 I J e1 (Nat.le_refl 15)) rfl rfl rfl rfl (Nat.le_trans (by decide) hd) ?_
    refine qp_run_E qp_ok97 3 (c' := (53, [some (.ref 0), some (.int a1), some (.int s0), none, none], [.int (I1 29 0)], qp_mk I1 J1)) (by with_unfolding_all rfl) hd1 trivial ?_
    refine qp_br_E qp_ok97 (f := ¬ (I1 29 0) = 0) (ct := (59, [some (.ref 0), some (.int a1), some (.int s0), none, none], [], qp_mk I1 J1)) (cf := (56, [some (.ref 0), some (.int a1), some (.int s0), none, none], [], qp_mk I1 J1)) (by with_unfolding_all rfl) (fun h2 => ?_) (fun h2 => ?_)
    · replace h := qp_ift h2 h
      refine qp_run_E qp_ok97 4 (c' := (64, [some (.ref 0), some (.int a1), some (.int s0), some (.int 0), some (.int 1)], [], qp_mk I1 J1)) (by with_unfolding_all rfl) hd1 trivial ?_
      exact qp_E_fg [true, false, false, true, true] (gX_next_b64 hd 100000 0 1 I1 J1 h)
    · replace h := qp_iff h2 h
      refine qp_run_E qp_ok97 1 (c' := (58, [some (.ref 0), some (.int a1), some (.int s0), none, none], [.int (-9)], qp_mk I1 J1)) (by with_unfolding_all rfl) hd1 trivial ?_
      obtain rfl := Option.some.inj h
      exact qp_retI_E qp_ok97 rfl qp_r97.1 ⟨rfl, rfl⟩ ⟨rfl, rfl⟩
  · replace h := qp_iff h1 h
    refine qp_run_E qp_ok97 1 (c' := (40, [some (.ref 0), some (.int a1), some (.int s0), none, none], [.int s0], qp_mk I J)) (by with_unfolding_all rfl) hd1 trivial ?_
    obtain rfl := Option.some.inj h
    exact qp_retI_E qp_ok97 rfl qp_r97.1 ⟨rfl, rfl⟩ ⟨rfl, rfl⟩
def fX_next_b29   (a1 : Int32) (I : Nat → Nat → Int32) (J : Nat → Nat → Int64) : Option (Int32 × (Nat → Nat → Int32) × (Nat → Nat → Int64)) :=
  qp_bd (fX_refusalOfPairs a1 I J) fun v1 I1 J1 =>
  fX_next_b34 a1 v1 I1 J1
set_option maxRecDepth 8000 in
theorem gX_next_b29 {l : Launch} {G : qp_G} {d : Nat} (hd : 16 ≤ d) {r : (Int32 × (Nat → Nat → Int32) × (Nat → Nat → Int64))} {I0 : Nat → Nat → Int32} {J0 : Nat → Nat → Int64}   : ∀ (a1 : Int32) (I : Nat → Nat → Int32) (J : Nat → Nat → Int64), fX_next_b29  a1 I J = some r → qp_E l G d 97 (qp_mk I0 J0) 0 0 (qp_R8 (some (.int r.1)) r.2.1 r.2.2) (29, [some (.ref 0), some (.int a1), none, none, none], [], qp_mk I J) := by
  have hd1 : Nat.ble 1 d = true := Nat.ble_eq_true_of_le (Nat.le_trans (by decide) hd)
  intro a1 I J h
  unfold fX_next_b29 at h
  refine qp_run_E qp_ok97 2 (c' := (31, [some (.ref 0), some (.int a1), none, none, none], [.int a1, .ref 0], qp_mk I J)) (by with_unfolding_all rfl) hd1 trivial ?_
  obtain ⟨v1, I1, J1, e1, h⟩ := qp_bd_s h
  refine qp_cV qp_ok97 (rest := []) (oj := 0) qp_f87 rfl rfl (gX_refusalOfPairs l G a1 I J e1 (Nat.le_refl 5)) rfl rfl rfl rfl (Nat.le_trans (by decide) hd) ?_
  exact gX_next_b34 hd a1 v1 I1 J1 h
def fX_next (p1 : Int32) (I : Nat → Nat → Int32) (J : Nat → Nat → Int64) : Option (Int32 × (Nat → Nat → Int32) × (Nat → Nat → Int64)) :=
  if ¬ (I 15 0) = 0 then (
    fX_next_b29 p1 I J
  ) else (
    qp_bd (fS_isNumber_1 p1 I J) fun v1 I1 J1 =>
    if v1 = 0 then (
      fX_next_b29 p1 I1 J1
    ) else (
      fX_next_b34 p1 (-4) I1 J1
    )
  )
set_option maxRecDepth 8000 in
theorem gX_next (l : Launch) (G : qp_G) (p1 : Int32) (I : Nat → Nat → Int32) (J : Nat → Nat → Int64) {v : Int32} {I' : Nat → Nat → Int32} {J' : Nat → Nat → Int64} (h : fX_next p1 I J = some (v, I', J')) {d : Nat} (hd : 16 ≤ d) : qp_Met l G d 97 [.ref 0, .int p1] (qp_mk I J) 0 0 (qp_R8 (some (.int v)) I' J') := by
  have hd1 : Nat.ble 1 d = true := Nat.ble_eq_true_of_le (Nat.le_trans (by decide) hd)
  refine qp_Met_of (by decide) (by rw [qp_r97.2]; rfl) [some (.ref 0), some (.int p1), none, none, none] (by rw [qp_r97.2]; rfl) ?_
  unfold fX_next at h
  refine qp_run_E qp_ok97 4 (c' := (10, [some (.ref 0), some (.int p1), none, none, none], [.int (I 15 0)], qp_mk I J)) (by with_unfolding_all rfl) hd1 trivial ?_
  refine qp_br_E qp_ok97 (f := ¬ (I 15 0) = 0) (ct := (29, [some (.ref 0), some (.int p1), none, none, none], [], qp_mk I J)) (cf := (13, [some (.ref 0), some (.int p1), none, none, none], [], qp_mk I J)) (by with_unfolding_all rfl) (fun h1 => ?_) (fun h1 => ?_)
  · replace h := qp_ift h1 h
    exact gX_next_b29 hd p1 I J h
  · replace h := qp_iff h1 h
    refine qp_run_E qp_ok97 3 (c' := (18, [some (.ref 0), some (.int p1), none, none, none], [.int p1, .ref 1], qp_mk I J)) (by with_unfolding_all rfl) hd1 trivial ?_
    obtain ⟨v1, I1, J1, e1, h⟩ := qp_bd_s h
    refine qp_cV qp_ok97 (rest := []) (oj := 1) qp_f13 rfl rfl (gS_isNumber_1 l G p1 I J e1 (Nat.le_refl 1)) rfl rfl rfl rfl (Nat.le_trans (by decide) hd) ?_
    refine qp_br_E qp_ok97 (f := v1 = 0) (ct := (29, [some (.ref 0), some (.int p1), none, none, none], [], qp_mk I1 J1)) (cf := (24, [some (.ref 0), some (.int p1), none, none, none], [], qp_mk I1 J1)) (by with_unfolding_all rfl) (fun h2 => ?_) (fun h2 => ?_)
    · replace h := qp_ift h2 h
      exact gX_next_b29 hd p1 I1 J1 h
    · replace h := qp_iff h2 h
      refine qp_run_E qp_ok97 2 (c' := (34, [some (.ref 0), some (.int p1), none, none, none], [.int (-4)], qp_mk I1 J1)) (by with_unfolding_all rfl) hd1 trivial ?_
      exact gX_next_b34 hd p1 (-4) I1 J1 h

/-! methods as functions, 9 -/
def fM_layOrder_b104  (k90 : Int32 → Int32 → Int32 → Int32 → Int32 → Int32 → Int32 → (Nat → Nat → Int32) → (Nat → Nat → Int64) → Option (Unit × (Nat → Nat → Int32) × (Nat → Nat → Int64))) (a2 : Int32) (a3 : Int32) (a4 : Int32) (a5 : Int32) (a6 : Int32) (a7 : Int32) (a8 : Int32) (I : Nat → Nat → Int32) (J : Nat → Nat → Int64) : Option (Unit × (Nat → Nat → Int32) × (Nat → Nat → Int64)) :=
  qp_bd (fM_has a3 a8 I J) fun v1 I1 J1 =>
  if v1 = 0 then (
    k90 a2 a3 a4 a5 a6 (a7 - 0) (a8 + 1) I1 J1
  ) else (
    k90 a2 a3 a4 a5 a6 (a7 - 1) (a8 + 1) I1 J1
  )
set_option maxRecDepth 8000 in
theorem gM_layOrder_b104 {l : Launch} {G : qp_G} {d : Nat} (hd : 2 ≤ d) {r : (Unit × (Nat → Nat → Int32) × (Nat → Nat → Int64))} {I0 : Nat → Nat → Int32} {J0 : Nat → Nat → Int64}  (k90 : Int32 → Int32 → Int32 → Int32 → Int32 → Int32 → Int32 → (Nat → Nat → Int32) → (Nat → Nat → Int64) → Option (Unit × (Nat → Nat → Int32) × (Nat → Nat → Int64))) (hk90 : ∀ a2 a3 a4 a5 a6 a7 a8 I J, k90 a2 a3 a4 a5 a6 a7 a8 I J = some r → qp_E l G d 211 (qp_mk I0 J0) 0 0 (qp_R8 none r.2.1 r.2.2) (90, [some (.ref 36), none, some (.int a2), some (.int a3), some (.int a4), some (.int a5), some (.int a6), some (.int a7), some (.int a8)], [], qp_mk I J)) : ∀ (a2 : Int32) (a3 : Int32) (a4 : Int32) (a5 : Int32) (a6 : Int32) (a7 : Int32) (a8 : Int32) (I : Nat → Nat → Int32) (J : Nat → Nat → Int64), fM_layOrder_b104 k90 a2 a3 a4 a5 a6 a7 a8 I J = some r → qp_E l G d 211 (qp_mk I0 J0) 0 0 (qp_R8 none r.2.1 r.2.2) (104, [some (.ref 36), none, some (.int a2), some (.int a3), some (.int a4), some (.int a5), some (.int a6), some (.int a7), some (.int a8)], [], qp_mk I J) := by
  have hd1 : Nat.ble 1 d = true := Nat.ble_eq_true_of_le (Nat.le_trans (by decide) hd)
  intro a2 a3 a4 a5 a6 a7 a8 I J h
  unfold fM_layOrder_b104 at h
  refine qp_run_E qp_ok211 3 (c' := (109, [some (.ref 36), none, some (.int a2), some (.int a3), some (.int a4), some (.int a5), some (.int a6), some (.int a7), some (.int a8)], [.int a8, .int a3, .int a7], qp_mk I J)) (by with_unfolding_all rfl) hd1 trivial ?_
  obtain ⟨v1, I1, J1, e1, h⟩ := qp_bd_s h
  refine qp_cS qp_ok211 (rest := [.int a7]) (oj := 10) qp_f212 rfl rfl (gM_has l G a3 a8 I J e1 (Nat.le_refl 1)) rfl rfl rfl (Nat.le_trans (by decide) hd) ?_
  refine qp_br_E qp_ok211 (f := v1 = 0) (ct := (119, [some (.ref 36), none, some (.int a2), some (.int a3), some (.int a4), some (.int a5), some (.int a6), some (.int a7), some (.int a8)], [.int a7], qp_mk I1 J1)) (cf := (115, [some (.ref 36), none, some (.int a2), some (.int a3), some (.int a4), some (.int a5), some (.int a6), some (.int a7), some (.int a8)], [.int a7], qp_mk I1 J1)) (by with_unfolding_all rfl) (fun h1 => ?_) (fun h1 => ?_)
  · replace h := qp_ift h1 h
    refine qp_run_E qp_ok211 5 (c' := (90, [some (.ref 36), none, some (.int a2), some (.int a3), some (.int a4), some (.int a5), some (.int a6), some (.int (a7 - 0)), some (.int (a8 + 1))], [], qp_mk I1 J1)) (by with_unfolding_all rfl) hd1 trivial ?_
    exact hk90 a2 a3 a4 a5 a6 (a7 - 0) (a8 + 1) I1 J1 h
  · replace h := qp_iff h1 h
    refine qp_run_E qp_ok211 6 (c' := (90, [some (.ref 36), none, some (.int a2), some (.int a3), some (.int a4), some (.int a5), some (.int a6), some (.int (a7 - 1)), some (.int (a8 + 1))], [], qp_mk I1 J1)) (by with_unfolding_all rfl) hd1 trivial ?_
    exact hk90 a2 a3 a4 a5 a6 (a7 - 1) (a8 + 1) I1 J1 h
def fM_layOrder_b90  (k44 : Int32 → Int32 → Int32 → Int32 → Int32 → (Nat → Nat → Int32) → (Nat → Nat → Int64) → Option (Unit × (Nat → Nat → Int32) × (Nat → Nat → Int64))) : Nat → Int32 → Int32 → Int32 → Int32 → Int32 → Int32 → Int32 → (Nat → Nat → Int32) → (Nat → Nat → Int64) → Option (Unit × (Nat → Nat → Int32) × (Nat → Nat → Int64))
  | 0, _, _, _, _, _, _, _, _, _ => none
  | n + 1, a2, a3, a4, a5, a6, a7, a8, I, J =>
    qp_bd (fM_has a3 a8 I J) fun v1 I1 J1 =>
    if v1 = 0 then (
      fM_layOrder_b104 (fun a0 a1 a2 a3 a4 a5 a6 I J => fM_layOrder_b90 k44 n a0 a1 a2 a3 a4 a5 a6 I J) a2 a3 a4 a5 a6 a7 a8 I1 J1
    ) else (
      if a7 ≤ 0 then (
        qp_gd ((0 ≤ a6 ∧ a6 < 6)) <|
        k44 a2 (a3 &&& (((1 : Int32) <<< (a8 &&& 31)) ^^^ (-1))) a4 a5 (a6 + 1) (qp_up I1 53 (Int32.toNatClampNeg a6) a8) J1
      ) else (
        fM_layOrder_b104 (fun a0 a1 a2 a3 a4 a5 a6 I J => fM_layOrder_b90 k44 n a0 a1 a2 a3 a4 a5 a6 I J) a2 a3 a4 a5 a6 a7 a8 I1 J1
      )
    )
set_option maxRecDepth 8000 in
theorem gM_layOrder_b90 {l : Launch} {G : qp_G} {d : Nat} (hd : 2 ≤ d) {r : (Unit × (Nat → Nat → Int32) × (Nat → Nat → Int64))} {I0 : Nat → Nat → Int32} {J0 : Nat → Nat → Int64}  (k44 : Int32 → Int32 → Int32 → Int32 → Int32 → (Nat → Nat → Int32) → (Nat → Nat → Int64) → Option (Unit × (Nat → Nat → Int32) × (Nat → Nat → Int64))) (hk44 : ∀ a2 a3 a4 a5 a6 I J, k44 a2 a3 a4 a5 a6 I J = some r → qp_E l G d 211 (qp_mk I0 J0) 0 0 (qp_R8 none r.2.1 r.2.2) (44, [some (.ref 36), none, some (.int a2), some (.int a3), some (.int a4), some (.int a5), some (.int a6), none, none], [], qp_mk I J)) : ∀ (n : Nat) (a2 : Int32) (a3 : Int32) (a4 : Int32) (a5 : Int32) (a6 : Int32) (a7 : Int32) (a8 : Int32) (I : Nat → Nat → Int32) (J : Nat → Nat → Int64), fM_layOrder_b90 k44 n a2 a3 a4 a5 a6 a7 a8 I J = some r → qp_E l G d 211 (qp_mk I0 J0) 0 0 (qp_R8 none r.2.1 r.2.2) (90, [some (.ref 36), none, some (.int a2), some (.int a3), some (.int a4), some (.int a5), some (.int a6), some (.int a7), some (.int a8)], [], qp_mk I J) := by
  have hd1 : Nat.ble 1 d = true := Nat.ble_eq_true_of_le (Nat.le_trans (by decide) hd)
  intro n
  induction n with
  | zero => intro a2 a3 a4 a5 a6 a7 a8 I J h; exact absurd h (by simp [fM_layOrder_b90])
  | succ n ih =>
    intro a2 a3 a4 a5 a6 a7 a8 I J h
    rw [fM_layOrder_b90] at h
    refine qp_run_E qp_ok211 2 (c' := (93, [some (.ref 36), none, some (.int a2), some (.int a3), some (.int a4), some (.int a5), some (.int a6), some (.int a7), some (.int a8)], [.int a8, .int a3], qp_mk I J)) (by with_unfolding_all rfl) hd1 trivial ?_
    obtain ⟨v1, I1, J1, e1, h⟩ := qp_bd_s h
    refine qp_cS qp_ok211 (rest := []) (oj := 10) qp_f212 rfl rfl (gM_has l G a3 a8 I J e1 (Nat.le_refl 1)) rfl rfl rfl (Nat.le_trans (by decide) hd) ?_
    refine qp_br_E qp_ok211 (f := v1 = 0) (ct := (104, [some (.ref 36), none, some (.int a2), some (.int a3), some (.int a4), some (.int a5), some (.int a6), some (.int a7), some (.int a8)], [], qp_mk I1 J1)) (cf := (99, [some (.ref 36), none, some (.int a2), some (.int a3), some (.int a4), some (.int a5), some (.int a6), some (.int a7), some (.int a8)], [], qp_mk I1 J1)) (by with_unfolding_all rfl) (fun h1 => ?_) (fun h1 => ?_)
    · replace h := qp_ift h1 h
      exact gM_layOrder_b104 hd (fun a0 a1 a2 a3 a4 a5 a6 I J => fM_layOrder_b90 k44 n a0 a1 a2 a3 a4 a5 a6 I J) (fun a0 a1 a2 a3 a4 a5 a6 I J h => ih a0 a1 a2 a3 a4 a5 a6 I J h) a2 a3 a4 a5 a6 a7 a8 I1 J1 h
    · replace h := qp_iff h1 h
      refine qp_run_E qp_ok211 1 (c' := (101, [some (.ref 36), none, some (.int a2), some (.int a3), some (.int a4), some (.int a5), some (.int a6), some (.int a7), some (.int a8)], [.int a7], qp_mk I1 J1)) (by with_unfolding_all rfl) hd1 trivial ?_
      refine qp_br_E qp_ok211 (f := a7 ≤ 0) (ct := (129, [some (.ref 36), none, some (.int a2), some (.int a3), some (.int a4), some (.int a5), some (.int a6), some (.int a7), some (.int a8)], [], qp_mk I1 J1)) (cf := (104, [some (.ref 36), none, some (.int a2), some (.int a3), some (.int a4), some (.int a5), some (.int a6), some (.int a7), some (.int a8)], [], qp_mk I1 J1)) (by with_unfolding_all rfl) (fun h2 => ?_) (fun h2 => ?_)
      · replace h := qp_ift h2 h
        obtain ⟨h3, h⟩ := qp_gd_s h
        refine qp_run_E qp_ok211 15 (f := vp_in a6 6 ∧ True) (c' := (44, [some (.ref 36), none, some (.int a2), some (.int (a3 &&& (((1 : Int32) <<< (a8 &&& 31)) ^^^ (-1)))), some (.int a4), some (.int a5), some (.int (a6 + 1)), some (.int a7), some (.int a8)], [], qp_mk (qp_up I1 53 (Int32.toNatClampNeg a6) a8) J1)) (by with_unfolding_all rfl) hd1 ⟨(qp_vin (c := 6) (by decide) h3.1 h3.2), trivial⟩ ?_
        exact qp_E_fg [true, false, true, true, true, true, true, false, false] (hk44 a2 (a3 &&& (((1 : Int32) <<< (a8 &&& 31)) ^^^ (-1))) a4 a5 (a6 + 1) (qp_up I1 53 (Int32.toNatClampNeg a6) a8) J1 h)
      · replace h := qp_iff h2 h
        exact gM_layOrder_b104 hd (fun a0 a1 a2 a3 a4 a5 a6 I J => fM_layOrder_b90 k44 n a0 a1 a2 a3 a4 a5 a6 I J) (fun a0 a1 a2 a3 a4 a5 a6 I J h => ih a0 a1 a2 a3 a4 a5 a6 I J h) a2 a3 a4 a5 a6 a7 a8 I1 J1 h
def fM_layOrder_b44  : Nat → Int32 → Int32 → Int32 → Int32 → Int32 → (Nat → Nat → Int32) → (Nat → Nat → Int64) → Option (Unit × (Nat → Nat → Int32) × (Nat → Nat → Int64))
  | 0, _, _, _, _, _, _, _ => none
  | n + 1, a2, a3, a4, a5, a6, I, J =>
    if a2 ≤ a6 then (
      some ((), I, J)
    ) else (
      qp_gd ((¬ a5 = 0)) <|
      if (a2 - 2) ≤ a6 then (
        fM_layOrder_b90 (fun a0 a1 a2 a3 a4 I J => fM_layOrder_b44 n a0 a1 a2 a3 a4 I J) 100000 a2 a3 (a4 - a4 / a5 * a5) 1 a6 (a4 / a5) 0 I J
      ) else (
        qp_gd ((¬ ((a2 - 1) - a6) = 0)) <|
        fM_layOrder_b90 (fun a0 a1 a2 a3 a4 I J => fM_layOrder_b44 n a0 a1 a2 a3 a4 I J) 100000 a2 a3 (a4 - a4 / a5 * a5) (a5 / ((a2 - 1) - a6)) a6 (a4 / a5) 0 I J
      )
    )
set_option maxRecDepth 8000 in
theorem gM_layOrder_b44 {l : Launch} {G : qp_G} {d : Nat} (hd : 2 ≤ d) {r : (Unit × (Nat → Nat → Int32) × (Nat → Nat → Int64))} {I0 : Nat → Nat → Int32} {J0 : Nat → Nat → Int64}   : ∀ (n : Nat) (a2 : Int32) (a3 : Int32) (a4 : Int32) (a5 : Int32) (a6 : Int32) (I : Nat → Nat → Int32) (J : Nat → Nat → Int64), fM_layOrder_b44  n a2 a3 a4 a5 a6 I J = some r → qp_E l G d 211 (qp_mk I0 J0) 0 0 (qp_R8 none r.2.1 r.2.2) (44, [some (.ref 36), none, some (.int a2), some (.int a3), some (.int a4), some (.int a5), some (.int a6), none, none], [], qp_mk I J) := by
  have hd1 : Nat.ble 1 d = true := Nat.ble_eq_true_of_le (Nat.le_trans (by decide) hd)
  intro n
  induction n with
  | zero => intro a2 a3 a4 a5 a6 I J h; exact absurd h (by simp [fM_layOrder_b44])
  | succ n ih =>
    intro a2 a3 a4 a5 a6 I J h
    rw [fM_layOrder_b44] at h
    refine qp_run_E qp_ok211 2 (c' := (47, [some (.ref 36), none, some (.int a2), some (.int a3), some (.int a4), some (.int a5), some (.int a6), none, none], [.int a2, .int a6], qp_mk I J)) (by with_unfolding_all rfl) hd1 trivial ?_
    refine qp_br_E qp_ok211 (f := a2 ≤ a6) (ct := (153, [some (.ref 36), none, some (.int a2), some (.int a3), some (.int a4), some (.int a5), some (.int a6), none, none], [], qp_mk I J)) (cf := (50, [some (.ref 36), none, some (.int a2), some (.int a3), some (.int a4), some (.int a5), some (.int a6), none, none], [], qp_mk I J)) (by with_unfolding_all rfl) (fun h1 => ?_) (fun h1 => ?_)
    · replace h := qp_ift h1 h
      obtain rfl := Option.some.inj h
      exact qp_retV_E qp_ok211 rfl qp_r211.1 ⟨rfl, rfl⟩ ⟨rfl, rfl⟩
    · replace h := qp_iff h1 h
      obtain ⟨h2, h⟩ := qp_gd_s h
      refine qp_run_E qp_ok211 14 (f := ¬ (a5 : Int32) = 0 ∧ ¬ (a5 : Int32) = 0 ∧ True) (c' := (72, [some (.ref 36), none, some (.int a2), some (.int a3), some (.int (a4 - a4 / a5 * a5)), some (.int a5), some (.int a6), some (.int (a4 / a5)), some (.int 0)], [.int (a2 - 2), .int a6], qp_mk I J)) (by with_unfolding_all rfl) hd1 ⟨h2, h2, trivial⟩ ?_
      refine qp_br_E qp_ok211 (f := (a2 - 2) ≤ a6) (ct := (87, [some (.ref 36), none, some (.int a2), some (.int a3), some (.int (a4 - a4 / a5 * a5)), some (.int a5), some (.int a6), some (.int (a4 / a5)), some (.int 0)], [], qp_mk I J)) (cf := (75, [some (.ref 36), none, some (.int a2), some (.int a3), some (.int (a4 - a4 / a5 * a5)), some (.int a5), some (.int a6), some (.int (a4 / a5)), some (.int 0)], [], qp_mk I J)) (by with_unfolding_all rfl) (fun h3 => ?_) (fun h3 => ?_)
      · replace h := qp_ift h3 h
        refine qp_run_E qp_ok211 2 (c' := (90, [some (.ref 36), none, some (.int a2), some (.int a3), some (.int (a4 - a4 / a5 * a5)), some (.int 1), some (.int a6), some (.int (a4 / a5)), some (.int 0)], [], qp_mk I J)) (by with_unfolding_all rfl) hd1 trivial ?_
        exact gM_layOrder_b90 hd (fun a0 a1 a2 a3 a4 I J => fM_layOrder_b44 n a0 a1 a2 a3 a4 I J) (fun a0 a1 a2 a3 a4 I J h => ih a0 a1 a2 a3 a4 I J h) 100000 a2 a3 (a4 - a4 / a5 * a5) 1 a6 (a4 / a5) 0 I J h
      · replace h := qp_iff h3 h
        obtain ⟨h4, h⟩ := qp_gd_s h
        refine qp_run_E qp_ok211 9 (f := ¬ (((a2 - 1) - a6) : Int32) = 0 ∧ True) (c' := (90, [some (.ref 36), none, some (.int a2), some (.int a3), some (.int (a4 - a4 / a5 * a5)), some (.int (a5 / ((a2 - 1) - a6))), some (.int a6), some (.int (a4 / a5)), some (.int 0)], [], qp_mk I J)) (by with_unfolding_all rfl) hd1 ⟨h4, trivial⟩ ?_
        exact gM_layOrder_b90 hd (fun a0 a1 a2 a3 a4 I J => fM_layOrder_b44 n a0 a1 a2 a3 a4 I J) (fun a0 a1 a2 a3 a4 I J h => ih a0 a1 a2 a3 a4 I J h) 100000 a2 a3 (a4 - a4 / a5 * a5) (a5 / ((a2 - 1) - a6)) a6 (a4 / a5) 0 I J h
def fM_layOrder_b22  : Nat → Int32 → Int32 → Int32 → Int32 → Int32 → (Nat → Nat → Int32) → (Nat → Nat → Int64) → Option (Unit × (Nat → Nat → Int32) × (Nat → Nat → Int64))
  | 0, _, _, _, _, _, _, _ => none
  | n + 1, a2, a3, a4, a5, a6, I, J =>
    if a2 ≤ a6 then (
      fM_layOrder_b44 100000 a2 a3 a4 a5 0 I J
    ) else (
      fM_layOrder_b22 n a2 a3 a4 (a5 * a6) (a6 + 1) I J
    )
set_option maxRecDepth 8000 in
theorem gM_layOrder_b22 {l : Launch} {G : qp_G} {d : Nat} (hd : 2 ≤ d) {r : (Unit × (Nat → Nat → Int32) × (Nat → Nat → Int64))} {I0 : Nat → Nat → Int32} {J0 : Nat → Nat → Int64}   : ∀ (n : Nat) (a2 : Int32) (a3 : Int32) (a4 : Int32) (a5 : Int32) (a6 : Int32) (I : Nat → Nat → Int32) (J : Nat → Nat → Int64), fM_layOrder_b22  n a2 a3 a4 a5 a6 I J = some r → qp_E l G d 211 (qp_mk I0 J0) 0 0 (qp_R8 none r.2.1 r.2.2) (22, [some (.ref 36), none, some (.int a2), some (.int a3), some (.int a4), some (.int a5), some (.int a6), none, none], [], qp_mk I J) := by
  have hd1 : Nat.ble 1 d = true := Nat.ble_eq_true_of_le (Nat.le_trans (by decide) hd)
  intro n
  induction n with
  | zero => intro a2 a3 a4 a5 a6 I J h; exact absurd h (by simp [fM_layOrder_b22])
  | succ n ih =>
    intro a2 a3 a4 a5 a6 I J h
    rw [fM_layOrder_b22] at h
    refine qp_run_E qp_ok211 2 (c' := (25, [some (.ref 36), none, some (.int a2), some (.int a3), some (.int a4), some (.int a5), some (.int a6), none, none], [.int a2, .int a6], qp_mk I J)) (by with_unfolding_all rfl) hd1 trivial ?_
    refine qp_br_E qp_ok211 (f := a2 ≤ a6) (ct := (41, [some (.ref 36), none, some (.int a2), some (.int a3), some (.int a4), some (.int a5), some (.int a6), none, none], [], qp_mk I J)) (cf := (28, [some (.ref 36), none, some (.int a2), some (.int a3), some (.int a4), some (.int a5), some (.int a6), none, none], [], qp_mk I J)) (by with_unfolding_all rfl) (fun h1 => ?_) (fun h1 => ?_)
    · replace h := qp_ift h1 h
      refine qp_run_E qp_ok211 2 (c' := (44, [some (.ref 36), none, some (.int a2), some (.int a3), some (.int a4), some (.int a5), some (.int 0), none, none], [], qp_mk I J)) (by with_unfolding_all rfl) hd1 trivial ?_
      exact gM_layOrder_b44 hd 100000 a2 a3 a4 a5 0 I J h
    · replace h := qp_iff h1 h
      refine qp_run_E qp_ok211 6 (c' := (22, [some (.ref 36), none, some (.int a2), some (.int a3), some (.int a4), some (.int (a5 * a6)), some (.int (a6 + 1)), none, none], [], qp_mk I J)) (by with_unfolding_all rfl) hd1 trivial ?_
      exact ih a2 a3 a4 (a5 * a6) (a6 + 1) I J h
def fM_layOrder (p1 : Int32) (I : Nat → Nat → Int32) (J : Nat → Nat → Int64) : Option (Unit × (Nat → Nat → Int32) × (Nat → Nat → Int64)) :=
  fM_layOrder_b22 100000 (I 37 0) (((1 : Int32) <<< ((I 37 0) &&& 31)) - 1) p1 1 2 I J
set_option maxRecDepth 8000 in
theorem gM_layOrder (l : Launch) (G : qp_G) (p1 : Int32) (I : Nat → Nat → Int32) (J : Nat → Nat → Int64) {v : Unit} {I' : Nat → Nat → Int32} {J' : Nat → Nat → Int64} (h : fM_layOrder p1 I J = some (v, I', J')) {d : Nat} (hd : 2 ≤ d) : qp_Met l G d 211 [.ref 36, .int p1] (qp_mk I J) 0 0 (qp_R8 none I' J') := by
  have hd1 : Nat.ble 1 d = true := Nat.ble_eq_true_of_le (Nat.le_trans (by decide) hd)
  refine qp_Met_of (by decide) (by rw [qp_r211.2]; rfl) [some (.ref 36), some (.int p1), none, none, none, none, none, none, none] (by rw [qp_r211.2]; rfl) ?_
  unfold fM_layOrder at h
  refine qp_run_E qp_ok211 17 (f := vp_in 0 75 ∧ True) (c' := (22, [some (.ref 36), some (.int p1), some (.int (I 37 0)), some (.int (((1 : Int32) <<< ((I 37 0) &&& 31)) - 1)), some (.int p1), some (.int 1), some (.int 2), none, none], [], qp_mk I J)) (by with_unfolding_all rfl) hd1 ⟨(qp_vin (c := 75) (by decide) (by decide) (by decide)), trivial⟩ ?_
  exact qp_E_fg [true, false, true, true, true, true, true, false, false] (gM_layOrder_b22 hd 100000 (I 37 0) (((1 : Int32) <<< ((I 37 0) &&& 31)) - 1) p1 1 2 I J h)
def fM_serve_36_53_b93  (k26 : Int32 → Int32 → Int32 → Int32 → Int32 → (Nat → Nat → Int32) → (Nat → Nat → Int64) → Option (Unit × (Nat → Nat → Int32) × (Nat → Nat → Int64))) (a2 : Int32) (a3 : Int32) (a4 : Int32) (a5 : Int32) (a6 : Int32) (a7 : Int32) (s0 : Int32) (s1 : Int32) (s2 : Int32) (I : Nat → Nat → Int32) (J : Nat → Nat → Int64) : Option (Unit × (Nat → Nat → Int32) × (Nat → Nat → Int64)) :=
  qp_bd (fM_wantsAs s1 s0 I J) fun v1 I1 J1 =>
  qp_gd ((0 ≤ s2 ∧ s2 < 6) ∧ (0 ≤ a7 ∧ a7 < 6) ∧ (0 ≤ ((8 : Int32) + a7) ∧ ((8 : Int32) + a7) < 75)) <|
  if a4 ≤ (I1 37 (Int32.toNatClampNeg ((8 : Int32) + a7))) then (
    qp_gd ((0 ≤ a7 ∧ a7 < 6)) <|
    if (I1 36 20) ≤ ((qp_up I1 51 (Int32.toNatClampNeg s2) v1) 51 (Int32.toNatClampNeg a7)) then (
      qp_gd ((0 ≤ a7 ∧ a7 < 6)) <|
      k26 a2 a3 (a4 + 1) a5 (a6 + 1) (qp_up (qp_up (qp_up (qp_up (qp_up I1 51 (Int32.toNatClampNeg s2) v1) 49 (Int32.toNatClampNeg a7) a4) 50 (Int32.toNatClampNeg a7) (I1 36 20)) 48 (Int32.toNatClampNeg a7) (I1 36 20)) 36 20 ((I1 36 20) - ((qp_up I1 48 (Int32.toNatClampNeg a7) (I1 36 20)) 48 (Int32.toNatClampNeg a7)))) J1
    ) else (
      qp_gd ((0 ≤ a7 ∧ a7 < 6)) <|
      k26 a2 a3 (a4 + 1) a5 (a6 + 1) (qp_up (qp_up (qp_up (qp_up (qp_up I1 51 (Int32.toNatClampNeg s2) v1) 49 (Int32.toNatClampNeg a7) a4) 50 (Int32.toNatClampNeg a7) (I1 36 20)) 48 (Int32.toNatClampNeg a7) ((qp_up I1 51 (Int32.toNatClampNeg s2) v1) 51 (Int32.toNatClampNeg a7))) 36 20 ((I1 36 20) - ((qp_up I1 48 (Int32.toNatClampNeg a7) ((qp_up I1 51 (Int32.toNatClampNeg s2) v1) 51 (Int32.toNatClampNeg a7))) 48 (Int32.toNatClampNeg a7)))) J1
    )
  ) else (
    qp_gd ((0 ≤ a7 ∧ a7 < 6)) <|
    k26 a2 a3 (a4 + 1) a5 (a6 + 1) (qp_up (qp_up (qp_up (qp_up (qp_up I1 51 (Int32.toNatClampNeg s2) v1) 49 (Int32.toNatClampNeg a7) a4) 50 (Int32.toNatClampNeg a7) (I1 36 20)) 48 (Int32.toNatClampNeg a7) 0) 36 20 ((I1 36 20) - ((qp_up I1 48 (Int32.toNatClampNeg a7) 0) 48 (Int32.toNatClampNeg a7)))) J1
  )
set_option maxRecDepth 8000 in
theorem gM_serve_36_53_b93 {l : Launch} {G : qp_G} {d : Nat} (hd : 2 ≤ d) {r : (Unit × (Nat → Nat → Int32) × (Nat → Nat → Int64))} {I0 : Nat → Nat → Int32} {J0 : Nat → Nat → Int64}  (k26 : Int32 → Int32 → Int32 → Int32 → Int32 → (Nat → Nat → Int32) → (Nat → Nat → Int64) → Option (Unit × (Nat → Nat → Int32) × (Nat → Nat → Int64))) (hk26 : ∀ a2 a3 a4 a5 a6 I J, k26 a2 a3 a4 a5 a6 I J = some r → qp_E l G d 175 (qp_mk I0 J0) 0 0 (qp_R8 none r.2.1 r.2.2) (26, [some (.ref 36), some (.ref 53), some (.int a2), some (.int a3), some (.int a4), some (.int a5), some (.int a6), none], [], qp_mk I J)) : ∀ (a2 : Int32) (a3 : Int32) (a4 : Int32) (a5 : Int32) (a6 : Int32) (a7 : Int32) (s0 : Int32) (s1 : Int32) (s2 : Int32) (I : Nat → Nat → Int32) (J : Nat → Nat → Int64), fM_serve_36_53_b93 k26 a2 a3 a4 a5 a6 a7 s0 s1 s2 I J = some r → qp_E l G d 175 (qp_mk I0 J0) 0 0 (qp_R8 none r.2.1 r.2.2) (93, [some (.ref 36), some (.ref 53), some (.int a2), some (.int a3), some (.int a4), some (.int a5), some (.int a6), some (.int a7)], [.int s0, .int s1, .int s2, .ref 51], qp_mk I J) := by
  have hd1 : Nat.ble 1 d = true := Nat.ble_eq_true_of_le (Nat.le_trans (by decide) hd)
  intro a2 a3 a4 a5 a6 a7 s0 s1 s2 I J h
  unfold fM_serve_36_53_b93 at h
  obtain ⟨v1, I1, J1, e1, h⟩ := qp_bd_s h
  refine qp_cS qp_ok175 (rest := [.int s2, .ref 51]) (oj := 10) qp_f177 rfl rfl (gM_wantsAs l G s1 s0 I J e1 (Nat.le_refl 1)) rfl rfl rfl (Nat.le_trans (by decide) hd) ?_
  obtain ⟨h1, h⟩ := qp_gd_s h
  refine qp_run_E qp_ok175 22 (f := vp_in s2 6 ∧ vp_in a7 6 ∧ vp_in a7 6 ∧ vp_in ((8 : Int32) + a7) 75 ∧ True) (c' := (135, [some (.ref 36), some (.ref 53), some (.int a2), some (.int a3), some (.int a4), some (.int a5), some (.int a6), some (.int a7)], [.int (I1 37 (Int32.toNatClampNeg ((8 : Int32) + a7))), .int a4, .int a7, .ref 48], qp_mk (qp_up (qp_up (qp_up I1 51 (Int32.toNatClampNeg s2) v1) 49 (Int32.toNatClampNeg a7) a4) 50 (Int32.toNatClampNeg a7) (I1 36 20)) J1)) (by with_unfolding_all rfl) hd1 ⟨(qp_vin (c := 6) (by decide) h1.1.1 h1.1.2), (qp_vin (c := 6) (by decide) h1.2.1.1 h1.2.1.2), (qp_vin (c := 6) (by decide) h1.2.1.1 h1.2.1.2), (qp_vin (c := 75) (by decide) h1.2.2.1 h1.2.2.2), trivial⟩ ?_
  refine qp_br_E qp_ok175 (f := a4 ≤ (I1 37 (Int32.toNatClampNeg ((8 : Int32) + a7)))) (ct := (142, [some (.ref 36), some (.ref 53), some (.int a2), some (.int a3), some (.int a4), some (.int a5), some (.int a6), some (.int a7)], [.int a7, .ref 48], qp_mk (qp_up (qp_up (qp_up I1 51 (Int32.toNatClampNeg s2) v1) 49 (Int32.toNatClampNeg a7) a4) 50 (Int32.toNatClampNeg a7) (I1 36 20)) J1)) (cf := (138, [some (.ref 36), some (.ref 53), some (.int a2), some (.int a3), some (.int a4), some (.int a5), some (.int a6), some (.int a7)], [.int a7, .ref 48], qp_mk (qp_up (qp_up (qp_up I1 51 (Int32.toNatClampNeg s2) v1) 49 (Int32.toNatClampNeg a7) a4) 50 (Int32.toNatClampNeg a7) (I1 36 20)) J1)) (by with_unfolding_all rfl) (fun h2 => ?_) (fun h2 => ?_)
  · replace h := qp_ift h2 h
    obtain ⟨h3, h⟩ := qp_gd_s h
    refine qp_run_E qp_ok175 6 (f := vp_in a7 6 ∧ True) (c' := (153, [some (.ref 36), some (.ref 53), some (.int a2), some (.int a3), some (.int a4), some (.int a5), some (.int a6), some (.int a7)], [.int (I1 36 20), .int ((qp_up I1 51 (Int32.toNatClampNeg s2) v1) 51 (Int32.toNatClampNeg a7)), .int a7, .ref 48], qp_mk (qp_up (qp_up (qp_up I1 51 (Int32.toNatClampNeg s2) v1) 49 (Int32.toNatClampNeg a7) a4) 50 (Int32.toNatClampNeg a7) (I1 36 20)) J1)) (by with_unfolding_all rfl) hd1 ⟨(qp_vin (c := 6) (by decide) h3.1 h3.2), trivial⟩ ?_
    refine qp_br_E qp_ok175 (f := (I1 36 20) ≤ ((qp_up I1 51 (Int32.toNatClampNeg s2) v1) 51 (Int32.toNatClampNeg a7))) (ct := (166, [some (.ref 36), some (.ref 53), some (.int a2), some (.int a3), some (.int a4), some (.int a5), some (.int a6), some (.int a7)], [.int a7, .ref 48], qp_mk (qp_up (qp_up (qp_up I1 51 (Int32.toNatClampNeg s2) v1) 49 (Int32.toNatClampNeg a7) a4) 50 (Int32.toNatClampNeg a7) (I1 36 20)) J1)) (cf := (156, [some (.ref 36), some (.ref 53), some (.int a2), some (.int a3), some (.int a4), some (.int a5), some (.int a6), some (.int a7)], [.int a7, .ref 48], qp_mk (qp_up (qp_up (qp_up I1 51 (Int32.toNatClampNeg s2) v1) 49 (Int32.toNatClampNeg a7) a4) 50 (Int32.toNatClampNeg a7) (I1 36 20)) J1)) (by with_unfolding_all rfl) (fun h4 => ?_) (fun h4 => ?_)
    · replace h := qp_ift h4 h
      obtain ⟨h5, h⟩ := qp_gd_s h
      refine qp_run_E qp_ok175 15 (f := vp_in a7 6 ∧ vp_in a7 6 ∧ True) (c' := (26, [some (.ref 36), some (.ref 53), some (.int a2), some (.int a3), some (.int (a4 + 1)), some (.int a5), some (.int (a6 + 1)), some (.int a7)], [], qp_mk (qp_up (qp_up (qp_up (qp_up (qp_up I1 51 (Int32.toNatClampNeg s2) v1) 49 (Int32.toNatClampNeg a7) a4) 50 (Int32.toNatClampNeg a7) (I1 36 20)) 48 (Int32.toNatClampNeg a7) (I1 36 20)) 36 20 ((I1 36 20) - ((qp_up I1 48 (Int32.toNatClampNeg a7) (I1 36 20)) 48 (Int32.toNatClampNeg a7)))) J1)) (by with_unfolding_all rfl) hd1 ⟨(qp_vin (c := 6) (by decide) h5.1 h5.2), (qp_vin (c := 6) (by decide) h5.1 h5.2), trivial⟩ ?_
      exact qp_E_fg [true, true, true, true, true, true, true, false] (hk26 a2 a3 (a4 + 1) a5 (a6 + 1) (qp_up (qp_up (qp_up (qp_up (qp_up I1 51 (Int32.toNatClampNeg s2) v1) 49 (Int32.toNatClampNeg a7) a4) 50 (Int32.toNatClampNeg a7) (I1 36 20)) 48 (Int32.toNatClampNeg a7) (I1 36 20)) 36 20 ((I1 36 20) - ((qp_up I1 48 (Int32.toNatClampNeg a7) (I1 36 20)) 48 (Int32.toNatClampNeg a7)))) J1 h)
    · replace h := qp_iff h4 h
      obtain ⟨h6, h⟩ := qp_gd_s h
      refine qp_run_E qp_ok175 18 (f := vp_in a7 6 ∧ vp_in a7 6 ∧ vp_in a7 6 ∧ True) (c' := (26, [some (.ref 36), some (.ref 53), some (.int a2), some (.int a3), some (.int (a4 + 1)), some (.int a5), some (.int (a6 + 1)), some (.int a7)], [], qp_mk (qp_up (qp_up (qp_up (qp_up (qp_up I1 51 (Int32.toNatClampNeg s2) v1) 49 (Int32.toNatClampNeg a7) a4) 50 (Int32.toNatClampNeg a7) (I1 36 20)) 48 (Int32.toNatClampNeg a7) ((qp_up I1 51 (Int32.toNatClampNeg s2) v1) 51 (Int32.toNatClampNeg a7))) 36 20 ((I1 36 20) - ((qp_up I1 48 (Int32.toNatClampNeg a7) ((qp_up I1 51 (Int32.toNatClampNeg s2) v1) 51 (Int32.toNatClampNeg a7))) 48 (Int32.toNatClampNeg a7)))) J1)) (by with_unfolding_all rfl) hd1 ⟨(qp_vin (c := 6) (by decide) h6.1 h6.2), (qp_vin (c := 6) (by decide) h6.1 h6.2), (qp_vin (c := 6) (by decide) h6.1 h6.2), trivial⟩ ?_
      exact qp_E_fg [true, true, true, true, true, true, true, false] (hk26 a2 a3 (a4 + 1) a5 (a6 + 1) (qp_up (qp_up (qp_up (qp_up (qp_up I1 51 (Int32.toNatClampNeg s2) v1) 49 (Int32.toNatClampNeg a7) a4) 50 (Int32.toNatClampNeg a7) (I1 36 20)) 48 (Int32.toNatClampNeg a7) ((qp_up I1 51 (Int32.toNatClampNeg s2) v1) 51 (Int32.toNatClampNeg a7))) 36 20 ((I1 36 20) - ((qp_up I1 48 (Int32.toNatClampNeg a7) ((qp_up I1 51 (Int32.toNatClampNeg s2) v1) 51 (Int32.toNatClampNeg a7))) 48 (Int32.toNatClampNeg a7)))) J1 h)
  · replace h := qp_iff h2 h
    obtain ⟨h7, h⟩ := qp_gd_s h
    refine qp_run_E qp_ok175 15 (f := vp_in a7 6 ∧ vp_in a7 6 ∧ True) (c' := (26, [some (.ref 36), some (.ref 53), some (.int a2), some (.int a3), some (.int (a4 + 1)), some (.int a5), some (.int (a6 + 1)), some (.int a7)], [], qp_mk (qp_up (qp_up (qp_up (qp_up (qp_up I1 51 (Int32.toNatClampNeg s2) v1) 49 (Int32.toNatClampNeg a7) a4) 50 (Int32.toNatClampNeg a7) (I1 36 20)) 48 (Int32.toNatClampNeg a7) 0) 36 20 ((I1 36 20) - ((qp_up I1 48 (Int32.toNatClampNeg a7) 0) 48 (Int32.toNatClampNeg a7)))) J1)) (by with_unfolding_all rfl) hd1 ⟨(qp_vin (c := 6) (by decide) h7.1 h7.2), (qp_vin (c := 6) (by decide) h7.1 h7.2), trivial⟩ ?_
    exact qp_E_fg [true, true, true, true, true, true, true, false] (hk26 a2 a3 (a4 + 1) a5 (a6 + 1) (qp_up (qp_up (qp_up (qp_up (qp_up I1 51 (Int32.toNatClampNeg s2) v1) 49 (Int32.toNatClampNeg a7) a4) 50 (Int32.toNatClampNeg a7) (I1 36 20)) 48 (Int32.toNatClampNeg a7) 0) 36 20 ((I1 36 20) - ((qp_up I1 48 (Int32.toNatClampNeg a7) 0) 48 (Int32.toNatClampNeg a7)))) J1 h)
def fM_serve_36_53_b62  (k26 : Int32 → Int32 → Int32 → Int32 → Int32 → (Nat → Nat → Int32) → (Nat → Nat → Int64) → Option (Unit × (Nat → Nat → Int32) × (Nat → Nat → Int64))) (a2 : Int32) (a3 : Int32) (a4 : Int32) (a5 : Int32) (a6 : Int32) (a7 : Int32) (s0 : Int32) (s1 : Int32) (I : Nat → Nat → Int32) (J : Nat → Nat → Int64) : Option (Unit × (Nat → Nat → Int32) × (Nat → Nat → Int64)) :=
  if ¬ s1 = s0 then (
    k26 a2 a3 a4 a5 (a6 + 1) I J
  ) else (
    qp_gd ((0 ≤ ((2 : Int32) + a7) ∧ ((2 : Int32) + a7) < 75)) <|
    if ¬ a6 = (a3 - 1) then (
      fM_serve_36_53_b93 k26 a2 a3 a4 a5 a6 a7 0 (I 37 (Int32.toNatClampNeg ((2 : Int32) + a7))) a7 I J
    ) else (
      fM_serve_36_53_b93 k26 a2 a3 a4 a5 a6 a7 1 (I 37 (Int32.toNatClampNeg ((2 : Int32) + a7))) a7 I J
    )
  )
set_option maxRecDepth 8000 in
theorem gM_serve_36_53_b62 {l : Launch} {G : qp_G} {d : Nat} (hd : 2 ≤ d) {r : (Unit × (Nat → Nat → Int32) × (Nat → Nat → Int64))} {I0 : Nat → Nat → Int32} {J0 : Nat → Nat → Int64}  (k26 : Int32 → Int32 → Int32 → Int32 → Int32 → (Nat → Nat → Int32) → (Nat → Nat → Int64) → Option (Unit × (Nat → Nat → Int32) × (Nat → Nat → Int64))) (hk26 : ∀ a2 a3 a4 a5 a6 I J, k26 a2 a3 a4 a5 a6 I J = some r → qp_E l G d 175 (qp_mk I0 J0) 0 0 (qp_R8 none r.2.1 r.2.2) (26, [some (.ref 36), some (.ref 53), some (.int a2), some (.int a3), some (.int a4), some (.int a5), some (.int a6), none], [], qp_mk I J)) : ∀ (a2 : Int32) (a3 : Int32) (a4 : Int32) (a5 : Int32) (a6 : Int32) (a7 : Int32) (s0 : Int32) (s1 : Int32) (I : Nat → Nat → Int32) (J : Nat → Nat → Int64), fM_serve_36_53_b62 k26 a2 a3 a4 a5 a6 a7 s0 s1 I J = some r → qp_E l G d 175 (qp_mk I0 J0) 0 0 (qp_R8 none r.2.1 r.2.2) (62, [some (.ref 36), some (.ref 53), some (.int a2), some (.int a3), some (.int a4), some (.int a5), some (.int a6), some (.int a7)], [.int s0, .int s1], qp_mk I J) := by
  have hd1 : Nat.ble 1 d = true := Nat.ble_eq_true_of_le (Nat.le_trans (by decide) hd)
  intro a2 a3 a4 a5 a6 a7 s0 s1 I J h
  unfold fM_serve_36_53_b62 at h
  refine qp_br_E qp_ok175 (f := ¬ s1 = s0) (ct := (190, [some (.ref 36), some (.ref 53), some (.int a2), some (.int a3), some (.int a4), some (.int a5), some (.int a6), some (.int a7)], [], qp_mk I J)) (cf := (65, [some (.ref 36), some (.ref 53), some (.int a2), some (.int a3), some (.int a4), some (.int a5), some (.int a6), some (.int a7)], [], qp_mk I J)) (by with_unfolding_all rfl) (fun h1 => ?_) (fun h1 => ?_)
  · replace h := qp_ift h1 h
    refine qp_run_E qp_ok175 2 (c' := (26, [some (.ref 36), some (.ref 53), some (.int a2), some (.int a3), some (.int a4), some (.int a5), some (.int (a6 + 1)), some (.int a7)], [], qp_mk I J)) (by with_unfolding_all rfl) hd1 trivial ?_
    exact qp_E_fg [true, true, true, true, true, true, true, false] (hk26 a2 a3 a4 a5 (a6 + 1) I J h)
  · replace h := qp_iff h1 h
    obtain ⟨h2, h⟩ := qp_gd_s h
    refine qp_run_E qp_ok175 13 (f := vp_in ((2 : Int32) + a7) 75 ∧ True) (c' := (85, [some (.ref 36), some (.ref 53), some (.int a2), some (.int a3), some (.int a4), some (.int a5), some (.int a6), some (.int a7)], [.int (a3 - 1), .int a6, .int (I 37 (Int32.toNatClampNeg ((2 : Int32) + a7))), .int a7, .ref 51], qp_mk I J)) (by with_unfolding_all rfl) hd1 ⟨(qp_vin (c := 75) (by decide) h2.1 h2.2), trivial⟩ ?_
    refine qp_br_E qp_ok175 (f := ¬ a6 = (a3 - 1)) (ct := (92, [some (.ref 36), some (.ref 53), some (.int a2), some (.int a3), some (.int a4), some (.int a5), some (.int a6), some (.int a7)], [.int (I 37 (Int32.toNatClampNeg ((2 : Int32) + a7))), .int a7, .ref 51], qp_mk I J)) (cf := (88, [some (.ref 36), some (.ref 53), some (.int a2), some (.int a3), some (.int a4), some (.int a5), some (.int a6), some (.int a7)], [.int (I 37 (Int32.toNatClampNeg ((2 : Int32) + a7))), .int a7, .ref 51], qp_mk I J)) (by with_unfolding_all rfl) (fun h3 => ?_) (fun h3 => ?_)
    · replace h := qp_ift h3 h
      refine qp_run_E qp_ok175 1 (c' := (93, [some (.ref 36), some (.ref 53), some (.int a2), some (.int a3), some (.int a4), some (.int a5), some (.int a6), some (.int a7)], [.int 0, .int (I 37 (Int32.toNatClampNeg ((2 : Int32) + a7))), .int a7, .ref 51], qp_mk I J)) (by with_unfolding_all rfl) hd1 trivial ?_
      exact gM_serve_36_53_b93 hd k26 hk26 a2 a3 a4 a5 a6 a7 0 (I 37 (Int32.toNatClampNeg ((2 : Int32) + a7))) a7 I J h
    · replace h := qp_iff h3 h
      refine qp_run_E qp_ok175 2 (c' := (93, [some (.ref 36), some (.ref 53), some (.int a2), some (.int a3), some (.int a4), some (.int a5), some (.int a6), some (.int a7)], [.int 1, .int (I 37 (Int32.toNatClampNeg ((2 : Int32) + a7))), .int a7, .ref 51], qp_mk I J)) (by with_unfolding_all rfl) hd1 trivial ?_
      exact gM_serve_36_53_b93 hd k26 hk26 a2 a3 a4 a5 a6 a7 1 (I 37 (Int32.toNatClampNeg ((2 : Int32) + a7))) a7 I J h
def fM_serve_36_53_b26  (k17 : Int32 → Int32 → Int32 → Int32 → (Nat → Nat → Int32) → (Nat → Nat → Int64) → Option (Unit × (Nat → Nat → Int32) × (Nat → Nat → Int64))) : Nat → Int32 → Int32 → Int32 → Int32 → Int32 → (Nat → Nat → Int32) → (Nat → Nat → Int64) → Option (Unit × (Nat → Nat → Int32) × (Nat → Nat → Int64))
  | 0, _, _, _, _, _, _, _ => none
  | n + 1, a2, a3, a4, a5, a6, I, J =>
    if a3 ≤ a6 then (
      k17 a2 a3 a4 (a5 + 1) I J
    ) else (
      qp_gd ((0 ≤ (a2 + a6) ∧ (a2 + a6) < 6) ∧ (0 ≤ ((2 : Int32) + (I 53 (Int32.toNatClampNeg (a2 + a6)))) ∧ ((2 : Int32) + (I 53 (Int32.toNatClampNeg (a2 + a6)))) < 75)) <|
      qp_bd (fM_isSoldier (I 37 (Int32.toNatClampNeg ((2 : Int32) + (I 53 (Int32.toNatClampNeg (a2 + a6)))))) I J) fun v1 I1 J1 =>
      if ¬ a5 = 0 then (
        fM_serve_36_53_b62 (fun a0 a1 a2 a3 a4 I J => fM_serve_36_53_b26 k17 n a0 a1 a2 a3 a4 I J) a2 a3 a4 a5 a6 (I 53 (Int32.toNatClampNeg (a2 + a6))) 0 v1 I1 J1
      ) else (
        fM_serve_36_53_b62 (fun a0 a1 a2 a3 a4 I J => fM_serve_36_53_b26 k17 n a0 a1 a2 a3 a4 I J) a2 a3 a4 a5 a6 (I 53 (Int32.toNatClampNeg (a2 + a6))) 1 v1 I1 J1
      )
    )
set_option maxRecDepth 8000 in
theorem gM_serve_36_53_b26 {l : Launch} {G : qp_G} {d : Nat} (hd : 2 ≤ d) {r : (Unit × (Nat → Nat → Int32) × (Nat → Nat → Int64))} {I0 : Nat → Nat → Int32} {J0 : Nat → Nat → Int64}  (k17 : Int32 → Int32 → Int32 → Int32 → (Nat → Nat → Int32) → (Nat → Nat → Int64) → Option (Unit × (Nat → Nat → Int32) × (Nat → Nat → Int64))) (hk17 : ∀ a2 a3 a4 a5 I J, k17 a2 a3 a4 a5 I J = some r → qp_E l G d 175 (qp_mk I0 J0) 0 0 (qp_R8 none r.2.1 r.2.2) (17, [some (.ref 36), some (.ref 53), some (.int a2), some (.int a3), some (.int a4), some (.int a5), none, none], [], qp_mk I J)) : ∀ (n : Nat) (a2 : Int32) (a3 : Int32) (a4 : Int32) (a5 : Int32) (a6 : Int32) (I : Nat → Nat → Int32) (J : Nat → Nat → Int64), fM_serve_36_53_b26 k17 n a2 a3 a4 a5 a6 I J = some r → qp_E l G d 175 (qp_mk I0 J0) 0 0 (qp_R8 none r.2.1 r.2.2) (26, [some (.ref 36), some (.ref 53), some (.int a2), some (.int a3), some (.int a4), some (.int a5), some (.int a6), none], [], qp_mk I J) := by
  have hd1 : Nat.ble 1 d = true := Nat.ble_eq_true_of_le (Nat.le_trans (by decide) hd)
  intro n
  induction n with
  | zero => intro a2 a3 a4 a5 a6 I J h; exact absurd h (by simp [fM_serve_36_53_b26])
  | succ n ih =>
    intro a2 a3 a4 a5 a6 I J h
    rw [fM_serve_36_53_b26] at h
    refine qp_run_E qp_ok175 2 (c' := (29, [some (.ref 36), some (.ref 53), some (.int a2), some (.int a3), some (.int a4), some (.int a5), some (.int a6), none], [.int a3, .int a6], qp_mk I J)) (by with_unfolding_all rfl) hd1 trivial ?_
    refine qp_br_E qp_ok175 (f := a3 ≤ a6) (ct := (196, [some (.ref 36), some (.ref 53), some (.int a2), some (.int a3), some (.int a4), some (.int a5), some (.int a6), none], [], qp_mk I J)) (cf := (32, [some (.ref 36), some (.ref 53), some (.int a2), some (.int a3), some (.int a4), some (.int a5), some (.int a6), none], [], qp_mk I J)) (by with_unfolding_all rfl) (fun h1 => ?_) (fun h1 => ?_)
    · replace h := qp_ift h1 h
      refine qp_run_E qp_ok175 2 (c' := (17, [some (.ref 36), some (.ref 53), some (.int a2), some (.int a3), some (.int a4), some (.int (a5 + 1)), some (.int a6), none], [], qp_mk I J)) (by with_unfolding_all rfl) hd1 trivial ?_
      exact qp_E_fg [true, true, true, true, true, true, false, false] (hk17 a2 a3 a4 (a5 + 1) I J h)
    · replace h := qp_iff h1 h
      obtain ⟨h2, h⟩ := qp_gd_s h
      refine qp_run_E qp_ok175 12 (f := vp_in (a2 + a6) 6 ∧ vp_in ((2 : Int32) + (I 53 (Int32.toNatClampNeg (a2 + a6)))) 75 ∧ True) (c' := (49, [some (.ref 36), some (.ref 53), some (.int a2), some (.int a3), some (.int a4), some (.int a5), some (.int a6), some (.int (I 53 (Int32.toNatClampNeg (a2 + a6))))], [.int (I 37 (Int32.toNatClampNeg ((2 : Int32) + (I 53 (Int32.toNatClampNeg (a2 + a6))))))], qp_mk I J)) (by with_unfolding_all rfl) hd1 ⟨(qp_vin (c := 6) (by decide) h2.1.1 h2.1.2), (qp_vin (c := 75) (by decide) h2.2.1 h2.2.2), trivial⟩ ?_
      obtain ⟨v1, I1, J1, e1, h⟩ := qp_bd_s h
      refine qp_cS qp_ok175 (rest := []) (oj := 10) qp_f176 rfl rfl (gM_isSoldier l G (I 37 (Int32.toNatClampNeg ((2 : Int32) + (I 53 (Int32.toNatClampNeg (a2 + a6)))))) I J e1 (Nat.le_refl 1)) rfl rfl rfl (Nat.le_trans (by decide) hd) ?_
      refine qp_run_E qp_ok175 1 (c' := (54, [some (.ref 36), some (.ref 53), some (.int a2), some (.int a3), some (.int a4), some (.int a5), some (.int a6), some (.int (I 53 (Int32.toNatClampNeg (a2 + a6))))], [.int a5, .int v1], qp_mk I1 J1)) (by with_unfolding_all rfl) hd1 trivial ?_
      refine qp_br_E qp_ok175 (f := ¬ a5 = 0) (ct := (61, [some (.ref 36), some (.ref 53), some (.int a2), some (.int a3), some (.int a4), some (.int a5), some (.int a6), some (.int (I 53 (Int32.toNatClampNeg (a2 + a6))))], [.int v1], qp_mk I1 J1)) (cf := (57, [some (.ref 36), some (.ref 53), some (.int a2), some (.int a3), some (.int a4), some (.int a5), some (.int a6), some (.int (I 53 (Int32.toNatClampNeg (a2 + a6))))], [.int v1], qp_mk I1 J1)) (by with_unfolding_all rfl) (fun h3 => ?_) (fun h3 => ?_)
      · replace h := qp_ift h3 h
        refine qp_run_E qp_ok175 1 (c' := (62, [some (.ref 36), some (.ref 53), some (.int a2), some (.int a3), some (.int a4), some (.int a5), some (.int a6), some (.int (I 53 (Int32.toNatClampNeg (a2 + a6))))], [.int 0, .int v1], qp_mk I1 J1)) (by with_unfolding_all rfl) hd1 trivial ?_
        exact gM_serve_36_53_b62 hd (fun a0 a1 a2 a3 a4 I J => fM_serve_36_53_b26 k17 n a0 a1 a2 a3 a4 I J) (fun a0 a1 a2 a3 a4 I J h => ih a0 a1 a2 a3 a4 I J h) a2 a3 a4 a5 a6 (I 53 (Int32.toNatClampNeg (a2 + a6))) 0 v1 I1 J1 h
      · replace h := qp_iff h3 h
        refine qp_run_E qp_ok175 2 (c' := (62, [some (.ref 36), some (.ref 53), some (.int a2), some (.int a3), some (.int a4), some (.int a5), some (.int a6), some (.int (I 53 (Int32.toNatClampNeg (a2 + a6))))], [.int 1, .int v1], qp_mk I1 J1)) (by with_unfolding_all rfl) hd1 trivial ?_
        exact gM_serve_36_53_b62 hd (fun a0 a1 a2 a3 a4 I J => fM_serve_36_53_b26 k17 n a0 a1 a2 a3 a4 I J) (fun a0 a1 a2 a3 a4 I J h => ih a0 a1 a2 a3 a4 I J h) a2 a3 a4 a5 a6 (I 53 (Int32.toNatClampNeg (a2 + a6))) 1 v1 I1 J1 h
def fM_serve_36_53_b17  : Nat → Int32 → Int32 → Int32 → Int32 → (Nat → Nat → Int32) → (Nat → Nat → Int64) → Option (Unit × (Nat → Nat → Int32) × (Nat → Nat → Int64))
  | 0, _, _, _, _, _, _ => none
  | n + 1, a2, a3, a4, a5, I, J =>
    if 2 ≤ a5 then (
      some ((), I, J)
    ) else (
      fM_serve_36_53_b26 (fun a0 a1 a2 a3 I J => fM_serve_36_53_b17 n a0 a1 a2 a3 I J) 100000 a2 a3 a4 a5 0 I J
    )
set_option maxRecDepth 8000 in
theorem gM_serve_36_53_b17 {l : Launch} {G : qp_G} {d : Nat} (hd : 2 ≤ d) {r : (Unit × (Nat → Nat → Int32) × (Nat → Nat → Int64))} {I0 : Nat → Nat → Int32} {J0 : Nat → Nat → Int64}   : ∀ (n : Nat) (a2 : Int32) (a3 : Int32) (a4 : Int32) (a5 : Int32) (I : Nat → Nat → Int32) (J : Nat → Nat → Int64), fM_serve_36_53_b17  n a2 a3 a4 a5 I J = some r → qp_E l G d 175 (qp_mk I0 J0) 0 0 (qp_R8 none r.2.1 r.2.2) (17, [some (.ref 36), some (.ref 53), some (.int a2), some (.int a3), some (.int a4), some (.int a5), none, none], [], qp_mk I J) := by
  have hd1 : Nat.ble 1 d = true := Nat.ble_eq_true_of_le (Nat.le_trans (by decide) hd)
  intro n
  induction n with
  | zero => intro a2 a3 a4 a5 I J h; exact absurd h (by simp [fM_serve_36_53_b17])
  | succ n ih =>
    intro a2 a3 a4 a5 I J h
    rw [fM_serve_36_53_b17] at h
    refine qp_run_E qp_ok175 2 (c' := (20, [some (.ref 36), some (.ref 53), some (.int a2), some (.int a3), some (.int a4), some (.int a5), none, none], [.int 2, .int a5], qp_mk I J)) (by with_unfolding_all rfl) hd1 trivial ?_
    refine qp_br_E qp_ok175 (f := 2 ≤ a5) (ct := (202, [some (.ref 36), some (.ref 53), some (.int a2), some (.int a3), some (.int a4), some (.int a5), none, none], [], qp_mk I J)) (cf := (23, [some (.ref 36), some (.ref 53), some (.int a2), some (.int a3), some (.int a4), some (.int a5), none, none], [], qp_mk I J)) (by with_unfolding_all rfl) (fun h1 => ?_) (fun h1 => ?_)
    · replace h := qp_ift h1 h
      obtain rfl := Option.some.inj h
      exact qp_retV_E qp_ok175 rfl qp_r175.1 ⟨rfl, rfl⟩ ⟨rfl, rfl⟩
    · replace h := qp_iff h1 h
      refine qp_run_E qp_ok175 2 (c' := (26, [some (.ref 36), some (.ref 53), some (.int a2), some (.int a3), some (.int a4), some (.int a5), some (.int 0), none], [], qp_mk I J)) (by with_unfolding_all rfl) hd1 trivial ?_
      exact gM_serve_36_53_b26 hd (fun a0 a1 a2 a3 I J => fM_serve_36_53_b17 n a0 a1 a2 a3 I J) (fun a0 a1 a2 a3 I J h => ih a0 a1 a2 a3 I J h) 100000 a2 a3 a4 a5 0 I J h
def fM_serve_36_53 (p2 : Int32) (p3 : Int32) (I : Nat → Nat → Int32) (J : Nat → Nat → Int64) : Option (Unit × (Nat → Nat → Int32) × (Nat → Nat → Int64)) :=
  fM_serve_36_53_b17 100000 p2 p3 0 0 (qp_up I 36 20 (I 37 55)) J
set_option maxRecDepth 8000 in
theorem gM_serve_36_53 (l : Launch) (G : qp_G) (p2 : Int32) (p3 : Int32) (I : Nat → Nat → Int32) (J : Nat → Nat → Int64) {v : Unit} {I' : Nat → Nat → Int32} {J' : Nat → Nat → Int64} (h : fM_serve_36_53 p2 p3 I J = some (v, I', J')) {d : Nat} (hd : 2 ≤ d) : qp_Met l G d 175 [.ref 36, .ref 53, .int p2, .int p3] (qp_mk I J) 0 0 (qp_R8 none I' J') := by
  have hd1 : Nat.ble 1 d = true := Nat.ble_eq_true_of_le (Nat.le_trans (by decide) hd)
  refine qp_Met_of (by decide) (by rw [qp_r175.2]; rfl) [some (.ref 36), some (.ref 53), some (.int p2), some (.int p3), none, none, none, none] (by rw [qp_r175.2]; rfl) ?_
  unfold fM_serve_36_53 at h
  refine qp_run_E qp_ok175 10 (f := vp_in 55 75 ∧ True) (c' := (17, [some (.ref 36), some (.ref 53), some (.int p2), some (.int p3), some (.int 0), some (.int 0), none, none], [], qp_mk (qp_up I 36 20 (I 37 55)) J)) (by with_unfolding_all rfl) hd1 ⟨(qp_vin (c := 75) (by decide) (by decide) (by decide)), trivial⟩ ?_
  exact gM_serve_36_53_b17 hd 100000 p2 p3 0 0 (qp_up I 36 20 (I 37 55)) J h
def fM_fits_b25  : Nat → Int32 → Int32 → Int32 → (Nat → Nat → Int32) → (Nat → Nat → Int64) → Option (Int32 × (Nat → Nat → Int32) × (Nat → Nat → Int64))
  | 0, _, _, _, _, _ => none
  | n + 1, a2, a3, a4, I, J =>
    qp_gd ((0 ≤ a2 ∧ a2 < 6)) <|
    if (I 41 (Int32.toNatClampNeg a2)) ≤ (a4 + 1) then (
      qp_gd (a3 = 0 ∨ a3 = 1) <| some (a3, I, J)
    ) else (
      if a3 = 0 then (
        qp_gd (a3 = 0 ∨ a3 = 1) <| some (a3, I, J)
      ) else (
        qp_gd ((0 ≤ (((40 : Int32) * a2) + a4) ∧ (((40 : Int32) * a2) + a4) < 240) ∧ (0 ≤ (I 40 (Int32.toNatClampNeg (((40 : Int32) * a2) + a4))) ∧ (I 40 (Int32.toNatClampNeg (((40 : Int32) * a2) + a4))) < 6) ∧ (0 ≤ ((((40 : Int32) * a2) + a4) + 1) ∧ ((((40 : Int32) * a2) + a4) + 1) < 240)) <|
        if ¬ (I 48 (Int32.toNatClampNeg (I 40 (Int32.toNatClampNeg (((40 : Int32) * a2) + a4))))) = (I 40 (Int32.toNatClampNeg ((((40 : Int32) * a2) + a4) + 1))) then (
          fM_fits_b25 n a2 0 (a4 + 2) I J
        ) else (
          fM_fits_b25 n a2 1 (a4 + 2) I J
        )
      )
    )
set_option maxRecDepth 8000 in
theorem gM_fits_b25 {l : Launch} {G : qp_G} {d : Nat} (hd : 3 ≤ d) {r : (Int32 × (Nat → Nat → Int32) × (Nat → Nat → Int64))} {I0 : Nat → Nat → Int32} {J0 : Nat → Nat → Int64}   : ∀ (n : Nat) (a2 : Int32) (a3 : Int32) (a4 : Int32) (I : Nat → Nat → Int32) (J : Nat → Nat → Int64), fM_fits_b25  n a2 a3 a4 I J = some r → qp_E l G d 210 (qp_mk I0 J0) 0 0 (qp_R8 (some (.int r.1)) r.2.1 r.2.2) (25, [some (.ref 36), none, some (.int a2), some (.int a3), some (.int a4)], [], qp_mk I J) := by
  have hd1 : Nat.ble 1 d = true := Nat.ble_eq_true_of_le (Nat.le_trans (by decide) hd)
  intro n
  induction n with
  | zero => intro a2 a3 a4 I J h; exact absurd h (by simp [fM_fits_b25])
  | succ n ih =>
    intro a2 a3 a4 I J h
    rw [fM_fits_b25] at h
    obtain ⟨h1, h⟩ := qp_gd_s h
    refine qp_run_E qp_ok210 7 (f := vp_in a2 6 ∧ True) (c' := (35, [some (.ref 36), none, some (.int a2), some (.int a3), some (.int a4)], [.int (I 41 (Int32.toNatClampNeg a2)), .int (a4 + 1)], qp_mk I J)) (by with_unfolding_all rfl) hd1 ⟨(qp_vin (c := 6) (by decide) h1.1 h1.2), trivial⟩ ?_
    refine qp_br_E qp_ok210 (f := (I 41 (Int32.toNatClampNeg a2)) ≤ (a4 + 1)) (ct := (88, [some (.ref 36), none, some (.int a2), some (.int a3), some (.int a4)], [], qp_mk I J)) (cf := (38, [some (.ref 36), none, some (.int a2), some (.int a3), some (.int a4)], [], qp_mk I J)) (by with_unfolding_all rfl) (fun h2 => ?_) (fun h2 => ?_)
    · replace h := qp_ift h2 h
      refine qp_run_E qp_ok210 1 (c' := (89, [some (.ref 36), none, some (.int a2), some (.int a3), some (.int a4)], [.int a3], qp_mk I J)) (by with_unfolding_all rfl) hd1 trivial ?_
      obtain ⟨h3, h⟩ := qp_gd_s h
      obtain rfl := Option.some.inj h
      exact qp_retZ_E qp_ok210 rfl qp_r210.1 (qp_nar01 h3) ⟨rfl, rfl⟩ ⟨rfl, rfl⟩
    · replace h := qp_iff h2 h
      refine qp_run_E qp_ok210 1 (c' := (39, [some (.ref 36), none, some (.int a2), some (.int a3), some (.int a4)], [.int a3], qp_mk I J)) (by with_unfolding_all rfl) hd1 trivial ?_
      refine qp_br_E qp_ok210 (f := a3 = 0) (ct := (88, [some (.ref 36), none, some (.int a2), some (.int a3), some (.int a4)], [], qp_mk I J)) (cf := (42, [some (.ref 36), none, some (.int a2), some (.int a3), some (.int a4)], [], qp_mk I J)) (by with_unfolding_all rfl) (fun h4 => ?_) (fun h4 => ?_)
      · replace h := qp_ift h4 h
        refine qp_run_E qp_ok210 1 (c' := (89, [some (.ref 36), none, some (.int a2), some (.int a3), some (.int a4)], [.int a3], qp_mk I J)) (by with_unfolding_all rfl) hd1 trivial ?_
        obtain ⟨h5, h⟩ := qp_gd_s h
        obtain rfl := Option.some.inj h
        exact qp_retZ_E qp_ok210 rfl qp_r210.1 (qp_nar01 h5) ⟨rfl, rfl⟩ ⟨rfl, rfl⟩
      · replace h := qp_iff h4 h
        obtain ⟨h6, h⟩ := qp_gd_s h
        refine qp_run_E qp_ok210 21 (f := vp_in (((40 : Int32) * a2) + a4) 240 ∧ vp_in (I 40 (Int32.toNatClampNeg (((40 : Int32) * a2) + a4))) 6 ∧ vp_in ((((40 : Int32) * a2) + a4) + 1) 240 ∧ True) (c' := (73, [some (.ref 36), none, some (.int a2), some (.int a3), some (.int a4)], [.int (I 40 (Int32.toNatClampNeg ((((40 : Int32) * a2) + a4) + 1))), .int (I 48 (Int32.toNatClampNeg (I 40 (Int32.toNatClampNeg (((40 : Int32) * a2) + a4)))))], qp_mk I J)) (by with_unfolding_all rfl) hd1 ⟨(qp_vin (c := 240) (by decide) h6.1.1 h6.1.2), (qp_vin (c := 6) (by decide) h6.2.1.1 h6.2.1.2), (qp_vin (c := 240) (by decide) h6.2.2.1 h6.2.2.2), trivial⟩ ?_
        refine qp_br_E qp_ok210 (f := ¬ (I 48 (Int32.toNatClampNeg (I 40 (Int32.toNatClampNeg (((40 : Int32) * a2) + a4))))) = (I 40 (Int32.toNatClampNeg ((((40 : Int32) * a2) + a4) + 1)))) (ct := (80, [some (.ref 36), none, some (.int a2), some (.int a3), some (.int a4)], [], qp_mk I J)) (cf := (76, [some (.ref 36), none, some (.int a2), some (.int a3), some (.int a4)], [], qp_mk I J)) (by with_unfolding_all rfl) (fun h7 => ?_) (fun h7 => ?_)
        · replace h := qp_ift h7 h
          refine qp_run_E qp_ok210 4 (c' := (25, [some (.ref 36), none, some (.int a2), some (.int 0), some (.int (a4 + 2))], [], qp_mk I J)) (by with_unfolding_all rfl) hd1 trivial ?_
          exact ih a2 0 (a4 + 2) I J h
        · replace h := qp_iff h7 h
          refine qp_run_E qp_ok210 5 (c' := (25, [some (.ref 36), none, some (.int a2), some (.int 1), some (.int (a4 + 2))], [], qp_mk I J)) (by with_unfolding_all rfl) hd1 trivial ?_
          exact ih a2 1 (a4 + 2) I J h
def fM_fits (p1 : Int32) (p2 : Int32) (I : Nat → Nat → Int32) (J : Nat → Nat → Int64) : Option (Int32 × (Nat → Nat → Int32) × (Nat → Nat → Int64)) :=
  qp_bd (fM_layOrder p1 I J) fun _u I1 J1 =>
  qp_bd (fM_serve_36_53 0 (I1 37 0) I1 J1) fun _u I2 J2 =>
  fM_fits_b25 100000 p2 1 0 I2 J2
set_option maxRecDepth 8000 in
theorem gM_fits (l : Launch) (G : qp_G) (p1 : Int32) (p2 : Int32) (I : Nat → Nat → Int32) (J : Nat → Nat → Int64) {v : Int32} {I' : Nat → Nat → Int32} {J' : Nat → Nat → Int64} (h : fM_fits p1 p2 I J = some (v, I', J')) {d : Nat} (hd : 3 ≤ d) : qp_Met l G d 210 [.ref 36, .int p1, .int p2] (qp_mk I J) 0 0 (qp_R8 (some (.int v)) I' J') := by
  have hd1 : Nat.ble 1 d = true := Nat.ble_eq_true_of_le (Nat.le_trans (by decide) hd)
  refine qp_Met_of (by decide) (by rw [qp_r210.2]; rfl) [some (.ref 36), some (.int p1), some (.int p2), none, none] (by rw [qp_r210.2]; rfl) ?_
  unfold fM_fits at h
  refine qp_run_E qp_ok210 4 (c' := (4, [some (.ref 36), some (.int p1), some (.int p2), some (.int 1), none], [.int p1, .ref 36], qp_mk I J)) (by with_unfolding_all rfl) hd1 trivial ?_
  obtain ⟨v1, I1, J1, e1, h⟩ := qp_bd_s h
  refine qp_cV qp_ok210 (rest := []) (oj := 10) qp_f211 rfl rfl (gM_layOrder l G p1 I J e1 (Nat.le_refl 2)) rfl rfl rfl rfl (Nat.le_trans (by decide) hd) ?_
  refine qp_run_E qp_ok210 8 (f := vp_in 0 75 ∧ True) (c' := (19, [some (.ref 36), some (.int p1), some (.int p2), some (.int 1), none], [.int (I1 37 0), .int 0, .ref 53, .ref 36], qp_mk I1 J1)) (by with_unfolding_all rfl) hd1 ⟨(qp_vin (c := 75) (by decide) (by decide) (by decide)), trivial⟩ ?_
  obtain ⟨v2, I2, J2, e2, h⟩ := qp_bd_s h
  refine qp_cV qp_ok210 (rest := []) (oj := 10) qp_f175 rfl rfl (gM_serve_36_53 l G 0 (I1 37 0) I1 J1 e2 (Nat.le_refl 2)) rfl rfl rfl rfl (Nat.le_trans (by decide) hd) ?_
  refine qp_run_E qp_ok210 2 (c' := (25, [some (.ref 36), some (.int p1), some (.int p2), some (.int 1), some (.int 0)], [], qp_mk I2 J2)) (by with_unfolding_all rfl) hd1 trivial ?_
  exact qp_E_fg [true, false, true, true, true] (gM_fits_b25 hd 100000 p2 1 0 I2 J2 h)
def fM_lines_b38  : Nat → Int32 → Int32 → Int32 → (Nat → Nat → Int32) → (Nat → Nat → Int64) → Option (Int32 × (Nat → Nat → Int32) × (Nat → Nat → Int64))
  | 0, _, _, _, _, _ => none
  | n + 1, a1, a3, a4, I, J =>
    qp_bd (fM_manyOrders I J) fun v1 I1 J1 =>
    if v1 ≤ a4 then (
      some (1, I1, (qp_up (qp_up J1 36 10 (Int32.toInt64 a3)) 36 11 1))
    ) else (
      qp_bd (fM_fits a4 a1 I1 J1) fun v2 I2 J2 =>
      if v2 = 0 then (
        fM_lines_b38 n a1 (a3 + 0) (a4 + 1) I2 J2
      ) else (
        fM_lines_b38 n a1 (a3 + 1) (a4 + 1) I2 J2
      )
    )
set_option maxRecDepth 8000 in
theorem gM_lines_b38 {l : Launch} {G : qp_G} {d : Nat} (hd : 4 ≤ d) {r : (Int32 × (Nat → Nat → Int32) × (Nat → Nat → Int64))} {I0 : Nat → Nat → Int32} {J0 : Nat → Nat → Int64}   : ∀ (n : Nat) (a1 : Int32) (a3 : Int32) (a4 : Int32) (I : Nat → Nat → Int32) (J : Nat → Nat → Int64), fM_lines_b38  n a1 a3 a4 I J = some r → qp_E l G d 207 (qp_mk I0 J0) 0 0 (qp_R8 (some (.int r.1)) r.2.1 r.2.2) (38, [some (.ref 36), some (.int a1), none, some (.int a3), some (.int a4)], [], qp_mk I J) := by
  have hd1 : Nat.ble 1 d = true := Nat.ble_eq_true_of_le (Nat.le_trans (by decide) hd)
  intro n
  induction n with
  | zero => intro a1 a3 a4 I J h; exact absurd h (by simp [fM_lines_b38])
  | succ n ih =>
    intro a1 a3 a4 I J h
    rw [fM_lines_b38] at h
    refine qp_run_E qp_ok207 2 (c' := (41, [some (.ref 36), some (.int a1), none, some (.int a3), some (.int a4)], [.ref 36, .int a4], qp_mk I J)) (by with_unfolding_all rfl) hd1 trivial ?_
    obtain ⟨v1, I1, J1, e1, h⟩ := qp_bd_s h
    refine qp_cV qp_ok207 (rest := [.int a4]) (oj := 10) qp_f209 rfl rfl (gM_manyOrders l G I J e1 (Nat.le_refl 1)) rfl rfl rfl rfl (Nat.le_trans (by decide) hd) ?_
    refine qp_br_E qp_ok207 (f := v1 ≤ a4) (ct := (71, [some (.ref 36), some (.int a1), none, some (.int a3), some (.int a4)], [], qp_mk I1 J1)) (cf := (47, [some (.ref 36), some (.int a1), none, some (.int a3), some (.int a4)], [], qp_mk I1 J1)) (by with_unfolding_all rfl) (fun h1 => ?_) (fun h1 => ?_)
    · replace h := qp_ift h1 h
      refine qp_run_E qp_ok207 8 (c' := (83, [some (.ref 36), some (.int a1), none, some (.int a3), some (.int a4)], [.int 1], qp_mk I1 (qp_up (qp_up J1 36 10 (Int32.toInt64 a3)) 36 11 1))) (by with_unfolding_all rfl) hd1 trivial ?_
      obtain rfl := Option.some.inj h
      exact qp_retI_E qp_ok207 rfl qp_r207.1 ⟨rfl, rfl⟩ ⟨rfl, rfl⟩
    · replace h := qp_iff h1 h
      refine qp_run_E qp_ok207 4 (c' := (52, [some (.ref 36), some (.int a1), none, some (.int a3), some (.int a4)], [.int a1, .int a4, .ref 36, .int a3], qp_mk I1 J1)) (by with_unfolding_all rfl) hd1 trivial ?_
      obtain ⟨v2, I2, J2, e2, h⟩ := qp_bd_s h
      refine qp_cV qp_ok207 (rest := [.int a3]) (oj := 10) qp_f210 rfl rfl (gM_fits l G a4 a1 I1 J1 e2 (Nat.le_refl 3)) rfl rfl rfl rfl (Nat.le_trans (by decide) hd) ?_
      refine qp_br_E qp_ok207 (f := v2 = 0) (ct := (62, [some (.ref 36), some (.int a1), none, some (.int a3), some (.int a4)], [.int a3], qp_mk I2 J2)) (cf := (58, [some (.ref 36), some (.int a1), none, some (.int a3), some (.int a4)], [.int a3], qp_mk I2 J2)) (by with_unfolding_all rfl) (fun h2 => ?_) (fun h2 => ?_)
      · replace h := qp_ift h2 h
        refine qp_run_E qp_ok207 5 (c' := (38, [some (.ref 36), some (.int a1), none, some (.int (a3 + 0)), some (.int (a4 + 1))], [], qp_mk I2 J2)) (by with_unfolding_all rfl) hd1 trivial ?_
        exact ih a1 (a3 + 0) (a4 + 1) I2 J2 h
      · replace h := qp_iff h2 h
        refine qp_run_E qp_ok207 6 (c' := (38, [some (.ref 36), some (.int a1), none, some (.int (a3 + 1)), some (.int (a4 + 1))], [], qp_mk I2 J2)) (by with_unfolding_all rfl) hd1 trivial ?_
        exact ih a1 (a3 + 1) (a4 + 1) I2 J2 h
def fM_lines (p1 : Int32) (I : Nat → Nat → Int32) (J : Nat → Nat → Int64) : Option (Int32 × (Nat → Nat → Int32) × (Nat → Nat → Int64)) :=
  qp_bd (fM_isRow p1 I J) fun v1 I1 J1 =>
  if ¬ v1 = 0 then (
    if ¬ (I1 37 0) = 0 then (
      qp_bd (fM_refusesPairs p1 I1 J1) fun v2 I2 J2 =>
      if v2 = 0 then (
        fM_lines_b38 100000 p1 0 0 I2 J2
      ) else (
        some (v2, I2, J2)
      )
    ) else (
      some ((-4), I1, J1)
    )
  ) else (
    some ((-1), I1, J1)
  )
set_option maxRecDepth 8000 in
theorem gM_lines (l : Launch) (G : qp_G) (p1 : Int32) (I : Nat → Nat → Int32) (J : Nat → Nat → Int64) {v : Int32} {I' : Nat → Nat → Int32} {J' : Nat → Nat → Int64} (h : fM_lines p1 I J = some (v, I', J')) {d : Nat} (hd : 4 ≤ d) : qp_Met l G d 207 [.ref 36, .int p1] (qp_mk I J) 0 0 (qp_R8 (some (.int v)) I' J') := by
  have hd1 : Nat.ble 1 d = true := Nat.ble_eq_true_of_le (Nat.le_trans (by decide) hd)
  refine qp_Met_of (by decide) (by rw [qp_r207.2]; rfl) [some (.ref 36), some (.int p1), none, none, none] (by rw [qp_r207.2]; rfl) ?_
  unfold fM_lines at h
  refine qp_run_E qp_ok207 1 (c' := (1, [some (.ref 36), some (.int p1), none, none, none], [.int p1], qp_mk I J)) (by with_unfolding_all rfl) hd1 trivial ?_
  obtain ⟨v1, I1, J1, e1, h⟩ := qp_bd_s h
  refine qp_cS qp_ok207 (rest := []) (oj := 10) qp_f149 rfl rfl (gM_isRow l G p1 I J e1 (Nat.le_refl 2)) rfl rfl rfl (Nat.le_trans (by decide) hd) ?_
  refine qp_br_E qp_ok207 (f := ¬ v1 = 0) (ct := (9, [some (.ref 36), some (.int p1), none, none, none], [], qp_mk I1 J1)) (cf := (7, [some (.ref 36), some (.int p1), none, none, none], [], qp_mk I1 J1)) (by with_unfolding_all rfl) (fun h1 => ?_) (fun h1 => ?_)
  · replace h := qp_ift h1 h
    refine qp_run_E qp_ok207 4 (f := vp_in 0 75 ∧ True) (c' := (15, [some (.ref 36), some (.int p1), none, none, none], [.int (I1 37 0)], qp_mk I1 J1)) (by with_unfolding_all rfl) hd1 ⟨(qp_vin (c := 75) (by decide) (by decide) (by decide)), trivial⟩ ?_
    refine qp_br_E qp_ok207 (f := ¬ (I1 37 0) = 0) (ct := (21, [some (.ref 36), some (.int p1), none, none, none], [], qp_mk I1 J1)) (cf := (18, [some (.ref 36), some (.int p1), none, none, none], [], qp_mk I1 J1)) (by with_unfolding_all rfl) (fun h2 => ?_) (fun h2 => ?_)
    · replace h := qp_ift h2 h
      refine qp_run_E qp_ok207 2 (c' := (23, [some (.ref 36), some (.int p1), none, none, none], [.int p1, .ref 36], qp_mk I1 J1)) (by with_unfolding_all rfl) hd1 trivial ?_
      obtain ⟨v2, I2, J2, e2, h⟩ := qp_bd_s h
      refine qp_cV qp_ok207 (rest := []) (oj := 10) qp_f208 rfl rfl (gM_refusesPairs l G p1 I1 J1 e2 (Nat.le_refl 2)) rfl rfl rfl rfl (Nat.le_trans (by decide) hd) ?_
      refine qp_run_E qp_ok207 2 (c' := (28, [some (.ref 36), some (.int p1), some (.int v2), none, none], [.int v2], qp_mk I2 J2)) (by with_unfolding_all rfl) hd1 trivial ?_
      refine qp_br_E qp_ok207 (f := v2 = 0) (ct := (33, [some (.ref 36), some (.int p1), some (.int v2), none, none], [], qp_mk I2 J2)) (cf := (31, [some (.ref 36), some (.int p1), some (.int v2), none, none], [], qp_mk I2 J2)) (by with_unfolding_all rfl) (fun h3 => ?_) (fun h3 => ?_)
      · replace h := qp_ift h3 h
        refine qp_run_E qp_ok207 4 (c' := (38, [some (.ref 36), some (.int p1), some (.int v2), some (.int 0), some (.int 0)], [], qp_mk I2 J2)) (by with_unfolding_all rfl) hd1 trivial ?_
        exact qp_E_fg [true, true, false, true, true] (gM_lines_b38 hd 100000 p1 0 0 I2 J2 h)
      · replace h := qp_iff h3 h
        refine qp_run_E qp_ok207 1 (c' := (32, [some (.ref 36), some (.int p1), some (.int v2), none, none], [.int v2], qp_mk I2 J2)) (by with_unfolding_all rfl) hd1 trivial ?_
        obtain ⟨rfl, rfl, rfl⟩ := qp_some3 h
        exact qp_retI_E qp_ok207 rfl qp_r207.1 ⟨rfl, rfl⟩ ⟨rfl, rfl⟩
    · replace h := qp_iff h2 h
      refine qp_run_E qp_ok207 1 (c' := (20, [some (.ref 36), some (.int p1), none, none, none], [.int (-4)], qp_mk I1 J1)) (by with_unfolding_all rfl) hd1 trivial ?_
      obtain ⟨rfl, rfl, rfl⟩ := qp_some3 h
      exact qp_retI_E qp_ok207 rfl qp_r207.1 ⟨rfl, rfl⟩ ⟨rfl, rfl⟩
  · replace h := qp_iff h1 h
    refine qp_run_E qp_ok207 1 (c' := (8, [some (.ref 36), some (.int p1), none, none, none], [.int (-1)], qp_mk I1 J1)) (by with_unfolding_all rfl) hd1 trivial ?_
    obtain ⟨rfl, rfl, rfl⟩ := qp_some3 h
    exact qp_retI_E qp_ok207 rfl qp_r207.1 ⟨rfl, rfl⟩ ⟨rfl, rfl⟩
def fM_can_b35  : Nat → Int32 → Int32 → Int32 → Int32 → (Nat → Nat → Int32) → (Nat → Nat → Int64) → Option (Int32 × (Nat → Nat → Int32) × (Nat → Nat → Int64))
  | 0, _, _, _, _, _, _ => none
  | n + 1, a1, a2, a4, a5, I, J =>
    qp_bd (fM_manyOrders I J) fun v1 I1 J1 =>
    if v1 ≤ a5 then (
      some (a4, I1, J1)
    ) else (
      qp_bd (fM_fits a5 a1 I1 J1) fun v2 I2 J2 =>
      if v2 = 0 then (
        fM_can_b35 n a1 a2 (a4 ||| 0) (a5 + 1) I2 J2
      ) else (
        qp_gd ((0 ≤ a2 ∧ a2 < 6)) <|
        fM_can_b35 n a1 a2 (a4 ||| ((1 : Int32) <<< ((I2 53 (Int32.toNatClampNeg a2)) &&& 31))) (a5 + 1) I2 J2
      )
    )
set_option maxRecDepth 8000 in
theorem gM_can_b35 {l : Launch} {G : qp_G} {d : Nat} (hd : 4 ≤ d) {r : (Int32 × (Nat → Nat → Int32) × (Nat → Nat → Int64))} {I0 : Nat → Nat → Int32} {J0 : Nat → Nat → Int64}   : ∀ (n : Nat) (a1 : Int32) (a2 : Int32) (a4 : Int32) (a5 : Int32) (I : Nat → Nat → Int32) (J : Nat → Nat → Int64), fM_can_b35  n a1 a2 a4 a5 I J = some r → qp_E l G d 213 (qp_mk I0 J0) 0 0 (qp_R8 (some (.int r.1)) r.2.1 r.2.2) (35, [some (.ref 36), some (.int a1), some (.int a2), none, some (.int a4), some (.int a5)], [], qp_mk I J) := by
  have hd1 : Nat.ble 1 d = true := Nat.ble_eq_true_of_le (Nat.le_trans (by decide) hd)
  intro n
  induction n with
  | zero => intro a1 a2 a4 a5 I J h; exact absurd h (by simp [fM_can_b35])
  | succ n ih =>
    intro a1 a2 a4 a5 I J h
    rw [fM_can_b35] at h
    refine qp_run_E qp_ok213 2 (c' := (38, [some (.ref 36), some (.int a1), some (.int a2), none, some (.int a4), some (.int a5)], [.ref 36, .int a5], qp_mk I J)) (by with_unfolding_all rfl) hd1 trivial ?_
    obtain ⟨v1, I1, J1, e1, h⟩ := qp_bd_s h
    refine qp_cV qp_ok213 (rest := [.int a5]) (oj := 10) qp_f209 rfl rfl (gM_manyOrders l G I J e1 (Nat.le_refl 1)) rfl rfl rfl rfl (Nat.le_trans (by decide) hd) ?_
    refine qp_br_E qp_ok213 (f := v1 ≤ a5) (ct := (77, [some (.ref 36), some (.int a1), some (.int a2), none, some (.int a4), some (.int a5)], [], qp_mk I1 J1)) (cf := (44, [some (.ref 36), some (.int a1), some (.int a2), none, some (.int a4), some (.int a5)], [], qp_mk I1 J1)) (by with_unfolding_all rfl) (fun h1 => ?_) (fun h1 => ?_)
    · replace h := qp_ift h1 h
      refine qp_run_E qp_ok213 1 (c' := (79, [some (.ref 36), some (.int a1), some (.int a2), none, some (.int a4), some (.int a5)], [.int a4], qp_mk I1 J1)) (by with_unfolding_all rfl) hd1 trivial ?_
      obtain rfl := Option.some.inj h
      exact qp_retI_E qp_ok213 rfl qp_r213.1 ⟨rfl, rfl⟩ ⟨rfl, rfl⟩
    · replace h := qp_iff h1 h
      refine qp_run_E qp_ok213 4 (c' := (50, [some (.ref 36), some (.int a1), some (.int a2), none, some (.int a4), some (.int a5)], [.int a1, .int a5, .ref 36, .int a4], qp_mk I1 J1)) (by with_unfolding_all rfl) hd1 trivial ?_
      obtain ⟨v2, I2, J2, e2, h⟩ := qp_bd_s h
      refine qp_cV qp_ok213 (rest := [.int a4]) (oj := 10) qp_f210 rfl rfl (gM_fits l G a5 a1 I1 J1 e2 (Nat.le_refl 3)) rfl rfl rfl rfl (Nat.le_trans (by decide) hd) ?_
      refine qp_br_E qp_ok213 (f := v2 = 0) (ct := (67, [some (.ref 36), some (.int a1), some (.int a2), none, some (.int a4), some (.int a5)], [.int a4], qp_mk I2 J2)) (cf := (56, [some (.ref 36), some (.int a1), some (.int a2), none, some (.int a4), some (.int a5)], [.int a4], qp_mk I2 J2)) (by with_unfolding_all rfl) (fun h2 => ?_) (fun h2 => ?_)
      · replace h := qp_ift h2 h
        refine qp_run_E qp_ok213 5 (c' := (35, [some (.ref 36), some (.int a1), some (.int a2), none, some (.int (a4 ||| 0)), some (.int (a5 + 1))], [], qp_mk I2 J2)) (by with_unfolding_all rfl) hd1 trivial ?_
        exact ih a1 a2 (a4 ||| 0) (a5 + 1) I2 J2 h
      · replace h := qp_iff h2 h
        obtain ⟨h3, h⟩ := qp_gd_s h
        refine qp_run_E qp_ok213 11 (f := vp_in a2 6 ∧ True) (c' := (35, [some (.ref 36), some (.int a1), some (.int a2), none, some (.int (a4 ||| ((1 : Int32) <<< ((I2 53 (Int32.toNatClampNeg a2)) &&& 31)))), some (.int (a5 + 1))], [], qp_mk I2 J2)) (by with_unfolding_all rfl) hd1 ⟨(qp_vin (c := 6) (by decide) h3.1 h3.2), trivial⟩ ?_
        exact ih a1 a2 (a4 ||| ((1 : Int32) <<< ((I2 53 (Int32.toNatClampNeg a2)) &&& 31))) (a5 + 1) I2 J2 h
def fM_can (p1 : Int32) (p2 : Int32) (I : Nat → Nat → Int32) (J : Nat → Nat → Int64) : Option (Int32 × (Nat → Nat → Int32) × (Nat → Nat → Int64)) :=
  qp_bd (fM_isRow p1 I J) fun v1 I1 J1 =>
  if v1 = 0 then (
    some ((-1), I1, J1)
  ) else (
    qp_bd (fM_isOne p2 I1 J1) fun v2 I2 J2 =>
    if ¬ v2 = 0 then (
      qp_bd (fM_refusesPairs p1 I2 J2) fun v3 I3 J3 =>
      if v3 = 0 then (
        fM_can_b35 100000 p1 p2 0 0 I3 J3
      ) else (
        some (v3, I3, J3)
      )
    ) else (
      some ((-1), I2, J2)
    )
  )
set_option maxRecDepth 8000 in
theorem gM_can (l : Launch) (G : qp_G) (p1 : Int32) (p2 : Int32) (I : Nat → Nat → Int32) (J : Nat → Nat → Int64) {v : Int32} {I' : Nat → Nat → Int32} {J' : Nat → Nat → Int64} (h : fM_can p1 p2 I J = some (v, I', J')) {d : Nat} (hd : 4 ≤ d) : qp_Met l G d 213 [.ref 36, .int p1, .int p2] (qp_mk I J) 0 0 (qp_R8 (some (.int v)) I' J') := by
  have hd1 : Nat.ble 1 d = true := Nat.ble_eq_true_of_le (Nat.le_trans (by decide) hd)
  refine qp_Met_of (by decide) (by rw [qp_r213.2]; rfl) [some (.ref 36), some (.int p1), some (.int p2), none, none, none] (by rw [qp_r213.2]; rfl) ?_
  unfold fM_can at h
  refine qp_run_E qp_ok213 1 (c' := (1, [some (.ref 36), some (.int p1), some (.int p2), none, none, none], [.int p1], qp_mk I J)) (by with_unfolding_all rfl) hd1 trivial ?_
  obtain ⟨v1, I1, J1, e1, h⟩ := qp_bd_s h
  refine qp_cS qp_ok213 (rest := []) (oj := 10) qp_f149 rfl rfl (gM_isRow l G p1 I J e1 (Nat.le_refl 2)) rfl rfl rfl (Nat.le_trans (by decide) hd) ?_
  refine qp_br_E qp_ok213 (f := v1 = 0) (ct := (15, [some (.ref 36), some (.int p1), some (.int p2), none, none, none], [], qp_mk I1 J1)) (cf := (7, [some (.ref 36), some (.int p1), some (.int p2), none, none, none], [], qp_mk I1 J1)) (by with_unfolding_all rfl) (fun h1 => ?_) (fun h1 => ?_)
  · replace h := qp_ift h1 h
    refine qp_run_E qp_ok213 1 (c' := (16, [some (.ref 36), some (.int p1), some (.int p2), none, none, none], [.int (-1)], qp_mk I1 J1)) (by with_unfolding_all rfl) hd1 trivial ?_
    obtain ⟨rfl, rfl, rfl⟩ := qp_some3 h
    exact qp_retI_E qp_ok213 rfl qp_r213.1 ⟨rfl, rfl⟩ ⟨rfl, rfl⟩
  · replace h := qp_iff h1 h
    refine qp_run_E qp_ok213 2 (c' := (9, [some (.ref 36), some (.int p1), some (.int p2), none, none, none], [.int p2, .ref 36], qp_mk I1 J1)) (by with_unfolding_all rfl) hd1 trivial ?_
    obtain ⟨v2, I2, J2, e2, h⟩ := qp_bd_s h
    refine qp_cV qp_ok213 (rest := []) (oj := 10) qp_f172 rfl rfl (gM_isOne l G p2 I1 J1 e2 (Nat.le_refl 2)) rfl rfl rfl rfl (Nat.le_trans (by decide) hd) ?_
    refine qp_br_E qp_ok213 (f := ¬ v2 = 0) (ct := (17, [some (.ref 36), some (.int p1), some (.int p2), none, none, none], [], qp_mk I2 J2)) (cf := (15, [some (.ref 36), some (.int p1), some (.int p2), none, none, none], [], qp_mk I2 J2)) (by with_unfolding_all rfl) (fun h2 => ?_) (fun h2 => ?_)
    · replace h := qp_ift h2 h
      refine qp_run_E qp_ok213 2 (c' := (19, [some (.ref 36), some (.int p1), some (.int p2), none, none, none], [.int p1, .ref 36], qp_mk I2 J2)) (by with_unfolding_all rfl) hd1 trivial ?_
      obtain ⟨v3, I3, J3, e3, h⟩ := qp_bd_s h
      refine qp_cV qp_ok213 (rest := []) (oj := 10) qp_f208 rfl rfl (gM_refusesPairs l G p1 I2 J2 e3 (Nat.le_refl 2)) rfl rfl rfl rfl (Nat.le_trans (by decide) hd) ?_
      refine qp_run_E qp_ok213 2 (c' := (24, [some (.ref 36), some (.int p1), some (.int p2), some (.int v3), none, none], [.int v3], qp_mk I3 J3)) (by with_unfolding_all rfl) hd1 trivial ?_
      refine qp_br_E qp_ok213 (f := v3 = 0) (ct := (29, [some (.ref 36), some (.int p1), some (.int p2), some (.int v3), none, none], [], qp_mk I3 J3)) (cf := (27, [some (.ref 36), some (.int p1), some (.int p2), some (.int v3), none, none], [], qp_mk I3 J3)) (by with_unfolding_all rfl) (fun h3 => ?_) (fun h3 => ?_)
      · replace h := qp_ift h3 h
        refine qp_run_E qp_ok213 4 (c' := (35, [some (.ref 36), some (.int p1), some (.int p2), some (.int v3), some (.int 0), some (.int 0)], [], qp_mk I3 J3)) (by with_unfolding_all rfl) hd1 trivial ?_
        exact qp_E_fg [true, true, true, false, true, true] (gM_can_b35 hd 100000 p1 p2 0 0 I3 J3 h)
      · replace h := qp_iff h3 h
        refine qp_run_E qp_ok213 1 (c' := (28, [some (.ref 36), some (.int p1), some (.int p2), some (.int v3), none, none], [.int v3], qp_mk I3 J3)) (by with_unfolding_all rfl) hd1 trivial ?_
        obtain ⟨rfl, rfl, rfl⟩ := qp_some3 h
        exact qp_retI_E qp_ok213 rfl qp_r213.1 ⟨rfl, rfl⟩ ⟨rfl, rfl⟩
    · replace h := qp_iff h2 h
      refine qp_run_E qp_ok213 1 (c' := (16, [some (.ref 36), some (.int p1), some (.int p2), none, none, none], [.int (-1)], qp_mk I2 J2)) (by with_unfolding_all rfl) hd1 trivial ?_
      obtain ⟨rfl, rfl, rfl⟩ := qp_some3 h
      exact qp_retI_E qp_ok213 rfl qp_r213.1 ⟨rfl, rfl⟩ ⟨rfl, rfl⟩
def fM_next_b163  (k142 : Int32 → Int32 → Int32 → Int32 → (Nat → Nat → Int32) → (Nat → Nat → Int64) → Option (Int32 × (Nat → Nat → Int32) × (Nat → Nat → Int64))) : Nat → Int32 → Int32 → Int32 → Int32 → Int32 → Int32 → (Nat → Nat → Int32) → (Nat → Nat → Int64) → Option (Int32 × (Nat → Nat → Int32) × (Nat → Nat → Int64))
  | 0, _, _, _, _, _, _, _, _ => none
  | n + 1, a3, a4, a5, a6, a7, a8, I, J =>
    if 4 ≤ a8 then (
      if a5 ≤ a7 then (
        if a5 ≤ a7 then (
          k142 a3 a4 a5 (a6 + 1) I J
        ) else (
          k142 a3 a4 a7 (a6 + 1) I J
        )
      ) else (
        if a5 ≤ a7 then (
          k142 a3 a6 a5 (a6 + 1) I J
        ) else (
          k142 a3 a6 a7 (a6 + 1) I J
        )
      )
    ) else (
      qp_gd ((0 ≤ (((4 : Int32) * a6) + a8) ∧ (((4 : Int32) * a6) + a8) < 24)) <|
      if (I 54 (Int32.toNatClampNeg (((4 : Int32) * a6) + a8))) ≤ a7 then (
        fM_next_b163 k142 n a3 a4 a5 a6 a7 (a8 + 1) I J
      ) else (
        qp_gd ((0 ≤ (((4 : Int32) * a6) + a8) ∧ (((4 : Int32) * a6) + a8) < 24)) <|
        fM_next_b163 k142 n a3 a4 a5 a6 (I 54 (Int32.toNatClampNeg (((4 : Int32) * a6) + a8))) (a8 + 1) I J
      )
    )
set_option maxRecDepth 8000 in
theorem gM_next_b163 {l : Launch} {G : qp_G} {d : Nat} (hd : 4 ≤ d) {r : (Int32 × (Nat → Nat → Int32) × (Nat → Nat → Int64))} {I0 : Nat → Nat → Int32} {J0 : Nat → Nat → Int64}  (k142 : Int32 → Int32 → Int32 → Int32 → (Nat → Nat → Int32) → (Nat → Nat → Int64) → Option (Int32 × (Nat → Nat → Int32) × (Nat → Nat → Int64))) (hk142 : ∀ a3 a4 a5 a6 I J, k142 a3 a4 a5 a6 I J = some r → qp_E l G d 214 (qp_mk I0 J0) 0 0 (qp_R8 (some (.int r.1)) r.2.1 r.2.2) (142, [some (.ref 36), none, none, some (.int a3), some (.int a4), some (.int a5), some (.int a6), none, none], [], qp_mk I J)) : ∀ (n : Nat) (a3 : Int32) (a4 : Int32) (a5 : Int32) (a6 : Int32) (a7 : Int32) (a8 : Int32) (I : Nat → Nat → Int32) (J : Nat → Nat → Int64), fM_next_b163 k142 n a3 a4 a5 a6 a7 a8 I J = some r → qp_E l G d 214 (qp_mk I0 J0) 0 0 (qp_R8 (some (.int r.1)) r.2.1 r.2.2) (163, [some (.ref 36), none, none, some (.int a3), some (.int a4), some (.int a5), some (.int a6), some (.int a7), some (.int a8)], [], qp_mk I J) := by
  have hd1 : Nat.ble 1 d = true := Nat.ble_eq_true_of_le (Nat.le_trans (by decide) hd)
  intro n
  induction n with
  | zero => intro a3 a4 a5 a6 a7 a8 I J h; exact absurd h (by simp [fM_next_b163])
  | succ n ih =>
    intro a3 a4 a5 a6 a7 a8 I J h
    rw [fM_next_b163] at h
    refine qp_run_E qp_ok214 2 (c' := (166, [some (.ref 36), none, none, some (.int a3), some (.int a4), some (.int a5), some (.int a6), some (.int a7), some (.int a8)], [.int 4, .int a8], qp_mk I J)) (by with_unfolding_all rfl) hd1 trivial ?_
    refine qp_br_E qp_ok214 (f := 4 ≤ a8) (ct := (211, [some (.ref 36), none, none, some (.int a3), some (.int a4), some (.int a5), some (.int a6), some (.int a7), some (.int a8)], [], qp_mk I J)) (cf := (169, [some (.ref 36), none, none, some (.int a3), some (.int a4), some (.int a5), some (.int a6), some (.int a7), some (.int a8)], [], qp_mk I J)) (by with_unfolding_all rfl) (fun h1 => ?_) (fun h1 => ?_)
    · replace h := qp_ift h1 h
      refine qp_run_E qp_ok214 2 (c' := (215, [some (.ref 36), none, none, some (.int a3), some (.int a4), some (.int a5), some (.int a6), some (.int a7), some (.int a8)], [.int a5, .int a7], qp_mk I J)) (by with_unfolding_all rfl) hd1 trivial ?_
      refine qp_br_E qp_ok214 (f := a5 ≤ a7) (ct := (223, [some (.ref 36), none, none, some (.int a3), some (.int a4), some (.int a5), some (.int a6), some (.int a7), some (.int a8)], [], qp_mk I J)) (cf := (218, [some (.ref 36), none, none, some (.int a3), some (.int a4), some (.int a5), some (.int a6), some (.int a7), some (.int a8)], [], qp_mk I J)) (by with_unfolding_all rfl) (fun h2 => ?_) (fun h2 => ?_)
      · replace h := qp_ift h2 h
        refine qp_run_E qp_ok214 4 (c' := (231, [some (.ref 36), none, none, some (.int a3), some (.int a4), some (.int a5), some (.int a6), some (.int a7), some (.int a8)], [.int a5, .int a7], qp_mk I J)) (by with_unfolding_all rfl) hd1 trivial ?_
        refine qp_br_E qp_ok214 (f := a5 ≤ a7) (ct := (239, [some (.ref 36), none, none, some (.int a3), some (.int a4), some (.int a5), some (.int a6), some (.int a7), some (.int a8)], [], qp_mk I J)) (cf := (234, [some (.ref 36), none, none, some (.int a3), some (.int a4), some (.int a5), some (.int a6), some (.int a7), some (.int a8)], [], qp_mk I J)) (by with_unfolding_all rfl) (fun h3 => ?_) (fun h3 => ?_)
        · replace h := qp_ift h3 h
          refine qp_run_E qp_ok214 4 (c' := (142, [some (.ref 36), none, none, some (.int a3), some (.int a4), some (.int a5), some (.int (a6 + 1)), some (.int a7), some (.int a8)], [], qp_mk I J)) (by with_unfolding_all rfl) hd1 trivial ?_
          exact qp_E_fg [true, false, false, true, true, true, true, false, false] (hk142 a3 a4 a5 (a6 + 1) I J h)
        · replace h := qp_iff h3 h
          refine qp_run_E qp_ok214 5 (c' := (142, [some (.ref 36), none, none, some (.int a3), some (.int a4), some (.int a7), some (.int (a6 + 1)), some (.int a7), some (.int a8)], [], qp_mk I J)) (by with_unfolding_all rfl) hd1 trivial ?_
          exact qp_E_fg [true, false, false, true, true, true, true, false, false] (hk142 a3 a4 a7 (a6 + 1) I J h)
      · replace h := qp_iff h2 h
        refine qp_run_E qp_ok214 5 (c' := (231, [some (.ref 36), none, none, some (.int a3), some (.int a6), some (.int a5), some (.int a6), some (.int a7), some (.int a8)], [.int a5, .int a7], qp_mk I J)) (by with_unfolding_all rfl) hd1 trivial ?_
        refine qp_br_E qp_ok214 (f := a5 ≤ a7) (ct := (239, [some (.ref 36), none, none, some (.int a3), some (.int a6), some (.int a5), some (.int a6), some (.int a7), some (.int a8)], [], qp_mk I J)) (cf := (234, [some (.ref 36), none, none, some (.int a3), some (.int a6), some (.int a5), some (.int a6), some (.int a7), some (.int a8)], [], qp_mk I J)) (by with_unfolding_all rfl) (fun h4 => ?_) (fun h4 => ?_)
        · replace h := qp_ift h4 h
          refine qp_run_E qp_ok214 4 (c' := (142, [some (.ref 36), none, none, some (.int a3), some (.int a6), some (.int a5), some (.int (a6 + 1)), some (.int a7), some (.int a8)], [], qp_mk I J)) (by with_unfolding_all rfl) hd1 trivial ?_
          exact qp_E_fg [true, false, false, true, true, true, true, false, false] (hk142 a3 a6 a5 (a6 + 1) I J h)
        · replace h := qp_iff h4 h
          refine qp_run_E qp_ok214 5 (c' := (142, [some (.ref 36), none, none, some (.int a3), some (.int a6), some (.int a7), some (.int (a6 + 1)), some (.int a7), some (.int a8)], [], qp_mk I J)) (by with_unfolding_all rfl) hd1 trivial ?_
          exact qp_E_fg [true, false, false, true, true, true, true, false, false] (hk142 a3 a6 a7 (a6 + 1) I J h)
    · replace h := qp_iff h1 h
      obtain ⟨h5, h⟩ := qp_gd_s h
      refine qp_run_E qp_ok214 9 (f := vp_in (((4 : Int32) * a6) + a8) 24 ∧ True) (c' := (183, [some (.ref 36), none, none, some (.int a3), some (.int a4), some (.int a5), some (.int a6), some (.int a7), some (.int a8)], [.int a7, .int (I 54 (Int32.toNatClampNeg (((4 : Int32) * a6) + a8)))], qp_mk I J)) (by with_unfolding_all rfl) hd1 ⟨(qp_vin (c := 24) (by decide) h5.1 h5.2), trivial⟩ ?_
      refine qp_br_E qp_ok214 (f := (I 54 (Int32.toNatClampNeg (((4 : Int32) * a6) + a8))) ≤ a7) (ct := (201, [some (.ref 36), none, none, some (.int a3), some (.int a4), some (.int a5), some (.int a6), some (.int a7), some (.int a8)], [], qp_mk I J)) (cf := (186, [some (.ref 36), none, none, some (.int a3), some (.int a4), some (.int a5), some (.int a6), some (.int a7), some (.int a8)], [], qp_mk I J)) (by with_unfolding_all rfl) (fun h6 => ?_) (fun h6 => ?_)
      · replace h := qp_ift h6 h
        refine qp_run_E qp_ok214 4 (c' := (163, [some (.ref 36), none, none, some (.int a3), some (.int a4), some (.int a5), some (.int a6), some (.int a7), some (.int (a8 + 1))], [], qp_mk I J)) (by with_unfolding_all rfl) hd1 trivial ?_
        exact ih a3 a4 a5 a6 a7 (a8 + 1) I J h
      · replace h := qp_iff h6 h
        obtain ⟨h7, h⟩ := qp_gd_s h
        refine qp_run_E qp_ok214 12 (f := vp_in (((4 : Int32) * a6) + a8) 24 ∧ True) (c' := (163, [some (.ref 36), none, none, some (.int a3), some (.int a4), some (.int a5), some (.int a6), some (.int (I 54 (Int32.toNatClampNeg (((4 : Int32) * a6) + a8)))), some (.int (a8 + 1))], [], qp_mk I J)) (by with_unfolding_all rfl) hd1 ⟨(qp_vin (c := 24) (by decide) h7.1 h7.2), trivial⟩ ?_
        exact ih a3 a4 a5 a6 (I 54 (Int32.toNatClampNeg (((4 : Int32) * a6) + a8))) (a8 + 1) I J h
def fM_next_b142  : Nat → Int32 → Int32 → Int32 → Int32 → (Nat → Nat → Int32) → (Nat → Nat → Int64) → Option (Int32 × (Nat → Nat → Int32) × (Nat → Nat → Int64))
  | 0, _, _, _, _, _, _ => none
  | n + 1, a3, a4, a5, a6, I, J =>
    if (I 37 0) ≤ a6 then (
      if ¬ a4 = (-9) then (
        qp_bd (fM_asks a5 I J) fun v1 I1 J1 =>
        some (a4, I1, J1)
      ) else (
        some (a4, I, J)
      )
    ) else (
      if a3 ≤ 0 then (
        if ¬ a4 = (-9) then (
          qp_bd (fM_asks a5 I J) fun v2 I2 J2 =>
          some (a4, I2, J2)
        ) else (
          some (a4, I, J)
        )
      ) else (
        fM_next_b163 (fun a0 a1 a2 a3 I J => fM_next_b142 n a0 a1 a2 a3 I J) 100000 a3 a4 a5 a6 0 0 I J
      )
    )
set_option maxRecDepth 8000 in
theorem gM_next_b142 {l : Launch} {G : qp_G} {d : Nat} (hd : 4 ≤ d) {r : (Int32 × (Nat → Nat → Int32) × (Nat → Nat → Int64))} {I0 : Nat → Nat → Int32} {J0 : Nat → Nat → Int64}   : ∀ (n : Nat) (a3 : Int32) (a4 : Int32) (a5 : Int32) (a6 : Int32) (I : Nat → Nat → Int32) (J : Nat → Nat → Int64), fM_next_b142  n a3 a4 a5 a6 I J = some r → qp_E l G d 214 (qp_mk I0 J0) 0 0 (qp_R8 (some (.int r.1)) r.2.1 r.2.2) (142, [some (.ref 36), none, none, some (.int a3), some (.int a4), some (.int a5), some (.int a6), none, none], [], qp_mk I J) := by
  have hd1 : Nat.ble 1 d = true := Nat.ble_eq_true_of_le (Nat.le_trans (by decide) hd)
  intro n
  induction n with
  | zero => intro a3 a4 a5 a6 I J h; exact absurd h (by simp [fM_next_b142])
  | succ n ih =>
    intro a3 a4 a5 a6 I J h
    rw [fM_next_b142] at h
    refine qp_run_E qp_ok214 5 (f := vp_in 0 75 ∧ True) (c' := (150, [some (.ref 36), none, none, some (.int a3), some (.int a4), some (.int a5), some (.int a6), none, none], [.int (I 37 0), .int a6], qp_mk I J)) (by with_unfolding_all rfl) hd1 ⟨(qp_vin (c := 75) (by decide) (by decide) (by decide)), trivial⟩ ?_
    refine qp_br_E qp_ok214 (f := (I 37 0) ≤ a6) (ct := (249, [some (.ref 36), none, none, some (.int a3), some (.int a4), some (.int a5), some (.int a6), none, none], [], qp_mk I J)) (cf := (153, [some (.ref 36), none, none, some (.int a3), some (.int a4), some (.int a5), some (.int a6), none, none], [], qp_mk I J)) (by with_unfolding_all rfl) (fun h1 => ?_) (fun h1 => ?_)
    · replace h := qp_ift h1 h
      refine qp_run_E qp_ok214 2 (c' := (253, [some (.ref 36), none, none, some (.int a3), some (.int a4), some (.int a5), some (.int a6), none, none], [.int (-9), .int a4], qp_mk I J)) (by with_unfolding_all rfl) hd1 trivial ?_
      refine qp_br_E qp_ok214 (f := ¬ a4 = (-9)) (ct := (260, [some (.ref 36), none, none, some (.int a3), some (.int a4), some (.int a5), some (.int a6), none, none], [], qp_mk I J)) (cf := (256, [some (.ref 36), none, none, some (.int a3), some (.int a4), some (.int a5), some (.int a6), none, none], [], qp_mk I J)) (by with_unfolding_all rfl) (fun h2 => ?_) (fun h2 => ?_)
      · replace h := qp_ift h2 h
        refine qp_run_E qp_ok214 2 (c' := (263, [some (.ref 36), none, none, some (.int a3), some (.int a4), some (.int a5), some (.int a6), none, none], [.int a5, .ref 36], qp_mk I J)) (by with_unfolding_all rfl) hd1 trivial ?_
        obtain ⟨v1, I1, J1, e1, h⟩ := qp_bd_s h
        refine qp_cV qp_ok214 (rest := []) (oj := 10) qp_f154 rfl rfl (gM_asks l G a5 I J e1 (Nat.le_refl 1)) rfl rfl rfl rfl (Nat.le_trans (by decide) hd) ?_
        refine qp_run_E qp_ok214 2 (c' := (270, [some (.ref 36), none, none, some (.int a3), some (.int a4), some (.int a5), some (.int v1), none, none], [.int a4], qp_mk I1 J1)) (by with_unfolding_all rfl) hd1 trivial ?_
        obtain rfl := Option.some.inj h
        exact qp_retI_E qp_ok214 rfl qp_r214.1 ⟨rfl, rfl⟩ ⟨rfl, rfl⟩
      · replace h := qp_iff h2 h
        refine qp_run_E qp_ok214 4 (c' := (270, [some (.ref 36), none, none, some (.int a3), some (.int a4), some (.int a5), some (.int 0), none, none], [.int a4], qp_mk I J)) (by with_unfolding_all rfl) hd1 trivial ?_
        obtain rfl := Option.some.inj h
        exact qp_retI_E qp_ok214 rfl qp_r214.1 ⟨rfl, rfl⟩ ⟨rfl, rfl⟩
    · replace h := qp_iff h1 h
      refine qp_run_E qp_ok214 1 (c' := (154, [some (.ref 36), none, none, some (.int a3), some (.int a4), some (.int a5), some (.int a6), none, none], [.int a3], qp_mk I J)) (by with_unfolding_all rfl) hd1 trivial ?_
      refine qp_br_E qp_ok214 (f := a3 ≤ 0) (ct := (249, [some (.ref 36), none, none, some (.int a3), some (.int a4), some (.int a5), some (.int a6), none, none], [], qp_mk I J)) (cf := (157, [some (.ref 36), none, none, some (.int a3), some (.int a4), some (.int a5), some (.int a6), none, none], [], qp_mk I J)) (by with_unfolding_all rfl) (fun h3 => ?_) (fun h3 => ?_)
      · replace h := qp_ift h3 h
        refine qp_run_E qp_ok214 2 (c' := (253, [some (.ref 36), none, none, some (.int a3), some (.int a4), some (.int a5), some (.int a6), none, none], [.int (-9), .int a4], qp_mk I J)) (by with_unfolding_all rfl) hd1 trivial ?_
        refine qp_br_E qp_ok214 (f := ¬ a4 = (-9)) (ct := (260, [some (.ref 36), none, none, some (.int a3), some (.int a4), some (.int a5), some (.int a6), none, none], [], qp_mk I J)) (cf := (256, [some (.ref 36), none, none, some (.int a3), some (.int a4), some (.int a5), some (.int a6), none, none], [], qp_mk I J)) (by with_unfolding_all rfl) (fun h4 => ?_) (fun h4 => ?_)
        · replace h := qp_ift h4 h
          refine qp_run_E qp_ok214 2 (c' := (263, [some (.ref 36), none, none, some (.int a3), some (.int a4), some (.int a5), some (.int a6), none, none], [.int a5, .ref 36], qp_mk I J)) (by with_unfolding_all rfl) hd1 trivial ?_
          obtain ⟨v2, I2, J2, e2, h⟩ := qp_bd_s h
          refine qp_cV qp_ok214 (rest := []) (oj := 10) qp_f154 rfl rfl (gM_asks l G a5 I J e2 (Nat.le_refl 1)) rfl rfl rfl rfl (Nat.le_trans (by decide) hd) ?_
          refine qp_run_E qp_ok214 2 (c' := (270, [some (.ref 36), none, none, some (.int a3), some (.int a4), some (.int a5), some (.int v2), none, none], [.int a4], qp_mk I2 J2)) (by with_unfolding_all rfl) hd1 trivial ?_
          obtain rfl := Option.some.inj h
          exact qp_retI_E qp_ok214 rfl qp_r214.1 ⟨rfl, rfl⟩ ⟨rfl, rfl⟩
        · replace h := qp_iff h4 h
          refine qp_run_E qp_ok214 4 (c' := (270, [some (.ref 36), none, none, some (.int a3), some (.int a4), some (.int a5), some (.int 0), none, none], [.int a4], qp_mk I J)) (by with_unfolding_all rfl) hd1 trivial ?_
          obtain rfl := Option.some.inj h
          exact qp_retI_E qp_ok214 rfl qp_r214.1 ⟨rfl, rfl⟩ ⟨rfl, rfl⟩
      · replace h := qp_iff h3 h
        refine qp_run_E qp_ok214 4 (c' := (163, [some (.ref 36), none, none, some (.int a3), some (.int a4), some (.int a5), some (.int a6), some (.int 0), some (.int 0)], [], qp_mk I J)) (by with_unfolding_all rfl) hd1 trivial ?_
        exact gM_next_b163 hd (fun a0 a1 a2 a3 I J => fM_next_b142 n a0 a1 a2 a3 I J) (fun a0 a1 a2 a3 I J h => ih a0 a1 a2 a3 I J h) 100000 a3 a4 a5 a6 0 0 I J h
def fM_next_b87  (k62 : Int32 → Int32 → Int32 → (Nat → Nat → Int32) → (Nat → Nat → Int64) → Option (Int32 × (Nat → Nat → Int32) × (Nat → Nat → Int64))) : Nat → Int32 → Int32 → Int32 → Int32 → (Nat → Nat → Int32) → (Nat → Nat → Int64) → Option (Int32 × (Nat → Nat → Int32) × (Nat → Nat → Int64))
  | 0, _, _, _, _, _, _ => none
  | n + 1, a1, a3, a4, a5, I, J =>
    if (I 37 0) ≤ a5 then (
      k62 a1 a3 (a4 + 1) I J
    ) else (
      qp_gd ((0 ≤ a5 ∧ a5 < 6) ∧ (0 ≤ (((4 : Int32) * a5) + (I 48 (Int32.toNatClampNeg a5))) ∧ (((4 : Int32) * a5) + (I 48 (Int32.toNatClampNeg a5))) < 24)) <|
      fM_next_b87 k62 n a1 a3 a4 (a5 + 1) (qp_up I 54 (Int32.toNatClampNeg (((4 : Int32) * a5) + (I 48 (Int32.toNatClampNeg a5)))) ((I 54 (Int32.toNatClampNeg (((4 : Int32) * a5) + (I 48 (Int32.toNatClampNeg a5))))) + 1)) J
    )
set_option maxRecDepth 8000 in
theorem gM_next_b87 {l : Launch} {G : qp_G} {d : Nat} (hd : 4 ≤ d) {r : (Int32 × (Nat → Nat → Int32) × (Nat → Nat → Int64))} {I0 : Nat → Nat → Int32} {J0 : Nat → Nat → Int64}  (k62 : Int32 → Int32 → Int32 → (Nat → Nat → Int32) → (Nat → Nat → Int64) → Option (Int32 × (Nat → Nat → Int32) × (Nat → Nat → Int64))) (hk62 : ∀ a1 a3 a4 I J, k62 a1 a3 a4 I J = some r → qp_E l G d 214 (qp_mk I0 J0) 0 0 (qp_R8 (some (.int r.1)) r.2.1 r.2.2) (62, [some (.ref 36), some (.int a1), none, some (.int a3), some (.int a4), none, none, none, none], [], qp_mk I J)) : ∀ (n : Nat) (a1 : Int32) (a3 : Int32) (a4 : Int32) (a5 : Int32) (I : Nat → Nat → Int32) (J : Nat → Nat → Int64), fM_next_b87 k62 n a1 a3 a4 a5 I J = some r → qp_E l G d 214 (qp_mk I0 J0) 0 0 (qp_R8 (some (.int r.1)) r.2.1 r.2.2) (87, [some (.ref 36), some (.int a1), none, some (.int a3), some (.int a4), some (.int a5), none, none, none], [], qp_mk I J) := by
  have hd1 : Nat.ble 1 d = true := Nat.ble_eq_true_of_le (Nat.le_trans (by decide) hd)
  intro n
  induction n with
  | zero => intro a1 a3 a4 a5 I J h; exact absurd h (by simp [fM_next_b87])
  | succ n ih =>
    intro a1 a3 a4 a5 I J h
    rw [fM_next_b87] at h
    refine qp_run_E qp_ok214 5 (f := vp_in 0 75 ∧ True) (c' := (95, [some (.ref 36), some (.int a1), none, some (.int a3), some (.int a4), some (.int a5), none, none, none], [.int (I 37 0), .int a5], qp_mk I J)) (by with_unfolding_all rfl) hd1 ⟨(qp_vin (c := 75) (by decide) (by decide) (by decide)), trivial⟩ ?_
    refine qp_br_E qp_ok214 (f := (I 37 0) ≤ a5) (ct := (125, [some (.ref 36), some (.int a1), none, some (.int a3), some (.int a4), some (.int a5), none, none, none], [], qp_mk I J)) (cf := (98, [some (.ref 36), some (.int a1), none, some (.int a3), some (.int a4), some (.int a5), none, none, none], [], qp_mk I J)) (by with_unfolding_all rfl) (fun h1 => ?_) (fun h1 => ?_)
    · replace h := qp_ift h1 h
      refine qp_run_E qp_ok214 2 (c' := (62, [some (.ref 36), some (.int a1), none, some (.int a3), some (.int (a4 + 1)), some (.int a5), none, none, none], [], qp_mk I J)) (by with_unfolding_all rfl) hd1 trivial ?_
      exact qp_E_fg [true, true, false, true, true, false, false, false, false] (hk62 a1 a3 (a4 + 1) I J h)
    · replace h := qp_iff h1 h
      obtain ⟨h2, h⟩ := qp_gd_s h
      refine qp_run_E qp_ok214 17 (f := vp_in a5 6 ∧ vp_in (((4 : Int32) * a5) + (I 48 (Int32.toNatClampNeg a5))) 24 ∧ vp_in (((4 : Int32) * a5) + (I 48 (Int32.toNatClampNeg a5))) 24 ∧ True) (c' := (87, [some (.ref 36), some (.int a1), none, some (.int a3), some (.int a4), some (.int (a5 + 1)), none, none, none], [], qp_mk (qp_up I 54 (Int32.toNatClampNeg (((4 : Int32) * a5) + (I 48 (Int32.toNatClampNeg a5)))) ((I 54 (Int32.toNatClampNeg (((4 : Int32) * a5) + (I 48 (Int32.toNatClampNeg a5))))) + 1)) J)) (by with_unfolding_all rfl) hd1 ⟨(qp_vin (c := 6) (by decide) h2.1.1 h2.1.2), (qp_vin (c := 24) (by decide) h2.2.1 h2.2.2), (qp_vin (c := 24) (by decide) h2.2.1 h2.2.2), trivial⟩ ?_
      exact ih a1 a3 a4 (a5 + 1) (qp_up I 54 (Int32.toNatClampNeg (((4 : Int32) * a5) + (I 48 (Int32.toNatClampNeg a5)))) ((I 54 (Int32.toNatClampNeg (((4 : Int32) * a5) + (I 48 (Int32.toNatClampNeg a5))))) + 1)) J h
def fM_next_b62  : Nat → Int32 → Int32 → Int32 → (Nat → Nat → Int32) → (Nat → Nat → Int64) → Option (Int32 × (Nat → Nat → Int32) × (Nat → Nat → Int64))
  | 0, _, _, _, _, _ => none
  | n + 1, a1, a3, a4, I, J =>
    qp_bd (fM_manyOrders I J) fun v1 I1 J1 =>
    if v1 ≤ a4 then (
      fM_next_b142 100000 a3 (-9) 1000000 0 I1 J1
    ) else (
      qp_bd (fM_fits a4 a1 I1 J1) fun v2 I2 J2 =>
      if v2 = 0 then (
        fM_next_b62 n a1 a3 (a4 + 1) I2 J2
      ) else (
        fM_next_b87 (fun a0 a1 a2 I J => fM_next_b62 n a0 a1 a2 I J) 100000 a1 (a3 + 1) a4 0 I2 J2
      )
    )
set_option maxRecDepth 8000 in
theorem gM_next_b62 {l : Launch} {G : qp_G} {d : Nat} (hd : 4 ≤ d) {r : (Int32 × (Nat → Nat → Int32) × (Nat → Nat → Int64))} {I0 : Nat → Nat → Int32} {J0 : Nat → Nat → Int64}   : ∀ (n : Nat) (a1 : Int32) (a3 : Int32) (a4 : Int32) (I : Nat → Nat → Int32) (J : Nat → Nat → Int64), fM_next_b62  n a1 a3 a4 I J = some r → qp_E l G d 214 (qp_mk I0 J0) 0 0 (qp_R8 (some (.int r.1)) r.2.1 r.2.2) (62, [some (.ref 36), some (.int a1), none, some (.int a3), some (.int a4), none, none, none, none], [], qp_mk I J) := by
  have hd1 : Nat.ble 1 d = true := Nat.ble_eq_true_of_le (Nat.le_trans (by decide) hd)
  intro n
  induction n with
  | zero => intro a1 a3 a4 I J h; exact absurd h (by simp [fM_next_b62])
  | succ n ih =>
    intro a1 a3 a4 I J h
    rw [fM_next_b62] at h
    refine qp_run_E qp_ok214 2 (c' := (65, [some (.ref 36), some (.int a1), none, some (.int a3), some (.int a4), none, none, none, none], [.ref 36, .int a4], qp_mk I J)) (by with_unfolding_all rfl) hd1 trivial ?_
    obtain ⟨v1, I1, J1, e1, h⟩ := qp_bd_s h
    refine qp_cV qp_ok214 (rest := [.int a4]) (oj := 10) qp_f209 rfl rfl (gM_manyOrders l G I J e1 (Nat.le_refl 1)) rfl rfl rfl rfl (Nat.le_trans (by decide) hd) ?_
    refine qp_br_E qp_ok214 (f := v1 ≤ a4) (ct := (131, [some (.ref 36), some (.int a1), none, some (.int a3), some (.int a4), none, none, none, none], [], qp_mk I1 J1)) (cf := (71, [some (.ref 36), some (.int a1), none, some (.int a3), some (.int a4), none, none, none, none], [], qp_mk I1 J1)) (by with_unfolding_all rfl) (fun h1 => ?_) (fun h1 => ?_)
    · replace h := qp_ift h1 h
      refine qp_run_E qp_ok214 6 (c' := (142, [some (.ref 36), some (.int a1), none, some (.int a3), some (.int (-9)), some (.int 1000000), some (.int 0), none, none], [], qp_mk I1 J1)) (by with_unfolding_all rfl) hd1 trivial ?_
      exact qp_E_fg [true, false, false, true, true, true, true, false, false] (gM_next_b142 hd 100000 a3 (-9) 1000000 0 I1 J1 h)
    · replace h := qp_iff h1 h
      refine qp_run_E qp_ok214 3 (c' := (75, [some (.ref 36), some (.int a1), none, some (.int a3), some (.int a4), none, none, none, none], [.int a1, .int a4, .ref 36], qp_mk I1 J1)) (by with_unfolding_all rfl) hd1 trivial ?_
      obtain ⟨v2, I2, J2, e2, h⟩ := qp_bd_s h
      refine qp_cV qp_ok214 (rest := []) (oj := 10) qp_f210 rfl rfl (gM_fits l G a4 a1 I1 J1 e2 (Nat.le_refl 3)) rfl rfl rfl rfl (Nat.le_trans (by decide) hd) ?_
      refine qp_br_E qp_ok214 (f := v2 = 0) (ct := (125, [some (.ref 36), some (.int a1), none, some (.int a3), some (.int a4), none, none, none, none], [], qp_mk I2 J2)) (cf := (81, [some (.ref 36), some (.int a1), none, some (.int a3), some (.int a4), none, none, none, none], [], qp_mk I2 J2)) (by with_unfolding_all rfl) (fun h2 => ?_) (fun h2 => ?_)
      · replace h := qp_ift h2 h
        refine qp_run_E qp_ok214 2 (c' := (62, [some (.ref 36), some (.int a1), none, some (.int a3), some (.int (a4 + 1)), none, none, none, none], [], qp_mk I2 J2)) (by with_unfolding_all rfl) hd1 trivial ?_
        exact ih a1 a3 (a4 + 1) I2 J2 h
      · replace h := qp_iff h2 h
        refine qp_run_E qp_ok214 3 (c' := (87, [some (.ref 36), some (.int a1), none, some (.int (a3 + 1)), some (.int a4), some (.int 0), none, none, none], [], qp_mk I2 J2)) (by with_unfolding_all rfl) hd1 trivial ?_
        exact gM_next_b87 hd (fun a0 a1 a2 I J => fM_next_b62 n a0 a1 a2 I J) (fun a0 a1 a2 I J h => ih a0 a1 a2 I J h) 100000 a1 (a3 + 1) a4 0 I2 J2 h
def fM_next_b38  : Nat → Int32 → Int32 → Int32 → (Nat → Nat → Int32) → (Nat → Nat → Int64) → Option (Int32 × (Nat → Nat → Int32) × (Nat → Nat → Int64))
  | 0, _, _, _, _, _ => none
  | n + 1, a1, a3, a4, I, J =>
    if 24 ≤ a4 then (
      fM_next_b62 100000 a1 a3 0 I J
    ) else (
      qp_gd ((0 ≤ a4 ∧ a4 < 24)) <|
      fM_next_b38 n a1 a3 (a4 + 1) (qp_up I 54 (Int32.toNatClampNeg a4) 0) J
    )
set_option maxRecDepth 8000 in
theorem gM_next_b38 {l : Launch} {G : qp_G} {d : Nat} (hd : 4 ≤ d) {r : (Int32 × (Nat → Nat → Int32) × (Nat → Nat → Int64))} {I0 : Nat → Nat → Int32} {J0 : Nat → Nat → Int64}   : ∀ (n : Nat) (a1 : Int32) (a3 : Int32) (a4 : Int32) (I : Nat → Nat → Int32) (J : Nat → Nat → Int64), fM_next_b38  n a1 a3 a4 I J = some r → qp_E l G d 214 (qp_mk I0 J0) 0 0 (qp_R8 (some (.int r.1)) r.2.1 r.2.2) (38, [some (.ref 36), some (.int a1), none, some (.int a3), some (.int a4), none, none, none, none], [], qp_mk I J) := by
  have hd1 : Nat.ble 1 d = true := Nat.ble_eq_true_of_le (Nat.le_trans (by decide) hd)
  intro n
  induction n with
  | zero => intro a1 a3 a4 I J h; exact absurd h (by simp [fM_next_b38])
  | succ n ih =>
    intro a1 a3 a4 I J h
    rw [fM_next_b38] at h
    refine qp_run_E qp_ok214 2 (c' := (42, [some (.ref 36), some (.int a1), none, some (.int a3), some (.int a4), none, none, none, none], [.int 24, .int a4], qp_mk I J)) (by with_unfolding_all rfl) hd1 trivial ?_
    refine qp_br_E qp_ok214 (f := 24 ≤ a4) (ct := (59, [some (.ref 36), some (.int a1), none, some (.int a3), some (.int a4), none, none, none, none], [], qp_mk I J)) (cf := (45, [some (.ref 36), some (.int a1), none, some (.int a3), some (.int a4), none, none, none, none], [], qp_mk I J)) (by with_unfolding_all rfl) (fun h1 => ?_) (fun h1 => ?_)
    · replace h := qp_ift h1 h
      refine qp_run_E qp_ok214 2 (c' := (62, [some (.ref 36), some (.int a1), none, some (.int a3), some (.int 0), none, none, none, none], [], qp_mk I J)) (by with_unfolding_all rfl) hd1 trivial ?_
      exact gM_next_b62 hd 100000 a1 a3 0 I J h
    · replace h := qp_iff h1 h
      obtain ⟨h2, h⟩ := qp_gd_s h
      refine qp_run_E qp_ok214 7 (f := vp_in a4 24 ∧ True) (c' := (38, [some (.ref 36), some (.int a1), none, some (.int a3), some (.int (a4 + 1)), none, none, none, none], [], qp_mk (qp_up I 54 (Int32.toNatClampNeg a4) 0) J)) (by with_unfolding_all rfl) hd1 ⟨(qp_vin (c := 24) (by decide) h2.1 h2.2), trivial⟩ ?_
      exact ih a1 a3 (a4 + 1) (qp_up I 54 (Int32.toNatClampNeg a4) 0) J h
def fM_next (p1 : Int32) (I : Nat → Nat → Int32) (J : Nat → Nat → Int64) : Option (Int32 × (Nat → Nat → Int32) × (Nat → Nat → Int64)) :=
  qp_bd (fM_isRow p1 I J) fun v1 I1 J1 =>
  if ¬ v1 = 0 then (
    if ¬ (I1 37 0) = 0 then (
      qp_bd (fM_refusesPairs p1 I1 J1) fun v2 I2 J2 =>
      if v2 = 0 then (
        fM_next_b38 100000 p1 0 0 I2 J2
      ) else (
        some (v2, I2, J2)
      )
    ) else (
      some ((-4), I1, J1)
    )
  ) else (
    some ((-1), I1, J1)
  )
set_option maxRecDepth 8000 in
theorem gM_next (l : Launch) (G : qp_G) (p1 : Int32) (I : Nat → Nat → Int32) (J : Nat → Nat → Int64) {v : Int32} {I' : Nat → Nat → Int32} {J' : Nat → Nat → Int64} (h : fM_next p1 I J = some (v, I', J')) {d : Nat} (hd : 4 ≤ d) : qp_Met l G d 214 [.ref 36, .int p1] (qp_mk I J) 0 0 (qp_R8 (some (.int v)) I' J') := by
  have hd1 : Nat.ble 1 d = true := Nat.ble_eq_true_of_le (Nat.le_trans (by decide) hd)
  refine qp_Met_of (by decide) (by rw [qp_r214.2]; rfl) [some (.ref 36), some (.int p1), none, none, none, none, none, none, none] (by rw [qp_r214.2]; rfl) ?_
  unfold fM_next at h
  refine qp_run_E qp_ok214 1 (c' := (1, [some (.ref 36), some (.int p1), none, none, none, none, none, none, none], [.int p1], qp_mk I J)) (by with_unfolding_all rfl) hd1 trivial ?_
  obtain ⟨v1, I1, J1, e1, h⟩ := qp_bd_s h
  refine qp_cS qp_ok214 (rest := []) (oj := 10) qp_f149 rfl rfl (gM_isRow l G p1 I J e1 (Nat.le_refl 2)) rfl rfl rfl (Nat.le_trans (by decide) hd) ?_
  refine qp_br_E qp_ok214 (f := ¬ v1 = 0) (ct := (9, [some (.ref 36), some (.int p1), none, none, none, none, none, none, none], [], qp_mk I1 J1)) (cf := (7, [some (.ref 36), some (.int p1), none, none, none, none, none, none, none], [], qp_mk I1 J1)) (by with_unfolding_all rfl) (fun h1 => ?_) (fun h1 => ?_)
  · replace h := qp_ift h1 h
    refine qp_run_E qp_ok214 4 (f := vp_in 0 75 ∧ True) (c' := (15, [some (.ref 36), some (.int p1), none, none, none, none, none, none, none], [.int (I1 37 0)], qp_mk I1 J1)) (by with_unfolding_all rfl) hd1 ⟨(qp_vin (c := 75) (by decide) (by decide) (by decide)), trivial⟩ ?_
    refine qp_br_E qp_ok214 (f := ¬ (I1 37 0) = 0) (ct := (21, [some (.ref 36), some (.int p1), none, none, none, none, none, none, none], [], qp_mk I1 J1)) (cf := (18, [some (.ref 36), some (.int p1), none, none, none, none, none, none, none], [], qp_mk I1 J1)) (by with_unfolding_all rfl) (fun h2 => ?_) (fun h2 => ?_)
    · replace h := qp_ift h2 h
      refine qp_run_E qp_ok214 2 (c' := (23, [some (.ref 36), some (.int p1), none, none, none, none, none, none, none], [.int p1, .ref 36], qp_mk I1 J1)) (by with_unfolding_all rfl) hd1 trivial ?_
      obtain ⟨v2, I2, J2, e2, h⟩ := qp_bd_s h
      refine qp_cV qp_ok214 (rest := []) (oj := 10) qp_f208 rfl rfl (gM_refusesPairs l G p1 I1 J1 e2 (Nat.le_refl 2)) rfl rfl rfl rfl (Nat.le_trans (by decide) hd) ?_
      refine qp_run_E qp_ok214 2 (c' := (28, [some (.ref 36), some (.int p1), some (.int v2), none, none, none, none, none, none], [.int v2], qp_mk I2 J2)) (by with_unfolding_all rfl) hd1 trivial ?_
      refine qp_br_E qp_ok214 (f := v2 = 0) (ct := (33, [some (.ref 36), some (.int p1), some (.int v2), none, none, none, none, none, none], [], qp_mk I2 J2)) (cf := (31, [some (.ref 36), some (.int p1), some (.int v2), none, none, none, none, none, none], [], qp_mk I2 J2)) (by with_unfolding_all rfl) (fun h3 => ?_) (fun h3 => ?_)
      · replace h := qp_ift h3 h
        refine qp_run_E qp_ok214 4 (c' := (38, [some (.ref 36), some (.int p1), some (.int v2), some (.int 0), some (.int 0), none, none, none, none], [], qp_mk I2 J2)) (by with_unfolding_all rfl) hd1 trivial ?_
        exact qp_E_fg [true, true, false, true, true, false, false, false, false] (gM_next_b38 hd 100000 p1 0 0 I2 J2 h)
      · replace h := qp_iff h3 h
        refine qp_run_E qp_ok214 1 (c' := (32, [some (.ref 36), some (.int p1), some (.int v2), none, none, none, none, none, none], [.int v2], qp_mk I2 J2)) (by with_unfolding_all rfl) hd1 trivial ?_
        obtain ⟨rfl, rfl, rfl⟩ := qp_some3 h
        exact qp_retI_E qp_ok214 rfl qp_r214.1 ⟨rfl, rfl⟩ ⟨rfl, rfl⟩
    · replace h := qp_iff h2 h
      refine qp_run_E qp_ok214 1 (c' := (20, [some (.ref 36), some (.int p1), none, none, none, none, none, none, none], [.int (-4)], qp_mk I1 J1)) (by with_unfolding_all rfl) hd1 trivial ?_
      obtain ⟨rfl, rfl, rfl⟩ := qp_some3 h
      exact qp_retI_E qp_ok214 rfl qp_r214.1 ⟨rfl, rfl⟩ ⟨rfl, rfl⟩
  · replace h := qp_iff h1 h
    refine qp_run_E qp_ok214 1 (c' := (8, [some (.ref 36), some (.int p1), none, none, none, none, none, none, none], [.int (-1)], qp_mk I1 J1)) (by with_unfolding_all rfl) hd1 trivial ?_
    obtain ⟨rfl, rfl, rfl⟩ := qp_some3 h
    exact qp_retI_E qp_ok214 rfl qp_r214.1 ⟨rfl, rfl⟩ ⟨rfl, rfl⟩
def fM_wantedBy_b4  : Nat → Int32 → Int32 → Int32 → (Nat → Nat → Int32) → (Nat → Nat → Int64) → Option (Int32 × (Nat → Nat → Int32) × (Nat → Nat → Int64))
  | 0, _, _, _, _, _ => none
  | n + 1, a1, a2, a3, I, J =>
    if (I 37 0) ≤ a3 then (
      some (a2, I, J)
    ) else (
      qp_gd ((0 ≤ ((69 : Int32) + a3) ∧ ((69 : Int32) + a3) < 75)) <|
      qp_bd (fM_has a1 (I 37 (Int32.toNatClampNeg ((69 : Int32) + a3))) I J) fun v1 I1 J1 =>
      if v1 = 0 then (
        fM_wantedBy_b4 n a1 (a2 + 0) (a3 + 1) I1 J1
      ) else (
        qp_gd ((0 ≤ ((2 : Int32) + (I 37 (Int32.toNatClampNeg ((69 : Int32) + a3)))) ∧ ((2 : Int32) + (I 37 (Int32.toNatClampNeg ((69 : Int32) + a3)))) < 75)) <|
        if ¬ a3 = ((I1 37 0) - 1) then (
          qp_bd (fM_wantsAs (I1 37 (Int32.toNatClampNeg ((2 : Int32) + (I 37 (Int32.toNatClampNeg ((69 : Int32) + a3)))))) 0 I1 J1) fun v2 I2 J2 =>
          fM_wantedBy_b4 n a1 (a2 + v2) (a3 + 1) I2 J2
        ) else (
          qp_bd (fM_wantsAs (I1 37 (Int32.toNatClampNeg ((2 : Int32) + (I 37 (Int32.toNatClampNeg ((69 : Int32) + a3)))))) 1 I1 J1) fun v3 I3 J3 =>
          fM_wantedBy_b4 n a1 (a2 + v3) (a3 + 1) I3 J3
        )
      )
    )
set_option maxRecDepth 8000 in
theorem gM_wantedBy_b4 {l : Launch} {G : qp_G} {d : Nat} (hd : 2 ≤ d) {r : (Int32 × (Nat → Nat → Int32) × (Nat → Nat → Int64))} {I0 : Nat → Nat → Int32} {J0 : Nat → Nat → Int64}   : ∀ (n : Nat) (a1 : Int32) (a2 : Int32) (a3 : Int32) (I : Nat → Nat → Int32) (J : Nat → Nat → Int64), fM_wantedBy_b4  n a1 a2 a3 I J = some r → qp_E l G d 216 (qp_mk I0 J0) 0 0 (qp_R8 (some (.int r.1)) r.2.1 r.2.2) (4, [some (.ref 36), some (.int a1), some (.int a2), some (.int a3), none], [], qp_mk I J) := by
  have hd1 : Nat.ble 1 d = true := Nat.ble_eq_true_of_le (Nat.le_trans (by decide) hd)
  intro n
  induction n with
  | zero => intro a1 a2 a3 I J h; exact absurd h (by simp [fM_wantedBy_b4])
  | succ n ih =>
    intro a1 a2 a3 I J h
    rw [fM_wantedBy_b4] at h
    refine qp_run_E qp_ok216 5 (f := vp_in 0 75 ∧ True) (c' := (11, [some (.ref 36), some (.int a1), some (.int a2), some (.int a3), none], [.int (I 37 0), .int a3], qp_mk I J)) (by with_unfolding_all rfl) hd1 ⟨(qp_vin (c := 75) (by decide) (by decide) (by decide)), trivial⟩ ?_
    refine qp_br_E qp_ok216 (f := (I 37 0) ≤ a3) (ct := (76, [some (.ref 36), some (.int a1), some (.int a2), some (.int a3), none], [], qp_mk I J)) (cf := (14, [some (.ref 36), some (.int a1), some (.int a2), some (.int a3), none], [], qp_mk I J)) (by with_unfolding_all rfl) (fun h1 => ?_) (fun h1 => ?_)
    · replace h := qp_ift h1 h
      refine qp_run_E qp_ok216 1 (c' := (77, [some (.ref 36), some (.int a1), some (.int a2), some (.int a3), none], [.int a2], qp_mk I J)) (by with_unfolding_all rfl) hd1 trivial ?_
      obtain rfl := Option.some.inj h
      exact qp_retI_E qp_ok216 rfl qp_r216.1 ⟨rfl, rfl⟩ ⟨rfl, rfl⟩
    · replace h := qp_iff h1 h
      obtain ⟨h2, h⟩ := qp_gd_s h
      refine qp_run_E qp_ok216 10 (f := vp_in ((69 : Int32) + a3) 75 ∧ True) (c' := (29, [some (.ref 36), some (.int a1), some (.int a2), some (.int a3), some (.int (I 37 (Int32.toNatClampNeg ((69 : Int32) + a3))))], [.int (I 37 (Int32.toNatClampNeg ((69 : Int32) + a3))), .int a1, .int a2], qp_mk I J)) (by with_unfolding_all rfl) hd1 ⟨(qp_vin (c := 75) (by decide) h2.1 h2.2), trivial⟩ ?_
      obtain ⟨v1, I1, J1, e1, h⟩ := qp_bd_s h
      refine qp_cS qp_ok216 (rest := [.int a2]) (oj := 10) qp_f212 rfl rfl (gM_has l G a1 (I 37 (Int32.toNatClampNeg ((69 : Int32) + a3))) I J e1 (Nat.le_refl 1)) rfl rfl rfl (Nat.le_trans (by decide) hd) ?_
      refine qp_br_E qp_ok216 (f := v1 = 0) (ct := (67, [some (.ref 36), some (.int a1), some (.int a2), some (.int a3), some (.int (I 37 (Int32.toNatClampNeg ((69 : Int32) + a3))))], [.int a2], qp_mk I1 J1)) (cf := (35, [some (.ref 36), some (.int a1), some (.int a2), some (.int a3), some (.int (I 37 (Int32.toNatClampNeg ((69 : Int32) + a3))))], [.int a2], qp_mk I1 J1)) (by with_unfolding_all rfl) (fun h3 => ?_) (fun h3 => ?_)
      · replace h := qp_ift h3 h
        refine qp_run_E qp_ok216 5 (c' := (4, [some (.ref 36), some (.int a1), some (.int (a2 + 0)), some (.int (a3 + 1)), some (.int (I 37 (Int32.toNatClampNeg ((69 : Int32) + a3))))], [], qp_mk I1 J1)) (by with_unfolding_all rfl) hd1 trivial ?_
        exact qp_E_fg [true, true, true, true, false] (ih a1 (a2 + 0) (a3 + 1) I1 J1 h)
      · replace h := qp_iff h3 h
        obtain ⟨h4, h⟩ := qp_gd_s h
        refine qp_run_E qp_ok216 13 (f := vp_in ((2 : Int32) + (I 37 (Int32.toNatClampNeg ((69 : Int32) + a3)))) 75 ∧ vp_in 0 75 ∧ True) (c' := (53, [some (.ref 36), some (.int a1), some (.int a2), some (.int a3), some (.int (I 37 (Int32.toNatClampNeg ((69 : Int32) + a3))))], [.int ((I1 37 0) - 1), .int a3, .int (I1 37 (Int32.toNatClampNeg ((2 : Int32) + (I 37 (Int32.toNatClampNeg ((69 : Int32) + a3)))))), .int a2], qp_mk I1 J1)) (by with_unfolding_all rfl) hd1 ⟨(qp_vin (c := 75) (by decide) h4.1 h4.2), (qp_vin (c := 75) (by decide) (by decide) (by decide)), trivial⟩ ?_
        refine qp_br_E qp_ok216 (f := ¬ a3 = ((I1 37 0) - 1)) (ct := (60, [some (.ref 36), some (.int a1), some (.int a2), some (.int a3), some (.int (I 37 (Int32.toNatClampNeg ((69 : Int32) + a3))))], [.int (I1 37 (Int32.toNatClampNeg ((2 : Int32) + (I 37 (Int32.toNatClampNeg ((69 : Int32) + a3)))))), .int a2], qp_mk I1 J1)) (cf := (56, [some (.ref 36), some (.int a1), some (.int a2), some (.int a3), some (.int (I 37 (Int32.toNatClampNeg ((69 : Int32) + a3))))], [.int (I1 37 (Int32.toNatClampNeg ((2 : Int32) + (I 37 (Int32.toNatClampNeg ((69 : Int32) + a3)))))), .int a2], qp_mk I1 J1)) (by with_unfolding_all rfl) (fun h5 => ?_) (fun h5 => ?_)
        · replace h := qp_ift h5 h
          refine qp_run_E qp_ok216 1 (c' := (61, [some (.ref 36), some (.int a1), some (.int a2), some (.int a3), some (.int (I 37 (Int32.toNatClampNeg ((69 : Int32) + a3))))], [.int 0, .int (I1 37 (Int32.toNatClampNeg ((2 : Int32) + (I 37 (Int32.toNatClampNeg ((69 : Int32) + a3)))))), .int a2], qp_mk I1 J1)) (by with_unfolding_all rfl) hd1 trivial ?_
          obtain ⟨v2, I2, J2, e2, h⟩ := qp_bd_s h
          refine qp_cS qp_ok216 (rest := [.int a2]) (oj := 10) qp_f177 rfl rfl (gM_wantsAs l G (I1 37 (Int32.toNatClampNeg ((2 : Int32) + (I 37 (Int32.toNatClampNeg ((69 : Int32) + a3)))))) 0 I1 J1 e2 (Nat.le_refl 1)) rfl rfl rfl (Nat.le_trans (by decide) hd) ?_
          refine qp_run_E qp_ok216 5 (c' := (4, [some (.ref 36), some (.int a1), some (.int (a2 + v2)), some (.int (a3 + 1)), some (.int (I 37 (Int32.toNatClampNeg ((69 : Int32) + a3))))], [], qp_mk I2 J2)) (by with_unfolding_all rfl) hd1 trivial ?_
          exact qp_E_fg [true, true, true, true, false] (ih a1 (a2 + v2) (a3 + 1) I2 J2 h)
        · replace h := qp_iff h5 h
          refine qp_run_E qp_ok216 2 (c' := (61, [some (.ref 36), some (.int a1), some (.int a2), some (.int a3), some (.int (I 37 (Int32.toNatClampNeg ((69 : Int32) + a3))))], [.int 1, .int (I1 37 (Int32.toNatClampNeg ((2 : Int32) + (I 37 (Int32.toNatClampNeg ((69 : Int32) + a3)))))), .int a2], qp_mk I1 J1)) (by with_unfolding_all rfl) hd1 trivial ?_
          obtain ⟨v3, I3, J3, e3, h⟩ := qp_bd_s h
          refine qp_cS qp_ok216 (rest := [.int a2]) (oj := 10) qp_f177 rfl rfl (gM_wantsAs l G (I1 37 (Int32.toNatClampNeg ((2 : Int32) + (I 37 (Int32.toNatClampNeg ((69 : Int32) + a3)))))) 1 I1 J1 e3 (Nat.le_refl 1)) rfl rfl rfl (Nat.le_trans (by decide) hd) ?_
          refine qp_run_E qp_ok216 5 (c' := (4, [some (.ref 36), some (.int a1), some (.int (a2 + v3)), some (.int (a3 + 1)), some (.int (I 37 (Int32.toNatClampNeg ((69 : Int32) + a3))))], [], qp_mk I3 J3)) (by with_unfolding_all rfl) hd1 trivial ?_
          exact qp_E_fg [true, true, true, true, false] (ih a1 (a2 + v3) (a3 + 1) I3 J3 h)
def fM_wantedBy (p1 : Int32) (I : Nat → Nat → Int32) (J : Nat → Nat → Int64) : Option (Int32 × (Nat → Nat → Int32) × (Nat → Nat → Int64)) :=
  fM_wantedBy_b4 100000 p1 0 0 I J
set_option maxRecDepth 8000 in
theorem gM_wantedBy (l : Launch) (G : qp_G) (p1 : Int32) (I : Nat → Nat → Int32) (J : Nat → Nat → Int64) {v : Int32} {I' : Nat → Nat → Int32} {J' : Nat → Nat → Int64} (h : fM_wantedBy p1 I J = some (v, I', J')) {d : Nat} (hd : 2 ≤ d) : qp_Met l G d 216 [.ref 36, .int p1] (qp_mk I J) 0 0 (qp_R8 (some (.int v)) I' J') := by
  have hd1 : Nat.ble 1 d = true := Nat.ble_eq_true_of_le (Nat.le_trans (by decide) hd)
  refine qp_Met_of (by decide) (by rw [qp_r216.2]; rfl) [some (.ref 36), some (.int p1), none, none, none] (by rw [qp_r216.2]; rfl) ?_
  unfold fM_wantedBy at h
  refine qp_run_E qp_ok216 4 (c' := (4, [some (.ref 36), some (.int p1), some (.int 0), some (.int 0), none], [], qp_mk I J)) (by with_unfolding_all rfl) hd1 trivial ?_
  exact gM_wantedBy_b4 hd 100000 p1 0 0 I J h
def fM_sets_b34  : Nat → Int32 → Int32 → Int32 → Int32 → (Nat → Nat → Int32) → (Nat → Nat → Int64) → Option (Int32 × (Nat → Nat → Int32) × (Nat → Nat → Int64))
  | 0, _, _, _, _, _, _ => none
  | n + 1, a1, a2, a3, a4, I, J =>
    if ((1 : Int32) <<< ((I 37 0) &&& 31)) ≤ a4 then (
      qp_bd (fM_asks a3 I (qp_up (qp_up J 36 10 (Int32.toInt64 a2)) 36 11 1)) fun v1 I1 J1 =>
      some (v1, I1, J1)
    ) else (
      qp_bd (fM_wantedBy a4 I J) fun v2 I2 J2 =>
      if ¬ v2 = a1 then (
        fM_sets_b34 n a1 a2 a3 (a4 + 1) I2 J2
      ) else (
        if ¬ a2 = 0 then (
          fM_sets_b34 n a1 (a2 + 1) a3 (a4 + 1) I2 J2
        ) else (
          fM_sets_b34 n a1 (a2 + 1) a4 (a4 + 1) I2 J2
        )
      )
    )
set_option maxRecDepth 8000 in
theorem gM_sets_b34 {l : Launch} {G : qp_G} {d : Nat} (hd : 3 ≤ d) {r : (Int32 × (Nat → Nat → Int32) × (Nat → Nat → Int64))} {I0 : Nat → Nat → Int32} {J0 : Nat → Nat → Int64}   : ∀ (n : Nat) (a1 : Int32) (a2 : Int32) (a3 : Int32) (a4 : Int32) (I : Nat → Nat → Int32) (J : Nat → Nat → Int64), fM_sets_b34  n a1 a2 a3 a4 I J = some r → qp_E l G d 215 (qp_mk I0 J0) 0 0 (qp_R8 (some (.int r.1)) r.2.1 r.2.2) (34, [some (.ref 36), some (.int a1), some (.int a2), some (.int a3), some (.int a4)], [], qp_mk I J) := by
  have hd1 : Nat.ble 1 d = true := Nat.ble_eq_true_of_le (Nat.le_trans (by decide) hd)
  intro n
  induction n with
  | zero => intro a1 a2 a3 a4 I J h; exact absurd h (by simp [fM_sets_b34])
  | succ n ih =>
    intro a1 a2 a3 a4 I J h
    rw [fM_sets_b34] at h
    refine qp_run_E qp_ok215 7 (f := vp_in 0 75 ∧ True) (c' := (44, [some (.ref 36), some (.int a1), some (.int a2), some (.int a3), some (.int a4)], [.int ((1 : Int32) <<< ((I 37 0) &&& 31)), .int a4], qp_mk I J)) (by with_unfolding_all rfl) hd1 ⟨(qp_vin (c := 75) (by decide) (by decide) (by decide)), trivial⟩ ?_
    refine qp_br_E qp_ok215 (f := ((1 : Int32) <<< ((I 37 0) &&& 31)) ≤ a4) (ct := (77, [some (.ref 36), some (.int a1), some (.int a2), some (.int a3), some (.int a4)], [], qp_mk I J)) (cf := (47, [some (.ref 36), some (.int a1), some (.int a2), some (.int a3), some (.int a4)], [], qp_mk I J)) (by with_unfolding_all rfl) (fun h1 => ?_) (fun h1 => ?_)
    · replace h := qp_ift h1 h
      refine qp_run_E qp_ok215 9 (c' := (90, [some (.ref 36), some (.int a1), some (.int a2), some (.int a3), some (.int a4)], [.int a3, .ref 36], qp_mk I (qp_up (qp_up J 36 10 (Int32.toInt64 a2)) 36 11 1))) (by with_unfolding_all rfl) hd1 trivial ?_
      obtain ⟨v1, I1, J1, e1, h⟩ := qp_bd_s h
      refine qp_cV qp_ok215 (rest := []) (oj := 10) qp_f154 rfl rfl (gM_asks l G a3 I (qp_up (qp_up J 36 10 (Int32.toInt64 a2)) 36 11 1) e1 (Nat.le_refl 1)) rfl rfl rfl rfl (Nat.le_trans (by decide) hd) ?_
      obtain rfl := Option.some.inj h
      exact qp_retI_E qp_ok215 rfl qp_r215.1 ⟨rfl, rfl⟩ ⟨rfl, rfl⟩
    · replace h := qp_iff h1 h
      refine qp_run_E qp_ok215 2 (c' := (50, [some (.ref 36), some (.int a1), some (.int a2), some (.int a3), some (.int a4)], [.int a4, .ref 36], qp_mk I J)) (by with_unfolding_all rfl) hd1 trivial ?_
      obtain ⟨v2, I2, J2, e2, h⟩ := qp_bd_s h
      refine qp_cV qp_ok215 (rest := []) (oj := 10) qp_f216 rfl rfl (gM_wantedBy l G a4 I J e2 (Nat.le_refl 2)) rfl rfl rfl rfl (Nat.le_trans (by decide) hd) ?_
      refine qp_run_E qp_ok215 1 (c' := (54, [some (.ref 36), some (.int a1), some (.int a2), some (.int a3), some (.int a4)], [.int a1, .int v2], qp_mk I2 J2)) (by with_unfolding_all rfl) hd1 trivial ?_
      refine qp_br_E qp_ok215 (f := ¬ v2 = a1) (ct := (71, [some (.ref 36), some (.int a1), some (.int a2), some (.int a3), some (.int a4)], [], qp_mk I2 J2)) (cf := (57, [some (.ref 36), some (.int a1), some (.int a2), some (.int a3), some (.int a4)], [], qp_mk I2 J2)) (by with_unfolding_all rfl) (fun h2 => ?_) (fun h2 => ?_)
      · replace h := qp_ift h2 h
        refine qp_run_E qp_ok215 2 (c' := (34, [some (.ref 36), some (.int a1), some (.int a2), some (.int a3), some (.int (a4 + 1))], [], qp_mk I2 J2)) (by with_unfolding_all rfl) hd1 trivial ?_
        exact ih a1 a2 a3 (a4 + 1) I2 J2 h
      · replace h := qp_iff h2 h
        refine qp_run_E qp_ok215 1 (c' := (58, [some (.ref 36), some (.int a1), some (.int a2), some (.int a3), some (.int a4)], [.int a2], qp_mk I2 J2)) (by with_unfolding_all rfl) hd1 trivial ?_
        refine qp_br_E qp_ok215 (f := ¬ a2 = 0) (ct := (66, [some (.ref 36), some (.int a1), some (.int a2), some (.int a3), some (.int a4)], [], qp_mk I2 J2)) (cf := (61, [some (.ref 36), some (.int a1), some (.int a2), some (.int a3), some (.int a4)], [], qp_mk I2 J2)) (by with_unfolding_all rfl) (fun h3 => ?_) (fun h3 => ?_)
        · replace h := qp_ift h3 h
          refine qp_run_E qp_ok215 5 (c' := (34, [some (.ref 36), some (.int a1), some (.int (a2 + 1)), some (.int a3), some (.int (a4 + 1))], [], qp_mk I2 J2)) (by with_unfolding_all rfl) hd1 trivial ?_
          exact ih a1 (a2 + 1) a3 (a4 + 1) I2 J2 h
        · replace h := qp_iff h3 h
          refine qp_run_E qp_ok215 6 (c' := (34, [some (.ref 36), some (.int a1), some (.int (a2 + 1)), some (.int a4), some (.int (a4 + 1))], [], qp_mk I2 J2)) (by with_unfolding_all rfl) hd1 trivial ?_
          exact ih a1 (a2 + 1) a4 (a4 + 1) I2 J2 h
def fM_sets (p1 : Int32) (I : Nat → Nat → Int32) (J : Nat → Nat → Int64) : Option (Int32 × (Nat → Nat → Int32) × (Nat → Nat → Int64)) :=
  qp_bd (fM_in (Int32.toInt64 p1) 0 20 I J) fun v1 I1 J1 =>
  if ¬ v1 = 0 then (
    if ¬ (I1 37 0) = 0 then (
      fM_sets_b34 100000 p1 0 (-9) 0 I1 J1
    ) else (
      some ((-4), I1, J1)
    )
  ) else (
    some ((-1), I1, J1)
  )
set_option maxRecDepth 8000 in
theorem gM_sets (l : Launch) (G : qp_G) (p1 : Int32) (I : Nat → Nat → Int32) (J : Nat → Nat → Int64) {v : Int32} {I' : Nat → Nat → Int32} {J' : Nat → Nat → Int64} (h : fM_sets p1 I J = some (v, I', J')) {d : Nat} (hd : 3 ≤ d) : qp_Met l G d 215 [.ref 36, .int p1] (qp_mk I J) 0 0 (qp_R8 (some (.int v)) I' J') := by
  have hd1 : Nat.ble 1 d = true := Nat.ble_eq_true_of_le (Nat.le_trans (by decide) hd)
  refine qp_Met_of (by decide) (by rw [qp_r215.2]; rfl) [some (.ref 36), some (.int p1), none, none, none] (by rw [qp_r215.2]; rfl) ?_
  unfold fM_sets at h
  refine qp_run_E qp_ok215 4 (c' := (6, [some (.ref 36), some (.int p1), none, none, none], [.long 20, .long 0, .long (Int32.toInt64 p1)], qp_mk I J)) (by with_unfolding_all rfl) hd1 trivial ?_
  obtain ⟨v1, I1, J1, e1, h⟩ := qp_bd_s h
  refine qp_cS qp_ok215 (rest := []) (oj := 10) qp_f150 rfl rfl (gM_in l G (Int32.toInt64 p1) 0 20 I J e1 (Nat.le_refl 1)) rfl rfl rfl (Nat.le_trans (by decide) hd) ?_
  refine qp_br_E qp_ok215 (f := ¬ v1 = 0) (ct := (14, [some (.ref 36), some (.int p1), none, none, none], [], qp_mk I1 J1)) (cf := (12, [some (.ref 36), some (.int p1), none, none, none], [], qp_mk I1 J1)) (by with_unfolding_all rfl) (fun h1 => ?_) (fun h1 => ?_)
  · replace h := qp_ift h1 h
    refine qp_run_E qp_ok215 4 (f := vp_in 0 75 ∧ True) (c' := (20, [some (.ref 36), some (.int p1), none, none, none], [.int (I1 37 0)], qp_mk I1 J1)) (by with_unfolding_all rfl) hd1 ⟨(qp_vin (c := 75) (by decide) (by decide) (by decide)), trivial⟩ ?_
    refine qp_br_E qp_ok215 (f := ¬ (I1 37 0) = 0) (ct := (26, [some (.ref 36), some (.int p1), none, none, none], [], qp_mk I1 J1)) (cf := (23, [some (.ref 36), some (.int p1), none, none, none], [], qp_mk I1 J1)) (by with_unfolding_all rfl) (fun h2 => ?_) (fun h2 => ?_)
    · replace h := qp_ift h2 h
      refine qp_run_E qp_ok215 6 (c' := (34, [some (.ref 36), some (.int p1), some (.int 0), some (.int (-9)), some (.int 0)], [], qp_mk I1 J1)) (by with_unfolding_all rfl) hd1 trivial ?_
      exact gM_sets_b34 hd 100000 p1 0 (-9) 0 I1 J1 h
    · replace h := qp_iff h2 h
      refine qp_run_E qp_ok215 1 (c' := (25, [some (.ref 36), some (.int p1), none, none, none], [.int (-4)], qp_mk I1 J1)) (by with_unfolding_all rfl) hd1 trivial ?_
      obtain ⟨rfl, rfl, rfl⟩ := qp_some3 h
      exact qp_retI_E qp_ok215 rfl qp_r215.1 ⟨rfl, rfl⟩ ⟨rfl, rfl⟩
  · replace h := qp_iff h1 h
    refine qp_run_E qp_ok215 1 (c' := (13, [some (.ref 36), some (.int p1), none, none, none], [.int (-1)], qp_mk I1 J1)) (by with_unfolding_all rfl) hd1 trivial ?_
    obtain ⟨rfl, rfl, rfl⟩ := qp_some3 h
    exact qp_retI_E qp_ok215 rfl qp_r215.1 ⟨rfl, rfl⟩ ⟨rfl, rfl⟩
def fM_sure_b48  : Nat → Int32 → Int32 → Int32 → Int32 → Int32 → Int32 → (Nat → Nat → Int32) → (Nat → Nat → Int64) → Option (Int32 × (Nat → Nat → Int32) × (Nat → Nat → Int64))
  | 0, _, _, _, _, _, _, _, _ => none
  | n + 1, a1, a2, a3, a4, a5, a6, I, J =>
    if a2 < a6 then (
      if ¬ a5 = 0 then (
        qp_bd (fM_asks (a2 &&& (a4 ^^^ (-1))) I J) fun v1 I1 J1 =>
        some (a3, I1, J1)
      ) else (
        qp_bd (fM_finds 4 I J) fun v2 I2 J2 =>
        some (v2, I2, J2)
      )
    ) else (
      qp_bd (fM_wantedBy a6 I J) fun v3 I3 J3 =>
      if ¬ v3 = a1 then (
        fM_sure_b48 n a1 a2 a3 a4 a5 (a6 + 1) I3 J3
      ) else (
        fM_sure_b48 n a1 a2 (a3 &&& a6) (a4 ||| a6) 1 (a6 + 1) I3 J3
      )
    )
set_option maxRecDepth 8000 in
theorem gM_sure_b48 {l : Launch} {G : qp_G} {d : Nat} (hd : 3 ≤ d) {r : (Int32 × (Nat → Nat → Int32) × (Nat → Nat → Int64))} {I0 : Nat → Nat → Int32} {J0 : Nat → Nat → Int64}   : ∀ (n : Nat) (a1 : Int32) (a2 : Int32) (a3 : Int32) (a4 : Int32) (a5 : Int32) (a6 : Int32) (I : Nat → Nat → Int32) (J : Nat → Nat → Int64), fM_sure_b48  n a1 a2 a3 a4 a5 a6 I J = some r → qp_E l G d 217 (qp_mk I0 J0) 0 0 (qp_R8 (some (.int r.1)) r.2.1 r.2.2) (48, [some (.ref 36), some (.int a1), some (.int a2), some (.int a3), some (.int a4), some (.int a5), some (.int a6)], [], qp_mk I J) := by
  have hd1 : Nat.ble 1 d = true := Nat.ble_eq_true_of_le (Nat.le_trans (by decide) hd)
  intro n
  induction n with
  | zero => intro a1 a2 a3 a4 a5 a6 I J h; exact absurd h (by simp [fM_sure_b48])
  | succ n ih =>
    intro a1 a2 a3 a4 a5 a6 I J h
    rw [fM_sure_b48] at h
    refine qp_run_E qp_ok217 2 (c' := (51, [some (.ref 36), some (.int a1), some (.int a2), some (.int a3), some (.int a4), some (.int a5), some (.int a6)], [.int a2, .int a6], qp_mk I J)) (by with_unfolding_all rfl) hd1 trivial ?_
    refine qp_br_E qp_ok217 (f := a2 < a6) (ct := (85, [some (.ref 36), some (.int a1), some (.int a2), some (.int a3), some (.int a4), some (.int a5), some (.int a6)], [], qp_mk I J)) (cf := (54, [some (.ref 36), some (.int a1), some (.int a2), some (.int a3), some (.int a4), some (.int a5), some (.int a6)], [], qp_mk I J)) (by with_unfolding_all rfl) (fun h1 => ?_) (fun h1 => ?_)
    · replace h := qp_ift h1 h
      refine qp_run_E qp_ok217 1 (c' := (87, [some (.ref 36), some (.int a1), some (.int a2), some (.int a3), some (.int a4), some (.int a5), some (.int a6)], [.int a5], qp_mk I J)) (by with_unfolding_all rfl) hd1 trivial ?_
      refine qp_br_E qp_ok217 (f := ¬ a5 = 0) (ct := (96, [some (.ref 36), some (.int a1), some (.int a2), some (.int a3), some (.int a4), some (.int a5), some (.int a6)], [], qp_mk I J)) (cf := (90, [some (.ref 36), some (.int a1), some (.int a2), some (.int a3), some (.int a4), some (.int a5), some (.int a6)], [], qp_mk I J)) (by with_unfolding_all rfl) (fun h2 => ?_) (fun h2 => ?_)
      · replace h := qp_ift h2 h
        refine qp_run_E qp_ok217 6 (c' := (103, [some (.ref 36), some (.int a1), some (.int a2), some (.int a3), some (.int a4), some (.int a5), some (.int a6)], [.int (a2 &&& (a4 ^^^ (-1))), .ref 36], qp_mk I J)) (by with_unfolding_all rfl) hd1 trivial ?_
        obtain ⟨v1, I1, J1, e1, h⟩ := qp_bd_s h
        refine qp_cV qp_ok217 (rest := []) (oj := 10) qp_f154 rfl rfl (gM_asks l G (a2 &&& (a4 ^^^ (-1))) I J e1 (Nat.le_refl 1)) rfl rfl rfl rfl (Nat.le_trans (by decide) hd) ?_
        refine qp_run_E qp_ok217 2 (c' := (109, [some (.ref 36), some (.int a1), some (.int a2), some (.int a3), some (.int a4), some (.int a5), some (.int v1)], [.int a3], qp_mk I1 J1)) (by with_unfolding_all rfl) hd1 trivial ?_
        obtain rfl := Option.some.inj h
        exact qp_retI_E qp_ok217 rfl qp_r217.1 ⟨rfl, rfl⟩ ⟨rfl, rfl⟩
      · replace h := qp_iff h2 h
        refine qp_run_E qp_ok217 2 (c' := (92, [some (.ref 36), some (.int a1), some (.int a2), some (.int a3), some (.int a4), some (.int a5), some (.int a6)], [.int 4, .ref 36], qp_mk I J)) (by with_unfolding_all rfl) hd1 trivial ?_
        obtain ⟨v2, I2, J2, e2, h⟩ := qp_bd_s h
        refine qp_cV qp_ok217 (rest := []) (oj := 10) qp_f151 rfl rfl (gM_finds l G 4 I J e2 (Nat.le_refl 1)) rfl rfl rfl rfl (Nat.le_trans (by decide) hd) ?_
        obtain rfl := Option.some.inj h
        exact qp_retI_E qp_ok217 rfl qp_r217.1 ⟨rfl, rfl⟩ ⟨rfl, rfl⟩
    · replace h := qp_iff h1 h
      refine qp_run_E qp_ok217 2 (c' := (57, [some (.ref 36), some (.int a1), some (.int a2), some (.int a3), some (.int a4), some (.int a5), some (.int a6)], [.int a6, .ref 36], qp_mk I J)) (by with_unfolding_all rfl) hd1 trivial ?_
      obtain ⟨v3, I3, J3, e3, h⟩ := qp_bd_s h
      refine qp_cV qp_ok217 (rest := []) (oj := 10) qp_f216 rfl rfl (gM_wantedBy l G a6 I J e3 (Nat.le_refl 2)) rfl rfl rfl rfl (Nat.le_trans (by decide) hd) ?_
      refine qp_run_E qp_ok217 1 (c' := (61, [some (.ref 36), some (.int a1), some (.int a2), some (.int a3), some (.int a4), some (.int a5), some (.int a6)], [.int a1, .int v3], qp_mk I3 J3)) (by with_unfolding_all rfl) hd1 trivial ?_
      refine qp_br_E qp_ok217 (f := ¬ v3 = a1) (ct := (79, [some (.ref 36), some (.int a1), some (.int a2), some (.int a3), some (.int a4), some (.int a5), some (.int a6)], [], qp_mk I3 J3)) (cf := (64, [some (.ref 36), some (.int a1), some (.int a2), some (.int a3), some (.int a4), some (.int a5), some (.int a6)], [], qp_mk I3 J3)) (by with_unfolding_all rfl) (fun h3 => ?_) (fun h3 => ?_)
      · replace h := qp_ift h3 h
        refine qp_run_E qp_ok217 2 (c' := (48, [some (.ref 36), some (.int a1), some (.int a2), some (.int a3), some (.int a4), some (.int a5), some (.int (a6 + 1))], [], qp_mk I3 J3)) (by with_unfolding_all rfl) hd1 trivial ?_
        exact ih a1 a2 a3 a4 a5 (a6 + 1) I3 J3 h
      · replace h := qp_iff h3 h
        refine qp_run_E qp_ok217 12 (c' := (48, [some (.ref 36), some (.int a1), some (.int a2), some (.int (a3 &&& a6)), some (.int (a4 ||| a6)), some (.int 1), some (.int (a6 + 1))], [], qp_mk I3 J3)) (by with_unfolding_all rfl) hd1 trivial ?_
        exact ih a1 a2 (a3 &&& a6) (a4 ||| a6) 1 (a6 + 1) I3 J3 h
def fM_sure (p1 : Int32) (I : Nat → Nat → Int32) (J : Nat → Nat → Int64) : Option (Int32 × (Nat → Nat → Int32) × (Nat → Nat → Int64)) :=
  qp_bd (fM_in (Int32.toInt64 p1) 0 20 I J) fun v1 I1 J1 =>
  if ¬ v1 = 0 then (
    if ¬ (I1 37 0) = 0 then (
      fM_sure_b48 100000 p1 (((1 : Int32) <<< ((I1 37 0) &&& 31)) - 1) (((1 : Int32) <<< ((I1 37 0) &&& 31)) - 1) 0 0 0 I1 J1
    ) else (
      some ((-4), I1, J1)
    )
  ) else (
    some ((-1), I1, J1)
  )
set_option maxRecDepth 8000 in
theorem gM_sure (l : Launch) (G : qp_G) (p1 : Int32) (I : Nat → Nat → Int32) (J : Nat → Nat → Int64) {v : Int32} {I' : Nat → Nat → Int32} {J' : Nat → Nat → Int64} (h : fM_sure p1 I J = some (v, I', J')) {d : Nat} (hd : 3 ≤ d) : qp_Met l G d 217 [.ref 36, .int p1] (qp_mk I J) 0 0 (qp_R8 (some (.int v)) I' J') := by
  have hd1 : Nat.ble 1 d = true := Nat.ble_eq_true_of_le (Nat.le_trans (by decide) hd)
  refine qp_Met_of (by decide) (by rw [qp_r217.2]; rfl) [some (.ref 36), some (.int p1), none, none, none, none, none] (by rw [qp_r217.2]; rfl) ?_
  unfold fM_sure at h
  refine qp_run_E qp_ok217 4 (c' := (6, [some (.ref 36), some (.int p1), none, none, none, none, none], [.long 20, .long 0, .long (Int32.toInt64 p1)], qp_mk I J)) (by with_unfolding_all rfl) hd1 trivial ?_
  obtain ⟨v1, I1, J1, e1, h⟩ := qp_bd_s h
  refine qp_cS qp_ok217 (rest := []) (oj := 10) qp_f150 rfl rfl (gM_in l G (Int32.toInt64 p1) 0 20 I J e1 (Nat.le_refl 1)) rfl rfl rfl (Nat.le_trans (by decide) hd) ?_
  refine qp_br_E qp_ok217 (f := ¬ v1 = 0) (ct := (14, [some (.ref 36), some (.int p1), none, none, none, none, none], [], qp_mk I1 J1)) (cf := (12, [some (.ref 36), some (.int p1), none, none, none, none, none], [], qp_mk I1 J1)) (by with_unfolding_all rfl) (fun h1 => ?_) (fun h1 => ?_)
  · replace h := qp_ift h1 h
    refine qp_run_E qp_ok217 4 (f := vp_in 0 75 ∧ True) (c' := (20, [some (.ref 36), some (.int p1), none, none, none, none, none], [.int (I1 37 0)], qp_mk I1 J1)) (by with_unfolding_all rfl) hd1 ⟨(qp_vin (c := 75) (by decide) (by decide) (by decide)), trivial⟩ ?_
    refine qp_br_E qp_ok217 (f := ¬ (I1 37 0) = 0) (ct := (26, [some (.ref 36), some (.int p1), none, none, none, none, none], [], qp_mk I1 J1)) (cf := (23, [some (.ref 36), some (.int p1), none, none, none, none, none], [], qp_mk I1 J1)) (by with_unfolding_all rfl) (fun h2 => ?_) (fun h2 => ?_)
    · replace h := qp_ift h2 h
      refine qp_run_E qp_ok217 17 (f := vp_in 0 75 ∧ True) (c' := (48, [some (.ref 36), some (.int p1), some (.int (((1 : Int32) <<< ((I1 37 0) &&& 31)) - 1)), some (.int (((1 : Int32) <<< ((I1 37 0) &&& 31)) - 1)), some (.int 0), some (.int 0), some (.int 0)], [], qp_mk I1 J1)) (by with_unfolding_all rfl) hd1 ⟨(qp_vin (c := 75) (by decide) (by decide) (by decide)), trivial⟩ ?_
      exact gM_sure_b48 hd 100000 p1 (((1 : Int32) <<< ((I1 37 0) &&& 31)) - 1) (((1 : Int32) <<< ((I1 37 0) &&& 31)) - 1) 0 0 0 I1 J1 h
    · replace h := qp_iff h2 h
      refine qp_run_E qp_ok217 1 (c' := (25, [some (.ref 36), some (.int p1), none, none, none, none, none], [.int (-4)], qp_mk I1 J1)) (by with_unfolding_all rfl) hd1 trivial ?_
      obtain ⟨rfl, rfl, rfl⟩ := qp_some3 h
      exact qp_retI_E qp_ok217 rfl qp_r217.1 ⟨rfl, rfl⟩ ⟨rfl, rfl⟩
  · replace h := qp_iff h1 h
    refine qp_run_E qp_ok217 1 (c' := (13, [some (.ref 36), some (.int p1), none, none, none, none, none], [.int (-1)], qp_mk I1 J1)) (by with_unfolding_all rfl) hd1 trivial ?_
    obtain ⟨rfl, rfl, rfl⟩ := qp_some3 h
    exact qp_retI_E qp_ok217 rfl qp_r217.1 ⟨rfl, rfl⟩ ⟨rfl, rfl⟩
def fM_goChoices_b7  : Nat → Int32 → Int32 → Int32 → Int32 → (Nat → Nat → Int32) → (Nat → Nat → Int64) → Option (Int32 × (Nat → Nat → Int32) × (Nat → Nat → Int64))
  | 0, _, _, _, _, _, _ => none
  | n + 1, a1, a2, a3, a4, I, J =>
    if a3 ≤ a4 then (
      qp_bd (fM_serve_36_47 69 (I 37 0) I J) fun _u I1 J1 =>
      qp_gd ((0 ≤ a1 ∧ a1 < 6) ∧ (0 ≤ a2 ∧ a2 < 6)) <|
      some (((I1 48 (Int32.toNatClampNeg a1)) - (I1 48 (Int32.toNatClampNeg a2))), I1, J1)
    ) else (
      if ¬ (a4 - a4 / 2 * 2) = 0 then (
        qp_gd ((0 ≤ a4 ∧ a4 < 4)) <|
        qp_bd (fM_goTo_47 69 (I 37 0) a2 (I 55 (Int32.toNatClampNeg a4)) I J) fun _u I2 J2 =>
        fM_goChoices_b7 n a1 a2 a3 (a4 + 1) I2 J2
      ) else (
        qp_gd ((0 ≤ a4 ∧ a4 < 4)) <|
        qp_bd (fM_goTo_47 69 (I 37 0) a1 (I 55 (Int32.toNatClampNeg a4)) I J) fun _u I3 J3 =>
        fM_goChoices_b7 n a1 a2 a3 (a4 + 1) I3 J3
      )
    )
set_option maxRecDepth 8000 in
theorem gM_goChoices_b7 {l : Launch} {G : qp_G} {d : Nat} (hd : 3 ≤ d) {r : (Int32 × (Nat → Nat → Int32) × (Nat → Nat → Int64))} {I0 : Nat → Nat → Int32} {J0 : Nat → Nat → Int64}   : ∀ (n : Nat) (a1 : Int32) (a2 : Int32) (a3 : Int32) (a4 : Int32) (I : Nat → Nat → Int32) (J : Nat → Nat → Int64), fM_goChoices_b7  n a1 a2 a3 a4 I J = some r → qp_E l G d 220 (qp_mk I0 J0) 0 0 (qp_R8 (some (.int r.1)) r.2.1 r.2.2) (7, [some (.ref 36), some (.int a1), some (.int a2), some (.int a3), some (.int a4)], [], qp_mk I J) := by
  have hd1 : Nat.ble 1 d = true := Nat.ble_eq_true_of_le (Nat.le_trans (by decide) hd)
  intro n
  induction n with
  | zero => intro a1 a2 a3 a4 I J h; exact absurd h (by simp [fM_goChoices_b7])
  | succ n ih =>
    intro a1 a2 a3 a4 I J h
    rw [fM_goChoices_b7] at h
    refine qp_run_E qp_ok220 2 (c' := (10, [some (.ref 36), some (.int a1), some (.int a2), some (.int a3), some (.int a4)], [.int a3, .int a4], qp_mk I J)) (by with_unfolding_all rfl) hd1 trivial ?_
    refine qp_br_E qp_ok220 (f := a3 ≤ a4) (ct := (53, [some (.ref 36), some (.int a1), some (.int a2), some (.int a3), some (.int a4)], [], qp_mk I J)) (cf := (13, [some (.ref 36), some (.int a1), some (.int a2), some (.int a3), some (.int a4)], [], qp_mk I J)) (by with_unfolding_all rfl) (fun h1 => ?_) (fun h1 => ?_)
    · replace h := qp_ift h1 h
      refine qp_run_E qp_ok220 8 (f := vp_in 0 75 ∧ True) (c' := (66, [some (.ref 36), some (.int a1), some (.int a2), some (.int a3), some (.int a4)], [.int (I 37 0), .int 69, .ref 47, .ref 36], qp_mk I J)) (by with_unfolding_all rfl) hd1 ⟨(qp_vin (c := 75) (by decide) (by decide) (by decide)), trivial⟩ ?_
      obtain ⟨v1, I1, J1, e1, h⟩ := qp_bd_s h
      refine qp_cV qp_ok220 (rest := []) (oj := 10) qp_f175 rfl rfl (gM_serve_36_47 l G 69 (I 37 0) I J e1 (Nat.le_refl 2)) rfl rfl rfl rfl (Nat.le_trans (by decide) hd) ?_
      obtain ⟨h2, h⟩ := qp_gd_s h
      refine qp_run_E qp_ok220 9 (f := vp_in a1 6 ∧ vp_in a2 6 ∧ True) (c' := (82, [some (.ref 36), some (.int a1), some (.int a2), some (.int a3), some (.int a4)], [.int ((I1 48 (Int32.toNatClampNeg a1)) - (I1 48 (Int32.toNatClampNeg a2)))], qp_mk I1 J1)) (by with_unfolding_all rfl) hd1 ⟨(qp_vin (c := 6) (by decide) h2.1.1 h2.1.2), (qp_vin (c := 6) (by decide) h2.2.1 h2.2.2), trivial⟩ ?_
      obtain rfl := Option.some.inj h
      exact qp_retI_E qp_ok220 rfl qp_r220.1 ⟨rfl, rfl⟩ ⟨rfl, rfl⟩
    · replace h := qp_iff h1 h
      refine qp_run_E qp_ok220 10 (f := vp_in 0 75 ∧ ¬ (2 : Int32) = 0 ∧ True) (c' := (29, [some (.ref 36), some (.int a1), some (.int a2), some (.int a3), some (.int a4)], [.int (a4 - a4 / 2 * 2), .int (I 37 0), .int 69, .ref 47], qp_mk I J)) (by with_unfolding_all rfl) hd1 ⟨(qp_vin (c := 75) (by decide) (by decide) (by decide)), (by decide), trivial⟩ ?_
      refine qp_br_E qp_ok220 (f := ¬ (a4 - a4 / 2 * 2) = 0) (ct := (36, [some (.ref 36), some (.int a1), some (.int a2), some (.int a3), some (.int a4)], [.int (I 37 0), .int 69, .ref 47], qp_mk I J)) (cf := (32, [some (.ref 36), some (.int a1), some (.int a2), some (.int a3), some (.int a4)], [.int (I 37 0), .int 69, .ref 47], qp_mk I J)) (by with_unfolding_all rfl) (fun h3 => ?_) (fun h3 => ?_)
      · replace h := qp_ift h3 h
        obtain ⟨h4, h⟩ := qp_gd_s h
        refine qp_run_E qp_ok220 5 (f := vp_in a4 4 ∧ True) (c' := (44, [some (.ref 36), some (.int a1), some (.int a2), some (.int a3), some (.int a4)], [.int (I 55 (Int32.toNatClampNeg a4)), .int a2, .int (I 37 0), .int 69, .ref 47], qp_mk I J)) (by with_unfolding_all rfl) hd1 ⟨(qp_vin (c := 4) (by decide) h4.1 h4.2), trivial⟩ ?_
        obtain ⟨v2, I2, J2, e2, h⟩ := qp_bd_s h
        refine qp_cS qp_ok220 (rest := []) (oj := 10) qp_f189 rfl rfl (gM_goTo_47 l G 69 (I 37 0) a2 (I 55 (Int32.toNatClampNeg a4)) I J e2 (Nat.le_refl 2)) rfl rfl rfl (Nat.le_trans (by decide) hd) ?_
        refine qp_run_E qp_ok220 2 (c' := (7, [some (.ref 36), some (.int a1), some (.int a2), some (.int a3), some (.int (a4 + 1))], [], qp_mk I2 J2)) (by with_unfolding_all rfl) hd1 trivial ?_
        exact ih a1 a2 a3 (a4 + 1) I2 J2 h
      · replace h := qp_iff h3 h
        obtain ⟨h5, h⟩ := qp_gd_s h
        refine qp_run_E qp_ok220 6 (f := vp_in a4 4 ∧ True) (c' := (44, [some (.ref 36), some (.int a1), some (.int a2), some (.int a3), some (.int a4)], [.int (I 55 (Int32.toNatClampNeg a4)), .int a1, .int (I 37 0), .int 69, .ref 47], qp_mk I J)) (by with_unfolding_all rfl) hd1 ⟨(qp_vin (c := 4) (by decide) h5.1 h5.2), trivial⟩ ?_
        obtain ⟨v3, I3, J3, e3, h⟩ := qp_bd_s h
        refine qp_cS qp_ok220 (rest := []) (oj := 10) qp_f189 rfl rfl (gM_goTo_47 l G 69 (I 37 0) a1 (I 55 (Int32.toNatClampNeg a4)) I J e3 (Nat.le_refl 2)) rfl rfl rfl (Nat.le_trans (by decide) hd) ?_
        refine qp_run_E qp_ok220 2 (c' := (7, [some (.ref 36), some (.int a1), some (.int a2), some (.int a3), some (.int (a4 + 1))], [], qp_mk I3 J3)) (by with_unfolding_all rfl) hd1 trivial ?_
        exact ih a1 a2 a3 (a4 + 1) I3 J3 h
def fM_goChoices (p1 : Int32) (p2 : Int32) (p3 : Int32) (I : Nat → Nat → Int32) (J : Nat → Nat → Int64) : Option (Int32 × (Nat → Nat → Int32) × (Nat → Nat → Int64)) :=
  qp_bd (fM_layHand I J) fun _u I1 J1 =>
  fM_goChoices_b7 100000 p1 p2 p3 0 I1 J1
set_option maxRecDepth 8000 in
theorem gM_goChoices (l : Launch) (G : qp_G) (p1 : Int32) (p2 : Int32) (p3 : Int32) (I : Nat → Nat → Int32) (J : Nat → Nat → Int64) {v : Int32} {I' : Nat → Nat → Int32} {J' : Nat → Nat → Int64} (h : fM_goChoices p1 p2 p3 I J = some (v, I', J')) {d : Nat} (hd : 3 ≤ d) : qp_Met l G d 220 [.ref 36, .int p1, .int p2, .int p3] (qp_mk I J) 0 0 (qp_R8 (some (.int v)) I' J') := by
  have hd1 : Nat.ble 1 d = true := Nat.ble_eq_true_of_le (Nat.le_trans (by decide) hd)
  refine qp_Met_of (by decide) (by rw [qp_r220.2]; rfl) [some (.ref 36), some (.int p1), some (.int p2), some (.int p3), none] (by rw [qp_r220.2]; rfl) ?_
  unfold fM_goChoices at h
  refine qp_run_E qp_ok220 1 (c' := (1, [some (.ref 36), some (.int p1), some (.int p2), some (.int p3), none], [.ref 36], qp_mk I J)) (by with_unfolding_all rfl) hd1 trivial ?_
  obtain ⟨v1, I1, J1, e1, h⟩ := qp_bd_s h
  refine qp_cV qp_ok220 (rest := []) (oj := 10) qp_f202 rfl rfl (gM_layHand l G I J e1 (Nat.le_refl 1)) rfl rfl rfl rfl (Nat.le_trans (by decide) hd) ?_
  refine qp_run_E qp_ok220 2 (c' := (7, [some (.ref 36), some (.int p1), some (.int p2), some (.int p3), some (.int 0)], [], qp_mk I1 J1)) (by with_unfolding_all rfl) hd1 trivial ?_
  exact gM_goChoices_b7 hd 100000 p1 p2 p3 0 I1 J1 h
def fM_startOf (p0 : Int32) (I : Nat → Nat → Int32) (J : Nat → Nat → Int64) : Option (Int32 × (Nat → Nat → Int32) × (Nat → Nat → Int64)) :=
  if ¬ (p0 - p0 / 2 * 2) = 0 then (
    some (1000000, I, J)
  ) else (
    some ((-1000000), I, J)
  )
set_option maxRecDepth 8000 in
theorem gM_startOf (l : Launch) (G : qp_G) (p0 : Int32) (I : Nat → Nat → Int32) (J : Nat → Nat → Int64) {v : Int32} {I' : Nat → Nat → Int32} {J' : Nat → Nat → Int64} (h : fM_startOf p0 I J = some (v, I', J')) {d : Nat} (hd : 1 ≤ d) : qp_Met l G d 219 [.int p0] (qp_mk I J) 0 0 (qp_R8 (some (.int v)) I' J') := by
  have hd1 : Nat.ble 1 d = true := Nat.ble_eq_true_of_le (Nat.le_trans (by decide) hd)
  refine qp_Met_of (by decide) (by rw [qp_r219.2]; rfl) [some (.int p0)] (by rw [qp_r219.2]; rfl) ?_
  unfold fM_startOf at h
  refine qp_run_E qp_ok219 3 (f := ¬ (2 : Int32) = 0 ∧ True) (c' := (3, [some (.int p0)], [.int (p0 - p0 / 2 * 2)], qp_mk I J)) (by with_unfolding_all rfl) hd1 ⟨(by decide), trivial⟩ ?_
  refine qp_br_E qp_ok219 (f := ¬ (p0 - p0 / 2 * 2) = 0) (ct := (11, [some (.int p0)], [], qp_mk I J)) (cf := (6, [some (.int p0)], [], qp_mk I J)) (by with_unfolding_all rfl) (fun h1 => ?_) (fun h1 => ?_)
  · replace h := qp_ift h1 h
    refine qp_run_E qp_ok219 1 (c' := (13, [some (.int p0)], [.int 1000000], qp_mk I J)) (by with_unfolding_all rfl) hd1 trivial ?_
    obtain ⟨rfl, rfl, rfl⟩ := qp_some3 h
    exact qp_retI_E qp_ok219 rfl qp_r219.1 ⟨rfl, rfl⟩ ⟨rfl, rfl⟩
  · replace h := qp_iff h1 h
    refine qp_run_E qp_ok219 2 (c' := (13, [some (.int p0)], [.int (-1000000)], qp_mk I J)) (by with_unfolding_all rfl) hd1 trivial ?_
    obtain ⟨rfl, rfl, rfl⟩ := qp_some3 h
    exact qp_retI_E qp_ok219 rfl qp_r219.1 ⟨rfl, rfl⟩ ⟨rfl, rfl⟩

/-! methods as functions: 16.f 2 -/
def fL_without_b96  (k20 : Int32 → Int32 → Int32 → Int32 → Int32 → Int32 → (Nat → Nat → Int32) → (Nat → Nat → Int64) → Option (Int32 × (Nat → Nat → Int32) × (Nat → Nat → Int64))) (a1 : Int32) (a2 : Int32) (a3 : Int32) (a4 : Int32) (a5 : Int32) (a6 : Int32) (a7 : Int32) (I : Nat → Nat → Int32) (J : Nat → Nat → Int64) : Option (Int32 × (Nat → Nat → Int32) × (Nat → Nat → Int64)) :=
  if a6 = a1 then (
    k20 a1 a2 a3 a4 a5 (a6 + 1) I J
  ) else (
    qp_bd (fD_by a3 (I 15 0) a7 I J) fun v1 I1 J1 =>
    if a2 = 0 then (
      k20 a1 a2 v1 (a4 + 1) a5 (a6 + 1) I1 J1
    ) else (
      if 12 ≤ a4 then (
        k20 a1 a2 v1 (a4 + 1) a5 (a6 + 1) I1 J1
      ) else (
        qp_gd ((0 ≤ a4 ∧ a4 < 12)) <|
        k20 a1 a2 v1 (a4 + 1) a5 (a6 + 1) (qp_up I1 23 (Int32.toNatClampNeg a4) a7) J1
      )
    )
  )
set_option maxRecDepth 8000 in
theorem gL_without_b96 {l : Launch} {G : qp_G} {d : Nat} (hd : 4 ≤ d) {r : (Int32 × (Nat → Nat → Int32) × (Nat → Nat → Int64))} {I0 : Nat → Nat → Int32} {J0 : Nat → Nat → Int64}  (k20 : Int32 → Int32 → Int32 → Int32 → Int32 → Int32 → (Nat → Nat → Int32) → (Nat → Nat → Int64) → Option (Int32 × (Nat → Nat → Int32) × (Nat → Nat → Int64))) (hk20 : ∀ a1 a2 a3 a4 a5 a6 I J, k20 a1 a2 a3 a4 a5 a6 I J = some r → qp_E l G d 53 (qp_mk I0 J0) 0 0 (qp_R8 (some (.int r.1)) r.2.1 r.2.2) (20, [some (.ref 14), some (.int a1), some (.int a2), some (.int a3), some (.int a4), some (.int a5), some (.int a6), none, none], [], qp_mk I J)) : ∀ (a1 : Int32) (a2 : Int32) (a3 : Int32) (a4 : Int32) (a5 : Int32) (a6 : Int32) (a7 : Int32) (I : Nat → Nat → Int32) (J : Nat → Nat → Int64), fL_without_b96 k20 a1 a2 a3 a4 a5 a6 a7 I J = some r → qp_E l G d 53 (qp_mk I0 J0) 0 0 (qp_R8 (some (.int r.1)) r.2.1 r.2.2) (96, [some (.ref 14), some (.int a1), some (.int a2), some (.int a3), some (.int a4), some (.int a5), some (.int a6), some (.int a7), none], [], qp_mk I J) := by
  have hd1 : Nat.ble 1 d = true := Nat.ble_eq_true_of_le (Nat.le_trans (by decide) hd)
  intro a1 a2 a3 a4 a5 a6 a7 I J h
  unfold fL_without_b96 at h
  refine qp_run_E qp_ok53 2 (c' := (99, [some (.ref 14), some (.int a1), some (.int a2), some (.int a3), some (.int a4), some (.int a5), some (.int a6), some (.int a7), none], [.int a1, .int a6], qp_mk I J)) (by with_unfolding_all rfl) hd1 trivial ?_
  refine qp_br_E qp_ok53 (f := a6 = a1) (ct := (142, [some (.ref 14), some (.int a1), some (.int a2), some (.int a3), some (.int a4), some (.int a5), some (.int a6), some (.int a7), none], [], qp_mk I J)) (cf := (102, [some (.ref 14), some (.int a1), some (.int a2), some (.int a3), some (.int a4), some (.int a5), some (.int a6), some (.int a7), none], [], qp_mk I J)) (by with_unfolding_all rfl) (fun h1 => ?_) (fun h1 => ?_)
  · replace h := qp_ift h1 h
    refine qp_run_E qp_ok53 2 (c' := (20, [some (.ref 14), some (.int a1), some (.int a2), some (.int a3), some (.int a4), some (.int a5), some (.int (a6 + 1)), some (.int a7), none], [], qp_mk I J)) (by with_unfolding_all rfl) hd1 trivial ?_
    exact qp_E_fg [true, true, true, true, true, true, true, false, false] (hk20 a1 a2 a3 a4 a5 (a6 + 1) I J h)
  · replace h := qp_iff h1 h
    refine qp_run_E qp_ok53 5 (c' := (112, [some (.ref 14), some (.int a1), some (.int a2), some (.int a3), some (.int a4), some (.int a5), some (.int a6), some (.int a7), none], [.int a7, .int (I 15 0), .int a3], qp_mk I J)) (by with_unfolding_all rfl) hd1 trivial ?_
    obtain ⟨v1, I1, J1, e1, h⟩ := qp_bd_s h
    refine qp_cS qp_ok53 (rest := []) (oj := 10) qp_f50 rfl rfl (gD_by l G a3 (I 15 0) a7 I J e1 (Nat.le_refl 3)) rfl rfl rfl (Nat.le_trans (by decide) hd) ?_
    refine qp_run_E qp_ok53 2 (c' := (117, [some (.ref 14), some (.int a1), some (.int a2), some (.int v1), some (.int a4), some (.int a5), some (.int a6), some (.int a7), none], [.int a2], qp_mk I1 J1)) (by with_unfolding_all rfl) hd1 trivial ?_
    refine qp_br_E qp_ok53 (f := a2 = 0) (ct := (139, [some (.ref 14), some (.int a1), some (.int a2), some (.int v1), some (.int a4), some (.int a5), some (.int a6), some (.int a7), none], [], qp_mk I1 J1)) (cf := (120, [some (.ref 14), some (.int a1), some (.int a2), some (.int v1), some (.int a4), some (.int a5), some (.int a6), some (.int a7), none], [], qp_mk I1 J1)) (by with_unfolding_all rfl) (fun h2 => ?_) (fun h2 => ?_)
    · replace h := qp_ift h2 h
      refine qp_run_E qp_ok53 3 (c' := (20, [some (.ref 14), some (.int a1), some (.int a2), some (.int v1), some (.int (a4 + 1)), some (.int a5), some (.int (a6 + 1)), some (.int a7), none], [], qp_mk I1 J1)) (by with_unfolding_all rfl) hd1 trivial ?_
      exact qp_E_fg [true, true, true, true, true, true, true, false, false] (hk20 a1 a2 v1 (a4 + 1) a5 (a6 + 1) I1 J1 h)
    · replace h := qp_iff h2 h
      refine qp_run_E qp_ok53 4 (c' := (127, [some (.ref 14), some (.int a1), some (.int a2), some (.int v1), some (.int a4), some (.int a5), some (.int a6), some (.int a7), none], [.int 12, .int a4], qp_mk I1 J1)) (by with_unfolding_all rfl) hd1 trivial ?_
      refine qp_br_E qp_ok53 (f := 12 ≤ a4) (ct := (139, [some (.ref 14), some (.int a1), some (.int a2), some (.int v1), some (.int a4), some (.int a5), some (.int a6), some (.int a7), none], [], qp_mk I1 J1)) (cf := (130, [some (.ref 14), some (.int a1), some (.int a2), some (.int v1), some (.int a4), some (.int a5), some (.int a6), some (.int a7), none], [], qp_mk I1 J1)) (by with_unfolding_all rfl) (fun h3 => ?_) (fun h3 => ?_)
      · replace h := qp_ift h3 h
        refine qp_run_E qp_ok53 3 (c' := (20, [some (.ref 14), some (.int a1), some (.int a2), some (.int v1), some (.int (a4 + 1)), some (.int a5), some (.int (a6 + 1)), some (.int a7), none], [], qp_mk I1 J1)) (by with_unfolding_all rfl) hd1 trivial ?_
        exact qp_E_fg [true, true, true, true, true, true, true, false, false] (hk20 a1 a2 v1 (a4 + 1) a5 (a6 + 1) I1 J1 h)
      · replace h := qp_iff h3 h
        obtain ⟨h4, h⟩ := qp_gd_s h
        refine qp_run_E qp_ok53 8 (f := vp_in a4 12 ∧ True) (c' := (20, [some (.ref 14), some (.int a1), some (.int a2), some (.int v1), some (.int (a4 + 1)), some (.int a5), some (.int (a6 + 1)), some (.int a7), none], [], qp_mk (qp_up I1 23 (Int32.toNatClampNeg a4) a7) J1)) (by with_unfolding_all rfl) hd1 ⟨(qp_vin (c := 12) (by decide) h4.1 h4.2), trivial⟩ ?_
        exact qp_E_fg [true, true, true, true, true, true, true, false, false] (hk20 a1 a2 v1 (a4 + 1) a5 (a6 + 1) (qp_up I1 23 (Int32.toNatClampNeg a4) a7) J1 h)
def fL_without_b77  (k20 : Int32 → Int32 → Int32 → Int32 → Int32 → Int32 → (Nat → Nat → Int32) → (Nat → Nat → Int64) → Option (Int32 × (Nat → Nat → Int32) × (Nat → Nat → Int64))) (a1 : Int32) (a2 : Int32) (a3 : Int32) (a4 : Int32) (a5 : Int32) (a6 : Int32) (a7 : Int32) (s0 : Int32) (I : Nat → Nat → Int32) (J : Nat → Nat → Int64) : Option (Int32 × (Nat → Nat → Int32) × (Nat → Nat → Int64)) :=
  if a6 ≤ a1 then (
    fL_without_b96 k20 a1 a2 a3 a4 a5 a6 a7 I J
  ) else (
    if s0 = 0 then (
      fL_without_b96 k20 a1 a2 a3 a4 a5 a6 a7 I J
    ) else (
      k20 a1 a2 a3 a4 (a5 + 1) (a6 + 1) I J
    )
  )
set_option maxRecDepth 8000 in
theorem gL_without_b77 {l : Launch} {G : qp_G} {d : Nat} (hd : 4 ≤ d) {r : (Int32 × (Nat → Nat → Int32) × (Nat → Nat → Int64))} {I0 : Nat → Nat → Int32} {J0 : Nat → Nat → Int64}  (k20 : Int32 → Int32 → Int32 → Int32 → Int32 → Int32 → (Nat → Nat → Int32) → (Nat → Nat → Int64) → Option (Int32 × (Nat → Nat → Int32) × (Nat → Nat → Int64))) (hk20 : ∀ a1 a2 a3 a4 a5 a6 I J, k20 a1 a2 a3 a4 a5 a6 I J = some r → qp_E l G d 53 (qp_mk I0 J0) 0 0 (qp_R8 (some (.int r.1)) r.2.1 r.2.2) (20, [some (.ref 14), some (.int a1), some (.int a2), some (.int a3), some (.int a4), some (.int a5), some (.int a6), none, none], [], qp_mk I J)) : ∀ (a1 : Int32) (a2 : Int32) (a3 : Int32) (a4 : Int32) (a5 : Int32) (a6 : Int32) (a7 : Int32) (s0 : Int32) (I : Nat → Nat → Int32) (J : Nat → Nat → Int64), fL_without_b77 k20 a1 a2 a3 a4 a5 a6 a7 s0 I J = some r → qp_E l G d 53 (qp_mk I0 J0) 0 0 (qp_R8 (some (.int r.1)) r.2.1 r.2.2) (77, [some (.ref 14), some (.int a1), some (.int a2), some (.int a3), some (.int a4), some (.int a5), some (.int a6), some (.int a7), none], [.int s0], qp_mk I J) := by
  have hd1 : Nat.ble 1 d = true := Nat.ble_eq_true_of_le (Nat.le_trans (by decide) hd)
  intro a1 a2 a3 a4 a5 a6 a7 s0 I J h
  unfold fL_without_b77 at h
  refine qp_run_E qp_ok53 3 (c' := (82, [some (.ref 14), some (.int a1), some (.int a2), some (.int a3), some (.int a4), some (.int a5), some (.int a6), some (.int a7), some (.int s0)], [.int a1, .int a6], qp_mk I J)) (by with_unfolding_all rfl) hd1 trivial ?_
  refine qp_br_E qp_ok53 (f := a6 ≤ a1) (ct := (96, [some (.ref 14), some (.int a1), some (.int a2), some (.int a3), some (.int a4), some (.int a5), some (.int a6), some (.int a7), some (.int s0)], [], qp_mk I J)) (cf := (85, [some (.ref 14), some (.int a1), some (.int a2), some (.int a3), some (.int a4), some (.int a5), some (.int a6), some (.int a7), some (.int s0)], [], qp_mk I J)) (by with_unfolding_all rfl) (fun h1 => ?_) (fun h1 => ?_)
  · replace h := qp_ift h1 h
    exact qp_E_fg [true, true, true, true, true, true, true, true, false] (gL_without_b96 hd k20 hk20 a1 a2 a3 a4 a5 a6 a7 I J h)
  · replace h := qp_iff h1 h
    refine qp_run_E qp_ok53 1 (c' := (87, [some (.ref 14), some (.int a1), some (.int a2), some (.int a3), some (.int a4), some (.int a5), some (.int a6), some (.int a7), some (.int s0)], [.int s0], qp_mk I J)) (by with_unfolding_all rfl) hd1 trivial ?_
    refine qp_br_E qp_ok53 (f := s0 = 0) (ct := (96, [some (.ref 14), some (.int a1), some (.int a2), some (.int a3), some (.int a4), some (.int a5), some (.int a6), some (.int a7), some (.int s0)], [], qp_mk I J)) (cf := (90, [some (.ref 14), some (.int a1), some (.int a2), some (.int a3), some (.int a4), some (.int a5), some (.int a6), some (.int a7), some (.int s0)], [], qp_mk I J)) (by with_unfolding_all rfl) (fun h2 => ?_) (fun h2 => ?_)
    · replace h := qp_ift h2 h
      exact qp_E_fg [true, true, true, true, true, true, true, true, false] (gL_without_b96 hd k20 hk20 a1 a2 a3 a4 a5 a6 a7 I J h)
    · replace h := qp_iff h2 h
      refine qp_run_E qp_ok53 4 (c' := (20, [some (.ref 14), some (.int a1), some (.int a2), some (.int a3), some (.int a4), some (.int (a5 + 1)), some (.int (a6 + 1)), some (.int a7), some (.int s0)], [], qp_mk I J)) (by with_unfolding_all rfl) hd1 trivial ?_
      exact qp_E_fg [true, true, true, true, true, true, true, false, false] (hk20 a1 a2 a3 a4 (a5 + 1) (a6 + 1) I J h)
def fL_without_b20  : Nat → Int32 → Int32 → Int32 → Int32 → Int32 → Int32 → (Nat → Nat → Int32) → (Nat → Nat → Int64) → Option (Int32 × (Nat → Nat → Int32) × (Nat → Nat → Int64))
  | 0, _, _, _, _, _, _, _, _ => none
  | n + 1, a1, a2, a3, a4, a5, a6, I, J =>
    if (I 14 4) ≤ a6 then (
      if a2 = 0 then (
        some (a5, I, J)
      ) else (
        some (a5, (qp_up (qp_up I 14 2 a3) 14 4 a4), J)
      )
    ) else (
      if 12 ≤ a6 then (
        if a2 = 0 then (
          some (a5, I, J)
        ) else (
          some (a5, (qp_up (qp_up I 14 2 a3) 14 4 a4), J)
        )
      ) else (
        qp_gd ((0 ≤ a6 ∧ a6 < 12)) <|
        qp_bd (fD_placeOf a3 (I 15 0) ((I 23 (Int32.toNatClampNeg a6)) / 8) I J) fun v1 I1 J1 =>
        if ¬ v1 = ((I 23 (Int32.toNatClampNeg a6)) - (I 23 (Int32.toNatClampNeg a6)) / 8 * 8) then (
          fL_without_b77 (fun a0 a1 a2 a3 a4 a5 I J => fL_without_b20 n a0 a1 a2 a3 a4 a5 I J) a1 a2 a3 a4 a5 a6 (I 23 (Int32.toNatClampNeg a6)) 0 I1 J1
        ) else (
          fL_without_b77 (fun a0 a1 a2 a3 a4 a5 I J => fL_without_b20 n a0 a1 a2 a3 a4 a5 I J) a1 a2 a3 a4 a5 a6 (I 23 (Int32.toNatClampNeg a6)) 1 I1 J1
        )
      )
    )
set_option maxRecDepth 8000 in
theorem gL_without_b20 {l : Launch} {G : qp_G} {d : Nat} (hd : 4 ≤ d) {r : (Int32 × (Nat → Nat → Int32) × (Nat → Nat → Int64))} {I0 : Nat → Nat → Int32} {J0 : Nat → Nat → Int64}   : ∀ (n : Nat) (a1 : Int32) (a2 : Int32) (a3 : Int32) (a4 : Int32) (a5 : Int32) (a6 : Int32) (I : Nat → Nat → Int32) (J : Nat → Nat → Int64), fL_without_b20  n a1 a2 a3 a4 a5 a6 I J = some r → qp_E l G d 53 (qp_mk I0 J0) 0 0 (qp_R8 (some (.int r.1)) r.2.1 r.2.2) (20, [some (.ref 14), some (.int a1), some (.int a2), some (.int a3), some (.int a4), some (.int a5), some (.int a6), none, none], [], qp_mk I J) := by
  have hd1 : Nat.ble 1 d = true := Nat.ble_eq_true_of_le (Nat.le_trans (by decide) hd)
  intro n
  induction n with
  | zero => intro a1 a2 a3 a4 a5 a6 I J h; exact absurd h (by simp [fL_without_b20])
  | succ n ih =>
    intro a1 a2 a3 a4 a5 a6 I J h
    rw [fL_without_b20] at h
    refine qp_run_E qp_ok53 3 (c' := (26, [some (.ref 14), some (.int a1), some (.int a2), some (.int a3), some (.int a4), some (.int a5), some (.int a6), none, none], [.int (I 14 4), .int a6], qp_mk I J)) (by with_unfolding_all rfl) hd1 trivial ?_
    refine qp_br_E qp_ok53 (f := (I 14 4) ≤ a6) (ct := (148, [some (.ref 14), some (.int a1), some (.int a2), some (.int a3), some (.int a4), some (.int a5), some (.int a6), none, none], [], qp_mk I J)) (cf := (29, [some (.ref 14), some (.int a1), some (.int a2), some (.int a3), some (.int a4), some (.int a5), some (.int a6), none, none], [], qp_mk I J)) (by with_unfolding_all rfl) (fun h1 => ?_) (fun h1 => ?_)
    · replace h := qp_ift h1 h
      refine qp_run_E qp_ok53 1 (c' := (149, [some (.ref 14), some (.int a1), some (.int a2), some (.int a3), some (.int a4), some (.int a5), some (.int a6), none, none], [.int a2], qp_mk I J)) (by with_unfolding_all rfl) hd1 trivial ?_
      refine qp_br_E qp_ok53 (f := a2 = 0) (ct := (163, [some (.ref 14), some (.int a1), some (.int a2), some (.int a3), some (.int a4), some (.int a5), some (.int a6), none, none], [], qp_mk I J)) (cf := (152, [some (.ref 14), some (.int a1), some (.int a2), some (.int a3), some (.int a4), some (.int a5), some (.int a6), none, none], [], qp_mk I J)) (by with_unfolding_all rfl) (fun h2 => ?_) (fun h2 => ?_)
      · replace h := qp_ift h2 h
        refine qp_run_E qp_ok53 1 (c' := (165, [some (.ref 14), some (.int a1), some (.int a2), some (.int a3), some (.int a4), some (.int a5), some (.int a6), none, none], [.int a5], qp_mk I J)) (by with_unfolding_all rfl) hd1 trivial ?_
        obtain rfl := Option.some.inj h
        exact qp_retI_E qp_ok53 rfl qp_r53.1 ⟨rfl, rfl⟩ ⟨rfl, rfl⟩
      · replace h := qp_iff h2 h
        refine qp_run_E qp_ok53 7 (c' := (165, [some (.ref 14), some (.int a1), some (.int a2), some (.int a3), some (.int a4), some (.int a5), some (.int a6), none, none], [.int a5], qp_mk (qp_up (qp_up I 14 2 a3) 14 4 a4) J)) (by with_unfolding_all rfl) hd1 trivial ?_
        obtain rfl := Option.some.inj h
        exact qp_retI_E qp_ok53 rfl qp_r53.1 ⟨rfl, rfl⟩ ⟨rfl, rfl⟩
    · replace h := qp_iff h1 h
      refine qp_run_E qp_ok53 4 (c' := (36, [some (.ref 14), some (.int a1), some (.int a2), some (.int a3), some (.int a4), some (.int a5), some (.int a6), none, none], [.int 12, .int a6], qp_mk I J)) (by with_unfolding_all rfl) hd1 trivial ?_
      refine qp_br_E qp_ok53 (f := 12 ≤ a6) (ct := (148, [some (.ref 14), some (.int a1), some (.int a2), some (.int a3), some (.int a4), some (.int a5), some (.int a6), none, none], [], qp_mk I J)) (cf := (39, [some (.ref 14), some (.int a1), some (.int a2), some (.int a3), some (.int a4), some (.int a5), some (.int a6), none, none], [], qp_mk I J)) (by with_unfolding_all rfl) (fun h3 => ?_) (fun h3 => ?_)
      · replace h := qp_ift h3 h
        refine qp_run_E qp_ok53 1 (c' := (149, [some (.ref 14), some (.int a1), some (.int a2), some (.int a3), some (.int a4), some (.int a5), some (.int a6), none, none], [.int a2], qp_mk I J)) (by with_unfolding_all rfl) hd1 trivial ?_
        refine qp_br_E qp_ok53 (f := a2 = 0) (ct := (163, [some (.ref 14), some (.int a1), some (.int a2), some (.int a3), some (.int a4), some (.int a5), some (.int a6), none, none], [], qp_mk I J)) (cf := (152, [some (.ref 14), some (.int a1), some (.int a2), some (.int a3), some (.int a4), some (.int a5), some (.int a6), none, none], [], qp_mk I J)) (by with_unfolding_all rfl) (fun h4 => ?_) (fun h4 => ?_)
        · replace h := qp_ift h4 h
          refine qp_run_E qp_ok53 1 (c' := (165, [some (.ref 14), some (.int a1), some (.int a2), some (.int a3), some (.int a4), some (.int a5), some (.int a6), none, none], [.int a5], qp_mk I J)) (by with_unfolding_all rfl) hd1 trivial ?_
          obtain rfl := Option.some.inj h
          exact qp_retI_E qp_ok53 rfl qp_r53.1 ⟨rfl, rfl⟩ ⟨rfl, rfl⟩
        · replace h := qp_iff h4 h
          refine qp_run_E qp_ok53 7 (c' := (165, [some (.ref 14), some (.int a1), some (.int a2), some (.int a3), some (.int a4), some (.int a5), some (.int a6), none, none], [.int a5], qp_mk (qp_up (qp_up I 14 2 a3) 14 4 a4) J)) (by with_unfolding_all rfl) hd1 trivial ?_
          obtain rfl := Option.some.inj h
          exact qp_retI_E qp_ok53 rfl qp_r53.1 ⟨rfl, rfl⟩ ⟨rfl, rfl⟩
      · replace h := qp_iff h3 h
        obtain ⟨h5, h⟩ := qp_gd_s h
        refine qp_run_E qp_ok53 12 (f := vp_in a6 12 ∧ ¬ (8 : Int32) = 0 ∧ True) (c' := (61, [some (.ref 14), some (.int a1), some (.int a2), some (.int a3), some (.int a4), some (.int a5), some (.int a6), some (.int (I 23 (Int32.toNatClampNeg a6))), none], [.int ((I 23 (Int32.toNatClampNeg a6)) / 8), .int (I 15 0), .int a3], qp_mk I J)) (by with_unfolding_all rfl) hd1 ⟨(qp_vin (c := 12) (by decide) h5.1 h5.2), (by decide), trivial⟩ ?_
        obtain ⟨v1, I1, J1, e1, h⟩ := qp_bd_s h
        refine qp_cS qp_ok53 (rest := []) (oj := 10) qp_f46 rfl rfl (gD_placeOf l G a3 (I 15 0) ((I 23 (Int32.toNatClampNeg a6)) / 8) I J e1 (Nat.le_refl 2)) rfl rfl rfl (Nat.le_trans (by decide) hd) ?_
        refine qp_run_E qp_ok53 3 (f := ¬ (8 : Int32) = 0 ∧ True) (c' := (69, [some (.ref 14), some (.int a1), some (.int a2), some (.int a3), some (.int a4), some (.int a5), some (.int a6), some (.int (I 23 (Int32.toNatClampNeg a6))), none], [.int ((I 23 (Int32.toNatClampNeg a6)) - (I 23 (Int32.toNatClampNeg a6)) / 8 * 8), .int v1], qp_mk I1 J1)) (by with_unfolding_all rfl) hd1 ⟨(by decide), trivial⟩ ?_
        refine qp_br_E qp_ok53 (f := ¬ v1 = ((I 23 (Int32.toNatClampNeg a6)) - (I 23 (Int32.toNatClampNeg a6)) / 8 * 8)) (ct := (76, [some (.ref 14), some (.int a1), some (.int a2), some (.int a3), some (.int a4), some (.int a5), some (.int a6), some (.int (I 23 (Int32.toNatClampNeg a6))), none], [], qp_mk I1 J1)) (cf := (72, [some (.ref 14), some (.int a1), some (.int a2), some (.int a3), some (.int a4), some (.int a5), some (.int a6), some (.int (I 23 (Int32.toNatClampNeg a6))), none], [], qp_mk I1 J1)) (by with_unfolding_all rfl) (fun h6 => ?_) (fun h6 => ?_)
        · replace h := qp_ift h6 h
          refine qp_run_E qp_ok53 1 (c' := (77, [some (.ref 14), some (.int a1), some (.int a2), some (.int a3), some (.int a4), some (.int a5), some (.int a6), some (.int (I 23 (Int32.toNatClampNeg a6))), none], [.int 0], qp_mk I1 J1)) (by with_unfolding_all rfl) hd1 trivial ?_
          exact gL_without_b77 hd (fun a0 a1 a2 a3 a4 a5 I J => fL_without_b20 n a0 a1 a2 a3 a4 a5 I J) (fun a0 a1 a2 a3 a4 a5 I J h => ih a0 a1 a2 a3 a4 a5 I J h) a1 a2 a3 a4 a5 a6 (I 23 (Int32.toNatClampNeg a6)) 0 I1 J1 h
        · replace h := qp_iff h6 h
          refine qp_run_E qp_ok53 2 (c' := (77, [some (.ref 14), some (.int a1), some (.int a2), some (.int a3), some (.int a4), some (.int a5), some (.int a6), some (.int (I 23 (Int32.toNatClampNeg a6))), none], [.int 1], qp_mk I1 J1)) (by with_unfolding_all rfl) hd1 trivial ?_
          exact gL_without_b77 hd (fun a0 a1 a2 a3 a4 a5 I J => fL_without_b20 n a0 a1 a2 a3 a4 a5 I J) (fun a0 a1 a2 a3 a4 a5 I J h => ih a0 a1 a2 a3 a4 a5 I J h) a1 a2 a3 a4 a5 a6 (I 23 (Int32.toNatClampNeg a6)) 1 I1 J1 h
def fL_without (p1 : Int32) (p2 : Int32) (I : Nat → Nat → Int32) (J : Nat → Nat → Int64) : Option (Int32 × (Nat → Nat → Int32) × (Nat → Nat → Int64)) :=
  qp_bd (fD_first (I 15 0) I J) fun v1 I1 J1 =>
  fL_without_b20 100000 p1 p2 v1 0 0 0 I1 J1
set_option maxRecDepth 8000 in
theorem gL_without (l : Launch) (G : qp_G) (p1 : Int32) (p2 : Int32) (I : Nat → Nat → Int32) (J : Nat → Nat → Int64) {v : Int32} {I' : Nat → Nat → Int32} {J' : Nat → Nat → Int64} (h : fL_without p1 p2 I J = some (v, I', J')) {d : Nat} (hd : 4 ≤ d) : qp_Met l G d 53 [.ref 14, .int p1, .int p2] (qp_mk I J) 0 0 (qp_R8 (some (.int v)) I' J') := by
  have hd1 : Nat.ble 1 d = true := Nat.ble_eq_true_of_le (Nat.le_trans (by decide) hd)
  refine qp_Met_of (by decide) (by rw [qp_r53.2]; rfl) [some (.ref 14), some (.int p1), some (.int p2), none, none, none, none, none, none] (by rw [qp_r53.2]; rfl) ?_
  unfold fL_without at h
  refine qp_run_E qp_ok53 3 (c' := (7, [some (.ref 14), some (.int p1), some (.int p2), none, none, none, none, none, none], [.int (I 15 0)], qp_mk I J)) (by with_unfolding_all rfl) hd1 trivial ?_
  obtain ⟨v1, I1, J1, e1, h⟩ := qp_bd_s h
  refine qp_cS qp_ok53 (rest := []) (oj := 10) qp_f39 rfl rfl (gD_first l G (I 15 0) I J e1 (Nat.le_refl 2)) rfl rfl rfl (Nat.le_trans (by decide) hd) ?_
  refine qp_run_E qp_ok53 7 (c' := (20, [some (.ref 14), some (.int p1), some (.int p2), some (.int v1), some (.int 0), some (.int 0), some (.int 0), none, none], [], qp_mk I1 J1)) (by with_unfolding_all rfl) hd1 trivial ?_
  exact gL_without_b20 hd 100000 p1 p2 v1 0 0 0 I1 J1 h
def fL_act_b54   (a1 : Int32) (a2 : Int32) (I : Nat → Nat → Int32) (J : Nat → Nat → Int64) : Option (Unit × (Nat → Nat → Int32) × (Nat → Nat → Int64)) :=
  if (I 14 5) < 0 then (
    some ((), I, J)
  ) else (
    if 40 ≤ (I 14 5) then (
      some ((), I, J)
    ) else (
      qp_gd ((0 ≤ (I 14 5) ∧ (I 14 5) < 40)) <|
      some ((), (qp_up (qp_up I 24 (Int32.toNatClampNeg (I 14 5)) (((64 : Int32) * a1) + a2)) 14 5 ((I 14 5) + 1)), J)
    )
  )
set_option maxRecDepth 8000 in
theorem gL_act_b54 {l : Launch} {G : qp_G} {d : Nat} (hd : 5 ≤ d) {r : (Unit × (Nat → Nat → Int32) × (Nat → Nat → Int64))} {I0 : Nat → Nat → Int32} {J0 : Nat → Nat → Int64}   : ∀ (a1 : Int32) (a2 : Int32) (I : Nat → Nat → Int32) (J : Nat → Nat → Int64), fL_act_b54  a1 a2 I J = some r → qp_E l G d 48 (qp_mk I0 J0) 0 0 (qp_R8 none r.2.1 r.2.2) (54, [some (.ref 14), some (.int a1), some (.int a2)], [], qp_mk I J) := by
  have hd1 : Nat.ble 1 d = true := Nat.ble_eq_true_of_le (Nat.le_trans (by decide) hd)
  intro a1 a2 I J h
  unfold fL_act_b54 at h
  refine qp_run_E qp_ok48 2 (c' := (58, [some (.ref 14), some (.int a1), some (.int a2)], [.int (I 14 5)], qp_mk I J)) (by with_unfolding_all rfl) hd1 trivial ?_
  refine qp_br_E qp_ok48 (f := (I 14 5) < 0) (ct := (98, [some (.ref 14), some (.int a1), some (.int a2)], [], qp_mk I J)) (cf := (61, [some (.ref 14), some (.int a1), some (.int a2)], [], qp_mk I J)) (by with_unfolding_all rfl) (fun h1 => ?_) (fun h1 => ?_)
  · replace h := qp_ift h1 h
    obtain rfl := Option.some.inj h
    exact qp_retV_E qp_ok48 rfl qp_r48.1 ⟨rfl, rfl⟩ ⟨rfl, rfl⟩
  · replace h := qp_iff h1 h
    refine qp_run_E qp_ok48 5 (c' := (70, [some (.ref 14), some (.int a1), some (.int a2)], [.int 40, .int (I 14 5)], qp_mk I J)) (by with_unfolding_all rfl) hd1 trivial ?_
    refine qp_br_E qp_ok48 (f := 40 ≤ (I 14 5)) (ct := (98, [some (.ref 14), some (.int a1), some (.int a2)], [], qp_mk I J)) (cf := (73, [some (.ref 14), some (.int a1), some (.int a2)], [], qp_mk I J)) (by with_unfolding_all rfl) (fun h2 => ?_) (fun h2 => ?_)
    · replace h := qp_ift h2 h
      obtain rfl := Option.some.inj h
      exact qp_retV_E qp_ok48 rfl qp_r48.1 ⟨rfl, rfl⟩ ⟨rfl, rfl⟩
    · replace h := qp_iff h2 h
      obtain ⟨h3, h⟩ := qp_gd_s h
      refine qp_run_E qp_ok48 16 (f := vp_in (I 14 5) 40 ∧ True) (c' := (98, [some (.ref 14), some (.int a1), some (.int a2)], [], qp_mk (qp_up (qp_up I 24 (Int32.toNatClampNeg (I 14 5)) (((64 : Int32) * a1) + a2)) 14 5 ((I 14 5) + 1)) J)) (by with_unfolding_all rfl) hd1 ⟨(qp_vin (c := 40) (by decide) h3.1 h3.2), trivial⟩ ?_
      obtain rfl := Option.some.inj h
      exact qp_retV_E qp_ok48 rfl qp_r48.1 ⟨rfl, rfl⟩ ⟨rfl, rfl⟩
def fL_act (p1 : Int32) (p2 : Int32) (I : Nat → Nat → Int32) (J : Nat → Nat → Int64) : Option (Unit × (Nat → Nat → Int32) × (Nat → Nat → Int64)) :=
  if p1 = 1 then (
    qp_bd (fL_sell p2 I J) fun _u I1 J1 =>
    fL_act_b54 p1 p2 I1 J1
  ) else
  if p1 = 2 then (
    qp_bd (fL_without p2 1 I J) fun v2 I2 J2 =>
    fL_act_b54 p1 p2 I2 J2
  ) else
  if p1 = 3 then (
    fL_act_b54 p1 p2 (qp_up I 14 3 p2) J
  ) else
  fL_act_b54 p1 p2 I J
set_option maxRecDepth 8000 in
theorem gL_act (l : Launch) (G : qp_G) (p1 : Int32) (p2 : Int32) (I : Nat → Nat → Int32) (J : Nat → Nat → Int64) {v : Unit} {I' : Nat → Nat → Int32} {J' : Nat → Nat → Int64} (h : fL_act p1 p2 I J = some (v, I', J')) {d : Nat} (hd : 5 ≤ d) : qp_Met l G d 48 [.ref 14, .int p1, .int p2] (qp_mk I J) 0 0 (qp_R8 none I' J') := by
  have hd1 : Nat.ble 1 d = true := Nat.ble_eq_true_of_le (Nat.le_trans (by decide) hd)
  refine qp_Met_of (by decide) (by rw [qp_r48.2]; rfl) [some (.ref 14), some (.int p1), some (.int p2)] (by rw [qp_r48.2]; rfl) ?_
  unfold fL_act at h
  refine qp_run_E qp_ok48 1 (c' := (1, [some (.ref 14), some (.int p1), some (.int p2)], [.int p1], qp_mk I J)) (by with_unfolding_all rfl) hd1 trivial ?_
  by_cases h1 : p1 = 1
  · replace h := qp_ift h1 h
    refine qp_run_E qp_ok48 1 (c' := (qp_swt 53 1 3 #[27, 35, 45] 1 p1, [some (.ref 14), some (.int p1), some (.int p2)], [], qp_mk I J)) (by with_unfolding_all rfl) hd1 trivial ?_
    refine qp_E_pc (pc' := 28) (by rw [h1]; rfl) ?_
    refine qp_run_E qp_ok48 2 (c' := (30, [some (.ref 14), some (.int p1), some (.int p2)], [.int p2, .ref 14], qp_mk I J)) (by with_unfolding_all rfl) hd1 trivial ?_
    obtain ⟨v1, I1, J1, e1, h⟩ := qp_bd_s h
    refine qp_cV qp_ok48 (rest := []) (oj := 4) qp_f49 rfl rfl (gL_sell l G p2 I J e1 (Nat.le_refl 4)) rfl rfl rfl rfl (Nat.le_trans (by decide) hd) ?_
    refine qp_run_E qp_ok48 1 (c' := (54, [some (.ref 14), some (.int p1), some (.int p2)], [], qp_mk I1 J1)) (by with_unfolding_all rfl) hd1 trivial ?_
    exact gL_act_b54 hd p1 p2 I1 J1 h
  replace h := qp_iff h1 h
  by_cases h2 : p1 = 2
  · replace h := qp_ift h2 h
    refine qp_run_E qp_ok48 1 (c' := (qp_swt 53 1 3 #[27, 35, 45] 1 p1, [some (.ref 14), some (.int p1), some (.int p2)], [], qp_mk I J)) (by with_unfolding_all rfl) hd1 trivial ?_
    refine qp_E_pc (pc' := 36) (by rw [h2]; rfl) ?_
    refine qp_run_E qp_ok48 3 (c' := (39, [some (.ref 14), some (.int p1), some (.int p2)], [.int 1, .int p2, .ref 14], qp_mk I J)) (by with_unfolding_all rfl) hd1 trivial ?_
    obtain ⟨v2, I2, J2, e2, h⟩ := qp_bd_s h
    refine qp_cV qp_ok48 (rest := []) (oj := 4) qp_f53 rfl rfl (gL_without l G p2 1 I J e2 (Nat.le_refl 4)) rfl rfl rfl rfl (Nat.le_trans (by decide) hd) ?_
    refine qp_run_E qp_ok48 2 (c' := (54, [some (.ref 14), some (.int p1), some (.int p2)], [], qp_mk I2 J2)) (by with_unfolding_all rfl) hd1 trivial ?_
    exact gL_act_b54 hd p1 p2 I2 J2 h
  replace h := qp_iff h2 h
  by_cases h3 : p1 = 3
  · replace h := qp_ift h3 h
    refine qp_run_E qp_ok48 1 (c' := (qp_swt 53 1 3 #[27, 35, 45] 1 p1, [some (.ref 14), some (.int p1), some (.int p2)], [], qp_mk I J)) (by with_unfolding_all rfl) hd1 trivial ?_
    refine qp_E_pc (pc' := 46) (by rw [h3]; rfl) ?_
    refine qp_run_E qp_ok48 4 (c' := (54, [some (.ref 14), some (.int p1), some (.int p2)], [], qp_mk (qp_up I 14 3 p2) J)) (by with_unfolding_all rfl) hd1 trivial ?_
    exact gL_act_b54 hd p1 p2 (qp_up I 14 3 p2) J h
  replace h := qp_iff h3 h
  refine qp_run_E qp_ok48 1 (c' := (qp_swt 53 1 3 #[27, 35, 45] 1 p1, [some (.ref 14), some (.int p1), some (.int p2)], [], qp_mk I J)) (by with_unfolding_all rfl) hd1 trivial ?_
  refine qp_E_pc (pc' := 54) (qp_swt_df (lo' := 1) (hi' := 3) (by decide) (by decide) (by clear h; grind)) ?_
  exact gL_act_b54 hd p1 p2 I J h
def fX_ticket (p1 : Int32) (p2 : Int32) (I : Nat → Nat → Int32) (J : Nat → Nat → Int64) : Option (Int32 × (Nat → Nat → Int32) × (Nat → Nat → Int64)) :=
  qp_bd (fC_has_15 p1 I J) fun v1 I1 J1 =>
  if v1 = 0 then (
    some ((-1), I1, J1)
  ) else (
    qp_bd (fC_has_15 p2 I1 J1) fun v2 I2 J2 =>
    if ¬ v2 = 0 then (
      qp_bd (fL_canSell (((8 : Int32) * p1) + p2) I2 J2) fun v3 I3 J3 =>
      if ¬ v3 = 0 then (
        if (I3 14 5) < 40 then (
          qp_bd (fL_act 1 (((8 : Int32) * p1) + p2) I3 J3) fun _u I4 J4 =>
          some ((I2 14 4), I4, J4)
        ) else (
          some ((-2), I3, J3)
        )
      ) else (
        some ((-4), I3, J3)
      )
    ) else (
      some ((-1), I2, J2)
    )
  )
set_option maxRecDepth 8000 in
theorem gX_ticket (l : Launch) (G : qp_G) (p1 : Int32) (p2 : Int32) (I : Nat → Nat → Int32) (J : Nat → Nat → Int64) {v : Int32} {I' : Nat → Nat → Int32} {J' : Nat → Nat → Int64} (h : fX_ticket p1 p2 I J = some (v, I', J')) {d : Nat} (hd : 6 ≤ d) : qp_Met l G d 42 [.ref 0, .int p1, .int p2] (qp_mk I J) 0 0 (qp_R8 (some (.int v)) I' J') := by
  have hd1 : Nat.ble 1 d = true := Nat.ble_eq_true_of_le (Nat.le_trans (by decide) hd)
  refine qp_Met_of (by decide) (by rw [qp_r42.2]; rfl) [some (.ref 0), some (.int p1), some (.int p2), none] (by rw [qp_r42.2]; rfl) ?_
  unfold fX_ticket at h
  refine qp_run_E qp_ok42 4 (c' := (8, [some (.ref 0), some (.int p1), some (.int p2), none], [.int p1, .ref 15], qp_mk I J)) (by with_unfolding_all rfl) hd1 trivial ?_
  obtain ⟨v1, I1, J1, e1, h⟩ := qp_bd_s h
  refine qp_cV qp_ok42 (rest := []) (oj := 3) qp_f43 rfl rfl (gC_has_15 l G p1 I J e1 (Nat.le_refl 1)) rfl rfl rfl rfl (Nat.le_trans (by decide) hd) ?_
  refine qp_br_E qp_ok42 (f := v1 = 0) (ct := (28, [some (.ref 0), some (.int p1), some (.int p2), none], [], qp_mk I1 J1)) (cf := (14, [some (.ref 0), some (.int p1), some (.int p2), none], [], qp_mk I1 J1)) (by with_unfolding_all rfl) (fun h1 => ?_) (fun h1 => ?_)
  · replace h := qp_ift h1 h
    refine qp_run_E qp_ok42 1 (c' := (29, [some (.ref 0), some (.int p1), some (.int p2), none], [.int (-1)], qp_mk I1 J1)) (by with_unfolding_all rfl) hd1 trivial ?_
    obtain ⟨rfl, rfl, rfl⟩ := qp_some3 h
    exact qp_retI_E qp_ok42 rfl qp_r42.1 ⟨rfl, rfl⟩ ⟨rfl, rfl⟩
  · replace h := qp_iff h1 h
    refine qp_run_E qp_ok42 4 (c' := (22, [some (.ref 0), some (.int p1), some (.int p2), none], [.int p2, .ref 15], qp_mk I1 J1)) (by with_unfolding_all rfl) hd1 trivial ?_
    obtain ⟨v2, I2, J2, e2, h⟩ := qp_bd_s h
    refine qp_cV qp_ok42 (rest := []) (oj := 3) qp_f43 rfl rfl (gC_has_15 l G p2 I1 J1 e2 (Nat.le_refl 1)) rfl rfl rfl rfl (Nat.le_trans (by decide) hd) ?_
    refine qp_br_E qp_ok42 (f := ¬ v2 = 0) (ct := (30, [some (.ref 0), some (.int p1), some (.int p2), none], [], qp_mk I2 J2)) (cf := (28, [some (.ref 0), some (.int p1), some (.int p2), none], [], qp_mk I2 J2)) (by with_unfolding_all rfl) (fun h2 => ?_) (fun h2 => ?_)
    · replace h := qp_ift h2 h
      refine qp_run_E qp_ok42 11 (c' := (48, [some (.ref 0), some (.int p1), some (.int p2), some (.int (I2 14 4))], [.int (((8 : Int32) * p1) + p2), .ref 14], qp_mk I2 J2)) (by with_unfolding_all rfl) hd1 trivial ?_
      obtain ⟨v3, I3, J3, e3, h⟩ := qp_bd_s h
      refine qp_cV qp_ok42 (rest := []) (oj := 4) qp_f44 rfl rfl (gL_canSell l G (((8 : Int32) * p1) + p2) I2 J2 e3 (Nat.le_refl 4)) rfl rfl rfl rfl (Nat.le_trans (by decide) hd) ?_
      refine qp_br_E qp_ok42 (f := ¬ v3 = 0) (ct := (57, [some (.ref 0), some (.int p1), some (.int p2), some (.int (I2 14 4))], [], qp_mk I3 J3)) (cf := (54, [some (.ref 0), some (.int p1), some (.int p2), some (.int (I2 14 4))], [], qp_mk I3 J3)) (by with_unfolding_all rfl) (fun h3 => ?_) (fun h3 => ?_)
      · replace h := qp_ift h3 h
        refine qp_run_E qp_ok42 4 (c' := (66, [some (.ref 0), some (.int p1), some (.int p2), some (.int (I2 14 4))], [.int 40, .int (I3 14 5)], qp_mk I3 J3)) (by with_unfolding_all rfl) hd1 trivial ?_
        refine qp_br_E qp_ok42 (f := (I3 14 5) < 40) (ct := (72, [some (.ref 0), some (.int p1), some (.int p2), some (.int (I2 14 4))], [], qp_mk I3 J3)) (cf := (69, [some (.ref 0), some (.int p1), some (.int p2), some (.int (I2 14 4))], [], qp_mk I3 J3)) (by with_unfolding_all rfl) (fun h4 => ?_) (fun h4 => ?_)
        · replace h := qp_ift h4 h
          refine qp_run_E qp_ok42 8 (c' := (83, [some (.ref 0), some (.int p1), some (.int p2), some (.int (I2 14 4))], [.int (((8 : Int32) * p1) + p2), .int 1, .ref 14], qp_mk I3 J3)) (by with_unfolding_all rfl) hd1 trivial ?_
          obtain ⟨v4, I4, J4, e4, h⟩ := qp_bd_s h
          refine qp_cV qp_ok42 (rest := []) (oj := 4) qp_f48 rfl rfl (gL_act l G 1 (((8 : Int32) * p1) + p2) I3 J3 e4 (Nat.le_refl 5)) rfl rfl rfl rfl (Nat.le_trans (by decide) hd) ?_
          refine qp_run_E qp_ok42 1 (c' := (87, [some (.ref 0), some (.int p1), some (.int p2), some (.int (I2 14 4))], [.int (I2 14 4)], qp_mk I4 J4)) (by with_unfolding_all rfl) hd1 trivial ?_
          obtain ⟨rfl, rfl, rfl⟩ := qp_some3 h
          exact qp_retI_E qp_ok42 rfl qp_r42.1 ⟨rfl, rfl⟩ ⟨rfl, rfl⟩
        · replace h := qp_iff h4 h
          refine qp_run_E qp_ok42 1 (c' := (71, [some (.ref 0), some (.int p1), some (.int p2), some (.int (I2 14 4))], [.int (-2)], qp_mk I3 J3)) (by with_unfolding_all rfl) hd1 trivial ?_
          obtain ⟨rfl, rfl, rfl⟩ := qp_some3 h
          exact qp_retI_E qp_ok42 rfl qp_r42.1 ⟨rfl, rfl⟩ ⟨rfl, rfl⟩
      · replace h := qp_iff h3 h
        refine qp_run_E qp_ok42 1 (c' := (56, [some (.ref 0), some (.int p1), some (.int p2), some (.int (I2 14 4))], [.int (-4)], qp_mk I3 J3)) (by with_unfolding_all rfl) hd1 trivial ?_
        obtain ⟨rfl, rfl, rfl⟩ := qp_some3 h
        exact qp_retI_E qp_ok42 rfl qp_r42.1 ⟨rfl, rfl⟩ ⟨rfl, rfl⟩
    · replace h := qp_iff h2 h
      refine qp_run_E qp_ok42 1 (c' := (29, [some (.ref 0), some (.int p1), some (.int p2), none], [.int (-1)], qp_mk I2 J2)) (by with_unfolding_all rfl) hd1 trivial ?_
      obtain ⟨rfl, rfl, rfl⟩ := qp_some3 h
      exact qp_retI_E qp_ok42 rfl qp_r42.1 ⟨rfl, rfl⟩ ⟨rfl, rfl⟩
def fL_hasTicket (p1 : Int32) (I : Nat → Nat → Int32) (J : Nat → Nat → Int64) : Option (Int32 × (Nat → Nat → Int32) × (Nat → Nat → Int64)) :=
  if p1 < 0 then (
    some (0, I, J)
  ) else (
    if (I 14 4) ≤ p1 then (
      some (0, I, J)
    ) else (
      some (1, I, J)
    )
  )
set_option maxRecDepth 8000 in
theorem gL_hasTicket (l : Launch) (G : qp_G) (p1 : Int32) (I : Nat → Nat → Int32) (J : Nat → Nat → Int64) {v : Int32} {I' : Nat → Nat → Int32} {J' : Nat → Nat → Int64} (h : fL_hasTicket p1 I J = some (v, I', J')) {d : Nat} (hd : 1 ≤ d) : qp_Met l G d 55 [.ref 14, .int p1] (qp_mk I J) 0 0 (qp_R8 (some (.int v)) I' J') := by
  have hd1 : Nat.ble 1 d = true := Nat.ble_eq_true_of_le (Nat.le_trans (by decide) hd)
  refine qp_Met_of (by decide) (by rw [qp_r55.2]; rfl) [some (.ref 14), some (.int p1)] (by rw [qp_r55.2]; rfl) ?_
  unfold fL_hasTicket at h
  refine qp_run_E qp_ok55 1 (c' := (1, [some (.ref 14), some (.int p1)], [.int p1], qp_mk I J)) (by with_unfolding_all rfl) hd1 trivial ?_
  refine qp_br_E qp_ok55 (f := p1 < 0) (ct := (16, [some (.ref 14), some (.int p1)], [], qp_mk I J)) (cf := (4, [some (.ref 14), some (.int p1)], [], qp_mk I J)) (by with_unfolding_all rfl) (fun h1 => ?_) (fun h1 => ?_)
  · replace h := qp_ift h1 h
    refine qp_run_E qp_ok55 1 (c' := (17, [some (.ref 14), some (.int p1)], [.int 0], qp_mk I J)) (by with_unfolding_all rfl) hd1 trivial ?_
    obtain ⟨rfl, rfl, rfl⟩ := qp_some3 h
    exact qp_retZ_E qp_ok55 rfl qp_r55.1 rfl ⟨rfl, rfl⟩ ⟨rfl, rfl⟩
  · replace h := qp_iff h1 h
    refine qp_run_E qp_ok55 3 (c' := (9, [some (.ref 14), some (.int p1)], [.int (I 14 4), .int p1], qp_mk I J)) (by with_unfolding_all rfl) hd1 trivial ?_
    refine qp_br_E qp_ok55 (f := (I 14 4) ≤ p1) (ct := (16, [some (.ref 14), some (.int p1)], [], qp_mk I J)) (cf := (12, [some (.ref 14), some (.int p1)], [], qp_mk I J)) (by with_unfolding_all rfl) (fun h2 => ?_) (fun h2 => ?_)
    · replace h := qp_ift h2 h
      refine qp_run_E qp_ok55 1 (c' := (17, [some (.ref 14), some (.int p1)], [.int 0], qp_mk I J)) (by with_unfolding_all rfl) hd1 trivial ?_
      obtain ⟨rfl, rfl, rfl⟩ := qp_some3 h
      exact qp_retZ_E qp_ok55 rfl qp_r55.1 rfl ⟨rfl, rfl⟩ ⟨rfl, rfl⟩
    · replace h := qp_iff h2 h
      refine qp_run_E qp_ok55 2 (c' := (17, [some (.ref 14), some (.int p1)], [.int 1], qp_mk I J)) (by with_unfolding_all rfl) hd1 trivial ?_
      obtain ⟨rfl, rfl, rfl⟩ := qp_some3 h
      exact qp_retZ_E qp_ok55 rfl qp_r55.1 rfl ⟨rfl, rfl⟩ ⟨rfl, rfl⟩
def fX_back (p1 : Int32) (I : Nat → Nat → Int32) (J : Nat → Nat → Int64) : Option (Int32 × (Nat → Nat → Int32) × (Nat → Nat → Int64)) :=
  qp_bd (fL_hasTicket p1 I J) fun v1 I1 J1 =>
  if ¬ v1 = 0 then (
    if (I1 14 5) < 40 then (
      qp_bd (fL_without p1 0 I1 J1) fun v2 I2 J2 =>
      qp_bd (fL_act 2 p1 I2 J2) fun _u I3 J3 =>
      some (v2, I3, J3)
    ) else (
      some ((-2), I1, J1)
    )
  ) else (
    some ((-1), I1, J1)
  )
set_option maxRecDepth 8000 in
theorem gX_back (l : Launch) (G : qp_G) (p1 : Int32) (I : Nat → Nat → Int32) (J : Nat → Nat → Int64) {v : Int32} {I' : Nat → Nat → Int32} {J' : Nat → Nat → Int64} (h : fX_back p1 I J = some (v, I', J')) {d : Nat} (hd : 6 ≤ d) : qp_Met l G d 54 [.ref 0, .int p1] (qp_mk I J) 0 0 (qp_R8 (some (.int v)) I' J') := by
  have hd1 : Nat.ble 1 d = true := Nat.ble_eq_true_of_le (Nat.le_trans (by decide) hd)
  refine qp_Met_of (by decide) (by rw [qp_r54.2]; rfl) [some (.ref 0), some (.int p1), none] (by rw [qp_r54.2]; rfl) ?_
  unfold fX_back at h
  refine qp_run_E qp_ok54 3 (c' := (5, [some (.ref 0), some (.int p1), none], [.int p1, .ref 14], qp_mk I J)) (by with_unfolding_all rfl) hd1 trivial ?_
  obtain ⟨v1, I1, J1, e1, h⟩ := qp_bd_s h
  refine qp_cV qp_ok54 (rest := []) (oj := 4) qp_f55 rfl rfl (gL_hasTicket l G p1 I J e1 (Nat.le_refl 1)) rfl rfl rfl rfl (Nat.le_trans (by decide) hd) ?_
  refine qp_br_E qp_ok54 (f := ¬ v1 = 0) (ct := (13, [some (.ref 0), some (.int p1), none], [], qp_mk I1 J1)) (cf := (11, [some (.ref 0), some (.int p1), none], [], qp_mk I1 J1)) (by with_unfolding_all rfl) (fun h1 => ?_) (fun h1 => ?_)
  · replace h := qp_ift h1 h
    refine qp_run_E qp_ok54 4 (c' := (22, [some (.ref 0), some (.int p1), none], [.int 40, .int (I1 14 5)], qp_mk I1 J1)) (by with_unfolding_all rfl) hd1 trivial ?_
    refine qp_br_E qp_ok54 (f := (I1 14 5) < 40) (ct := (28, [some (.ref 0), some (.int p1), none], [], qp_mk I1 J1)) (cf := (25, [some (.ref 0), some (.int p1), none], [], qp_mk I1 J1)) (by with_unfolding_all rfl) (fun h2 => ?_) (fun h2 => ?_)
    · replace h := qp_ift h2 h
      refine qp_run_E qp_ok54 4 (c' := (34, [some (.ref 0), some (.int p1), none], [.int 0, .int p1, .ref 14], qp_mk I1 J1)) (by with_unfolding_all rfl) hd1 trivial ?_
      obtain ⟨v2, I2, J2, e2, h⟩ := qp_bd_s h
      refine qp_cV qp_ok54 (rest := []) (oj := 4) qp_f53 rfl rfl (gL_without l G p1 0 I1 J1 e2 (Nat.le_refl 4)) rfl rfl rfl rfl (Nat.le_trans (by decide) hd) ?_
      refine qp_run_E qp_ok54 5 (c' := (44, [some (.ref 0), some (.int p1), some (.int v2)], [.int p1, .int 2, .ref 14], qp_mk I2 J2)) (by with_unfolding_all rfl) hd1 trivial ?_
      obtain ⟨v3, I3, J3, e3, h⟩ := qp_bd_s h
      refine qp_cV qp_ok54 (rest := []) (oj := 4) qp_f48 rfl rfl (gL_act l G 2 p1 I2 J2 e3 (Nat.le_refl 5)) rfl rfl rfl rfl (Nat.le_trans (by decide) hd) ?_
      refine qp_run_E qp_ok54 1 (c' := (48, [some (.ref 0), some (.int p1), some (.int v2)], [.int v2], qp_mk I3 J3)) (by with_unfolding_all rfl) hd1 trivial ?_
      obtain ⟨rfl, rfl, rfl⟩ := qp_some3 h
      exact qp_retI_E qp_ok54 rfl qp_r54.1 ⟨rfl, rfl⟩ ⟨rfl, rfl⟩
    · replace h := qp_iff h2 h
      refine qp_run_E qp_ok54 1 (c' := (27, [some (.ref 0), some (.int p1), none], [.int (-2)], qp_mk I1 J1)) (by with_unfolding_all rfl) hd1 trivial ?_
      obtain ⟨rfl, rfl, rfl⟩ := qp_some3 h
      exact qp_retI_E qp_ok54 rfl qp_r54.1 ⟨rfl, rfl⟩ ⟨rfl, rfl⟩
  · replace h := qp_iff h1 h
    refine qp_run_E qp_ok54 1 (c' := (12, [some (.ref 0), some (.int p1), none], [.int (-1)], qp_mk I1 J1)) (by with_unfolding_all rfl) hd1 trivial ?_
    obtain ⟨rfl, rfl, rfl⟩ := qp_some3 h
    exact qp_retI_E qp_ok54 rfl qp_r54.1 ⟨rfl, rfl⟩ ⟨rfl, rfl⟩
def fX_loaves (p1 : Int32) (I : Nat → Nat → Int32) (J : Nat → Nat → Int64) : Option (Int32 × (Nat → Nat → Int32) × (Nat → Nat → Int64)) :=
  if p1 < 0 then (
    some ((-1), I, J)
  ) else (
    if p1 ≤ 20 then (
      if (I 15 0) = 0 then (
        some ((-4), I, J)
      ) else (
        if ¬ (I 14 3) = p1 then (
          if (I 14 5) < 40 then (
            qp_bd (fL_act 3 p1 I J) fun _u I1 J1 =>
            some ((I 14 3), I1, J1)
          ) else (
            some ((-2), I, J)
          )
        ) else (
          some ((-4), I, J)
        )
      )
    ) else (
      some ((-1), I, J)
    )
  )
set_option maxRecDepth 8000 in
theorem gX_loaves (l : Launch) (G : qp_G) (p1 : Int32) (I : Nat → Nat → Int32) (J : Nat → Nat → Int64) {v : Int32} {I' : Nat → Nat → Int32} {J' : Nat → Nat → Int64} (h : fX_loaves p1 I J = some (v, I', J')) {d : Nat} (hd : 6 ≤ d) : qp_Met l G d 56 [.ref 0, .int p1] (qp_mk I J) 0 0 (qp_R8 (some (.int v)) I' J') := by
  have hd1 : Nat.ble 1 d = true := Nat.ble_eq_true_of_le (Nat.le_trans (by decide) hd)
  refine qp_Met_of (by decide) (by rw [qp_r56.2]; rfl) [some (.ref 0), some (.int p1), none] (by rw [qp_r56.2]; rfl) ?_
  unfold fX_loaves at h
  refine qp_run_E qp_ok56 1 (c' := (1, [some (.ref 0), some (.int p1), none], [.int p1], qp_mk I J)) (by with_unfolding_all rfl) hd1 trivial ?_
  refine qp_br_E qp_ok56 (f := p1 < 0) (ct := (10, [some (.ref 0), some (.int p1), none], [], qp_mk I J)) (cf := (4, [some (.ref 0), some (.int p1), none], [], qp_mk I J)) (by with_unfolding_all rfl) (fun h1 => ?_) (fun h1 => ?_)
  · replace h := qp_ift h1 h
    refine qp_run_E qp_ok56 1 (c' := (11, [some (.ref 0), some (.int p1), none], [.int (-1)], qp_mk I J)) (by with_unfolding_all rfl) hd1 trivial ?_
    obtain ⟨rfl, rfl, rfl⟩ := qp_some3 h
    exact qp_retI_E qp_ok56 rfl qp_r56.1 ⟨rfl, rfl⟩ ⟨rfl, rfl⟩
  · replace h := qp_iff h1 h
    refine qp_run_E qp_ok56 2 (c' := (7, [some (.ref 0), some (.int p1), none], [.int 20, .int p1], qp_mk I J)) (by with_unfolding_all rfl) hd1 trivial ?_
    refine qp_br_E qp_ok56 (f := p1 ≤ 20) (ct := (12, [some (.ref 0), some (.int p1), none], [], qp_mk I J)) (cf := (10, [some (.ref 0), some (.int p1), none], [], qp_mk I J)) (by with_unfolding_all rfl) (fun h2 => ?_) (fun h2 => ?_)
    · replace h := qp_ift h2 h
      refine qp_run_E qp_ok56 8 (c' := (30, [some (.ref 0), some (.int p1), some (.int (I 14 3))], [.int (I 15 0)], qp_mk I J)) (by with_unfolding_all rfl) hd1 trivial ?_
      refine qp_br_E qp_ok56 (f := (I 15 0) = 0) (ct := (38, [some (.ref 0), some (.int p1), some (.int (I 14 3))], [], qp_mk I J)) (cf := (33, [some (.ref 0), some (.int p1), some (.int (I 14 3))], [], qp_mk I J)) (by with_unfolding_all rfl) (fun h3 => ?_) (fun h3 => ?_)
      · replace h := qp_ift h3 h
        refine qp_run_E qp_ok56 1 (c' := (40, [some (.ref 0), some (.int p1), some (.int (I 14 3))], [.int (-4)], qp_mk I J)) (by with_unfolding_all rfl) hd1 trivial ?_
        obtain ⟨rfl, rfl, rfl⟩ := qp_some3 h
        exact qp_retI_E qp_ok56 rfl qp_r56.1 ⟨rfl, rfl⟩ ⟨rfl, rfl⟩
      · replace h := qp_iff h3 h
        refine qp_run_E qp_ok56 2 (c' := (35, [some (.ref 0), some (.int p1), some (.int (I 14 3))], [.int p1, .int (I 14 3)], qp_mk I J)) (by with_unfolding_all rfl) hd1 trivial ?_
        refine qp_br_E qp_ok56 (f := ¬ (I 14 3) = p1) (ct := (41, [some (.ref 0), some (.int p1), some (.int (I 14 3))], [], qp_mk I J)) (cf := (38, [some (.ref 0), some (.int p1), some (.int (I 14 3))], [], qp_mk I J)) (by with_unfolding_all rfl) (fun h4 => ?_) (fun h4 => ?_)
        · replace h := qp_ift h4 h
          refine qp_run_E qp_ok56 4 (c' := (50, [some (.ref 0), some (.int p1), some (.int (I 14 3))], [.int 40, .int (I 14 5)], qp_mk I J)) (by with_unfolding_all rfl) hd1 trivial ?_
          refine qp_br_E qp_ok56 (f := (I 14 5) < 40) (ct := (56, [some (.ref 0), some (.int p1), some (.int (I 14 3))], [], qp_mk I J)) (cf := (53, [some (.ref 0), some (.int p1), some (.int (I 14 3))], [], qp_mk I J)) (by with_unfolding_all rfl) (fun h5 => ?_) (fun h5 => ?_)
          · replace h := qp_ift h5 h
            refine qp_run_E qp_ok56 4 (c' := (62, [some (.ref 0), some (.int p1), some (.int (I 14 3))], [.int p1, .int 3, .ref 14], qp_mk I J)) (by with_unfolding_all rfl) hd1 trivial ?_
            obtain ⟨v1, I1, J1, e1, h⟩ := qp_bd_s h
            refine qp_cV qp_ok56 (rest := []) (oj := 4) qp_f48 rfl rfl (gL_act l G 3 p1 I J e1 (Nat.le_refl 5)) rfl rfl rfl rfl (Nat.le_trans (by decide) hd) ?_
            refine qp_run_E qp_ok56 1 (c' := (66, [some (.ref 0), some (.int p1), some (.int (I 14 3))], [.int (I 14 3)], qp_mk I1 J1)) (by with_unfolding_all rfl) hd1 trivial ?_
            obtain ⟨rfl, rfl, rfl⟩ := qp_some3 h
            exact qp_retI_E qp_ok56 rfl qp_r56.1 ⟨rfl, rfl⟩ ⟨rfl, rfl⟩
          · replace h := qp_iff h5 h
            refine qp_run_E qp_ok56 1 (c' := (55, [some (.ref 0), some (.int p1), some (.int (I 14 3))], [.int (-2)], qp_mk I J)) (by with_unfolding_all rfl) hd1 trivial ?_
            obtain ⟨rfl, rfl, rfl⟩ := qp_some3 h
            exact qp_retI_E qp_ok56 rfl qp_r56.1 ⟨rfl, rfl⟩ ⟨rfl, rfl⟩
        · replace h := qp_iff h4 h
          refine qp_run_E qp_ok56 1 (c' := (40, [some (.ref 0), some (.int p1), some (.int (I 14 3))], [.int (-4)], qp_mk I J)) (by with_unfolding_all rfl) hd1 trivial ?_
          obtain ⟨rfl, rfl, rfl⟩ := qp_some3 h
          exact qp_retI_E qp_ok56 rfl qp_r56.1 ⟨rfl, rfl⟩ ⟨rfl, rfl⟩
    · replace h := qp_iff h2 h
      refine qp_run_E qp_ok56 1 (c' := (11, [some (.ref 0), some (.int p1), none], [.int (-1)], qp_mk I J)) (by with_unfolding_all rfl) hd1 trivial ?_
      obtain ⟨rfl, rfl, rfl⟩ := qp_some3 h
      exact qp_retI_E qp_ok56 rfl qp_r56.1 ⟨rfl, rfl⟩ ⟨rfl, rfl⟩
def fL_redo_b6  : Nat → Int32 → Int32 → (Nat → Nat → Int32) → (Nat → Nat → Int64) → Option (Unit × (Nat → Nat → Int32) × (Nat → Nat → Int64))
  | 0, _, _, _, _ => none
  | n + 1, a1, a2, I, J =>
    if a1 ≤ a2 then (
      some ((), I, J)
    ) else (
      if 40 ≤ a2 then (
        some ((), I, J)
      ) else (
        qp_gd ((0 ≤ a2 ∧ a2 < 40)) <|
        qp_bd (fL_act ((I 24 (Int32.toNatClampNeg a2)) / 64) ((I 24 (Int32.toNatClampNeg a2)) - (I 24 (Int32.toNatClampNeg a2)) / 64 * 64) I J) fun _u I1 J1 =>
        fL_redo_b6 n a1 (a2 + 1) I1 J1
      )
    )
set_option maxRecDepth 8000 in
theorem gL_redo_b6 {l : Launch} {G : qp_G} {d : Nat} (hd : 6 ≤ d) {r : (Unit × (Nat → Nat → Int32) × (Nat → Nat → Int64))} {I0 : Nat → Nat → Int32} {J0 : Nat → Nat → Int64}   : ∀ (n : Nat) (a1 : Int32) (a2 : Int32) (I : Nat → Nat → Int32) (J : Nat → Nat → Int64), fL_redo_b6  n a1 a2 I J = some r → qp_E l G d 58 (qp_mk I0 J0) 0 0 (qp_R8 none r.2.1 r.2.2) (6, [some (.ref 14), some (.int a1), some (.int a2)], [], qp_mk I J) := by
  have hd1 : Nat.ble 1 d = true := Nat.ble_eq_true_of_le (Nat.le_trans (by decide) hd)
  intro n
  induction n with
  | zero => intro a1 a2 I J h; exact absurd h (by simp [fL_redo_b6])
  | succ n ih =>
    intro a1 a2 I J h
    rw [fL_redo_b6] at h
    refine qp_run_E qp_ok58 2 (c' := (8, [some (.ref 14), some (.int a1), some (.int a2)], [.int a1, .int a2], qp_mk I J)) (by with_unfolding_all rfl) hd1 trivial ?_
    refine qp_br_E qp_ok58 (f := a1 ≤ a2) (ct := (48, [some (.ref 14), some (.int a1), some (.int a2)], [], qp_mk I J)) (cf := (11, [some (.ref 14), some (.int a1), some (.int a2)], [], qp_mk I J)) (by with_unfolding_all rfl) (fun h1 => ?_) (fun h1 => ?_)
    · replace h := qp_ift h1 h
      obtain rfl := Option.some.inj h
      exact qp_retV_E qp_ok58 rfl qp_r58.1 ⟨rfl, rfl⟩ ⟨rfl, rfl⟩
    · replace h := qp_iff h1 h
      refine qp_run_E qp_ok58 4 (c' := (17, [some (.ref 14), some (.int a1), some (.int a2)], [.int 40, .int a2], qp_mk I J)) (by with_unfolding_all rfl) hd1 trivial ?_
      refine qp_br_E qp_ok58 (f := 40 ≤ a2) (ct := (48, [some (.ref 14), some (.int a1), some (.int a2)], [], qp_mk I J)) (cf := (20, [some (.ref 14), some (.int a1), some (.int a2)], [], qp_mk I J)) (by with_unfolding_all rfl) (fun h2 => ?_) (fun h2 => ?_)
      · replace h := qp_ift h2 h
        obtain rfl := Option.some.inj h
        exact qp_retV_E qp_ok58 rfl qp_r58.1 ⟨rfl, rfl⟩ ⟨rfl, rfl⟩
      · replace h := qp_iff h2 h
        obtain ⟨h3, h⟩ := qp_gd_s h
        refine qp_run_E qp_ok58 13 (f := vp_in a2 40 ∧ ¬ (64 : Int32) = 0 ∧ vp_in a2 40 ∧ ¬ (64 : Int32) = 0 ∧ True) (c' := (39, [some (.ref 14), some (.int a1), some (.int a2)], [.int ((I 24 (Int32.toNatClampNeg a2)) - (I 24 (Int32.toNatClampNeg a2)) / 64 * 64), .int ((I 24 (Int32.toNatClampNeg a2)) / 64), .ref 14], qp_mk I J)) (by with_unfolding_all rfl) hd1 ⟨(qp_vin (c := 40) (by decide) h3.1 h3.2), (by decide), (qp_vin (c := 40) (by decide) h3.1 h3.2), (by decide), trivial⟩ ?_
        obtain ⟨v1, I1, J1, e1, h⟩ := qp_bd_s h
        refine qp_cV qp_ok58 (rest := []) (oj := 4) qp_f48 rfl rfl (gL_act l G ((I 24 (Int32.toNatClampNeg a2)) / 64) ((I 24 (Int32.toNatClampNeg a2)) - (I 24 (Int32.toNatClampNeg a2)) / 64 * 64) I J e1 (Nat.le_refl 5)) rfl rfl rfl rfl (Nat.le_trans (by decide) hd) ?_
        refine qp_run_E qp_ok58 2 (c' := (6, [some (.ref 14), some (.int a1), some (.int (a2 + 1))], [], qp_mk I1 J1)) (by with_unfolding_all rfl) hd1 trivial ?_
        exact ih a1 (a2 + 1) I1 J1 h
def fL_redo (p1 : Int32) (I : Nat → Nat → Int32) (J : Nat → Nat → Int64) : Option (Unit × (Nat → Nat → Int32) × (Nat → Nat → Int64)) :=
  qp_bd (fL_restart I J) fun _u I1 J1 =>
  fL_redo_b6 100000 p1 0 I1 J1
set_option maxRecDepth 8000 in
theorem gL_redo (l : Launch) (G : qp_G) (p1 : Int32) (I : Nat → Nat → Int32) (J : Nat → Nat → Int64) {v : Unit} {I' : Nat → Nat → Int32} {J' : Nat → Nat → Int64} (h : fL_redo p1 I J = some (v, I', J')) {d : Nat} (hd : 6 ≤ d) : qp_Met l G d 58 [.ref 14, .int p1] (qp_mk I J) 0 0 (qp_R8 none I' J') := by
  have hd1 : Nat.ble 1 d = true := Nat.ble_eq_true_of_le (Nat.le_trans (by decide) hd)
  refine qp_Met_of (by decide) (by rw [qp_r58.2]; rfl) [some (.ref 14), some (.int p1), none] (by rw [qp_r58.2]; rfl) ?_
  unfold fL_redo at h
  refine qp_run_E qp_ok58 1 (c' := (1, [some (.ref 14), some (.int p1), none], [.ref 14], qp_mk I J)) (by with_unfolding_all rfl) hd1 trivial ?_
  obtain ⟨v1, I1, J1, e1, h⟩ := qp_bd_s h
  refine qp_cV qp_ok58 (rest := []) (oj := 4) qp_f38 rfl rfl (gL_restart l G I J e1 (Nat.le_refl 3)) rfl rfl rfl rfl (Nat.le_trans (by decide) hd) ?_
  refine qp_run_E qp_ok58 2 (c' := (6, [some (.ref 14), some (.int p1), some (.int 0)], [], qp_mk I1 J1)) (by with_unfolding_all rfl) hd1 trivial ?_
  exact gL_redo_b6 hd 100000 p1 0 I1 J1 h
def fX_undo (p1 : Int32) (I : Nat → Nat → Int32) (J : Nat → Nat → Int64) : Option (Int32 × (Nat → Nat → Int32) × (Nat → Nat → Int64)) :=
  if p1 < 0 then (
    some ((-1), I, J)
  ) else (
    if p1 ≤ (I 14 5) then (
      qp_bd (fL_redo p1 I J) fun _u I1 J1 =>
      some (((I 14 5) - p1), I1, J1)
    ) else (
      some ((-1), I, J)
    )
  )
set_option maxRecDepth 8000 in
theorem gX_undo (l : Launch) (G : qp_G) (p1 : Int32) (I : Nat → Nat → Int32) (J : Nat → Nat → Int64) {v : Int32} {I' : Nat → Nat → Int32} {J' : Nat → Nat → Int64} (h : fX_undo p1 I J = some (v, I', J')) {d : Nat} (hd : 7 ≤ d) : qp_Met l G d 57 [.ref 0, .int p1] (qp_mk I J) 0 0 (qp_R8 (some (.int v)) I' J') := by
  have hd1 : Nat.ble 1 d = true := Nat.ble_eq_true_of_le (Nat.le_trans (by decide) hd)
  refine qp_Met_of (by decide) (by rw [qp_r57.2]; rfl) [some (.ref 0), some (.int p1), none] (by rw [qp_r57.2]; rfl) ?_
  unfold fX_undo at h
  refine qp_run_E qp_ok57 1 (c' := (1, [some (.ref 0), some (.int p1), none], [.int p1], qp_mk I J)) (by with_unfolding_all rfl) hd1 trivial ?_
  refine qp_br_E qp_ok57 (f := p1 < 0) (ct := (15, [some (.ref 0), some (.int p1), none], [], qp_mk I J)) (cf := (4, [some (.ref 0), some (.int p1), none], [], qp_mk I J)) (by with_unfolding_all rfl) (fun h1 => ?_) (fun h1 => ?_)
  · replace h := qp_ift h1 h
    refine qp_run_E qp_ok57 1 (c' := (16, [some (.ref 0), some (.int p1), none], [.int (-1)], qp_mk I J)) (by with_unfolding_all rfl) hd1 trivial ?_
    obtain ⟨rfl, rfl, rfl⟩ := qp_some3 h
    exact qp_retI_E qp_ok57 rfl qp_r57.1 ⟨rfl, rfl⟩ ⟨rfl, rfl⟩
  · replace h := qp_iff h1 h
    refine qp_run_E qp_ok57 4 (c' := (12, [some (.ref 0), some (.int p1), none], [.int (I 14 5), .int p1], qp_mk I J)) (by with_unfolding_all rfl) hd1 trivial ?_
    refine qp_br_E qp_ok57 (f := p1 ≤ (I 14 5)) (ct := (17, [some (.ref 0), some (.int p1), none], [], qp_mk I J)) (cf := (15, [some (.ref 0), some (.int p1), none], [], qp_mk I J)) (by with_unfolding_all rfl) (fun h2 => ?_) (fun h2 => ?_)
    · replace h := qp_ift h2 h
      refine qp_run_E qp_ok57 9 (c' := (32, [some (.ref 0), some (.int p1), some (.int ((I 14 5) - p1))], [.int p1, .ref 14], qp_mk I J)) (by with_unfolding_all rfl) hd1 trivial ?_
      obtain ⟨v1, I1, J1, e1, h⟩ := qp_bd_s h
      refine qp_cV qp_ok57 (rest := []) (oj := 4) qp_f58 rfl rfl (gL_redo l G p1 I J e1 (Nat.le_refl 6)) rfl rfl rfl rfl (Nat.le_trans (by decide) hd) ?_
      refine qp_run_E qp_ok57 1 (c' := (36, [some (.ref 0), some (.int p1), some (.int ((I 14 5) - p1))], [.int ((I 14 5) - p1)], qp_mk I1 J1)) (by with_unfolding_all rfl) hd1 trivial ?_
      obtain ⟨rfl, rfl, rfl⟩ := qp_some3 h
      exact qp_retI_E qp_ok57 rfl qp_r57.1 ⟨rfl, rfl⟩ ⟨rfl, rfl⟩
    · replace h := qp_iff h2 h
      refine qp_run_E qp_ok57 1 (c' := (16, [some (.ref 0), some (.int p1), none], [.int (-1)], qp_mk I J)) (by with_unfolding_all rfl) hd1 trivial ?_
      obtain ⟨rfl, rfl, rfl⟩ := qp_some3 h
      exact qp_retI_E qp_ok57 rfl qp_r57.1 ⟨rfl, rfl⟩ ⟨rfl, rfl⟩
def fS_hasPlace_7 (p1 : Int32) (p2 : Int32) (I : Nat → Nat → Int32) (J : Nat → Nat → Int64) : Option (Int32 × (Nat → Nat → Int32) × (Nat → Nat → Int64)) :=
  qp_bd (fS_isNumber_7 p1 I J) fun v1 I1 J1 =>
  if v1 = 0 then (
    some (0, I1, J1)
  ) else (
    if p2 < 0 then (
      some (0, I1, J1)
    ) else (
      qp_gd ((0 ≤ p1 ∧ p1 < 3)) <|
      if (I1 8 (Int32.toNatClampNeg p1)) ≤ p2 then (
        some (0, I1, J1)
      ) else (
        some (1, I1, J1)
      )
    )
  )
set_option maxRecDepth 8000 in
theorem gS_hasPlace_7 (l : Launch) (G : qp_G) (p1 : Int32) (p2 : Int32) (I : Nat → Nat → Int32) (J : Nat → Nat → Int64) {v : Int32} {I' : Nat → Nat → Int32} {J' : Nat → Nat → Int64} (h : fS_hasPlace_7 p1 p2 I J = some (v, I', J')) {d : Nat} (hd : 2 ≤ d) : qp_Met l G d 17 [.ref 7, .int p1, .int p2] (qp_mk I J) 0 0 (qp_R8 (some (.int v)) I' J') := by
  have hd1 : Nat.ble 1 d = true := Nat.ble_eq_true_of_le (Nat.le_trans (by decide) hd)
  refine qp_Met_of (by decide) (by rw [qp_r17.2]; rfl) [some (.ref 7), some (.int p1), some (.int p2)] (by rw [qp_r17.2]; rfl) ?_
  unfold fS_hasPlace_7 at h
  refine qp_run_E qp_ok17 2 (c' := (2, [some (.ref 7), some (.int p1), some (.int p2)], [.int p1, .ref 7], qp_mk I J)) (by with_unfolding_all rfl) hd1 trivial ?_
  obtain ⟨v1, I1, J1, e1, h⟩ := qp_bd_s h
  refine qp_cV qp_ok17 (rest := []) (oj := 1) qp_f13 rfl rfl (gS_isNumber_7 l G p1 I J e1 (Nat.le_refl 1)) rfl rfl rfl rfl (Nat.le_trans (by decide) hd) ?_
  refine qp_br_E qp_ok17 (f := v1 = 0) (ct := (26, [some (.ref 7), some (.int p1), some (.int p2)], [], qp_mk I1 J1)) (cf := (8, [some (.ref 7), some (.int p1), some (.int p2)], [], qp_mk I1 J1)) (by with_unfolding_all rfl) (fun h1 => ?_) (fun h1 => ?_)
  · replace h := qp_ift h1 h
    refine qp_run_E qp_ok17 1 (c' := (27, [some (.ref 7), some (.int p1), some (.int p2)], [.int 0], qp_mk I1 J1)) (by with_unfolding_all rfl) hd1 trivial ?_
    obtain ⟨rfl, rfl, rfl⟩ := qp_some3 h
    exact qp_retZ_E qp_ok17 rfl qp_r17.1 rfl ⟨rfl, rfl⟩ ⟨rfl, rfl⟩
  · replace h := qp_iff h1 h
    refine qp_run_E qp_ok17 1 (c' := (9, [some (.ref 7), some (.int p1), some (.int p2)], [.int p2], qp_mk I1 J1)) (by with_unfolding_all rfl) hd1 trivial ?_
    refine qp_br_E qp_ok17 (f := p2 < 0) (ct := (26, [some (.ref 7), some (.int p1), some (.int p2)], [], qp_mk I1 J1)) (cf := (12, [some (.ref 7), some (.int p1), some (.int p2)], [], qp_mk I1 J1)) (by with_unfolding_all rfl) (fun h2 => ?_) (fun h2 => ?_)
    · replace h := qp_ift h2 h
      refine qp_run_E qp_ok17 1 (c' := (27, [some (.ref 7), some (.int p1), some (.int p2)], [.int 0], qp_mk I1 J1)) (by with_unfolding_all rfl) hd1 trivial ?_
      obtain ⟨rfl, rfl, rfl⟩ := qp_some3 h
      exact qp_retZ_E qp_ok17 rfl qp_r17.1 rfl ⟨rfl, rfl⟩ ⟨rfl, rfl⟩
    · replace h := qp_iff h2 h
      obtain ⟨h3, h⟩ := qp_gd_s h
      refine qp_run_E qp_ok17 5 (f := vp_in p1 3 ∧ True) (c' := (19, [some (.ref 7), some (.int p1), some (.int p2)], [.int (I1 8 (Int32.toNatClampNeg p1)), .int p2], qp_mk I1 J1)) (by with_unfolding_all rfl) hd1 ⟨(qp_vin (c := 3) (by decide) h3.1 h3.2), trivial⟩ ?_
      refine qp_br_E qp_ok17 (f := (I1 8 (Int32.toNatClampNeg p1)) ≤ p2) (ct := (26, [some (.ref 7), some (.int p1), some (.int p2)], [], qp_mk I1 J1)) (cf := (22, [some (.ref 7), some (.int p1), some (.int p2)], [], qp_mk I1 J1)) (by with_unfolding_all rfl) (fun h4 => ?_) (fun h4 => ?_)
      · replace h := qp_ift h4 h
        refine qp_run_E qp_ok17 1 (c' := (27, [some (.ref 7), some (.int p1), some (.int p2)], [.int 0], qp_mk I1 J1)) (by with_unfolding_all rfl) hd1 trivial ?_
        obtain ⟨rfl, rfl, rfl⟩ := qp_some3 h
        exact qp_retZ_E qp_ok17 rfl qp_r17.1 rfl ⟨rfl, rfl⟩ ⟨rfl, rfl⟩
      · replace h := qp_iff h4 h
        refine qp_run_E qp_ok17 2 (c' := (27, [some (.ref 7), some (.int p1), some (.int p2)], [.int 1], qp_mk I1 J1)) (by with_unfolding_all rfl) hd1 trivial ?_
        obtain ⟨rfl, rfl, rfl⟩ := qp_some3 h
        exact qp_retZ_E qp_ok17 rfl qp_r17.1 rfl ⟨rfl, rfl⟩ ⟨rfl, rfl⟩
def fS_set_7 (p1 : Int32) (p2 : Int32) (p3 : Int32) (I : Nat → Nat → Int32) (J : Nat → Nat → Int64) : Option (Unit × (Nat → Nat → Int32) × (Nat → Nat → Int64)) :=
  qp_bd (fS_hasPlace_7 p1 p2 I J) fun v1 I1 J1 =>
  if v1 = 0 then (
    some ((), I1, J1)
  ) else (
    if ((p1 * (I 7 0)) + p2) < 0 then (
      some ((), I1, J1)
    ) else (
      if 120 ≤ ((p1 * (I 7 0)) + p2) then (
        some ((), I1, J1)
      ) else (
        qp_gd ((0 ≤ ((p1 * (I 7 0)) + p2) ∧ ((p1 * (I 7 0)) + p2) < 120)) <|
        some ((), (qp_up I1 9 (Int32.toNatClampNeg ((p1 * (I 7 0)) + p2)) p3), J1)
      )
    )
  )
set_option maxRecDepth 8000 in
theorem gS_set_7 (l : Launch) (G : qp_G) (p1 : Int32) (p2 : Int32) (p3 : Int32) (I : Nat → Nat → Int32) (J : Nat → Nat → Int64) {v : Unit} {I' : Nat → Nat → Int32} {J' : Nat → Nat → Int64} (h : fS_set_7 p1 p2 p3 I J = some (v, I', J')) {d : Nat} (hd : 3 ≤ d) : qp_Met l G d 16 [.ref 7, .int p1, .int p2, .int p3] (qp_mk I J) 0 0 (qp_R8 none I' J') := by
  have hd1 : Nat.ble 1 d = true := Nat.ble_eq_true_of_le (Nat.le_trans (by decide) hd)
  refine qp_Met_of (by decide) (by rw [qp_r16.2]; rfl) [some (.ref 7), some (.int p1), some (.int p2), some (.int p3), none] (by rw [qp_r16.2]; rfl) ?_
  unfold fS_set_7 at h
  refine qp_run_E qp_ok16 10 (c' := (13, [some (.ref 7), some (.int p1), some (.int p2), some (.int p3), some (.int ((p1 * (I 7 0)) + p2))], [.int p2, .int p1, .ref 7], qp_mk I J)) (by with_unfolding_all rfl) hd1 trivial ?_
  obtain ⟨v1, I1, J1, e1, h⟩ := qp_bd_s h
  refine qp_cV qp_ok16 (rest := []) (oj := 1) qp_f17 rfl rfl (gS_hasPlace_7 l G p1 p2 I J e1 (Nat.le_refl 2)) rfl rfl rfl rfl (Nat.le_trans (by decide) hd) ?_
  refine qp_br_E qp_ok16 (f := v1 = 0) (ct := (42, [some (.ref 7), some (.int p1), some (.int p2), some (.int p3), some (.int ((p1 * (I 7 0)) + p2))], [], qp_mk I1 J1)) (cf := (19, [some (.ref 7), some (.int p1), some (.int p2), some (.int p3), some (.int ((p1 * (I 7 0)) + p2))], [], qp_mk I1 J1)) (by with_unfolding_all rfl) (fun h1 => ?_) (fun h1 => ?_)
  · replace h := qp_ift h1 h
    obtain ⟨rfl, rfl, rfl⟩ := qp_some3 h
    exact qp_retV_E qp_ok16 rfl qp_r16.1 ⟨rfl, rfl⟩ ⟨rfl, rfl⟩
  · replace h := qp_iff h1 h
    refine qp_run_E qp_ok16 1 (c' := (21, [some (.ref 7), some (.int p1), some (.int p2), some (.int p3), some (.int ((p1 * (I 7 0)) + p2))], [.int ((p1 * (I 7 0)) + p2)], qp_mk I1 J1)) (by with_unfolding_all rfl) hd1 trivial ?_
    refine qp_br_E qp_ok16 (f := ((p1 * (I 7 0)) + p2) < 0) (ct := (42, [some (.ref 7), some (.int p1), some (.int p2), some (.int p3), some (.int ((p1 * (I 7 0)) + p2))], [], qp_mk I1 J1)) (cf := (24, [some (.ref 7), some (.int p1), some (.int p2), some (.int p3), some (.int ((p1 * (I 7 0)) + p2))], [], qp_mk I1 J1)) (by with_unfolding_all rfl) (fun h2 => ?_) (fun h2 => ?_)
    · replace h := qp_ift h2 h
      obtain ⟨rfl, rfl, rfl⟩ := qp_some3 h
      exact qp_retV_E qp_ok16 rfl qp_r16.1 ⟨rfl, rfl⟩ ⟨rfl, rfl⟩
    · replace h := qp_iff h2 h
      refine qp_run_E qp_ok16 4 (c' := (31, [some (.ref 7), some (.int p1), some (.int p2), some (.int p3), some (.int ((p1 * (I 7 0)) + p2))], [.int 120, .int ((p1 * (I 7 0)) + p2)], qp_mk I1 J1)) (by with_unfolding_all rfl) hd1 trivial ?_
      refine qp_br_E qp_ok16 (f := 120 ≤ ((p1 * (I 7 0)) + p2)) (ct := (42, [some (.ref 7), some (.int p1), some (.int p2), some (.int p3), some (.int ((p1 * (I 7 0)) + p2))], [], qp_mk I1 J1)) (cf := (34, [some (.ref 7), some (.int p1), some (.int p2), some (.int p3), some (.int ((p1 * (I 7 0)) + p2))], [], qp_mk I1 J1)) (by with_unfolding_all rfl) (fun h3 => ?_) (fun h3 => ?_)
      · replace h := qp_ift h3 h
        obtain ⟨rfl, rfl, rfl⟩ := qp_some3 h
        exact qp_retV_E qp_ok16 rfl qp_r16.1 ⟨rfl, rfl⟩ ⟨rfl, rfl⟩
      · replace h := qp_iff h3 h
        obtain ⟨h4, h⟩ := qp_gd_s h
        refine qp_run_E qp_ok16 5 (f := vp_in ((p1 * (I 7 0)) + p2) 120 ∧ True) (c' := (42, [some (.ref 7), some (.int p1), some (.int p2), some (.int p3), some (.int ((p1 * (I 7 0)) + p2))], [], qp_mk (qp_up I1 9 (Int32.toNatClampNeg ((p1 * (I 7 0)) + p2)) p3) J1)) (by with_unfolding_all rfl) hd1 ⟨(qp_vin (c := 120) (by decide) h4.1 h4.2), trivial⟩ ?_
        obtain ⟨rfl, rfl, rfl⟩ := qp_some3 h
        exact qp_retV_E qp_ok16 rfl qp_r16.1 ⟨rfl, rfl⟩ ⟨rfl, rfl⟩
def fS_fresh_7_b30  : Nat → Int32 → Int32 → Int32 → Int32 → (Nat → Nat → Int32) → (Nat → Nat → Int64) → Option (Unit × (Nat → Nat → Int32) × (Nat → Nat → Int64))
  | 0, _, _, _, _, _, _ => none
  | n + 1, a1, a2, a3, a4, I, J =>
    if a2 ≤ a4 then (
      some ((), I, J)
    ) else (
      qp_bd (fS_set_7 a1 a4 a3 I J) fun _u I1 J1 =>
      fS_fresh_7_b30 n a1 a2 a3 (a4 + 1) I1 J1
    )
set_option maxRecDepth 8000 in
theorem gS_fresh_7_b30 {l : Launch} {G : qp_G} {d : Nat} (hd : 4 ≤ d) {r : (Unit × (Nat → Nat → Int32) × (Nat → Nat → Int64))} {I0 : Nat → Nat → Int32} {J0 : Nat → Nat → Int64}   : ∀ (n : Nat) (a1 : Int32) (a2 : Int32) (a3 : Int32) (a4 : Int32) (I : Nat → Nat → Int32) (J : Nat → Nat → Int64), fS_fresh_7_b30  n a1 a2 a3 a4 I J = some r → qp_E l G d 15 (qp_mk I0 J0) 0 0 (qp_R8 none r.2.1 r.2.2) (30, [some (.ref 7), some (.int a1), some (.int a2), some (.int a3), some (.int a4)], [], qp_mk I J) := by
  have hd1 : Nat.ble 1 d = true := Nat.ble_eq_true_of_le (Nat.le_trans (by decide) hd)
  intro n
  induction n with
  | zero => intro a1 a2 a3 a4 I J h; exact absurd h (by simp [fS_fresh_7_b30])
  | succ n ih =>
    intro a1 a2 a3 a4 I J h
    rw [fS_fresh_7_b30] at h
    refine qp_run_E qp_ok15 2 (c' := (33, [some (.ref 7), some (.int a1), some (.int a2), some (.int a3), some (.int a4)], [.int a2, .int a4], qp_mk I J)) (by with_unfolding_all rfl) hd1 trivial ?_
    refine qp_br_E qp_ok15 (f := a2 ≤ a4) (ct := (50, [some (.ref 7), some (.int a1), some (.int a2), some (.int a3), some (.int a4)], [], qp_mk I J)) (cf := (36, [some (.ref 7), some (.int a1), some (.int a2), some (.int a3), some (.int a4)], [], qp_mk I J)) (by with_unfolding_all rfl) (fun h1 => ?_) (fun h1 => ?_)
    · replace h := qp_ift h1 h
      obtain rfl := Option.some.inj h
      exact qp_retV_E qp_ok15 rfl qp_r15.1 ⟨rfl, rfl⟩ ⟨rfl, rfl⟩
    · replace h := qp_iff h1 h
      refine qp_run_E qp_ok15 4 (c' := (41, [some (.ref 7), some (.int a1), some (.int a2), some (.int a3), some (.int a4)], [.int a3, .int a4, .int a1, .ref 7], qp_mk I J)) (by with_unfolding_all rfl) hd1 trivial ?_
      obtain ⟨v1, I1, J1, e1, h⟩ := qp_bd_s h
      refine qp_cV qp_ok15 (rest := []) (oj := 1) qp_f16 rfl rfl (gS_set_7 l G a1 a4 a3 I J e1 (Nat.le_refl 3)) rfl rfl rfl rfl (Nat.le_trans (by decide) hd) ?_
      refine qp_run_E qp_ok15 2 (c' := (30, [some (.ref 7), some (.int a1), some (.int a2), some (.int a3), some (.int (a4 + 1))], [], qp_mk I1 J1)) (by with_unfolding_all rfl) hd1 trivial ?_
      exact ih a1 a2 a3 (a4 + 1) I1 J1 h
def fS_fresh_7 (p1 : Int32) (p2 : Int32) (p3 : Int32) (I : Nat → Nat → Int32) (J : Nat → Nat → Int64) : Option (Unit × (Nat → Nat → Int32) × (Nat → Nat → Int64)) :=
  qp_bd (fS_isNumber_7 p1 I J) fun v1 I1 J1 =>
  if v1 = 0 then (
    some ((), I1, J1)
  ) else (
    if p2 < 0 then (
      some ((), I1, J1)
    ) else (
      if (I1 7 0) < p2 then (
        some ((), I1, J1)
      ) else (
        qp_gd ((0 ≤ p1 ∧ p1 < 3)) <|
        fS_fresh_7_b30 100000 p1 p2 p3 0 (qp_up I1 8 (Int32.toNatClampNeg p1) p2) J1
      )
    )
  )
set_option maxRecDepth 8000 in
theorem gS_fresh_7 (l : Launch) (G : qp_G) (p1 : Int32) (p2 : Int32) (p3 : Int32) (I : Nat → Nat → Int32) (J : Nat → Nat → Int64) {v : Unit} {I' : Nat → Nat → Int32} {J' : Nat → Nat → Int64} (h : fS_fresh_7 p1 p2 p3 I J = some (v, I', J')) {d : Nat} (hd : 4 ≤ d) : qp_Met l G d 15 [.ref 7, .int p1, .int p2, .int p3] (qp_mk I J) 0 0 (qp_R8 none I' J') := by
  have hd1 : Nat.ble 1 d = true := Nat.ble_eq_true_of_le (Nat.le_trans (by decide) hd)
  refine qp_Met_of (by decide) (by rw [qp_r15.2]; rfl) [some (.ref 7), some (.int p1), some (.int p2), some (.int p3), none] (by rw [qp_r15.2]; rfl) ?_
  unfold fS_fresh_7 at h
  refine qp_run_E qp_ok15 2 (c' := (2, [some (.ref 7), some (.int p1), some (.int p2), some (.int p3), none], [.int p1, .ref 7], qp_mk I J)) (by with_unfolding_all rfl) hd1 trivial ?_
  obtain ⟨v1, I1, J1, e1, h⟩ := qp_bd_s h
  refine qp_cV qp_ok15 (rest := []) (oj := 1) qp_f13 rfl rfl (gS_isNumber_7 l G p1 I J e1 (Nat.le_refl 1)) rfl rfl rfl rfl (Nat.le_trans (by decide) hd) ?_
  refine qp_br_E qp_ok15 (f := v1 = 0) (ct := (50, [some (.ref 7), some (.int p1), some (.int p2), some (.int p3), none], [], qp_mk I1 J1)) (cf := (8, [some (.ref 7), some (.int p1), some (.int p2), some (.int p3), none], [], qp_mk I1 J1)) (by with_unfolding_all rfl) (fun h1 => ?_) (fun h1 => ?_)
  · replace h := qp_ift h1 h
    obtain ⟨rfl, rfl, rfl⟩ := qp_some3 h
    exact qp_retV_E qp_ok15 rfl qp_r15.1 ⟨rfl, rfl⟩ ⟨rfl, rfl⟩
  · replace h := qp_iff h1 h
    refine qp_run_E qp_ok15 1 (c' := (9, [some (.ref 7), some (.int p1), some (.int p2), some (.int p3), none], [.int p2], qp_mk I1 J1)) (by with_unfolding_all rfl) hd1 trivial ?_
    refine qp_br_E qp_ok15 (f := p2 < 0) (ct := (50, [some (.ref 7), some (.int p1), some (.int p2), some (.int p3), none], [], qp_mk I1 J1)) (cf := (12, [some (.ref 7), some (.int p1), some (.int p2), some (.int p3), none], [], qp_mk I1 J1)) (by with_unfolding_all rfl) (fun h2 => ?_) (fun h2 => ?_)
    · replace h := qp_ift h2 h
      obtain ⟨rfl, rfl, rfl⟩ := qp_some3 h
      exact qp_retV_E qp_ok15 rfl qp_r15.1 ⟨rfl, rfl⟩ ⟨rfl, rfl⟩
    · replace h := qp_iff h2 h
      refine qp_run_E qp_ok15 3 (c' := (17, [some (.ref 7), some (.int p1), some (.int p2), some (.int p3), none], [.int (I1 7 0), .int p2], qp_mk I1 J1)) (by with_unfolding_all rfl) hd1 trivial ?_
      refine qp_br_E qp_ok15 (f := (I1 7 0) < p2) (ct := (50, [some (.ref 7), some (.int p1), some (.int p2), some (.int p3), none], [], qp_mk I1 J1)) (cf := (20, [some (.ref 7), some (.int p1), some (.int p2), some (.int p3), none], [], qp_mk I1 J1)) (by with_unfolding_all rfl) (fun h3 => ?_) (fun h3 => ?_)
      · replace h := qp_ift h3 h
        obtain ⟨rfl, rfl, rfl⟩ := qp_some3 h
        exact qp_retV_E qp_ok15 rfl qp_r15.1 ⟨rfl, rfl⟩ ⟨rfl, rfl⟩
      · replace h := qp_iff h3 h
        obtain ⟨h4, h⟩ := qp_gd_s h
        refine qp_run_E qp_ok15 7 (f := vp_in p1 3 ∧ True) (c' := (30, [some (.ref 7), some (.int p1), some (.int p2), some (.int p3), some (.int 0)], [], qp_mk (qp_up I1 8 (Int32.toNatClampNeg p1) p2) J1)) (by with_unfolding_all rfl) hd1 ⟨(qp_vin (c := 3) (by decide) h4.1 h4.2), trivial⟩ ?_
        exact gS_fresh_7_b30 hd 100000 p1 p2 p3 0 (qp_up I1 8 (Int32.toNatClampNeg p1) p2) J1 h
def fL_deed (p1 : Int32) (I : Nat → Nat → Int32) (J : Nat → Nat → Int64) : Option (Int32 × (Nat → Nat → Int32) × (Nat → Nat → Int64)) :=
  if p1 < 0 then (
    some (0, I, J)
  ) else (
    if 40 ≤ p1 then (
      some (0, I, J)
    ) else (
      qp_gd ((0 ≤ p1 ∧ p1 < 40)) <|
      some ((I 24 (Int32.toNatClampNeg p1)), I, J)
    )
  )
set_option maxRecDepth 8000 in
theorem gL_deed (l : Launch) (G : qp_G) (p1 : Int32) (I : Nat → Nat → Int32) (J : Nat → Nat → Int64) {v : Int32} {I' : Nat → Nat → Int32} {J' : Nat → Nat → Int64} (h : fL_deed p1 I J = some (v, I', J')) {d : Nat} (hd : 1 ≤ d) : qp_Met l G d 60 [.ref 14, .int p1] (qp_mk I J) 0 0 (qp_R8 (some (.int v)) I' J') := by
  have hd1 : Nat.ble 1 d = true := Nat.ble_eq_true_of_le (Nat.le_trans (by decide) hd)
  refine qp_Met_of (by decide) (by rw [qp_r60.2]; rfl) [some (.ref 14), some (.int p1)] (by rw [qp_r60.2]; rfl) ?_
  unfold fL_deed at h
  refine qp_run_E qp_ok60 1 (c' := (1, [some (.ref 14), some (.int p1)], [.int p1], qp_mk I J)) (by with_unfolding_all rfl) hd1 trivial ?_
  refine qp_br_E qp_ok60 (f := p1 < 0) (ct := (22, [some (.ref 14), some (.int p1)], [], qp_mk I J)) (cf := (4, [some (.ref 14), some (.int p1)], [], qp_mk I J)) (by with_unfolding_all rfl) (fun h1 => ?_) (fun h1 => ?_)
  · replace h := qp_ift h1 h
    refine qp_run_E qp_ok60 1 (c' := (23, [some (.ref 14), some (.int p1)], [.int 0], qp_mk I J)) (by with_unfolding_all rfl) hd1 trivial ?_
    obtain ⟨rfl, rfl, rfl⟩ := qp_some3 h
    exact qp_retI_E qp_ok60 rfl qp_r60.1 ⟨rfl, rfl⟩ ⟨rfl, rfl⟩
  · replace h := qp_iff h1 h
    refine qp_run_E qp_ok60 4 (c' := (10, [some (.ref 14), some (.int p1)], [.int 40, .int p1], qp_mk I J)) (by with_unfolding_all rfl) hd1 trivial ?_
    refine qp_br_E qp_ok60 (f := 40 ≤ p1) (ct := (22, [some (.ref 14), some (.int p1)], [], qp_mk I J)) (cf := (13, [some (.ref 14), some (.int p1)], [], qp_mk I J)) (by with_unfolding_all rfl) (fun h2 => ?_) (fun h2 => ?_)
    · replace h := qp_ift h2 h
      refine qp_run_E qp_ok60 1 (c' := (23, [some (.ref 14), some (.int p1)], [.int 0], qp_mk I J)) (by with_unfolding_all rfl) hd1 trivial ?_
      obtain ⟨rfl, rfl, rfl⟩ := qp_some3 h
      exact qp_retI_E qp_ok60 rfl qp_r60.1 ⟨rfl, rfl⟩ ⟨rfl, rfl⟩
    · replace h := qp_iff h2 h
      obtain ⟨h3, h⟩ := qp_gd_s h
      refine qp_run_E qp_ok60 5 (f := vp_in p1 40 ∧ True) (c' := (23, [some (.ref 14), some (.int p1)], [.int (I 24 (Int32.toNatClampNeg p1))], qp_mk I J)) (by with_unfolding_all rfl) hd1 ⟨(qp_vin (c := 40) (by decide) h3.1 h3.2), trivial⟩ ?_
      obtain ⟨rfl, rfl, rfl⟩ := qp_some3 h
      exact qp_retI_E qp_ok60 rfl qp_r60.1 ⟨rfl, rfl⟩ ⟨rfl, rfl⟩
def fX_keep_b47  : Nat → Int32 → Int32 → (Nat → Nat → Int32) → (Nat → Nat → Int64) → Option (Int32 × (Nat → Nat → Int32) × (Nat → Nat → Int64))
  | 0, _, _, _, _ => none
  | n + 1, a1, a2, I, J =>
    if (I 14 5) ≤ a2 then (
      some ((I 14 5), I, J)
    ) else (
      qp_bd (fL_deed a2 I J) fun v1 I1 J1 =>
      qp_bd (fS_set_7 a1 a2 v1 I1 J1) fun _u I2 J2 =>
      fX_keep_b47 n a1 (a2 + 1) I2 J2
    )
set_option maxRecDepth 8000 in
theorem gX_keep_b47 {l : Launch} {G : qp_G} {d : Nat} (hd : 5 ≤ d) {r : (Int32 × (Nat → Nat → Int32) × (Nat → Nat → Int64))} {I0 : Nat → Nat → Int32} {J0 : Nat → Nat → Int64}   : ∀ (n : Nat) (a1 : Int32) (a2 : Int32) (I : Nat → Nat → Int32) (J : Nat → Nat → Int64), fX_keep_b47  n a1 a2 I J = some r → qp_E l G d 59 (qp_mk I0 J0) 0 0 (qp_R8 (some (.int r.1)) r.2.1 r.2.2) (47, [some (.ref 0), some (.int a1), some (.int a2)], [], qp_mk I J) := by
  have hd1 : Nat.ble 1 d = true := Nat.ble_eq_true_of_le (Nat.le_trans (by decide) hd)
  intro n
  induction n with
  | zero => intro a1 a2 I J h; exact absurd h (by simp [fX_keep_b47])
  | succ n ih =>
    intro a1 a2 I J h
    rw [fX_keep_b47] at h
    refine qp_run_E qp_ok59 4 (c' := (55, [some (.ref 0), some (.int a1), some (.int a2)], [.int (I 14 5), .int a2], qp_mk I J)) (by with_unfolding_all rfl) hd1 trivial ?_
    refine qp_br_E qp_ok59 (f := (I 14 5) ≤ a2) (ct := (81, [some (.ref 0), some (.int a1), some (.int a2)], [], qp_mk I J)) (cf := (58, [some (.ref 0), some (.int a1), some (.int a2)], [], qp_mk I J)) (by with_unfolding_all rfl) (fun h1 => ?_) (fun h1 => ?_)
    · replace h := qp_ift h1 h
      refine qp_run_E qp_ok59 3 (c' := (88, [some (.ref 0), some (.int a1), some (.int a2)], [.int (I 14 5)], qp_mk I J)) (by with_unfolding_all rfl) hd1 trivial ?_
      obtain rfl := Option.some.inj h
      exact qp_retI_E qp_ok59 rfl qp_r59.1 ⟨rfl, rfl⟩ ⟨rfl, rfl⟩
    · replace h := qp_iff h1 h
      refine qp_run_E qp_ok59 7 (c' := (69, [some (.ref 0), some (.int a1), some (.int a2)], [.int a2, .ref 14, .int a2, .int a1, .ref 7], qp_mk I J)) (by with_unfolding_all rfl) hd1 trivial ?_
      obtain ⟨v1, I1, J1, e1, h⟩ := qp_bd_s h
      refine qp_cV qp_ok59 (rest := [.int a2, .int a1, .ref 7]) (oj := 4) qp_f60 rfl rfl (gL_deed l G a2 I J e1 (Nat.le_refl 1)) rfl rfl rfl rfl (Nat.le_trans (by decide) hd) ?_
      obtain ⟨v2, I2, J2, e2, h⟩ := qp_bd_s h
      refine qp_cV qp_ok59 (rest := []) (oj := 1) qp_f16 rfl rfl (gS_set_7 l G a1 a2 v1 I1 J1 e2 (Nat.le_refl 3)) rfl rfl rfl rfl (Nat.le_trans (by decide) hd) ?_
      refine qp_run_E qp_ok59 2 (c' := (47, [some (.ref 0), some (.int a1), some (.int (a2 + 1))], [], qp_mk I2 J2)) (by with_unfolding_all rfl) hd1 trivial ?_
      exact ih a1 (a2 + 1) I2 J2 h
def fX_keep (p1 : Int32) (I : Nat → Nat → Int32) (J : Nat → Nat → Int64) : Option (Int32 × (Nat → Nat → Int32) × (Nat → Nat → Int64)) :=
  qp_bd (fS_isNumber_7 p1 I J) fun v1 I1 J1 =>
  if ¬ v1 = 0 then (
    if ¬ (I1 15 0) = 0 then (
      qp_bd (fS_fresh_7 p1 (I1 14 5) 0 I1 J1) fun _u I2 J2 =>
      fX_keep_b47 100000 p1 0 I2 J2
    ) else (
      some ((-4), I1, J1)
    )
  ) else (
    some ((-1), I1, J1)
  )
set_option maxRecDepth 8000 in
theorem gX_keep (l : Launch) (G : qp_G) (p1 : Int32) (I : Nat → Nat → Int32) (J : Nat → Nat → Int64) {v : Int32} {I' : Nat → Nat → Int32} {J' : Nat → Nat → Int64} (h : fX_keep p1 I J = some (v, I', J')) {d : Nat} (hd : 5 ≤ d) : qp_Met l G d 59 [.ref 0, .int p1] (qp_mk I J) 0 0 (qp_R8 (some (.int v)) I' J') := by
  have hd1 : Nat.ble 1 d = true := Nat.ble_eq_true_of_le (Nat.le_trans (by decide) hd)
  refine qp_Met_of (by decide) (by rw [qp_r59.2]; rfl) [some (.ref 0), some (.int p1), none] (by rw [qp_r59.2]; rfl) ?_
  unfold fX_keep at h
  refine qp_run_E qp_ok59 3 (c' := (5, [some (.ref 0), some (.int p1), none], [.int p1, .ref 7], qp_mk I J)) (by with_unfolding_all rfl) hd1 trivial ?_
  obtain ⟨v1, I1, J1, e1, h⟩ := qp_bd_s h
  refine qp_cV qp_ok59 (rest := []) (oj := 1) qp_f13 rfl rfl (gS_isNumber_7 l G p1 I J e1 (Nat.le_refl 1)) rfl rfl rfl rfl (Nat.le_trans (by decide) hd) ?_
  refine qp_br_E qp_ok59 (f := ¬ v1 = 0) (ct := (13, [some (.ref 0), some (.int p1), none], [], qp_mk I1 J1)) (cf := (11, [some (.ref 0), some (.int p1), none], [], qp_mk I1 J1)) (by with_unfolding_all rfl) (fun h1 => ?_) (fun h1 => ?_)
  · replace h := qp_ift h1 h
    refine qp_run_E qp_ok59 4 (c' := (23, [some (.ref 0), some (.int p1), none], [.int (I1 15 0)], qp_mk I1 J1)) (by with_unfolding_all rfl) hd1 trivial ?_
    refine qp_br_E qp_ok59 (f := ¬ (I1 15 0) = 0) (ct := (29, [some (.ref 0), some (.int p1), none], [], qp_mk I1 J1)) (cf := (26, [some (.ref 0), some (.int p1), none], [], qp_mk I1 J1)) (by with_unfolding_all rfl) (fun h2 => ?_) (fun h2 => ?_)
    · replace h := qp_ift h2 h
      refine qp_run_E qp_ok59 7 (c' := (42, [some (.ref 0), some (.int p1), none], [.int 0, .int (I1 14 5), .int p1, .ref 7], qp_mk I1 J1)) (by with_unfolding_all rfl) hd1 trivial ?_
      obtain ⟨v2, I2, J2, e2, h⟩ := qp_bd_s h
      refine qp_cV qp_ok59 (rest := []) (oj := 1) qp_f15 rfl rfl (gS_fresh_7 l G p1 (I1 14 5) 0 I1 J1 e2 (Nat.le_refl 4)) rfl rfl rfl rfl (Nat.le_trans (by decide) hd) ?_
      refine qp_run_E qp_ok59 2 (c' := (47, [some (.ref 0), some (.int p1), some (.int 0)], [], qp_mk I2 J2)) (by with_unfolding_all rfl) hd1 trivial ?_
      exact gX_keep_b47 hd 100000 p1 0 I2 J2 h
    · replace h := qp_iff h2 h
      refine qp_run_E qp_ok59 1 (c' := (28, [some (.ref 0), some (.int p1), none], [.int (-4)], qp_mk I1 J1)) (by with_unfolding_all rfl) hd1 trivial ?_
      obtain ⟨rfl, rfl, rfl⟩ := qp_some3 h
      exact qp_retI_E qp_ok59 rfl qp_r59.1 ⟨rfl, rfl⟩ ⟨rfl, rfl⟩
  · replace h := qp_iff h1 h
    refine qp_run_E qp_ok59 1 (c' := (12, [some (.ref 0), some (.int p1), none], [.int (-1)], qp_mk I1 J1)) (by with_unfolding_all rfl) hd1 trivial ?_
    obtain ⟨rfl, rfl, rfl⟩ := qp_some3 h
    exact qp_retI_E qp_ok59 rfl qp_r59.1 ⟨rfl, rfl⟩ ⟨rfl, rfl⟩
def fS_sizeOf_7 (p1 : Int32) (I : Nat → Nat → Int32) (J : Nat → Nat → Int64) : Option (Int32 × (Nat → Nat → Int32) × (Nat → Nat → Int64)) :=
  qp_bd (fS_isNumber_7 p1 I J) fun v1 I1 J1 =>
  if v1 = 0 then (
    some ((-1), I1, J1)
  ) else (
    qp_gd ((0 ≤ p1 ∧ p1 < 3)) <|
    some ((I1 8 (Int32.toNatClampNeg p1)), I1, J1)
  )
set_option maxRecDepth 8000 in
theorem gS_sizeOf_7 (l : Launch) (G : qp_G) (p1 : Int32) (I : Nat → Nat → Int32) (J : Nat → Nat → Int64) {v : Int32} {I' : Nat → Nat → Int32} {J' : Nat → Nat → Int64} (h : fS_sizeOf_7 p1 I J = some (v, I', J')) {d : Nat} (hd : 2 ≤ d) : qp_Met l G d 22 [.ref 7, .int p1] (qp_mk I J) 0 0 (qp_R8 (some (.int v)) I' J') := by
  have hd1 : Nat.ble 1 d = true := Nat.ble_eq_true_of_le (Nat.le_trans (by decide) hd)
  refine qp_Met_of (by decide) (by rw [qp_r22.2]; rfl) [some (.ref 7), some (.int p1)] (by rw [qp_r22.2]; rfl) ?_
  unfold fS_sizeOf_7 at h
  refine qp_run_E qp_ok22 2 (c' := (2, [some (.ref 7), some (.int p1)], [.int p1, .ref 7], qp_mk I J)) (by with_unfolding_all rfl) hd1 trivial ?_
  obtain ⟨v1, I1, J1, e1, h⟩ := qp_bd_s h
  refine qp_cV qp_ok22 (rest := []) (oj := 1) qp_f13 rfl rfl (gS_isNumber_7 l G p1 I J e1 (Nat.le_refl 1)) rfl rfl rfl rfl (Nat.le_trans (by decide) hd) ?_
  refine qp_br_E qp_ok22 (f := v1 = 0) (ct := (17, [some (.ref 7), some (.int p1)], [], qp_mk I1 J1)) (cf := (8, [some (.ref 7), some (.int p1)], [], qp_mk I1 J1)) (by with_unfolding_all rfl) (fun h1 => ?_) (fun h1 => ?_)
  · replace h := qp_ift h1 h
    refine qp_run_E qp_ok22 1 (c' := (18, [some (.ref 7), some (.int p1)], [.int (-1)], qp_mk I1 J1)) (by with_unfolding_all rfl) hd1 trivial ?_
    obtain ⟨rfl, rfl, rfl⟩ := qp_some3 h
    exact qp_retI_E qp_ok22 rfl qp_r22.1 ⟨rfl, rfl⟩ ⟨rfl, rfl⟩
  · replace h := qp_iff h1 h
    obtain ⟨h2, h⟩ := qp_gd_s h
    refine qp_run_E qp_ok22 5 (f := vp_in p1 3 ∧ True) (c' := (18, [some (.ref 7), some (.int p1)], [.int (I1 8 (Int32.toNatClampNeg p1))], qp_mk I1 J1)) (by with_unfolding_all rfl) hd1 ⟨(qp_vin (c := 3) (by decide) h2.1 h2.2), trivial⟩ ?_
    obtain ⟨rfl, rfl, rfl⟩ := qp_some3 h
    exact qp_retI_E qp_ok22 rfl qp_r22.1 ⟨rfl, rfl⟩ ⟨rfl, rfl⟩
def fS_has_7 (p1 : Int32) (I : Nat → Nat → Int32) (J : Nat → Nat → Int64) : Option (Int32 × (Nat → Nat → Int32) × (Nat → Nat → Int64)) :=
  qp_bd (fS_sizeOf_7 p1 I J) fun v1 I1 J1 =>
  if v1 = (-1) then (
    some (0, I1, J1)
  ) else (
    some (1, I1, J1)
  )
set_option maxRecDepth 8000 in
theorem gS_has_7 (l : Launch) (G : qp_G) (p1 : Int32) (I : Nat → Nat → Int32) (J : Nat → Nat → Int64) {v : Int32} {I' : Nat → Nat → Int32} {J' : Nat → Nat → Int64} (h : fS_has_7 p1 I J = some (v, I', J')) {d : Nat} (hd : 3 ≤ d) : qp_Met l G d 21 [.ref 7, .int p1] (qp_mk I J) 0 0 (qp_R8 (some (.int v)) I' J') := by
  have hd1 : Nat.ble 1 d = true := Nat.ble_eq_true_of_le (Nat.le_trans (by decide) hd)
  refine qp_Met_of (by decide) (by rw [qp_r21.2]; rfl) [some (.ref 7), some (.int p1)] (by rw [qp_r21.2]; rfl) ?_
  unfold fS_has_7 at h
  refine qp_run_E qp_ok21 2 (c' := (2, [some (.ref 7), some (.int p1)], [.int p1, .ref 7], qp_mk I J)) (by with_unfolding_all rfl) hd1 trivial ?_
  obtain ⟨v1, I1, J1, e1, h⟩ := qp_bd_s h
  refine qp_cV qp_ok21 (rest := []) (oj := 1) qp_f22 rfl rfl (gS_sizeOf_7 l G p1 I J e1 (Nat.le_refl 2)) rfl rfl rfl rfl (Nat.le_trans (by decide) hd) ?_
  refine qp_run_E qp_ok21 1 (c' := (6, [some (.ref 7), some (.int p1)], [.int (-1), .int v1], qp_mk I1 J1)) (by with_unfolding_all rfl) hd1 trivial ?_
  refine qp_br_E qp_ok21 (f := v1 = (-1)) (ct := (13, [some (.ref 7), some (.int p1)], [], qp_mk I1 J1)) (cf := (9, [some (.ref 7), some (.int p1)], [], qp_mk I1 J1)) (by with_unfolding_all rfl) (fun h1 => ?_) (fun h1 => ?_)
  · replace h := qp_ift h1 h
    refine qp_run_E qp_ok21 1 (c' := (14, [some (.ref 7), some (.int p1)], [.int 0], qp_mk I1 J1)) (by with_unfolding_all rfl) hd1 trivial ?_
    obtain ⟨rfl, rfl, rfl⟩ := qp_some3 h
    exact qp_retZ_E qp_ok21 rfl qp_r21.1 rfl ⟨rfl, rfl⟩ ⟨rfl, rfl⟩
  · replace h := qp_iff h1 h
    refine qp_run_E qp_ok21 2 (c' := (14, [some (.ref 7), some (.int p1)], [.int 1], qp_mk I1 J1)) (by with_unfolding_all rfl) hd1 trivial ?_
    obtain ⟨rfl, rfl, rfl⟩ := qp_some3 h
    exact qp_retZ_E qp_ok21 rfl qp_r21.1 rfl ⟨rfl, rfl⟩ ⟨rfl, rfl⟩
def fX_refusalOf_0_7 (p2 : Int32) (I : Nat → Nat → Int32) (J : Nat → Nat → Int64) : Option (Int32 × (Nat → Nat → Int32) × (Nat → Nat → Int64)) :=
  qp_bd (fS_isNumber_7 p2 I J) fun v1 I1 J1 =>
  if ¬ v1 = 0 then (
    qp_bd (fS_has_7 p2 I1 J1) fun v2 I2 J2 =>
    if v2 = 0 then (
      qp_bd (fX_found 1 I2 J2) fun v3 I3 J3 =>
      some (v3, I3, J3)
    ) else (
      some (0, I2, J2)
    )
  ) else (
    some ((-1), I1, J1)
  )
set_option maxRecDepth 8000 in
theorem gX_refusalOf_0_7 (l : Launch) (G : qp_G) (p2 : Int32) (I : Nat → Nat → Int32) (J : Nat → Nat → Int64) {v : Int32} {I' : Nat → Nat → Int32} {J' : Nat → Nat → Int64} (h : fX_refusalOf_0_7 p2 I J = some (v, I', J')) {d : Nat} (hd : 4 ≤ d) : qp_Met l G d 20 [.ref 0, .ref 7, .int p2] (qp_mk I J) 0 0 (qp_R8 (some (.int v)) I' J') := by
  have hd1 : Nat.ble 1 d = true := Nat.ble_eq_true_of_le (Nat.le_trans (by decide) hd)
  refine qp_Met_of (by decide) (by rw [qp_r20.2]; rfl) [some (.ref 0), some (.ref 7), some (.int p2)] (by rw [qp_r20.2]; rfl) ?_
  unfold fX_refusalOf_0_7 at h
  refine qp_run_E qp_ok20 2 (c' := (2, [some (.ref 0), some (.ref 7), some (.int p2)], [.int p2, .ref 7], qp_mk I J)) (by with_unfolding_all rfl) hd1 trivial ?_
  obtain ⟨v1, I1, J1, e1, h⟩ := qp_bd_s h
  refine qp_cV qp_ok20 (rest := []) (oj := 1) qp_f13 rfl rfl (gS_isNumber_7 l G p2 I J e1 (Nat.le_refl 1)) rfl rfl rfl rfl (Nat.le_trans (by decide) hd) ?_
  refine qp_br_E qp_ok20 (f := ¬ v1 = 0) (ct := (10, [some (.ref 0), some (.ref 7), some (.int p2)], [], qp_mk I1 J1)) (cf := (8, [some (.ref 0), some (.ref 7), some (.int p2)], [], qp_mk I1 J1)) (by with_unfolding_all rfl) (fun h1 => ?_) (fun h1 => ?_)
  · replace h := qp_ift h1 h
    refine qp_run_E qp_ok20 2 (c' := (12, [some (.ref 0), some (.ref 7), some (.int p2)], [.int p2, .ref 7], qp_mk I1 J1)) (by with_unfolding_all rfl) hd1 trivial ?_
    obtain ⟨v2, I2, J2, e2, h⟩ := qp_bd_s h
    refine qp_cV qp_ok20 (rest := []) (oj := 1) qp_f21 rfl rfl (gS_has_7 l G p2 I1 J1 e2 (Nat.le_refl 3)) rfl rfl rfl rfl (Nat.le_trans (by decide) hd) ?_
    refine qp_br_E qp_ok20 (f := v2 = 0) (ct := (22, [some (.ref 0), some (.ref 7), some (.int p2)], [], qp_mk I2 J2)) (cf := (18, [some (.ref 0), some (.ref 7), some (.int p2)], [], qp_mk I2 J2)) (by with_unfolding_all rfl) (fun h2 => ?_) (fun h2 => ?_)
    · replace h := qp_ift h2 h
      refine qp_run_E qp_ok20 2 (c' := (24, [some (.ref 0), some (.ref 7), some (.int p2)], [.int 1, .ref 0], qp_mk I2 J2)) (by with_unfolding_all rfl) hd1 trivial ?_
      obtain ⟨v3, I3, J3, e3, h⟩ := qp_bd_s h
      refine qp_cV qp_ok20 (rest := []) (oj := 0) qp_f14 rfl rfl (gX_found l G 1 I2 J2 e3 (Nat.le_refl 1)) rfl rfl rfl rfl (Nat.le_trans (by decide) hd) ?_
      obtain ⟨rfl, rfl, rfl⟩ := qp_some3 h
      exact qp_retI_E qp_ok20 rfl qp_r20.1 ⟨rfl, rfl⟩ ⟨rfl, rfl⟩
    · replace h := qp_iff h2 h
      refine qp_run_E qp_ok20 2 (c' := (27, [some (.ref 0), some (.ref 7), some (.int p2)], [.int 0], qp_mk I2 J2)) (by with_unfolding_all rfl) hd1 trivial ?_
      obtain ⟨rfl, rfl, rfl⟩ := qp_some3 h
      exact qp_retI_E qp_ok20 rfl qp_r20.1 ⟨rfl, rfl⟩ ⟨rfl, rfl⟩
  · replace h := qp_iff h1 h
    refine qp_run_E qp_ok20 1 (c' := (9, [some (.ref 0), some (.ref 7), some (.int p2)], [.int (-1)], qp_mk I1 J1)) (by with_unfolding_all rfl) hd1 trivial ?_
    obtain ⟨rfl, rfl, rfl⟩ := qp_some3 h
    exact qp_retI_E qp_ok20 rfl qp_r20.1 ⟨rfl, rfl⟩ ⟨rfl, rfl⟩
def fS_get_7 (p1 : Int32) (p2 : Int32) (I : Nat → Nat → Int32) (J : Nat → Nat → Int64) : Option (Int32 × (Nat → Nat → Int32) × (Nat → Nat → Int64)) :=
  qp_bd (fS_hasPlace_7 p1 p2 I J) fun v1 I1 J1 =>
  if v1 = 0 then (
    some (0, I1, J1)
  ) else (
    if ((p1 * (I 7 0)) + p2) < 0 then (
      some (0, I1, J1)
    ) else (
      if 120 ≤ ((p1 * (I 7 0)) + p2) then (
        some (0, I1, J1)
      ) else (
        qp_gd ((0 ≤ ((p1 * (I 7 0)) + p2) ∧ ((p1 * (I 7 0)) + p2) < 120)) <|
        some ((I1 9 (Int32.toNatClampNeg ((p1 * (I 7 0)) + p2))), I1, J1)
      )
    )
  )
set_option maxRecDepth 8000 in
theorem gS_get_7 (l : Launch) (G : qp_G) (p1 : Int32) (p2 : Int32) (I : Nat → Nat → Int32) (J : Nat → Nat → Int64) {v : Int32} {I' : Nat → Nat → Int32} {J' : Nat → Nat → Int64} (h : fS_get_7 p1 p2 I J = some (v, I', J')) {d : Nat} (hd : 3 ≤ d) : qp_Met l G d 23 [.ref 7, .int p1, .int p2] (qp_mk I J) 0 0 (qp_R8 (some (.int v)) I' J') := by
  have hd1 : Nat.ble 1 d = true := Nat.ble_eq_true_of_le (Nat.le_trans (by decide) hd)
  refine qp_Met_of (by decide) (by rw [qp_r23.2]; rfl) [some (.ref 7), some (.int p1), some (.int p2), none] (by rw [qp_r23.2]; rfl) ?_
  unfold fS_get_7 at h
  refine qp_run_E qp_ok23 10 (c' := (12, [some (.ref 7), some (.int p1), some (.int p2), some (.int ((p1 * (I 7 0)) + p2))], [.int p2, .int p1, .ref 7], qp_mk I J)) (by with_unfolding_all rfl) hd1 trivial ?_
  obtain ⟨v1, I1, J1, e1, h⟩ := qp_bd_s h
  refine qp_cV qp_ok23 (rest := []) (oj := 1) qp_f17 rfl rfl (gS_hasPlace_7 l G p1 p2 I J e1 (Nat.le_refl 2)) rfl rfl rfl rfl (Nat.le_trans (by decide) hd) ?_
  refine qp_br_E qp_ok23 (f := v1 = 0) (ct := (40, [some (.ref 7), some (.int p1), some (.int p2), some (.int ((p1 * (I 7 0)) + p2))], [], qp_mk I1 J1)) (cf := (18, [some (.ref 7), some (.int p1), some (.int p2), some (.int ((p1 * (I 7 0)) + p2))], [], qp_mk I1 J1)) (by with_unfolding_all rfl) (fun h1 => ?_) (fun h1 => ?_)
  · replace h := qp_ift h1 h
    refine qp_run_E qp_ok23 1 (c' := (41, [some (.ref 7), some (.int p1), some (.int p2), some (.int ((p1 * (I 7 0)) + p2))], [.int 0], qp_mk I1 J1)) (by with_unfolding_all rfl) hd1 trivial ?_
    obtain ⟨rfl, rfl, rfl⟩ := qp_some3 h
    exact qp_retI_E qp_ok23 rfl qp_r23.1 ⟨rfl, rfl⟩ ⟨rfl, rfl⟩
  · replace h := qp_iff h1 h
    refine qp_run_E qp_ok23 1 (c' := (19, [some (.ref 7), some (.int p1), some (.int p2), some (.int ((p1 * (I 7 0)) + p2))], [.int ((p1 * (I 7 0)) + p2)], qp_mk I1 J1)) (by with_unfolding_all rfl) hd1 trivial ?_
    refine qp_br_E qp_ok23 (f := ((p1 * (I 7 0)) + p2) < 0) (ct := (40, [some (.ref 7), some (.int p1), some (.int p2), some (.int ((p1 * (I 7 0)) + p2))], [], qp_mk I1 J1)) (cf := (22, [some (.ref 7), some (.int p1), some (.int p2), some (.int ((p1 * (I 7 0)) + p2))], [], qp_mk I1 J1)) (by with_unfolding_all rfl) (fun h2 => ?_) (fun h2 => ?_)
    · replace h := qp_ift h2 h
      refine qp_run_E qp_ok23 1 (c' := (41, [some (.ref 7), some (.int p1), some (.int p2), some (.int ((p1 * (I 7 0)) + p2))], [.int 0], qp_mk I1 J1)) (by with_unfolding_all rfl) hd1 trivial ?_
      obtain ⟨rfl, rfl, rfl⟩ := qp_some3 h
      exact qp_retI_E qp_ok23 rfl qp_r23.1 ⟨rfl, rfl⟩ ⟨rfl, rfl⟩
    · replace h := qp_iff h2 h
      refine qp_run_E qp_ok23 4 (c' := (28, [some (.ref 7), some (.int p1), some (.int p2), some (.int ((p1 * (I 7 0)) + p2))], [.int 120, .int ((p1 * (I 7 0)) + p2)], qp_mk I1 J1)) (by with_unfolding_all rfl) hd1 trivial ?_
      refine qp_br_E qp_ok23 (f := 120 ≤ ((p1 * (I 7 0)) + p2)) (ct := (40, [some (.ref 7), some (.int p1), some (.int p2), some (.int ((p1 * (I 7 0)) + p2))], [], qp_mk I1 J1)) (cf := (31, [some (.ref 7), some (.int p1), some (.int p2), some (.int ((p1 * (I 7 0)) + p2))], [], qp_mk I1 J1)) (by with_unfolding_all rfl) (fun h3 => ?_) (fun h3 => ?_)
      · replace h := qp_ift h3 h
        refine qp_run_E qp_ok23 1 (c' := (41, [some (.ref 7), some (.int p1), some (.int p2), some (.int ((p1 * (I 7 0)) + p2))], [.int 0], qp_mk I1 J1)) (by with_unfolding_all rfl) hd1 trivial ?_
        obtain ⟨rfl, rfl, rfl⟩ := qp_some3 h
        exact qp_retI_E qp_ok23 rfl qp_r23.1 ⟨rfl, rfl⟩ ⟨rfl, rfl⟩
      · replace h := qp_iff h3 h
        obtain ⟨h4, h⟩ := qp_gd_s h
        refine qp_run_E qp_ok23 5 (f := vp_in ((p1 * (I 7 0)) + p2) 120 ∧ True) (c' := (41, [some (.ref 7), some (.int p1), some (.int p2), some (.int ((p1 * (I 7 0)) + p2))], [.int (I1 9 (Int32.toNatClampNeg ((p1 * (I 7 0)) + p2)))], qp_mk I1 J1)) (by with_unfolding_all rfl) hd1 ⟨(qp_vin (c := 120) (by decide) h4.1 h4.2), trivial⟩ ?_
        obtain ⟨rfl, rfl, rfl⟩ := qp_some3 h
        exact qp_retI_E qp_ok23 rfl qp_r23.1 ⟨rfl, rfl⟩ ⟨rfl, rfl⟩
def fX_on_b35  : Nat → Int32 → Int32 → Int32 → (Nat → Nat → Int32) → (Nat → Nat → Int64) → Option (Int32 × (Nat → Nat → Int32) × (Nat → Nat → Int64))
  | 0, _, _, _, _, _ => none
  | n + 1, a1, a3, a4, I, J =>
    if a3 ≤ a4 then (
      some (a3, I, J)
    ) else (
      qp_bd (fS_get_7 a1 a4 I J) fun v1 I1 J1 =>
      qp_bd (fS_get_7 a1 a4 I1 J1) fun v2 I2 J2 =>
      qp_bd (fL_act (v1 / 64) (v2 - v2 / 64 * 64) I2 J2) fun _u I3 J3 =>
      fX_on_b35 n a1 a3 (a4 + 1) I3 J3
    )
set_option maxRecDepth 8000 in
theorem gX_on_b35 {l : Launch} {G : qp_G} {d : Nat} (hd : 6 ≤ d) {r : (Int32 × (Nat → Nat → Int32) × (Nat → Nat → Int64))} {I0 : Nat → Nat → Int32} {J0 : Nat → Nat → Int64}   : ∀ (n : Nat) (a1 : Int32) (a3 : Int32) (a4 : Int32) (I : Nat → Nat → Int32) (J : Nat → Nat → Int64), fX_on_b35  n a1 a3 a4 I J = some r → qp_E l G d 61 (qp_mk I0 J0) 0 0 (qp_R8 (some (.int r.1)) r.2.1 r.2.2) (35, [some (.ref 0), some (.int a1), none, some (.int a3), some (.int a4)], [], qp_mk I J) := by
  have hd1 : Nat.ble 1 d = true := Nat.ble_eq_true_of_le (Nat.le_trans (by decide) hd)
  intro n
  induction n with
  | zero => intro a1 a3 a4 I J h; exact absurd h (by simp [fX_on_b35])
  | succ n ih =>
    intro a1 a3 a4 I J h
    rw [fX_on_b35] at h
    refine qp_run_E qp_ok61 2 (c' := (38, [some (.ref 0), some (.int a1), none, some (.int a3), some (.int a4)], [.int a3, .int a4], qp_mk I J)) (by with_unfolding_all rfl) hd1 trivial ?_
    refine qp_br_E qp_ok61 (f := a3 ≤ a4) (ct := (80, [some (.ref 0), some (.int a1), none, some (.int a3), some (.int a4)], [], qp_mk I J)) (cf := (41, [some (.ref 0), some (.int a1), none, some (.int a3), some (.int a4)], [], qp_mk I J)) (by with_unfolding_all rfl) (fun h1 => ?_) (fun h1 => ?_)
    · replace h := qp_ift h1 h
      refine qp_run_E qp_ok61 1 (c' := (81, [some (.ref 0), some (.int a1), none, some (.int a3), some (.int a4)], [.int a3], qp_mk I J)) (by with_unfolding_all rfl) hd1 trivial ?_
      obtain rfl := Option.some.inj h
      exact qp_retI_E qp_ok61 rfl qp_r61.1 ⟨rfl, rfl⟩ ⟨rfl, rfl⟩
    · replace h := qp_iff h1 h
      refine qp_run_E qp_ok61 6 (c' := (52, [some (.ref 0), some (.int a1), none, some (.int a3), some (.int a4)], [.int a4, .int a1, .ref 7, .ref 14], qp_mk I J)) (by with_unfolding_all rfl) hd1 trivial ?_
      obtain ⟨v1, I1, J1, e1, h⟩ := qp_bd_s h
      refine qp_cV qp_ok61 (rest := [.ref 14]) (oj := 1) qp_f23 rfl rfl (gS_get_7 l G a1 a4 I J e1 (Nat.le_refl 3)) rfl rfl rfl rfl (Nat.le_trans (by decide) hd) ?_
      refine qp_run_E qp_ok61 6 (f := ¬ (64 : Int32) = 0 ∧ True) (c' := (65, [some (.ref 0), some (.int a1), none, some (.int a3), some (.int a4)], [.int a4, .int a1, .ref 7, .int (v1 / 64), .ref 14], qp_mk I1 J1)) (by with_unfolding_all rfl) hd1 ⟨(by decide), trivial⟩ ?_
      obtain ⟨v2, I2, J2, e2, h⟩ := qp_bd_s h
      refine qp_cV qp_ok61 (rest := [.int (v1 / 64), .ref 14]) (oj := 1) qp_f23 rfl rfl (gS_get_7 l G a1 a4 I1 J1 e2 (Nat.le_refl 3)) rfl rfl rfl rfl (Nat.le_trans (by decide) hd) ?_
      refine qp_run_E qp_ok61 2 (f := ¬ (64 : Int32) = 0 ∧ True) (c' := (71, [some (.ref 0), some (.int a1), none, some (.int a3), some (.int a4)], [.int (v2 - v2 / 64 * 64), .int (v1 / 64), .ref 14], qp_mk I2 J2)) (by with_unfolding_all rfl) hd1 ⟨(by decide), trivial⟩ ?_
      obtain ⟨v3, I3, J3, e3, h⟩ := qp_bd_s h
      refine qp_cV qp_ok61 (rest := []) (oj := 4) qp_f48 rfl rfl (gL_act l G (v1 / 64) (v2 - v2 / 64 * 64) I2 J2 e3 (Nat.le_refl 5)) rfl rfl rfl rfl (Nat.le_trans (by decide) hd) ?_
      refine qp_run_E qp_ok61 2 (c' := (35, [some (.ref 0), some (.int a1), none, some (.int a3), some (.int (a4 + 1))], [], qp_mk I3 J3)) (by with_unfolding_all rfl) hd1 trivial ?_
      exact ih a1 a3 (a4 + 1) I3 J3 h
def fX_on (p1 : Int32) (I : Nat → Nat → Int32) (J : Nat → Nat → Int64) : Option (Int32 × (Nat → Nat → Int32) × (Nat → Nat → Int64)) :=
  qp_bd (fX_refusalOf_0_7 p1 I J) fun v1 I1 J1 =>
  if v1 = 0 then (
    qp_bd (fL_restart I1 J1) fun _u I2 J2 =>
    qp_bd (fS_sizeOf_7 p1 I2 J2) fun v3 I3 J3 =>
    fX_on_b35 100000 p1 v3 0 I3 J3
  ) else (
    some (v1, I1, J1)
  )
set_option maxRecDepth 8000 in
theorem gX_on (l : Launch) (G : qp_G) (p1 : Int32) (I : Nat → Nat → Int32) (J : Nat → Nat → Int64) {v : Int32} {I' : Nat → Nat → Int32} {J' : Nat → Nat → Int64} (h : fX_on p1 I J = some (v, I', J')) {d : Nat} (hd : 6 ≤ d) : qp_Met l G d 61 [.ref 0, .int p1] (qp_mk I J) 0 0 (qp_R8 (some (.int v)) I' J') := by
  have hd1 : Nat.ble 1 d = true := Nat.ble_eq_true_of_le (Nat.le_trans (by decide) hd)
  refine qp_Met_of (by decide) (by rw [qp_r61.2]; rfl) [some (.ref 0), some (.int p1), none, none, none] (by rw [qp_r61.2]; rfl) ?_
  unfold fX_on at h
  refine qp_run_E qp_ok61 4 (c' := (6, [some (.ref 0), some (.int p1), none, none, none], [.int p1, .ref 7, .ref 0], qp_mk I J)) (by with_unfolding_all rfl) hd1 trivial ?_
  obtain ⟨v1, I1, J1, e1, h⟩ := qp_bd_s h
  refine qp_cV qp_ok61 (rest := []) (oj := 0) qp_f20 rfl rfl (gX_refusalOf_0_7 l G p1 I J e1 (Nat.le_refl 4)) rfl rfl rfl rfl (Nat.le_trans (by decide) hd) ?_
  refine qp_run_E qp_ok61 2 (c' := (11, [some (.ref 0), some (.int p1), some (.int v1), none, none], [.int v1], qp_mk I1 J1)) (by with_unfolding_all rfl) hd1 trivial ?_
  refine qp_br_E qp_ok61 (f := v1 = 0) (ct := (16, [some (.ref 0), some (.int p1), some (.int v1), none, none], [], qp_mk I1 J1)) (cf := (14, [some (.ref 0), some (.int p1), some (.int v1), none, none], [], qp_mk I1 J1)) (by with_unfolding_all rfl) (fun h1 => ?_) (fun h1 => ?_)
  · replace h := qp_ift h1 h
    refine qp_run_E qp_ok61 2 (c' := (20, [some (.ref 0), some (.int p1), some (.int v1), none, none], [.ref 14], qp_mk I1 J1)) (by with_unfolding_all rfl) hd1 trivial ?_
    obtain ⟨v2, I2, J2, e2, h⟩ := qp_bd_s h
    refine qp_cV qp_ok61 (rest := []) (oj := 4) qp_f38 rfl rfl (gL_restart l G I1 J1 e2 (Nat.le_refl 3)) rfl rfl rfl rfl (Nat.le_trans (by decide) hd) ?_
    refine qp_run_E qp_ok61 3 (c' := (28, [some (.ref 0), some (.int p1), some (.int v1), none, none], [.int p1, .ref 7], qp_mk I2 J2)) (by with_unfolding_all rfl) hd1 trivial ?_
    obtain ⟨v3, I3, J3, e3, h⟩ := qp_bd_s h
    refine qp_cV qp_ok61 (rest := []) (oj := 1) qp_f22 rfl rfl (gS_sizeOf_7 l G p1 I2 J2 e3 (Nat.le_refl 2)) rfl rfl rfl rfl (Nat.le_trans (by decide) hd) ?_
    refine qp_run_E qp_ok61 3 (c' := (35, [some (.ref 0), some (.int p1), some (.int v1), some (.int v3), some (.int 0)], [], qp_mk I3 J3)) (by with_unfolding_all rfl) hd1 trivial ?_
    exact qp_E_fg [true, true, false, true, true] (gX_on_b35 hd 100000 p1 v3 0 I3 J3 h)
  · replace h := qp_iff h1 h
    refine qp_run_E qp_ok61 1 (c' := (15, [some (.ref 0), some (.int p1), some (.int v1), none, none], [.int v1], qp_mk I1 J1)) (by with_unfolding_all rfl) hd1 trivial ?_
    obtain ⟨rfl, rfl, rfl⟩ := qp_some3 h
    exact qp_retI_E qp_ok61 rfl qp_r61.1 ⟨rfl, rfl⟩ ⟨rfl, rfl⟩
def fX_who (p1 : Int32) (I : Nat → Nat → Int32) (J : Nat → Nat → Int64) : Option (Int32 × (Nat → Nat → Int32) × (Nat → Nat → Int64)) :=
  qp_bd (fC_has_15 p1 I J) fun v1 I1 J1 =>
  if v1 = 0 then (
    some ((-1), I1, J1)
  ) else (
    qp_bd (fD_whoAt (I1 14 2) p1 I1 J1) fun v2 I2 J2 =>
    some (v2, I2, J2)
  )
set_option maxRecDepth 8000 in
theorem gX_who (l : Launch) (G : qp_G) (p1 : Int32) (I : Nat → Nat → Int32) (J : Nat → Nat → Int64) {v : Int32} {I' : Nat → Nat → Int32} {J' : Nat → Nat → Int64} (h : fX_who p1 I J = some (v, I', J')) {d : Nat} (hd : 2 ≤ d) : qp_Met l G d 62 [.ref 0, .int p1] (qp_mk I J) 0 0 (qp_R8 (some (.int v)) I' J') := by
  have hd1 : Nat.ble 1 d = true := Nat.ble_eq_true_of_le (Nat.le_trans (by decide) hd)
  refine qp_Met_of (by decide) (by rw [qp_r62.2]; rfl) [some (.ref 0), some (.int p1)] (by rw [qp_r62.2]; rfl) ?_
  unfold fX_who at h
  refine qp_run_E qp_ok62 4 (c' := (8, [some (.ref 0), some (.int p1)], [.int p1, .ref 15], qp_mk I J)) (by with_unfolding_all rfl) hd1 trivial ?_
  obtain ⟨v1, I1, J1, e1, h⟩ := qp_bd_s h
  refine qp_cV qp_ok62 (rest := []) (oj := 3) qp_f43 rfl rfl (gC_has_15 l G p1 I J e1 (Nat.le_refl 1)) rfl rfl rfl rfl (Nat.le_trans (by decide) hd) ?_
  refine qp_br_E qp_ok62 (f := v1 = 0) (ct := (28, [some (.ref 0), some (.int p1)], [], qp_mk I1 J1)) (cf := (14, [some (.ref 0), some (.int p1)], [], qp_mk I1 J1)) (by with_unfolding_all rfl) (fun h1 => ?_) (fun h1 => ?_)
  · replace h := qp_ift h1 h
    refine qp_run_E qp_ok62 1 (c' := (29, [some (.ref 0), some (.int p1)], [.int (-1)], qp_mk I1 J1)) (by with_unfolding_all rfl) hd1 trivial ?_
    obtain ⟨rfl, rfl, rfl⟩ := qp_some3 h
    exact qp_retI_E qp_ok62 rfl qp_r62.1 ⟨rfl, rfl⟩ ⟨rfl, rfl⟩
  · replace h := qp_iff h1 h
    refine qp_run_E qp_ok62 4 (c' := (22, [some (.ref 0), some (.int p1)], [.int p1, .int (I1 14 2)], qp_mk I1 J1)) (by with_unfolding_all rfl) hd1 trivial ?_
    obtain ⟨v2, I2, J2, e2, h⟩ := qp_bd_s h
    refine qp_cS qp_ok62 (rest := []) (oj := 10) qp_f47 rfl rfl (gD_whoAt l G (I1 14 2) p1 I1 J1 e2 (Nat.le_refl 1)) rfl rfl rfl (Nat.le_trans (by decide) hd) ?_
    refine qp_run_E qp_ok62 1 (c' := (29, [some (.ref 0), some (.int p1)], [.int v2], qp_mk I2 J2)) (by with_unfolding_all rfl) hd1 trivial ?_
    obtain ⟨rfl, rfl, rfl⟩ := qp_some3 h
    exact qp_retI_E qp_ok62 rfl qp_r62.1 ⟨rfl, rfl⟩ ⟨rfl, rfl⟩
def fX_wants (p1 : Int32) (p2 : Int32) (I : Nat → Nat → Int32) (J : Nat → Nat → Int64) : Option (Int32 × (Nat → Nat → Int32) × (Nat → Nat → Int64)) :=
  qp_bd (fC_has_15 p1 I J) fun v1 I1 J1 =>
  if v1 = 0 then (
    some ((-1), I1, J1)
  ) else (
    qp_bd (fC_has_15 p2 I1 J1) fun v2 I2 J2 =>
    if ¬ v2 = 0 then (
      qp_bd (fC_kindOf_15 p1 I2 J2) fun v3 I3 J3 =>
      if ¬ p2 = ((I3 15 0) - 1) then (
        qp_bd (fC_wantOf v3 0 I3 J3) fun v4 I4 J4 =>
        some (v4, I4, J4)
      ) else (
        qp_bd (fC_wantOf v3 1 I3 J3) fun v5 I5 J5 =>
        some (v5, I5, J5)
      )
    ) else (
      some ((-1), I2, J2)
    )
  )
set_option maxRecDepth 8000 in
theorem gX_wants (l : Launch) (G : qp_G) (p1 : Int32) (p2 : Int32) (I : Nat → Nat → Int32) (J : Nat → Nat → Int64) {v : Int32} {I' : Nat → Nat → Int32} {J' : Nat → Nat → Int64} (h : fX_wants p1 p2 I J = some (v, I', J')) {d : Nat} (hd : 2 ≤ d) : qp_Met l G d 63 [.ref 0, .int p1, .int p2] (qp_mk I J) 0 0 (qp_R8 (some (.int v)) I' J') := by
  have hd1 : Nat.ble 1 d = true := Nat.ble_eq_true_of_le (Nat.le_trans (by decide) hd)
  refine qp_Met_of (by decide) (by rw [qp_r63.2]; rfl) [some (.ref 0), some (.int p1), some (.int p2)] (by rw [qp_r63.2]; rfl) ?_
  unfold fX_wants at h
  refine qp_run_E qp_ok63 4 (c' := (8, [some (.ref 0), some (.int p1), some (.int p2)], [.int p1, .ref 15], qp_mk I J)) (by with_unfolding_all rfl) hd1 trivial ?_
  obtain ⟨v1, I1, J1, e1, h⟩ := qp_bd_s h
  refine qp_cV qp_ok63 (rest := []) (oj := 3) qp_f43 rfl rfl (gC_has_15 l G p1 I J e1 (Nat.le_refl 1)) rfl rfl rfl rfl (Nat.le_trans (by decide) hd) ?_
  refine qp_br_E qp_ok63 (f := v1 = 0) (ct := (28, [some (.ref 0), some (.int p1), some (.int p2)], [], qp_mk I1 J1)) (cf := (14, [some (.ref 0), some (.int p1), some (.int p2)], [], qp_mk I1 J1)) (by with_unfolding_all rfl) (fun h1 => ?_) (fun h1 => ?_)
  · replace h := qp_ift h1 h
    refine qp_run_E qp_ok63 1 (c' := (29, [some (.ref 0), some (.int p1), some (.int p2)], [.int (-1)], qp_mk I1 J1)) (by with_unfolding_all rfl) hd1 trivial ?_
    obtain ⟨rfl, rfl, rfl⟩ := qp_some3 h
    exact qp_retI_E qp_ok63 rfl qp_r63.1 ⟨rfl, rfl⟩ ⟨rfl, rfl⟩
  · replace h := qp_iff h1 h
    refine qp_run_E qp_ok63 4 (c' := (22, [some (.ref 0), some (.int p1), some (.int p2)], [.int p2, .ref 15], qp_mk I1 J1)) (by with_unfolding_all rfl) hd1 trivial ?_
    obtain ⟨v2, I2, J2, e2, h⟩ := qp_bd_s h
    refine qp_cV qp_ok63 (rest := []) (oj := 3) qp_f43 rfl rfl (gC_has_15 l G p2 I1 J1 e2 (Nat.le_refl 1)) rfl rfl rfl rfl (Nat.le_trans (by decide) hd) ?_
    refine qp_br_E qp_ok63 (f := ¬ v2 = 0) (ct := (30, [some (.ref 0), some (.int p1), some (.int p2)], [], qp_mk I2 J2)) (cf := (28, [some (.ref 0), some (.int p1), some (.int p2)], [], qp_mk I2 J2)) (by with_unfolding_all rfl) (fun h2 => ?_) (fun h2 => ?_)
    · replace h := qp_ift h2 h
      refine qp_run_E qp_ok63 4 (c' := (38, [some (.ref 0), some (.int p1), some (.int p2)], [.int p1, .ref 15], qp_mk I2 J2)) (by with_unfolding_all rfl) hd1 trivial ?_
      obtain ⟨v3, I3, J3, e3, h⟩ := qp_bd_s h
      refine qp_cV qp_ok63 (rest := []) (oj := 3) qp_f36 rfl rfl (gC_kindOf_15 l G p1 I2 J2 e3 (Nat.le_refl 1)) rfl rfl rfl rfl (Nat.le_trans (by decide) hd) ?_
      refine qp_run_E qp_ok63 7 (c' := (54, [some (.ref 0), some (.int p1), some (.int p2)], [.int ((I3 15 0) - 1), .int p2, .int v3], qp_mk I3 J3)) (by with_unfolding_all rfl) hd1 trivial ?_
      refine qp_br_E qp_ok63 (f := ¬ p2 = ((I3 15 0) - 1)) (ct := (61, [some (.ref 0), some (.int p1), some (.int p2)], [.int v3], qp_mk I3 J3)) (cf := (57, [some (.ref 0), some (.int p1), some (.int p2)], [.int v3], qp_mk I3 J3)) (by with_unfolding_all rfl) (fun h3 => ?_) (fun h3 => ?_)
      · replace h := qp_ift h3 h
        refine qp_run_E qp_ok63 1 (c' := (62, [some (.ref 0), some (.int p1), some (.int p2)], [.int 0, .int v3], qp_mk I3 J3)) (by with_unfolding_all rfl) hd1 trivial ?_
        obtain ⟨v4, I4, J4, e4, h⟩ := qp_bd_s h
        refine qp_cS qp_ok63 (rest := []) (oj := 3) qp_f64 rfl rfl (gC_wantOf l G v3 0 I3 J3 e4 (Nat.le_refl 1)) rfl rfl rfl (Nat.le_trans (by decide) hd) ?_
        obtain ⟨rfl, rfl, rfl⟩ := qp_some3 h
        exact qp_retI_E qp_ok63 rfl qp_r63.1 ⟨rfl, rfl⟩ ⟨rfl, rfl⟩
      · replace h := qp_iff h3 h
        refine qp_run_E qp_ok63 2 (c' := (62, [some (.ref 0), some (.int p1), some (.int p2)], [.int 1, .int v3], qp_mk I3 J3)) (by with_unfolding_all rfl) hd1 trivial ?_
        obtain ⟨v5, I5, J5, e5, h⟩ := qp_bd_s h
        refine qp_cS qp_ok63 (rest := []) (oj := 3) qp_f64 rfl rfl (gC_wantOf l G v3 1 I3 J3 e5 (Nat.le_refl 1)) rfl rfl rfl (Nat.le_trans (by decide) hd) ?_
        obtain ⟨rfl, rfl, rfl⟩ := qp_some3 h
        exact qp_retI_E qp_ok63 rfl qp_r63.1 ⟨rfl, rfl⟩ ⟨rfl, rfl⟩
    · replace h := qp_iff h2 h
      refine qp_run_E qp_ok63 1 (c' := (29, [some (.ref 0), some (.int p1), some (.int p2)], [.int (-1)], qp_mk I2 J2)) (by with_unfolding_all rfl) hd1 trivial ?_
      obtain ⟨rfl, rfl, rfl⟩ := qp_some3 h
      exact qp_retI_E qp_ok63 rfl qp_r63.1 ⟨rfl, rfl⟩ ⟨rfl, rfl⟩
def fL_gainAt (p1 : Int32) (p2 : Int32) (I : Nat → Nat → Int32) (J : Nat → Nat → Int64) : Option (Int32 × (Nat → Nat → Int32) × (Nat → Nat → Int64)) :=
  qp_bd (fD_by (I 14 2) (I 15 0) (((8 : Int32) * p1) + p2) I J) fun v1 I1 J1 =>
  qp_bd (fL_serve v1 I1 J1) fun _u I2 J2 =>
  qp_bd (fV_gainOf p1 I2 J2) fun v3 I3 J3 =>
  some (v3, I3, J3)
set_option maxRecDepth 8000 in
theorem gL_gainAt (l : Launch) (G : qp_G) (p1 : Int32) (p2 : Int32) (I : Nat → Nat → Int32) (J : Nat → Nat → Int64) {v : Int32} {I' : Nat → Nat → Int32} {J' : Nat → Nat → Int64} (h : fL_gainAt p1 p2 I J = some (v, I', J')) {d : Nat} (hd : 5 ≤ d) : qp_Met l G d 66 [.ref 14, .int p1, .int p2] (qp_mk I J) 0 0 (qp_R8 (some (.int v)) I' J') := by
  have hd1 : Nat.ble 1 d = true := Nat.ble_eq_true_of_le (Nat.le_trans (by decide) hd)
  refine qp_Met_of (by decide) (by rw [qp_r66.2]; rfl) [some (.ref 14), some (.int p1), some (.int p2)] (by rw [qp_r66.2]; rfl) ?_
  unfold fL_gainAt at h
  refine qp_run_E qp_ok66 11 (c' := (18, [some (.ref 14), some (.int p1), some (.int p2)], [.int (((8 : Int32) * p1) + p2), .int (I 15 0), .int (I 14 2), .ref 14], qp_mk I J)) (by with_unfolding_all rfl) hd1 trivial ?_
  obtain ⟨v1, I1, J1, e1, h⟩ := qp_bd_s h
  refine qp_cS qp_ok66 (rest := [.ref 14]) (oj := 10) qp_f50 rfl rfl (gD_by l G (I 14 2) (I 15 0) (((8 : Int32) * p1) + p2) I J e1 (Nat.le_refl 3)) rfl rfl rfl (Nat.le_trans (by decide) hd) ?_
  obtain ⟨v2, I2, J2, e2, h⟩ := qp_bd_s h
  refine qp_cV qp_ok66 (rest := []) (oj := 4) qp_f67 rfl rfl (gL_serve l G v1 I1 J1 e2 (Nat.le_refl 4)) rfl rfl rfl rfl (Nat.le_trans (by decide) hd) ?_
  refine qp_run_E qp_ok66 3 (c' := (29, [some (.ref 14), some (.int p1), some (.int p2)], [.int p1, .ref 18], qp_mk I2 J2)) (by with_unfolding_all rfl) hd1 trivial ?_
  obtain ⟨v3, I3, J3, e3, h⟩ := qp_bd_s h
  refine qp_cV qp_ok66 (rest := []) (oj := 5) qp_f72 rfl rfl (gV_gainOf l G p1 I2 J2 e3 (Nat.le_refl 1)) rfl rfl rfl rfl (Nat.le_trans (by decide) hd) ?_
  obtain ⟨rfl, rfl, rfl⟩ := qp_some3 h
  exact qp_retI_E qp_ok66 rfl qp_r66.1 ⟨rfl, rfl⟩ ⟨rfl, rfl⟩
def fX_gets (p1 : Int32) (p2 : Int32) (I : Nat → Nat → Int32) (J : Nat → Nat → Int64) : Option (Int32 × (Nat → Nat → Int32) × (Nat → Nat → Int64)) :=
  qp_bd (fC_has_15 p1 I J) fun v1 I1 J1 =>
  if v1 = 0 then (
    some ((-1), I1, J1)
  ) else (
    qp_bd (fC_has_15 p2 I1 J1) fun v2 I2 J2 =>
    if ¬ v2 = 0 then (
      qp_bd (fL_gainAt p1 p2 I2 J2) fun v3 I3 J3 =>
      some (v3, I3, J3)
    ) else (
      some ((-1), I2, J2)
    )
  )
set_option maxRecDepth 8000 in
theorem gX_gets (l : Launch) (G : qp_G) (p1 : Int32) (p2 : Int32) (I : Nat → Nat → Int32) (J : Nat → Nat → Int64) {v : Int32} {I' : Nat → Nat → Int32} {J' : Nat → Nat → Int64} (h : fX_gets p1 p2 I J = some (v, I', J')) {d : Nat} (hd : 6 ≤ d) : qp_Met l G d 65 [.ref 0, .int p1, .int p2] (qp_mk I J) 0 0 (qp_R8 (some (.int v)) I' J') := by
  have hd1 : Nat.ble 1 d = true := Nat.ble_eq_true_of_le (Nat.le_trans (by decide) hd)
  refine qp_Met_of (by decide) (by rw [qp_r65.2]; rfl) [some (.ref 0), some (.int p1), some (.int p2)] (by rw [qp_r65.2]; rfl) ?_
  unfold fX_gets at h
  refine qp_run_E qp_ok65 4 (c' := (8, [some (.ref 0), some (.int p1), some (.int p2)], [.int p1, .ref 15], qp_mk I J)) (by with_unfolding_all rfl) hd1 trivial ?_
  obtain ⟨v1, I1, J1, e1, h⟩ := qp_bd_s h
  refine qp_cV qp_ok65 (rest := []) (oj := 3) qp_f43 rfl rfl (gC_has_15 l G p1 I J e1 (Nat.le_refl 1)) rfl rfl rfl rfl (Nat.le_trans (by decide) hd) ?_
  refine qp_br_E qp_ok65 (f := v1 = 0) (ct := (28, [some (.ref 0), some (.int p1), some (.int p2)], [], qp_mk I1 J1)) (cf := (14, [some (.ref 0), some (.int p1), some (.int p2)], [], qp_mk I1 J1)) (by with_unfolding_all rfl) (fun h1 => ?_) (fun h1 => ?_)
  · replace h := qp_ift h1 h
    refine qp_run_E qp_ok65 1 (c' := (29, [some (.ref 0), some (.int p1), some (.int p2)], [.int (-1)], qp_mk I1 J1)) (by with_unfolding_all rfl) hd1 trivial ?_
    obtain ⟨rfl, rfl, rfl⟩ := qp_some3 h
    exact qp_retI_E qp_ok65 rfl qp_r65.1 ⟨rfl, rfl⟩ ⟨rfl, rfl⟩
  · replace h := qp_iff h1 h
    refine qp_run_E qp_ok65 4 (c' := (22, [some (.ref 0), some (.int p1), some (.int p2)], [.int p2, .ref 15], qp_mk I1 J1)) (by with_unfolding_all rfl) hd1 trivial ?_
    obtain ⟨v2, I2, J2, e2, h⟩ := qp_bd_s h
    refine qp_cV qp_ok65 (rest := []) (oj := 3) qp_f43 rfl rfl (gC_has_15 l G p2 I1 J1 e2 (Nat.le_refl 1)) rfl rfl rfl rfl (Nat.le_trans (by decide) hd) ?_
    refine qp_br_E qp_ok65 (f := ¬ v2 = 0) (ct := (30, [some (.ref 0), some (.int p1), some (.int p2)], [], qp_mk I2 J2)) (cf := (28, [some (.ref 0), some (.int p1), some (.int p2)], [], qp_mk I2 J2)) (by with_unfolding_all rfl) (fun h2 => ?_) (fun h2 => ?_)
    · replace h := qp_ift h2 h
      refine qp_run_E qp_ok65 4 (c' := (36, [some (.ref 0), some (.int p1), some (.int p2)], [.int p2, .int p1, .ref 14], qp_mk I2 J2)) (by with_unfolding_all rfl) hd1 trivial ?_
      obtain ⟨v3, I3, J3, e3, h⟩ := qp_bd_s h
      refine qp_cV qp_ok65 (rest := []) (oj := 4) qp_f66 rfl rfl (gL_gainAt l G p1 p2 I2 J2 e3 (Nat.le_refl 5)) rfl rfl rfl rfl (Nat.le_trans (by decide) hd) ?_
      obtain ⟨rfl, rfl, rfl⟩ := qp_some3 h
      exact qp_retI_E qp_ok65 rfl qp_r65.1 ⟨rfl, rfl⟩ ⟨rfl, rfl⟩
    · replace h := qp_iff h2 h
      refine qp_run_E qp_ok65 1 (c' := (29, [some (.ref 0), some (.int p1), some (.int p2)], [.int (-1)], qp_mk I2 J2)) (by with_unfolding_all rfl) hd1 trivial ?_
      obtain ⟨rfl, rfl, rfl⟩ := qp_some3 h
      exact qp_retI_E qp_ok65 rfl qp_r65.1 ⟨rfl, rfl⟩ ⟨rfl, rfl⟩
def fX_best_b31  : Nat → Int32 → Int32 → Int32 → Int32 → (Nat → Nat → Int32) → (Nat → Nat → Int64) → Option (Int32 × (Nat → Nat → Int32) × (Nat → Nat → Int64))
  | 0, _, _, _, _, _, _ => none
  | n + 1, a1, a2, a3, a4, I, J =>
    if (I 15 0) ≤ a4 then (
      qp_bd (fX_tell a3 I J) fun v1 I1 J1 =>
      some (a2, I1, J1)
    ) else (
      qp_bd (fL_gainAt a1 a4 I J) fun v2 I2 J2 =>
      if v2 ≤ a3 then (
        fX_best_b31 n a1 a2 a3 (a4 + 1) I2 J2
      ) else (
        fX_best_b31 n a1 a4 v2 (a4 + 1) I2 J2
      )
    )
set_option maxRecDepth 8000 in
theorem gX_best_b31 {l : Launch} {G : qp_G} {d : Nat} (hd : 6 ≤ d) {r : (Int32 × (Nat → Nat → Int32) × (Nat → Nat → Int64))} {I0 : Nat → Nat → Int32} {J0 : Nat → Nat → Int64}   : ∀ (n : Nat) (a1 : Int32) (a2 : Int32) (a3 : Int32) (a4 : Int32) (I : Nat → Nat → Int32) (J : Nat → Nat → Int64), fX_best_b31  n a1 a2 a3 a4 I J = some r → qp_E l G d 73 (qp_mk I0 J0) 0 0 (qp_R8 (some (.int r.1)) r.2.1 r.2.2) (31, [some (.ref 0), some (.int a1), some (.int a2), some (.int a3), some (.int a4), none], [], qp_mk I J) := by
  have hd1 : Nat.ble 1 d = true := Nat.ble_eq_true_of_le (Nat.le_trans (by decide) hd)
  intro n
  induction n with
  | zero => intro a1 a2 a3 a4 I J h; exact absurd h (by simp [fX_best_b31])
  | succ n ih =>
    intro a1 a2 a3 a4 I J h
    rw [fX_best_b31] at h
    refine qp_run_E qp_ok73 5 (c' := (43, [some (.ref 0), some (.int a1), some (.int a2), some (.int a3), some (.int a4), none], [.int (I 15 0), .int a4], qp_mk I J)) (by with_unfolding_all rfl) hd1 trivial ?_
    refine qp_br_E qp_ok73 (f := (I 15 0) ≤ a4) (ct := (76, [some (.ref 0), some (.int a1), some (.int a2), some (.int a3), some (.int a4), none], [], qp_mk I J)) (cf := (46, [some (.ref 0), some (.int a1), some (.int a2), some (.int a3), some (.int a4), none], [], qp_mk I J)) (by with_unfolding_all rfl) (fun h1 => ?_) (fun h1 => ?_)
    · replace h := qp_ift h1 h
      refine qp_run_E qp_ok73 2 (c' := (78, [some (.ref 0), some (.int a1), some (.int a2), some (.int a3), some (.int a4), none], [.int a3, .ref 0], qp_mk I J)) (by with_unfolding_all rfl) hd1 trivial ?_
      obtain ⟨v1, I1, J1, e1, h⟩ := qp_bd_s h
      refine qp_cV qp_ok73 (rest := []) (oj := 0) qp_f24 rfl rfl (gX_tell l G a3 I J e1 (Nat.le_refl 1)) rfl rfl rfl rfl (Nat.le_trans (by decide) hd) ?_
      refine qp_run_E qp_ok73 2 (c' := (83, [some (.ref 0), some (.int a1), some (.int a2), some (.int a3), some (.int a4), none], [.int a2], qp_mk I1 J1)) (by with_unfolding_all rfl) hd1 trivial ?_
      obtain rfl := Option.some.inj h
      exact qp_retI_E qp_ok73 rfl qp_r73.1 ⟨rfl, rfl⟩ ⟨rfl, rfl⟩
    · replace h := qp_iff h1 h
      refine qp_run_E qp_ok73 4 (c' := (53, [some (.ref 0), some (.int a1), some (.int a2), some (.int a3), some (.int a4), none], [.int a4, .int a1, .ref 14], qp_mk I J)) (by with_unfolding_all rfl) hd1 trivial ?_
      obtain ⟨v2, I2, J2, e2, h⟩ := qp_bd_s h
      refine qp_cV qp_ok73 (rest := []) (oj := 4) qp_f66 rfl rfl (gL_gainAt l G a1 a4 I J e2 (Nat.le_refl 5)) rfl rfl rfl rfl (Nat.le_trans (by decide) hd) ?_
      refine qp_run_E qp_ok73 3 (c' := (61, [some (.ref 0), some (.int a1), some (.int a2), some (.int a3), some (.int a4), some (.int v2)], [.int a3, .int v2], qp_mk I2 J2)) (by with_unfolding_all rfl) hd1 trivial ?_
      refine qp_br_E qp_ok73 (f := v2 ≤ a3) (ct := (70, [some (.ref 0), some (.int a1), some (.int a2), some (.int a3), some (.int a4), some (.int v2)], [], qp_mk I2 J2)) (cf := (64, [some (.ref 0), some (.int a1), some (.int a2), some (.int a3), some (.int a4), some (.int v2)], [], qp_mk I2 J2)) (by with_unfolding_all rfl) (fun h2 => ?_) (fun h2 => ?_)
      · replace h := qp_ift h2 h
        refine qp_run_E qp_ok73 2 (c' := (31, [some (.ref 0), some (.int a1), some (.int a2), some (.int a3), some (.int (a4 + 1)), some (.int v2)], [], qp_mk I2 J2)) (by with_unfolding_all rfl) hd1 trivial ?_
        exact qp_E_fg [true, true, true, true, true, false] (ih a1 a2 a3 (a4 + 1) I2 J2 h)
      · replace h := qp_iff h2 h
        refine qp_run_E qp_ok73 6 (c' := (31, [some (.ref 0), some (.int a1), some (.int a4), some (.int v2), some (.int (a4 + 1)), some (.int v2)], [], qp_mk I2 J2)) (by with_unfolding_all rfl) hd1 trivial ?_
        exact qp_E_fg [true, true, true, true, true, false] (ih a1 a4 v2 (a4 + 1) I2 J2 h)
def fX_best (p1 : Int32) (I : Nat → Nat → Int32) (J : Nat → Nat → Int64) : Option (Int32 × (Nat → Nat → Int32) × (Nat → Nat → Int64)) :=
  qp_bd (fC_has_15 p1 I J) fun v1 I1 J1 =>
  if ¬ v1 = 0 then (
    qp_bd (fL_gainAt p1 0 I1 J1) fun v2 I2 J2 =>
    fX_best_b31 100000 p1 0 v2 1 I2 J2
  ) else (
    some ((-1), I1, J1)
  )
set_option maxRecDepth 8000 in
theorem gX_best (l : Launch) (G : qp_G) (p1 : Int32) (I : Nat → Nat → Int32) (J : Nat → Nat → Int64) {v : Int32} {I' : Nat → Nat → Int32} {J' : Nat → Nat → Int64} (h : fX_best p1 I J = some (v, I', J')) {d : Nat} (hd : 6 ≤ d) : qp_Met l G d 73 [.ref 0, .int p1] (qp_mk I J) 0 0 (qp_R8 (some (.int v)) I' J') := by
  have hd1 : Nat.ble 1 d = true := Nat.ble_eq_true_of_le (Nat.le_trans (by decide) hd)
  refine qp_Met_of (by decide) (by rw [qp_r73.2]; rfl) [some (.ref 0), some (.int p1), none, none, none, none] (by rw [qp_r73.2]; rfl) ?_
  unfold fX_best at h
  refine qp_run_E qp_ok73 4 (c' := (8, [some (.ref 0), some (.int p1), none, none, none, none], [.int p1, .ref 15], qp_mk I J)) (by with_unfolding_all rfl) hd1 trivial ?_
  obtain ⟨v1, I1, J1, e1, h⟩ := qp_bd_s h
  refine qp_cV qp_ok73 (rest := []) (oj := 3) qp_f43 rfl rfl (gC_has_15 l G p1 I J e1 (Nat.le_refl 1)) rfl rfl rfl rfl (Nat.le_trans (by decide) hd) ?_
  refine qp_br_E qp_ok73 (f := ¬ v1 = 0) (ct := (16, [some (.ref 0), some (.int p1), none, none, none, none], [], qp_mk I1 J1)) (cf := (14, [some (.ref 0), some (.int p1), none, none, none, none], [], qp_mk I1 J1)) (by with_unfolding_all rfl) (fun h1 => ?_) (fun h1 => ?_)
  · replace h := qp_ift h1 h
    refine qp_run_E qp_ok73 6 (c' := (24, [some (.ref 0), some (.int p1), some (.int 0), none, none, none], [.int 0, .int p1, .ref 14], qp_mk I1 J1)) (by with_unfolding_all rfl) hd1 trivial ?_
    obtain ⟨v2, I2, J2, e2, h⟩ := qp_bd_s h
    refine qp_cV qp_ok73 (rest := []) (oj := 4) qp_f66 rfl rfl (gL_gainAt l G p1 0 I1 J1 e2 (Nat.le_refl 5)) rfl rfl rfl rfl (Nat.le_trans (by decide) hd) ?_
    refine qp_run_E qp_ok73 3 (c' := (31, [some (.ref 0), some (.int p1), some (.int 0), some (.int v2), some (.int 1), none], [], qp_mk I2 J2)) (by with_unfolding_all rfl) hd1 trivial ?_
    exact gX_best_b31 hd 100000 p1 0 v2 1 I2 J2 h
  · replace h := qp_iff h1 h
    refine qp_run_E qp_ok73 1 (c' := (15, [some (.ref 0), some (.int p1), none, none, none, none], [.int (-1)], qp_mk I1 J1)) (by with_unfolding_all rfl) hd1 trivial ?_
    obtain ⟨rfl, rfl, rfl⟩ := qp_some3 h
    exact qp_retI_E qp_ok73 rfl qp_r73.1 ⟨rfl, rfl⟩ ⟨rfl, rfl⟩
def fX_falls (p1 : Int32) (I : Nat → Nat → Int32) (J : Nat → Nat → Int64) : Option (Int32 × (Nat → Nat → Int32) × (Nat → Nat → Int64)) :=
  qp_bd (fL_hasTicket p1 I J) fun v1 I1 J1 =>
  if v1 = 0 then (
    some ((-1), I1, J1)
  ) else (
    qp_bd (fL_without p1 0 I1 J1) fun v2 I2 J2 =>
    some (v2, I2, J2)
  )
set_option maxRecDepth 8000 in
theorem gX_falls (l : Launch) (G : qp_G) (p1 : Int32) (I : Nat → Nat → Int32) (J : Nat → Nat → Int64) {v : Int32} {I' : Nat → Nat → Int32} {J' : Nat → Nat → Int64} (h : fX_falls p1 I J = some (v, I', J')) {d : Nat} (hd : 5 ≤ d) : qp_Met l G d 74 [.ref 0, .int p1] (qp_mk I J) 0 0 (qp_R8 (some (.int v)) I' J') := by
  have hd1 : Nat.ble 1 d = true := Nat.ble_eq_true_of_le (Nat.le_trans (by decide) hd)
  refine qp_Met_of (by decide) (by rw [qp_r74.2]; rfl) [some (.ref 0), some (.int p1)] (by rw [qp_r74.2]; rfl) ?_
  unfold fX_falls at h
  refine qp_run_E qp_ok74 3 (c' := (5, [some (.ref 0), some (.int p1)], [.int p1, .ref 14], qp_mk I J)) (by with_unfolding_all rfl) hd1 trivial ?_
  obtain ⟨v1, I1, J1, e1, h⟩ := qp_bd_s h
  refine qp_cV qp_ok74 (rest := []) (oj := 4) qp_f55 rfl rfl (gL_hasTicket l G p1 I J e1 (Nat.le_refl 1)) rfl rfl rfl rfl (Nat.le_trans (by decide) hd) ?_
  refine qp_br_E qp_ok74 (f := v1 = 0) (ct := (23, [some (.ref 0), some (.int p1)], [], qp_mk I1 J1)) (cf := (11, [some (.ref 0), some (.int p1)], [], qp_mk I1 J1)) (by with_unfolding_all rfl) (fun h1 => ?_) (fun h1 => ?_)
  · replace h := qp_ift h1 h
    refine qp_run_E qp_ok74 1 (c' := (24, [some (.ref 0), some (.int p1)], [.int (-1)], qp_mk I1 J1)) (by with_unfolding_all rfl) hd1 trivial ?_
    obtain ⟨rfl, rfl, rfl⟩ := qp_some3 h
    exact qp_retI_E qp_ok74 rfl qp_r74.1 ⟨rfl, rfl⟩ ⟨rfl, rfl⟩
  · replace h := qp_iff h1 h
    refine qp_run_E qp_ok74 4 (c' := (17, [some (.ref 0), some (.int p1)], [.int 0, .int p1, .ref 14], qp_mk I1 J1)) (by with_unfolding_all rfl) hd1 trivial ?_
    obtain ⟨v2, I2, J2, e2, h⟩ := qp_bd_s h
    refine qp_cV qp_ok74 (rest := []) (oj := 4) qp_f53 rfl rfl (gL_without l G p1 0 I1 J1 e2 (Nat.le_refl 4)) rfl rfl rfl rfl (Nat.le_trans (by decide) hd) ?_
    refine qp_run_E qp_ok74 1 (c' := (24, [some (.ref 0), some (.int p1)], [.int v2], qp_mk I2 J2)) (by with_unfolding_all rfl) hd1 trivial ?_
    obtain ⟨rfl, rfl, rfl⟩ := qp_some3 h
    exact qp_retI_E qp_ok74 rfl qp_r74.1 ⟨rfl, rfl⟩ ⟨rfl, rfl⟩
def fJ_bitCount (p0 : Int32) (I : Nat → Nat → Int32) (J : Nat → Nat → Int64) : Option (Int32 × (Nat → Nat → Int32) × (Nat → Nat → Int64)) :=
  some (((((((((p0 - (((p0.toUInt32 >>> ((1 : Int32).toUInt32 &&& Int32.toUInt32 31)).toInt32) &&& 1431655765)) &&& 858993459) + ((((p0 - (((p0.toUInt32 >>> ((1 : Int32).toUInt32 &&& Int32.toUInt32 31)).toInt32) &&& 1431655765)).toUInt32 >>> ((2 : Int32).toUInt32 &&& Int32.toUInt32 31)).toInt32) &&& 858993459)) + (((((p0 - (((p0.toUInt32 >>> ((1 : Int32).toUInt32 &&& Int32.toUInt32 31)).toInt32) &&& 1431655765)) &&& 858993459) + ((((p0 - (((p0.toUInt32 >>> ((1 : Int32).toUInt32 &&& Int32.toUInt32 31)).toInt32) &&& 1431655765)).toUInt32 >>> ((2 : Int32).toUInt32 &&& Int32.toUInt32 31)).toInt32) &&& 858993459)).toUInt32 >>> ((4 : Int32).toUInt32 &&& Int32.toUInt32 31)).toInt32)) &&& 252645135) + (((((((p0 - (((p0.toUInt32 >>> ((1 : Int32).toUInt32 &&& Int32.toUInt32 31)).toInt32) &&& 1431655765)) &&& 858993459) + ((((p0 - (((p0.toUInt32 >>> ((1 : Int32).toUInt32 &&& Int32.toUInt32 31)).toInt32) &&& 1431655765)).toUInt32 >>> ((2 : Int32).toUInt32 &&& Int32.toUInt32 31)).toInt32) &&& 858993459)) + (((((p0 - (((p0.toUInt32 >>> ((1 : Int32).toUInt32 &&& Int32.toUInt32 31)).toInt32) &&& 1431655765)) &&& 858993459) + ((((p0 - (((p0.toUInt32 >>> ((1 : Int32).toUInt32 &&& Int32.toUInt32 31)).toInt32) &&& 1431655765)).toUInt32 >>> ((2 : Int32).toUInt32 &&& Int32.toUInt32 31)).toInt32) &&& 858993459)).toUInt32 >>> ((4 : Int32).toUInt32 &&& Int32.toUInt32 31)).toInt32)) &&& 252645135).toUInt32 >>> ((8 : Int32).toUInt32 &&& Int32.toUInt32 31)).toInt32)) + ((((((((p0 - (((p0.toUInt32 >>> ((1 : Int32).toUInt32 &&& Int32.toUInt32 31)).toInt32) &&& 1431655765)) &&& 858993459) + ((((p0 - (((p0.toUInt32 >>> ((1 : Int32).toUInt32 &&& Int32.toUInt32 31)).toInt32) &&& 1431655765)).toUInt32 >>> ((2 : Int32).toUInt32 &&& Int32.toUInt32 31)).toInt32) &&& 858993459)) + (((((p0 - (((p0.toUInt32 >>> ((1 : Int32).toUInt32 &&& Int32.toUInt32 31)).toInt32) &&& 1431655765)) &&& 858993459) + ((((p0 - (((p0.toUInt32 >>> ((1 : Int32).toUInt32 &&& Int32.toUInt32 31)).toInt32) &&& 1431655765)).toUInt32 >>> ((2 : Int32).toUInt32 &&& Int32.toUInt32 31)).toInt32) &&& 858993459)).toUInt32 >>> ((4 : Int32).toUInt32 &&& Int32.toUInt32 31)).toInt32)) &&& 252645135) + (((((((p0 - (((p0.toUInt32 >>> ((1 : Int32).toUInt32 &&& Int32.toUInt32 31)).toInt32) &&& 1431655765)) &&& 858993459) + ((((p0 - (((p0.toUInt32 >>> ((1 : Int32).toUInt32 &&& Int32.toUInt32 31)).toInt32) &&& 1431655765)).toUInt32 >>> ((2 : Int32).toUInt32 &&& Int32.toUInt32 31)).toInt32) &&& 858993459)) + (((((p0 - (((p0.toUInt32 >>> ((1 : Int32).toUInt32 &&& Int32.toUInt32 31)).toInt32) &&& 1431655765)) &&& 858993459) + ((((p0 - (((p0.toUInt32 >>> ((1 : Int32).toUInt32 &&& Int32.toUInt32 31)).toInt32) &&& 1431655765)).toUInt32 >>> ((2 : Int32).toUInt32 &&& Int32.toUInt32 31)).toInt32) &&& 858993459)).toUInt32 >>> ((4 : Int32).toUInt32 &&& Int32.toUInt32 31)).toInt32)) &&& 252645135).toUInt32 >>> ((8 : Int32).toUInt32 &&& Int32.toUInt32 31)).toInt32)).toUInt32 >>> ((16 : Int32).toUInt32 &&& Int32.toUInt32 31)).toInt32)) &&& 63), I, J)
set_option maxRecDepth 8000 in
theorem gJ_bitCount (l : Launch) (G : qp_G) (p0 : Int32) (I : Nat → Nat → Int32) (J : Nat → Nat → Int64) {v : Int32} {I' : Nat → Nat → Int32} {J' : Nat → Nat → Int64} (h : fJ_bitCount p0 I J = some (v, I', J')) {d : Nat} (hd : 1 ≤ d) : qp_Met l G d 79 [.int p0] (qp_mk I J) 0 0 (qp_R8 (some (.int v)) I' J') := by
  have hd1 : Nat.ble 1 d = true := Nat.ble_eq_true_of_le (Nat.le_trans (by decide) hd)
  refine qp_Met_of (by decide) (by rw [qp_r79.2]; rfl) [some (.int p0)] (by rw [qp_r79.2]; rfl) ?_
  unfold fJ_bitCount at h
  refine qp_run_E qp_ok79 41 (c' := (52, [some (.int (((((((p0 - (((p0.toUInt32 >>> ((1 : Int32).toUInt32 &&& Int32.toUInt32 31)).toInt32) &&& 1431655765)) &&& 858993459) + ((((p0 - (((p0.toUInt32 >>> ((1 : Int32).toUInt32 &&& Int32.toUInt32 31)).toInt32) &&& 1431655765)).toUInt32 >>> ((2 : Int32).toUInt32 &&& Int32.toUInt32 31)).toInt32) &&& 858993459)) + (((((p0 - (((p0.toUInt32 >>> ((1 : Int32).toUInt32 &&& Int32.toUInt32 31)).toInt32) &&& 1431655765)) &&& 858993459) + ((((p0 - (((p0.toUInt32 >>> ((1 : Int32).toUInt32 &&& Int32.toUInt32 31)).toInt32) &&& 1431655765)).toUInt32 >>> ((2 : Int32).toUInt32 &&& Int32.toUInt32 31)).toInt32) &&& 858993459)).toUInt32 >>> ((4 : Int32).toUInt32 &&& Int32.toUInt32 31)).toInt32)) &&& 252645135) + (((((((p0 - (((p0.toUInt32 >>> ((1 : Int32).toUInt32 &&& Int32.toUInt32 31)).toInt32) &&& 1431655765)) &&& 858993459) + ((((p0 - (((p0.toUInt32 >>> ((1 : Int32).toUInt32 &&& Int32.toUInt32 31)).toInt32) &&& 1431655765)).toUInt32 >>> ((2 : Int32).toUInt32 &&& Int32.toUInt32 31)).toInt32) &&& 858993459)) + (((((p0 - (((p0.toUInt32 >>> ((1 : Int32).toUInt32 &&& Int32.toUInt32 31)).toInt32) &&& 1431655765)) &&& 858993459) + ((((p0 - (((p0.toUInt32 >>> ((1 : Int32).toUInt32 &&& Int32.toUInt32 31)).toInt32) &&& 1431655765)).toUInt32 >>> ((2 : Int32).toUInt32 &&& Int32.toUInt32 31)).toInt32) &&& 858993459)).toUInt32 >>> ((4 : Int32).toUInt32 &&& Int32.toUInt32 31)).toInt32)) &&& 252645135).toUInt32 >>> ((8 : Int32).toUInt32 &&& Int32.toUInt32 31)).toInt32)) + ((((((((p0 - (((p0.toUInt32 >>> ((1 : Int32).toUInt32 &&& Int32.toUInt32 31)).toInt32) &&& 1431655765)) &&& 858993459) + ((((p0 - (((p0.toUInt32 >>> ((1 : Int32).toUInt32 &&& Int32.toUInt32 31)).toInt32) &&& 1431655765)).toUInt32 >>> ((2 : Int32).toUInt32 &&& Int32.toUInt32 31)).toInt32) &&& 858993459)) + (((((p0 - (((p0.toUInt32 >>> ((1 : Int32).toUInt32 &&& Int32.toUInt32 31)).toInt32) &&& 1431655765)) &&& 858993459) + ((((p0 - (((p0.toUInt32 >>> ((1 : Int32).toUInt32 &&& Int32.toUInt32 31)).toInt32) &&& 1431655765)).toUInt32 >>> ((2 : Int32).toUInt32 &&& Int32.toUInt32 31)).toInt32) &&& 858993459)).toUInt32 >>> ((4 : Int32).toUInt32 &&& Int32.toUInt32 31)).toInt32)) &&& 252645135) + (((((((p0 - (((p0.toUInt32 >>> ((1 : Int32).toUInt32 &&& Int32.toUInt32 31)).toInt32) &&& 1431655765)) &&& 858993459) + ((((p0 - (((p0.toUInt32 >>> ((1 : Int32).toUInt32 &&& Int32.toUInt32 31)).toInt32) &&& 1431655765)).toUInt32 >>> ((2 : Int32).toUInt32 &&& Int32.toUInt32 31)).toInt32) &&& 858993459)) + (((((p0 - (((p0.toUInt32 >>> ((1 : Int32).toUInt32 &&& Int32.toUInt32 31)).toInt32) &&& 1431655765)) &&& 858993459) + ((((p0 - (((p0.toUInt32 >>> ((1 : Int32).toUInt32 &&& Int32.toUInt32 31)).toInt32) &&& 1431655765)).toUInt32 >>> ((2 : Int32).toUInt32 &&& Int32.toUInt32 31)).toInt32) &&& 858993459)).toUInt32 >>> ((4 : Int32).toUInt32 &&& Int32.toUInt32 31)).toInt32)) &&& 252645135).toUInt32 >>> ((8 : Int32).toUInt32 &&& Int32.toUInt32 31)).toInt32)).toUInt32 >>> ((16 : Int32).toUInt32 &&& Int32.toUInt32 31)).toInt32)))], [.int ((((((((p0 - (((p0.toUInt32 >>> ((1 : Int32).toUInt32 &&& Int32.toUInt32 31)).toInt32) &&& 1431655765)) &&& 858993459) + ((((p0 - (((p0.toUInt32 >>> ((1 : Int32).toUInt32 &&& Int32.toUInt32 31)).toInt32) &&& 1431655765)).toUInt32 >>> ((2 : Int32).toUInt32 &&& Int32.toUInt32 31)).toInt32) &&& 858993459)) + (((((p0 - (((p0.toUInt32 >>> ((1 : Int32).toUInt32 &&& Int32.toUInt32 31)).toInt32) &&& 1431655765)) &&& 858993459) + ((((p0 - (((p0.toUInt32 >>> ((1 : Int32).toUInt32 &&& Int32.toUInt32 31)).toInt32) &&& 1431655765)).toUInt32 >>> ((2 : Int32).toUInt32 &&& Int32.toUInt32 31)).toInt32) &&& 858993459)).toUInt32 >>> ((4 : Int32).toUInt32 &&& Int32.toUInt32 31)).toInt32)) &&& 252645135) + (((((((p0 - (((p0.toUInt32 >>> ((1 : Int32).toUInt32 &&& Int32.toUInt32 31)).toInt32) &&& 1431655765)) &&& 858993459) + ((((p0 - (((p0.toUInt32 >>> ((1 : Int32).toUInt32 &&& Int32.toUInt32 31)).toInt32) &&& 1431655765)).toUInt32 >>> ((2 : Int32).toUInt32 &&& Int32.toUInt32 31)).toInt32) &&& 858993459)) + (((((p0 - (((p0.toUInt32 >>> ((1 : Int32).toUInt32 &&& Int32.toUInt32 31)).toInt32) &&& 1431655765)) &&& 858993459) + ((((p0 - (((p0.toUInt32 >>> ((1 : Int32).toUInt32 &&& Int32.toUInt32 31)).toInt32) &&& 1431655765)).toUInt32 >>> ((2 : Int32).toUInt32 &&& Int32.toUInt32 31)).toInt32) &&& 858993459)).toUInt32 >>> ((4 : Int32).toUInt32 &&& Int32.toUInt32 31)).toInt32)) &&& 252645135).toUInt32 >>> ((8 : Int32).toUInt32 &&& Int32.toUInt32 31)).toInt32)) + ((((((((p0 - (((p0.toUInt32 >>> ((1 : Int32).toUInt32 &&& Int32.toUInt32 31)).toInt32) &&& 1431655765)) &&& 858993459) + ((((p0 - (((p0.toUInt32 >>> ((1 : Int32).toUInt32 &&& Int32.toUInt32 31)).toInt32) &&& 1431655765)).toUInt32 >>> ((2 : Int32).toUInt32 &&& Int32.toUInt32 31)).toInt32) &&& 858993459)) + (((((p0 - (((p0.toUInt32 >>> ((1 : Int32).toUInt32 &&& Int32.toUInt32 31)).toInt32) &&& 1431655765)) &&& 858993459) + ((((p0 - (((p0.toUInt32 >>> ((1 : Int32).toUInt32 &&& Int32.toUInt32 31)).toInt32) &&& 1431655765)).toUInt32 >>> ((2 : Int32).toUInt32 &&& Int32.toUInt32 31)).toInt32) &&& 858993459)).toUInt32 >>> ((4 : Int32).toUInt32 &&& Int32.toUInt32 31)).toInt32)) &&& 252645135) + (((((((p0 - (((p0.toUInt32 >>> ((1 : Int32).toUInt32 &&& Int32.toUInt32 31)).toInt32) &&& 1431655765)) &&& 858993459) + ((((p0 - (((p0.toUInt32 >>> ((1 : Int32).toUInt32 &&& Int32.toUInt32 31)).toInt32) &&& 1431655765)).toUInt32 >>> ((2 : Int32).toUInt32 &&& Int32.toUInt32 31)).toInt32) &&& 858993459)) + (((((p0 - (((p0.toUInt32 >>> ((1 : Int32).toUInt32 &&& Int32.toUInt32 31)).toInt32) &&& 1431655765)) &&& 858993459) + ((((p0 - (((p0.toUInt32 >>> ((1 : Int32).toUInt32 &&& Int32.toUInt32 31)).toInt32) &&& 1431655765)).toUInt32 >>> ((2 : Int32).toUInt32 &&& Int32.toUInt32 31)).toInt32) &&& 858993459)).toUInt32 >>> ((4 : Int32).toUInt32 &&& Int32.toUInt32 31)).toInt32)) &&& 252645135).toUInt32 >>> ((8 : Int32).toUInt32 &&& Int32.toUInt32 31)).toInt32)).toUInt32 >>> ((16 : Int32).toUInt32 &&& Int32.toUInt32 31)).toInt32)) &&& 63)], qp_mk I J)) (by with_unfolding_all rfl) hd1 trivial ?_
  obtain ⟨rfl, rfl, rfl⟩ := qp_some3 h
  exact qp_retI_E qp_ok79 rfl qp_r79.1 ⟨rfl, rfl⟩ ⟨rfl, rfl⟩
def fD_rank_b7  : Nat → Int32 → Int32 → Int32 → Int32 → Int32 → (Nat → Nat → Int32) → (Nat → Nat → Int64) → Option (Int32 × (Nat → Nat → Int32) × (Nat → Nat → Int64))
  | 0, _, _, _, _, _, _, _ => none
  | n + 1, a0, a1, a2, a3, a4, I, J =>
    if a1 ≤ a4 then (
      some (a2, I, J)
    ) else (
      qp_bd (fD_whoAt a0 a4 I J) fun v1 I1 J1 =>
      qp_bd (fJ_bitCount (a3 &&& (((1 : Int32) <<< (v1 &&& 31)) - 1)) I1 J1) fun v2 I2 J2 =>
      fD_rank_b7 n a0 a1 (((a2 * (a1 - a4)) + v1) - v2) (a3 ||| ((1 : Int32) <<< (v1 &&& 31))) (a4 + 1) I2 J2
    )
set_option maxRecDepth 8000 in
theorem gD_rank_b7 {l : Launch} {G : qp_G} {d : Nat} (hd : 2 ≤ d) {r : (Int32 × (Nat → Nat → Int32) × (Nat → Nat → Int64))} {I0 : Nat → Nat → Int32} {J0 : Nat → Nat → Int64}   : ∀ (n : Nat) (a0 : Int32) (a1 : Int32) (a2 : Int32) (a3 : Int32) (a4 : Int32) (I : Nat → Nat → Int32) (J : Nat → Nat → Int64), fD_rank_b7  n a0 a1 a2 a3 a4 I J = some r → qp_E l G d 78 (qp_mk I0 J0) 0 0 (qp_R8 (some (.int r.1)) r.2.1 r.2.2) (7, [some (.int a0), some (.int a1), some (.int a2), some (.int a3), some (.int a4), none], [], qp_mk I J) := by
  have hd1 : Nat.ble 1 d = true := Nat.ble_eq_true_of_le (Nat.le_trans (by decide) hd)
  intro n
  induction n with
  | zero => intro a0 a1 a2 a3 a4 I J h; exact absurd h (by simp [fD_rank_b7])
  | succ n ih =>
    intro a0 a1 a2 a3 a4 I J h
    rw [fD_rank_b7] at h
    refine qp_run_E qp_ok78 2 (c' := (10, [some (.int a0), some (.int a1), some (.int a2), some (.int a3), some (.int a4), none], [.int a1, .int a4], qp_mk I J)) (by with_unfolding_all rfl) hd1 trivial ?_
    refine qp_br_E qp_ok78 (f := a1 ≤ a4) (ct := (56, [some (.int a0), some (.int a1), some (.int a2), some (.int a3), some (.int a4), none], [], qp_mk I J)) (cf := (13, [some (.int a0), some (.int a1), some (.int a2), some (.int a3), some (.int a4), none], [], qp_mk I J)) (by with_unfolding_all rfl) (fun h1 => ?_) (fun h1 => ?_)
    · replace h := qp_ift h1 h
      refine qp_run_E qp_ok78 1 (c' := (57, [some (.int a0), some (.int a1), some (.int a2), some (.int a3), some (.int a4), none], [.int a2], qp_mk I J)) (by with_unfolding_all rfl) hd1 trivial ?_
      obtain rfl := Option.some.inj h
      exact qp_retI_E qp_ok78 rfl qp_r78.1 ⟨rfl, rfl⟩ ⟨rfl, rfl⟩
    · replace h := qp_iff h1 h
      refine qp_run_E qp_ok78 2 (c' := (16, [some (.int a0), some (.int a1), some (.int a2), some (.int a3), some (.int a4), none], [.int a4, .int a0], qp_mk I J)) (by with_unfolding_all rfl) hd1 trivial ?_
      obtain ⟨v1, I1, J1, e1, h⟩ := qp_bd_s h
      refine qp_cS qp_ok78 (rest := []) (oj := 10) qp_f47 rfl rfl (gD_whoAt l G a0 a4 I J e1 (Nat.le_refl 1)) rfl rfl rfl (Nat.le_trans (by decide) hd) ?_
      refine qp_run_E qp_ok78 15 (c' := (38, [some (.int a0), some (.int a1), some (.int a2), some (.int a3), some (.int a4), some (.int v1)], [.int (a3 &&& (((1 : Int32) <<< (v1 &&& 31)) - 1)), .int ((a2 * (a1 - a4)) + v1)], qp_mk I1 J1)) (by with_unfolding_all rfl) hd1 trivial ?_
      obtain ⟨v2, I2, J2, e2, h⟩ := qp_bd_s h
      refine qp_cS qp_ok78 (rest := [.int ((a2 * (a1 - a4)) + v1)]) (oj := 11) qp_f79 rfl rfl (gJ_bitCount l G (a3 &&& (((1 : Int32) <<< (v1 &&& 31)) - 1)) I1 J1 e2 (Nat.le_refl 1)) rfl rfl rfl (Nat.le_trans (by decide) hd) ?_
      refine qp_run_E qp_ok78 10 (c' := (7, [some (.int a0), some (.int a1), some (.int (((a2 * (a1 - a4)) + v1) - v2)), some (.int (a3 ||| ((1 : Int32) <<< (v1 &&& 31)))), some (.int (a4 + 1)), some (.int v1)], [], qp_mk I2 J2)) (by with_unfolding_all rfl) hd1 trivial ?_
      exact qp_E_fg [true, true, true, true, true, false] (ih a0 a1 (((a2 * (a1 - a4)) + v1) - v2) (a3 ||| ((1 : Int32) <<< (v1 &&& 31))) (a4 + 1) I2 J2 h)
def fD_rank (p0 : Int32) (p1 : Int32) (I : Nat → Nat → Int32) (J : Nat → Nat → Int64) : Option (Int32 × (Nat → Nat → Int32) × (Nat → Nat → Int64)) :=
  fD_rank_b7 100000 p0 p1 0 0 0 I J
set_option maxRecDepth 8000 in
theorem gD_rank (l : Launch) (G : qp_G) (p0 : Int32) (p1 : Int32) (I : Nat → Nat → Int32) (J : Nat → Nat → Int64) {v : Int32} {I' : Nat → Nat → Int32} {J' : Nat → Nat → Int64} (h : fD_rank p0 p1 I J = some (v, I', J')) {d : Nat} (hd : 2 ≤ d) : qp_Met l G d 78 [.int p0, .int p1] (qp_mk I J) 0 0 (qp_R8 (some (.int v)) I' J') := by
  have hd1 : Nat.ble 1 d = true := Nat.ble_eq_true_of_le (Nat.le_trans (by decide) hd)
  refine qp_Met_of (by decide) (by rw [qp_r78.2]; rfl) [some (.int p0), some (.int p1), none, none, none, none] (by rw [qp_r78.2]; rfl) ?_
  unfold fD_rank at h
  refine qp_run_E qp_ok78 6 (c' := (7, [some (.int p0), some (.int p1), some (.int 0), some (.int 0), some (.int 0), none], [], qp_mk I J)) (by with_unfolding_all rfl) hd1 trivial ?_
  exact gD_rank_b7 hd 100000 p0 p1 0 0 0 I J h
def fH_reach (p1 : Int32) (p2 : Int32) (I : Nat → Nat → Int32) (J : Nat → Nat → Int64) : Option (Unit × (Nat → Nat → Int32) × (Nat → Nat → Int64)) :=
  qp_bd (fD_rank p1 (I 15 0) I J) fun v1 I1 J1 =>
  if v1 < 0 then (
    some ((), I1, J1)
  ) else (
    if 720 ≤ v1 then (
      some ((), I1, J1)
    ) else (
      qp_gd ((0 ≤ v1 ∧ v1 < 720)) <|
      if ¬ (I1 28 (Int32.toNatClampNeg v1)) = 0 then (
        some ((), I1, J1)
      ) else (
        if 720 ≤ (I1 25 4) then (
          some ((), I1, J1)
        ) else (
          qp_gd ((0 ≤ v1 ∧ v1 < 720) ∧ (0 ≤ (I1 25 4) ∧ (I1 25 4) < 720)) <|
          some ((), (qp_up (qp_up (qp_up (qp_up I1 28 (Int32.toNatClampNeg v1) 1) 26 (Int32.toNatClampNeg (I1 25 4)) p1) 27 (Int32.toNatClampNeg (I1 25 4)) p2) 25 4 ((I1 25 4) + 1)), J1)
        )
      )
    )
  )
set_option maxRecDepth 8000 in
theorem gH_reach (l : Launch) (G : qp_G) (p1 : Int32) (p2 : Int32) (I : Nat → Nat → Int32) (J : Nat → Nat → Int64) {v : Unit} {I' : Nat → Nat → Int32} {J' : Nat → Nat → Int64} (h : fH_reach p1 p2 I J = some (v, I', J')) {d : Nat} (hd : 3 ≤ d) : qp_Met l G d 77 [.ref 25, .int p1, .int p2] (qp_mk I J) 0 0 (qp_R8 none I' J') := by
  have hd1 : Nat.ble 1 d = true := Nat.ble_eq_true_of_le (Nat.le_trans (by decide) hd)
  refine qp_Met_of (by decide) (by rw [qp_r77.2]; rfl) [some (.ref 25), some (.int p1), some (.int p2), none] (by rw [qp_r77.2]; rfl) ?_
  unfold fH_reach at h
  refine qp_run_E qp_ok77 5 (c' := (11, [some (.ref 25), some (.int p1), some (.int p2), none], [.int (I 15 0), .int p1], qp_mk I J)) (by with_unfolding_all rfl) hd1 trivial ?_
  obtain ⟨v1, I1, J1, e1, h⟩ := qp_bd_s h
  refine qp_cS qp_ok77 (rest := []) (oj := 10) qp_f78 rfl rfl (gD_rank l G p1 (I 15 0) I J e1 (Nat.le_refl 2)) rfl rfl rfl (Nat.le_trans (by decide) hd) ?_
  refine qp_run_E qp_ok77 2 (c' := (16, [some (.ref 25), some (.int p1), some (.int p2), some (.int v1)], [.int v1], qp_mk I1 J1)) (by with_unfolding_all rfl) hd1 trivial ?_
  refine qp_br_E qp_ok77 (f := v1 < 0) (ct := (82, [some (.ref 25), some (.int p1), some (.int p2), some (.int v1)], [], qp_mk I1 J1)) (cf := (19, [some (.ref 25), some (.int p1), some (.int p2), some (.int v1)], [], qp_mk I1 J1)) (by with_unfolding_all rfl) (fun h1 => ?_) (fun h1 => ?_)
  · replace h := qp_ift h1 h
    obtain ⟨rfl, rfl, rfl⟩ := qp_some3 h
    exact qp_retV_E qp_ok77 rfl qp_r77.1 ⟨rfl, rfl⟩ ⟨rfl, rfl⟩
  · replace h := qp_iff h1 h
    refine qp_run_E qp_ok77 2 (c' := (23, [some (.ref 25), some (.int p1), some (.int p2), some (.int v1)], [.int 720, .int v1], qp_mk I1 J1)) (by with_unfolding_all rfl) hd1 trivial ?_
    refine qp_br_E qp_ok77 (f := 720 ≤ v1) (ct := (82, [some (.ref 25), some (.int p1), some (.int p2), some (.int v1)], [], qp_mk I1 J1)) (cf := (26, [some (.ref 25), some (.int p1), some (.int p2), some (.int v1)], [], qp_mk I1 J1)) (by with_unfolding_all rfl) (fun h2 => ?_) (fun h2 => ?_)
    · replace h := qp_ift h2 h
      obtain ⟨rfl, rfl, rfl⟩ := qp_some3 h
      exact qp_retV_E qp_ok77 rfl qp_r77.1 ⟨rfl, rfl⟩ ⟨rfl, rfl⟩
    · replace h := qp_iff h2 h
      obtain ⟨h3, h⟩ := qp_gd_s h
      refine qp_run_E qp_ok77 4 (f := vp_in v1 720 ∧ True) (c' := (32, [some (.ref 25), some (.int p1), some (.int p2), some (.int v1)], [.int (I1 28 (Int32.toNatClampNeg v1))], qp_mk I1 J1)) (by with_unfolding_all rfl) hd1 ⟨(qp_vin (c := 720) (by decide) h3.1 h3.2), trivial⟩ ?_
      refine qp_br_E qp_ok77 (f := ¬ (I1 28 (Int32.toNatClampNeg v1)) = 0) (ct := (82, [some (.ref 25), some (.int p1), some (.int p2), some (.int v1)], [], qp_mk I1 J1)) (cf := (35, [some (.ref 25), some (.int p1), some (.int p2), some (.int v1)], [], qp_mk I1 J1)) (by with_unfolding_all rfl) (fun h4 => ?_) (fun h4 => ?_)
      · replace h := qp_ift h4 h
        obtain ⟨rfl, rfl, rfl⟩ := qp_some3 h
        exact qp_retV_E qp_ok77 rfl qp_r77.1 ⟨rfl, rfl⟩ ⟨rfl, rfl⟩
      · replace h := qp_iff h4 h
        refine qp_run_E qp_ok77 3 (c' := (42, [some (.ref 25), some (.int p1), some (.int p2), some (.int v1)], [.int 720, .int (I1 25 4)], qp_mk I1 J1)) (by with_unfolding_all rfl) hd1 trivial ?_
        refine qp_br_E qp_ok77 (f := 720 ≤ (I1 25 4)) (ct := (82, [some (.ref 25), some (.int p1), some (.int p2), some (.int v1)], [], qp_mk I1 J1)) (cf := (45, [some (.ref 25), some (.int p1), some (.int p2), some (.int v1)], [], qp_mk I1 J1)) (by with_unfolding_all rfl) (fun h5 => ?_) (fun h5 => ?_)
        · replace h := qp_ift h5 h
          obtain ⟨rfl, rfl, rfl⟩ := qp_some3 h
          exact qp_retV_E qp_ok77 rfl qp_r77.1 ⟨rfl, rfl⟩ ⟨rfl, rfl⟩
        · replace h := qp_iff h5 h
          obtain ⟨h6, h⟩ := qp_gd_s h
          refine qp_run_E qp_ok77 23 (f := (vp_in v1 720 ∧ vp_nar .boolean 1 = 1) ∧ vp_in (I1 25 4) 720 ∧ vp_in (I1 25 4) 720 ∧ True) (c' := (82, [some (.ref 25), some (.int p1), some (.int p2), some (.int v1)], [], qp_mk (qp_up (qp_up (qp_up (qp_up I1 28 (Int32.toNatClampNeg v1) 1) 26 (Int32.toNatClampNeg (I1 25 4)) p1) 27 (Int32.toNatClampNeg (I1 25 4)) p2) 25 4 ((I1 25 4) + 1)) J1)) (by with_unfolding_all rfl) hd1 ⟨⟨(qp_vin (c := 720) (by decide) h6.1.1 h6.1.2), by rfl⟩, (qp_vin (c := 720) (by decide) h6.2.1 h6.2.2), (qp_vin (c := 720) (by decide) h6.2.1 h6.2.2), trivial⟩ ?_
          obtain ⟨rfl, rfl, rfl⟩ := qp_some3 h
          exact qp_retV_E qp_ok77 rfl qp_r77.1 ⟨rfl, rfl⟩ ⟨rfl, rfl⟩

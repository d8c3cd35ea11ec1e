/-! methods as functions, 10 -/
def fM_duel_b218  (k106 : Int32 → Int32 → Int32 → Int32 → Int32 → Int32 → (Nat → Nat → Int32) → (Nat → Nat → Int64) → Option (Int32 × (Nat → Nat → Int32) × (Nat → Nat → Int64))) (a1 : Int32) (a2 : Int32) (a4 : Int32) (a5 : Int32) (a7 : Int32) (s0 : Int32) (I : Nat → Nat → Int32) (J : Nat → Nat → Int64) : Option (Int32 × (Nat → Nat → Int32) × (Nat → Nat → Int64)) :=
  if s0 = 0 then (
    k106 a1 a2 a4 a5 a7 s0 I J
  ) else (
    qp_gd ((0 ≤ a7 ∧ a7 < 4)) <|
    qp_bd (fM_startOf a7 (qp_up I 55 (Int32.toNatClampNeg a7) 0) J) fun v1 I1 J1 =>
    qp_gd ((0 ≤ a7 ∧ a7 < 4)) <|
    k106 a1 a2 a4 (I 56 (Int32.toNatClampNeg a7)) (a7 + (-1)) s0 (qp_up I1 56 (Int32.toNatClampNeg a7) v1) J1
  )
set_option maxRecDepth 8000 in
theorem gM_duel_b218 {l : Launch} {G : qp_G} {d : Nat} (hd : 4 ≤ d) {r : (Int32 × (Nat → Nat → Int32) × (Nat → Nat → Int64))} {I0 : Nat → Nat → Int32} {J0 : Nat → Nat → Int64}  (k106 : Int32 → Int32 → Int32 → Int32 → Int32 → Int32 → (Nat → Nat → Int32) → (Nat → Nat → Int64) → Option (Int32 × (Nat → Nat → Int32) × (Nat → Nat → Int64))) (hk106 : ∀ a1 a2 a4 a5 a7 a8 I J, k106 a1 a2 a4 a5 a7 a8 I J = some r → qp_E l G d 218 (qp_mk I0 J0) 0 0 (qp_R8 (some (.int r.1)) r.2.1 r.2.2) (106, [some (.ref 36), some (.int a1), some (.int a2), none, some (.int a4), some (.int a5), none, some (.int a7), some (.int a8), none], [], qp_mk I J)) : ∀ (a1 : Int32) (a2 : Int32) (a4 : Int32) (a5 : Int32) (a7 : Int32) (s0 : Int32) (I : Nat → Nat → Int32) (J : Nat → Nat → Int64), fM_duel_b218 k106 a1 a2 a4 a5 a7 s0 I J = some r → qp_E l G d 218 (qp_mk I0 J0) 0 0 (qp_R8 (some (.int r.1)) r.2.1 r.2.2) (218, [some (.ref 36), some (.int a1), some (.int a2), none, some (.int a4), some (.int a5), none, some (.int a7), none, none], [.int s0], qp_mk I J) := by
  have hd1 : Nat.ble 1 d = true := Nat.ble_eq_true_of_le (Nat.le_trans (by decide) hd)
  intro a1 a2 a4 a5 a7 s0 I J h
  unfold fM_duel_b218 at h
  refine qp_run_E qp_ok218 2 (c' := (222, [some (.ref 36), some (.int a1), some (.int a2), none, some (.int a4), some (.int a5), none, some (.int a7), some (.int s0), none], [.int s0], qp_mk I J)) (by with_unfolding_all rfl) hd1 trivial ?_
  refine qp_br_E qp_ok218 (f := s0 = 0) (ct := (257, [some (.ref 36), some (.int a1), some (.int a2), none, some (.int a4), some (.int a5), none, some (.int a7), some (.int s0), none], [], qp_mk I J)) (cf := (225, [some (.ref 36), some (.int a1), some (.int a2), none, some (.int a4), some (.int a5), none, some (.int a7), some (.int s0), none], [], qp_mk I J)) (by with_unfolding_all rfl) (fun h1 => ?_) (fun h1 => ?_)
  · replace h := qp_ift h1 h
    refine qp_run_E qp_ok218 1 (c' := (106, [some (.ref 36), some (.int a1), some (.int a2), none, some (.int a4), some (.int a5), none, some (.int a7), some (.int s0), none], [], qp_mk I J)) (by with_unfolding_all rfl) hd1 trivial ?_
    exact hk106 a1 a2 a4 a5 a7 s0 I J h
  · replace h := qp_iff h1 h
    obtain ⟨h2, h⟩ := qp_gd_s h
    refine qp_run_E qp_ok218 14 (f := vp_in a7 4 ∧ vp_in a7 4 ∧ True) (c' := (250, [some (.ref 36), some (.int a1), some (.int a2), none, some (.int a4), some (.int (I 56 (Int32.toNatClampNeg a7))), none, some (.int a7), some (.int s0), none], [.int a7, .int a7, .ref 56], qp_mk (qp_up I 55 (Int32.toNatClampNeg a7) 0) J)) (by with_unfolding_all rfl) hd1 ⟨(qp_vin (c := 4) (by decide) h2.1 h2.2), (qp_vin (c := 4) (by decide) h2.1 h2.2), trivial⟩ ?_
    obtain ⟨v1, I1, J1, e1, h⟩ := qp_bd_s h
    refine qp_cS qp_ok218 (rest := [.int a7, .ref 56]) (oj := 10) qp_f219 rfl rfl (gM_startOf l G a7 (qp_up I 55 (Int32.toNatClampNeg a7) 0) J e1 (Nat.le_refl 1)) rfl rfl rfl (Nat.le_trans (by decide) hd) ?_
    obtain ⟨h3, h⟩ := qp_gd_s h
    refine qp_run_E qp_ok218 3 (f := vp_in a7 4 ∧ True) (c' := (106, [some (.ref 36), some (.int a1), some (.int a2), none, some (.int a4), some (.int (I 56 (Int32.toNatClampNeg a7))), none, some (.int (a7 + (-1))), some (.int s0), none], [], qp_mk (qp_up I1 56 (Int32.toNatClampNeg a7) v1) J1)) (by with_unfolding_all rfl) hd1 ⟨(qp_vin (c := 4) (by decide) h3.1 h3.2), trivial⟩ ?_
    exact hk106 a1 a2 a4 (I 56 (Int32.toNatClampNeg a7)) (a7 + (-1)) s0 (qp_up I1 56 (Int32.toNatClampNeg a7) v1) J1 h
def fM_duel_b185  (k106 : Int32 → Int32 → Int32 → Int32 → Int32 → Int32 → (Nat → Nat → Int32) → (Nat → Nat → Int64) → Option (Int32 × (Nat → Nat → Int32) × (Nat → Nat → Int64))) (a1 : Int32) (a2 : Int32) (a4 : Int32) (a5 : Int32) (a7 : Int32) (s0 : Int32) (s1 : Int32) (I : Nat → Nat → Int32) (J : Nat → Nat → Int64) : Option (Int32 × (Nat → Nat → Int32) × (Nat → Nat → Int64)) :=
  qp_gd ((0 ≤ s1 ∧ s1 < 4) ∧ (0 ≤ a7 ∧ a7 < 4)) <|
  if ¬ ((qp_up I 55 (Int32.toNatClampNeg a7) ((I 55 (Int32.toNatClampNeg a7)) + 1)) 55 (Int32.toNatClampNeg a7)) = (I 37 0) then (
    fM_duel_b218 k106 a1 a2 a4 a5 a7 0 (qp_up (qp_up I 56 (Int32.toNatClampNeg s1) s0) 55 (Int32.toNatClampNeg a7) ((I 55 (Int32.toNatClampNeg a7)) + 1)) J
  ) else (
    fM_duel_b218 k106 a1 a2 a4 a5 a7 1 (qp_up (qp_up I 56 (Int32.toNatClampNeg s1) s0) 55 (Int32.toNatClampNeg a7) ((I 55 (Int32.toNatClampNeg a7)) + 1)) J
  )
set_option maxRecDepth 8000 in
theorem gM_duel_b185 {l : Launch} {G : qp_G} {d : Nat} (hd : 4 ≤ d) {r : (Int32 × (Nat → Nat → Int32) × (Nat → Nat → Int64))} {I0 : Nat → Nat → Int32} {J0 : Nat → Nat → Int64}  (k106 : Int32 → Int32 → Int32 → Int32 → Int32 → Int32 → (Nat → Nat → Int32) → (Nat → Nat → Int64) → Option (Int32 × (Nat → Nat → Int32) × (Nat → Nat → Int64))) (hk106 : ∀ a1 a2 a4 a5 a7 a8 I J, k106 a1 a2 a4 a5 a7 a8 I J = some r → qp_E l G d 218 (qp_mk I0 J0) 0 0 (qp_R8 (some (.int r.1)) r.2.1 r.2.2) (106, [some (.ref 36), some (.int a1), some (.int a2), none, some (.int a4), some (.int a5), none, some (.int a7), some (.int a8), none], [], qp_mk I J)) : ∀ (a1 : Int32) (a2 : Int32) (a4 : Int32) (a5 : Int32) (a7 : Int32) (s0 : Int32) (s1 : Int32) (I : Nat → Nat → Int32) (J : Nat → Nat → Int64), fM_duel_b185 k106 a1 a2 a4 a5 a7 s0 s1 I J = some r → qp_E l G d 218 (qp_mk I0 J0) 0 0 (qp_R8 (some (.int r.1)) r.2.1 r.2.2) (185, [some (.ref 36), some (.int a1), some (.int a2), none, some (.int a4), some (.int a5), none, some (.int a7), none, none], [.int s0, .int s1, .ref 56], qp_mk I J) := by
  have hd1 : Nat.ble 1 d = true := Nat.ble_eq_true_of_le (Nat.le_trans (by decide) hd)
  intro a1 a2 a4 a5 a7 s0 s1 I J h
  unfold fM_duel_b185 at h
  obtain ⟨h1, h⟩ := qp_gd_s h
  refine qp_run_E qp_ok218 17 (f := vp_in s1 4 ∧ vp_in a7 4 ∧ vp_in a7 4 ∧ vp_in a7 4 ∧ vp_in 0 75 ∧ True) (c' := (210, [some (.ref 36), some (.int a1), some (.int a2), none, some (.int a4), some (.int a5), none, some (.int a7), none, none], [.int (I 37 0), .int ((qp_up I 55 (Int32.toNatClampNeg a7) ((I 55 (Int32.toNatClampNeg a7)) + 1)) 55 (Int32.toNatClampNeg a7))], qp_mk (qp_up (qp_up I 56 (Int32.toNatClampNeg s1) s0) 55 (Int32.toNatClampNeg a7) ((I 55 (Int32.toNatClampNeg a7)) + 1)) J)) (by with_unfolding_all rfl) hd1 ⟨(qp_vin (c := 4) (by decide) h1.1.1 h1.1.2), (qp_vin (c := 4) (by decide) h1.2.1 h1.2.2), (qp_vin (c := 4) (by decide) h1.2.1 h1.2.2), (qp_vin (c := 4) (by decide) h1.2.1 h1.2.2), (qp_vin (c := 75) (by decide) (by decide) (by decide)), trivial⟩ ?_
  refine qp_br_E qp_ok218 (f := ¬ ((qp_up I 55 (Int32.toNatClampNeg a7) ((I 55 (Int32.toNatClampNeg a7)) + 1)) 55 (Int32.toNatClampNeg a7)) = (I 37 0)) (ct := (217, [some (.ref 36), some (.int a1), some (.int a2), none, some (.int a4), some (.int a5), none, some (.int a7), none, none], [], qp_mk (qp_up (qp_up I 56 (Int32.toNatClampNeg s1) s0) 55 (Int32.toNatClampNeg a7) ((I 55 (Int32.toNatClampNeg a7)) + 1)) J)) (cf := (213, [some (.ref 36), some (.int a1), some (.int a2), none, some (.int a4), some (.int a5), none, some (.int a7), none, none], [], qp_mk (qp_up (qp_up I 56 (Int32.toNatClampNeg s1) s0) 55 (Int32.toNatClampNeg a7) ((I 55 (Int32.toNatClampNeg a7)) + 1)) J)) (by with_unfolding_all rfl) (fun h2 => ?_) (fun h2 => ?_)
  · replace h := qp_ift h2 h
    refine qp_run_E qp_ok218 1 (c' := (218, [some (.ref 36), some (.int a1), some (.int a2), none, some (.int a4), some (.int a5), none, some (.int a7), none, none], [.int 0], qp_mk (qp_up (qp_up I 56 (Int32.toNatClampNeg s1) s0) 55 (Int32.toNatClampNeg a7) ((I 55 (Int32.toNatClampNeg a7)) + 1)) J)) (by with_unfolding_all rfl) hd1 trivial ?_
    exact gM_duel_b218 hd k106 hk106 a1 a2 a4 a5 a7 0 (qp_up (qp_up I 56 (Int32.toNatClampNeg s1) s0) 55 (Int32.toNatClampNeg a7) ((I 55 (Int32.toNatClampNeg a7)) + 1)) J h
  · replace h := qp_iff h2 h
    refine qp_run_E qp_ok218 2 (c' := (218, [some (.ref 36), some (.int a1), some (.int a2), none, some (.int a4), some (.int a5), none, some (.int a7), none, none], [.int 1], qp_mk (qp_up (qp_up I 56 (Int32.toNatClampNeg s1) s0) 55 (Int32.toNatClampNeg a7) ((I 55 (Int32.toNatClampNeg a7)) + 1)) J)) (by with_unfolding_all rfl) hd1 trivial ?_
    exact gM_duel_b218 hd k106 hk106 a1 a2 a4 a5 a7 1 (qp_up (qp_up I 56 (Int32.toNatClampNeg s1) s0) 55 (Int32.toNatClampNeg a7) ((I 55 (Int32.toNatClampNeg a7)) + 1)) J h
def fM_duel_b160  (k106 : Int32 → Int32 → Int32 → Int32 → Int32 → Int32 → (Nat → Nat → Int32) → (Nat → Nat → Int64) → Option (Int32 × (Nat → Nat → Int32) × (Nat → Nat → Int64))) (a1 : Int32) (a2 : Int32) (a4 : Int32) (a5 : Int32) (a7 : Int32) (s0 : Int32) (I : Nat → Nat → Int32) (J : Nat → Nat → Int64) : Option (Int32 × (Nat → Nat → Int32) × (Nat → Nat → Int64)) :=
  if s0 = 0 then (
    qp_gd ((0 ≤ a7 ∧ a7 < 4)) <|
    fM_duel_b185 k106 a1 a2 a4 a5 a7 (I 56 (Int32.toNatClampNeg a7)) a7 I J
  ) else (
    fM_duel_b185 k106 a1 a2 a4 a5 a7 a5 a7 I J
  )
set_option maxRecDepth 8000 in
theorem gM_duel_b160 {l : Launch} {G : qp_G} {d : Nat} (hd : 4 ≤ d) {r : (Int32 × (Nat → Nat → Int32) × (Nat → Nat → Int64))} {I0 : Nat → Nat → Int32} {J0 : Nat → Nat → Int64}  (k106 : Int32 → Int32 → Int32 → Int32 → Int32 → Int32 → (Nat → Nat → Int32) → (Nat → Nat → Int64) → Option (Int32 × (Nat → Nat → Int32) × (Nat → Nat → Int64))) (hk106 : ∀ a1 a2 a4 a5 a7 a8 I J, k106 a1 a2 a4 a5 a7 a8 I J = some r → qp_E l G d 218 (qp_mk I0 J0) 0 0 (qp_R8 (some (.int r.1)) r.2.1 r.2.2) (106, [some (.ref 36), some (.int a1), some (.int a2), none, some (.int a4), some (.int a5), none, some (.int a7), some (.int a8), none], [], qp_mk I J)) : ∀ (a1 : Int32) (a2 : Int32) (a4 : Int32) (a5 : Int32) (a7 : Int32) (s0 : Int32) (I : Nat → Nat → Int32) (J : Nat → Nat → Int64), fM_duel_b160 k106 a1 a2 a4 a5 a7 s0 I J = some r → qp_E l G d 218 (qp_mk I0 J0) 0 0 (qp_R8 (some (.int r.1)) r.2.1 r.2.2) (160, [some (.ref 36), some (.int a1), some (.int a2), none, some (.int a4), some (.int a5), none, some (.int a7), none, none], [.int s0], qp_mk I J) := by
  have hd1 : Nat.ble 1 d = true := Nat.ble_eq_true_of_le (Nat.le_trans (by decide) hd)
  intro a1 a2 a4 a5 a7 s0 I J h
  unfold fM_duel_b160 at h
  refine qp_run_E qp_ok218 5 (c' := (170, [some (.ref 36), some (.int a1), some (.int a2), none, some (.int a4), some (.int a5), none, some (.int a7), none, some (.int s0)], [.int s0, .int a7, .ref 56], qp_mk I J)) (by with_unfolding_all rfl) hd1 trivial ?_
  refine qp_br_E qp_ok218 (f := s0 = 0) (ct := (178, [some (.ref 36), some (.int a1), some (.int a2), none, some (.int a4), some (.int a5), none, some (.int a7), none, some (.int s0)], [.int a7, .ref 56], qp_mk I J)) (cf := (173, [some (.ref 36), some (.int a1), some (.int a2), none, some (.int a4), some (.int a5), none, some (.int a7), none, some (.int s0)], [.int a7, .ref 56], qp_mk I J)) (by with_unfolding_all rfl) (fun h1 => ?_) (fun h1 => ?_)
  · replace h := qp_ift h1 h
    obtain ⟨h2, h⟩ := qp_gd_s h
    refine qp_run_E qp_ok218 4 (f := vp_in a7 4 ∧ True) (c' := (185, [some (.ref 36), some (.int a1), some (.int a2), none, some (.int a4), some (.int a5), none, some (.int a7), none, some (.int s0)], [.int (I 56 (Int32.toNatClampNeg a7)), .int a7, .ref 56], qp_mk I J)) (by with_unfolding_all rfl) hd1 ⟨(qp_vin (c := 4) (by decide) h2.1 h2.2), trivial⟩ ?_
    exact qp_E_fg [true, true, true, false, true, true, false, true, false, false] (gM_duel_b185 hd k106 hk106 a1 a2 a4 a5 a7 (I 56 (Int32.toNatClampNeg a7)) a7 I J h)
  · replace h := qp_iff h1 h
    refine qp_run_E qp_ok218 2 (c' := (185, [some (.ref 36), some (.int a1), some (.int a2), none, some (.int a4), some (.int a5), none, some (.int a7), none, some (.int s0)], [.int a5, .int a7, .ref 56], qp_mk I J)) (by with_unfolding_all rfl) hd1 trivial ?_
    exact qp_E_fg [true, true, true, false, true, true, false, true, false, false] (gM_duel_b185 hd k106 hk106 a1 a2 a4 a5 a7 a5 a7 I J h)
def fM_duel_b106  (k82 : Int32 → Int32 → Int32 → Int32 → Int32 → (Nat → Nat → Int32) → (Nat → Nat → Int64) → Option (Int32 × (Nat → Nat → Int32) × (Nat → Nat → Int64))) : Nat → Int32 → Int32 → Int32 → Int32 → Int32 → Int32 → (Nat → Nat → Int32) → (Nat → Nat → Int64) → Option (Int32 × (Nat → Nat → Int32) × (Nat → Nat → Int64))
  | 0, _, _, _, _, _, _, _, _ => none
  | n + 1, a1, a2, a4, a5, a7, a8, I, J =>
    if a7 < 0 then (
      if a7 < 0 then (
        k82 a1 a2 a4 a5 0 I J
      ) else (
        k82 a1 a2 a4 a5 1 I J
      )
    ) else (
      if a8 = 0 then (
        if a7 < 0 then (
          k82 a1 a2 a4 a5 0 I J
        ) else (
          k82 a1 a2 a4 a5 1 I J
        )
      ) else (
        if ¬ (a7 - a7 / 2 * 2) = 0 then (
          qp_gd ((0 ≤ a7 ∧ a7 < 4)) <|
          if (I 56 (Int32.toNatClampNeg a7)) ≤ a5 then (
            fM_duel_b160 (fun a0 a1 a2 a3 a4 a5 I J => fM_duel_b106 k82 n a0 a1 a2 a3 a4 a5 I J) a1 a2 a4 a5 a7 0 I J
          ) else (
            fM_duel_b160 (fun a0 a1 a2 a3 a4 a5 I J => fM_duel_b106 k82 n a0 a1 a2 a3 a4 a5 I J) a1 a2 a4 a5 a7 1 I J
          )
        ) else (
          qp_gd ((0 ≤ a7 ∧ a7 < 4)) <|
          if a5 ≤ (I 56 (Int32.toNatClampNeg a7)) then (
            fM_duel_b160 (fun a0 a1 a2 a3 a4 a5 I J => fM_duel_b106 k82 n a0 a1 a2 a3 a4 a5 I J) a1 a2 a4 a5 a7 0 I J
          ) else (
            fM_duel_b160 (fun a0 a1 a2 a3 a4 a5 I J => fM_duel_b106 k82 n a0 a1 a2 a3 a4 a5 I J) a1 a2 a4 a5 a7 1 I J
          )
        )
      )
    )
set_option maxRecDepth 8000 in
theorem gM_duel_b106 {l : Launch} {G : qp_G} {d : Nat} (hd : 4 ≤ d) {r : (Int32 × (Nat → Nat → Int32) × (Nat → Nat → Int64))} {I0 : Nat → Nat → Int32} {J0 : Nat → Nat → Int64}  (k82 : Int32 → Int32 → Int32 → Int32 → Int32 → (Nat → Nat → Int32) → (Nat → Nat → Int64) → Option (Int32 × (Nat → Nat → Int32) × (Nat → Nat → Int64))) (hk82 : ∀ a1 a2 a4 a5 a6 I J, k82 a1 a2 a4 a5 a6 I J = some r → qp_E l G d 218 (qp_mk I0 J0) 0 0 (qp_R8 (some (.int r.1)) r.2.1 r.2.2) (82, [some (.ref 36), some (.int a1), some (.int a2), none, some (.int a4), some (.int a5), some (.int a6), none, none, none], [], qp_mk I J)) : ∀ (n : Nat) (a1 : Int32) (a2 : Int32) (a4 : Int32) (a5 : Int32) (a7 : Int32) (a8 : Int32) (I : Nat → Nat → Int32) (J : Nat → Nat → Int64), fM_duel_b106 k82 n a1 a2 a4 a5 a7 a8 I J = some r → qp_E l G d 218 (qp_mk I0 J0) 0 0 (qp_R8 (some (.int r.1)) r.2.1 r.2.2) (106, [some (.ref 36), some (.int a1), some (.int a2), none, some (.int a4), some (.int a5), none, some (.int a7), some (.int a8), none], [], qp_mk I J) := by
  have hd1 : Nat.ble 1 d = true := Nat.ble_eq_true_of_le (Nat.le_trans (by decide) hd)
  intro n
  induction n with
  | zero => intro a1 a2 a4 a5 a7 a8 I J h; exact absurd h (by simp [fM_duel_b106])
  | succ n ih =>
    intro a1 a2 a4 a5 a7 a8 I J h
    rw [fM_duel_b106] at h
    refine qp_run_E qp_ok218 1 (c' := (108, [some (.ref 36), some (.int a1), some (.int a2), none, some (.int a4), some (.int a5), none, some (.int a7), some (.int a8), none], [.int a7], qp_mk I J)) (by with_unfolding_all rfl) hd1 trivial ?_
    refine qp_br_E qp_ok218 (f := a7 < 0) (ct := (260, [some (.ref 36), some (.int a1), some (.int a2), none, some (.int a4), some (.int a5), none, some (.int a7), some (.int a8), none], [], qp_mk I J)) (cf := (111, [some (.ref 36), some (.int a1), some (.int a2), none, some (.int a4), some (.int a5), none, some (.int a7), some (.int a8), none], [], qp_mk I J)) (by with_unfolding_all rfl) (fun h1 => ?_) (fun h1 => ?_)
    · replace h := qp_ift h1 h
      refine qp_run_E qp_ok218 1 (c' := (262, [some (.ref 36), some (.int a1), some (.int a2), none, some (.int a4), some (.int a5), none, some (.int a7), some (.int a8), none], [.int a7], qp_mk I J)) (by with_unfolding_all rfl) hd1 trivial ?_
      refine qp_br_E qp_ok218 (f := a7 < 0) (ct := (269, [some (.ref 36), some (.int a1), some (.int a2), none, some (.int a4), some (.int a5), none, some (.int a7), some (.int a8), none], [], qp_mk I J)) (cf := (265, [some (.ref 36), some (.int a1), some (.int a2), none, some (.int a4), some (.int a5), none, some (.int a7), some (.int a8), none], [], qp_mk I J)) (by with_unfolding_all rfl) (fun h2 => ?_) (fun h2 => ?_)
      · replace h := qp_ift h2 h
        refine qp_run_E qp_ok218 3 (c' := (82, [some (.ref 36), some (.int a1), some (.int a2), none, some (.int a4), some (.int a5), some (.int 0), some (.int a7), some (.int a8), none], [], qp_mk I J)) (by with_unfolding_all rfl) hd1 trivial ?_
        exact qp_E_fg [true, true, true, false, true, true, true, false, false, false] (hk82 a1 a2 a4 a5 0 I J h)
      · replace h := qp_iff h2 h
        refine qp_run_E qp_ok218 4 (c' := (82, [some (.ref 36), some (.int a1), some (.int a2), none, some (.int a4), some (.int a5), some (.int 1), some (.int a7), some (.int a8), none], [], qp_mk I J)) (by with_unfolding_all rfl) hd1 trivial ?_
        exact qp_E_fg [true, true, true, false, true, true, true, false, false, false] (hk82 a1 a2 a4 a5 1 I J h)
    · replace h := qp_iff h1 h
      refine qp_run_E qp_ok218 1 (c' := (113, [some (.ref 36), some (.int a1), some (.int a2), none, some (.int a4), some (.int a5), none, some (.int a7), some (.int a8), none], [.int a8], qp_mk I J)) (by with_unfolding_all rfl) hd1 trivial ?_
      refine qp_br_E qp_ok218 (f := a8 = 0) (ct := (260, [some (.ref 36), some (.int a1), some (.int a2), none, some (.int a4), some (.int a5), none, some (.int a7), some (.int a8), none], [], qp_mk I J)) (cf := (116, [some (.ref 36), some (.int a1), some (.int a2), none, some (.int a4), some (.int a5), none, some (.int a7), some (.int a8), none], [], qp_mk I J)) (by with_unfolding_all rfl) (fun h3 => ?_) (fun h3 => ?_)
      · replace h := qp_ift h3 h
        refine qp_run_E qp_ok218 1 (c' := (262, [some (.ref 36), some (.int a1), some (.int a2), none, some (.int a4), some (.int a5), none, some (.int a7), some (.int a8), none], [.int a7], qp_mk I J)) (by with_unfolding_all rfl) hd1 trivial ?_
        refine qp_br_E qp_ok218 (f := a7 < 0) (ct := (269, [some (.ref 36), some (.int a1), some (.int a2), none, some (.int a4), some (.int a5), none, some (.int a7), some (.int a8), none], [], qp_mk I J)) (cf := (265, [some (.ref 36), some (.int a1), some (.int a2), none, some (.int a4), some (.int a5), none, some (.int a7), some (.int a8), none], [], qp_mk I J)) (by with_unfolding_all rfl) (fun h4 => ?_) (fun h4 => ?_)
        · replace h := qp_ift h4 h
          refine qp_run_E qp_ok218 3 (c' := (82, [some (.ref 36), some (.int a1), some (.int a2), none, some (.int a4), some (.int a5), some (.int 0), some (.int a7), some (.int a8), none], [], qp_mk I J)) (by with_unfolding_all rfl) hd1 trivial ?_
          exact qp_E_fg [true, true, true, false, true, true, true, false, false, false] (hk82 a1 a2 a4 a5 0 I J h)
        · replace h := qp_iff h4 h
          refine qp_run_E qp_ok218 4 (c' := (82, [some (.ref 36), some (.int a1), some (.int a2), none, some (.int a4), some (.int a5), some (.int 1), some (.int a7), some (.int a8), none], [], qp_mk I J)) (by with_unfolding_all rfl) hd1 trivial ?_
          exact qp_E_fg [true, true, true, false, true, true, true, false, false, false] (hk82 a1 a2 a4 a5 1 I J h)
      · replace h := qp_iff h3 h
        refine qp_run_E qp_ok218 3 (f := ¬ (2 : Int32) = 0 ∧ True) (c' := (120, [some (.ref 36), some (.int a1), some (.int a2), none, some (.int a4), some (.int a5), none, some (.int a7), some (.int a8), none], [.int (a7 - a7 / 2 * 2)], qp_mk I J)) (by with_unfolding_all rfl) hd1 ⟨(by decide), trivial⟩ ?_
        refine qp_br_E qp_ok218 (f := ¬ (a7 - a7 / 2 * 2) = 0) (ct := (143, [some (.ref 36), some (.int a1), some (.int a2), none, some (.int a4), some (.int a5), none, some (.int a7), some (.int a8), none], [], qp_mk I J)) (cf := (123, [some (.ref 36), some (.int a1), some (.int a2), none, some (.int a4), some (.int a5), none, some (.int a7), some (.int a8), none], [], qp_mk I J)) (by with_unfolding_all rfl) (fun h5 => ?_) (fun h5 => ?_)
        · replace h := qp_ift h5 h
          obtain ⟨h6, h⟩ := qp_gd_s h
          refine qp_run_E qp_ok218 5 (f := vp_in a7 4 ∧ True) (c' := (152, [some (.ref 36), some (.int a1), some (.int a2), none, some (.int a4), some (.int a5), none, some (.int a7), some (.int a8), none], [.int (I 56 (Int32.toNatClampNeg a7)), .int a5], qp_mk I J)) (by with_unfolding_all rfl) hd1 ⟨(qp_vin (c := 4) (by decide) h6.1 h6.2), trivial⟩ ?_
          refine qp_br_E qp_ok218 (f := (I 56 (Int32.toNatClampNeg a7)) ≤ a5) (ct := (159, [some (.ref 36), some (.int a1), some (.int a2), none, some (.int a4), some (.int a5), none, some (.int a7), some (.int a8), none], [], qp_mk I J)) (cf := (155, [some (.ref 36), some (.int a1), some (.int a2), none, some (.int a4), some (.int a5), none, some (.int a7), some (.int a8), none], [], qp_mk I J)) (by with_unfolding_all rfl) (fun h7 => ?_) (fun h7 => ?_)
          · replace h := qp_ift h7 h
            refine qp_run_E qp_ok218 1 (c' := (160, [some (.ref 36), some (.int a1), some (.int a2), none, some (.int a4), some (.int a5), none, some (.int a7), some (.int a8), none], [.int 0], qp_mk I J)) (by with_unfolding_all rfl) hd1 trivial ?_
            exact qp_E_fg [true, true, true, false, true, true, false, true, false, false] (gM_duel_b160 hd (fun a0 a1 a2 a3 a4 a5 I J => fM_duel_b106 k82 n a0 a1 a2 a3 a4 a5 I J) (fun a0 a1 a2 a3 a4 a5 I J h => ih a0 a1 a2 a3 a4 a5 I J h) a1 a2 a4 a5 a7 0 I J h)
          · replace h := qp_iff h7 h
            refine qp_run_E qp_ok218 2 (c' := (160, [some (.ref 36), some (.int a1), some (.int a2), none, some (.int a4), some (.int a5), none, some (.int a7), some (.int a8), none], [.int 1], qp_mk I J)) (by with_unfolding_all rfl) hd1 trivial ?_
            exact qp_E_fg [true, true, true, false, true, true, false, true, false, false] (gM_duel_b160 hd (fun a0 a1 a2 a3 a4 a5 I J => fM_duel_b106 k82 n a0 a1 a2 a3 a4 a5 I J) (fun a0 a1 a2 a3 a4 a5 I J h => ih a0 a1 a2 a3 a4 a5 I J h) a1 a2 a4 a5 a7 1 I J h)
        · replace h := qp_iff h5 h
          obtain ⟨h8, h⟩ := qp_gd_s h
          refine qp_run_E qp_ok218 5 (f := vp_in a7 4 ∧ True) (c' := (132, [some (.ref 36), some (.int a1), some (.int a2), none, some (.int a4), some (.int a5), none, some (.int a7), some (.int a8), none], [.int (I 56 (Int32.toNatClampNeg a7)), .int a5], qp_mk I J)) (by with_unfolding_all rfl) hd1 ⟨(qp_vin (c := 4) (by decide) h8.1 h8.2), trivial⟩ ?_
          refine qp_br_E qp_ok218 (f := a5 ≤ (I 56 (Int32.toNatClampNeg a7))) (ct := (139, [some (.ref 36), some (.int a1), some (.int a2), none, some (.int a4), some (.int a5), none, some (.int a7), some (.int a8), none], [], qp_mk I J)) (cf := (135, [some (.ref 36), some (.int a1), some (.int a2), none, some (.int a4), some (.int a5), none, some (.int a7), some (.int a8), none], [], qp_mk I J)) (by with_unfolding_all rfl) (fun h9 => ?_) (fun h9 => ?_)
          · replace h := qp_ift h9 h
            refine qp_run_E qp_ok218 2 (c' := (160, [some (.ref 36), some (.int a1), some (.int a2), none, some (.int a4), some (.int a5), none, some (.int a7), some (.int a8), none], [.int 0], qp_mk I J)) (by with_unfolding_all rfl) hd1 trivial ?_
            exact qp_E_fg [true, true, true, false, true, true, false, true, false, false] (gM_duel_b160 hd (fun a0 a1 a2 a3 a4 a5 I J => fM_duel_b106 k82 n a0 a1 a2 a3 a4 a5 I J) (fun a0 a1 a2 a3 a4 a5 I J h => ih a0 a1 a2 a3 a4 a5 I J h) a1 a2 a4 a5 a7 0 I J h)
          · replace h := qp_iff h9 h
            refine qp_run_E qp_ok218 2 (c' := (160, [some (.ref 36), some (.int a1), some (.int a2), none, some (.int a4), some (.int a5), none, some (.int a7), some (.int a8), none], [.int 1], qp_mk I J)) (by with_unfolding_all rfl) hd1 trivial ?_
            exact qp_E_fg [true, true, true, false, true, true, false, true, false, false] (gM_duel_b160 hd (fun a0 a1 a2 a3 a4 a5 I J => fM_duel_b106 k82 n a0 a1 a2 a3 a4 a5 I J) (fun a0 a1 a2 a3 a4 a5 I J h => ih a0 a1 a2 a3 a4 a5 I J h) a1 a2 a4 a5 a7 1 I J h)
def fM_duel_b82  : Nat → Int32 → Int32 → Int32 → Int32 → Int32 → (Nat → Nat → Int32) → (Nat → Nat → Int64) → Option (Int32 × (Nat → Nat → Int32) × (Nat → Nat → Int64))
  | 0, _, _, _, _, _, _, _ => none
  | n + 1, a1, a2, a4, a5, a6, I, J =>
    if a6 = 0 then (
      qp_bd (fM_asks a5 I J) fun v1 I1 J1 =>
      some (v1, I1, J1)
    ) else (
      qp_bd (fM_goChoices a1 a2 a4 I J) fun v2 I2 J2 =>
      fM_duel_b106 (fun a0 a1 a2 a3 a4 I J => fM_duel_b82 n a0 a1 a2 a3 a4 I J) 100000 a1 a2 a4 v2 (a4 - 1) 1 I2 J2
    )
set_option maxRecDepth 8000 in
theorem gM_duel_b82 {l : Launch} {G : qp_G} {d : Nat} (hd : 4 ≤ d) {r : (Int32 × (Nat → Nat → Int32) × (Nat → Nat → Int64))} {I0 : Nat → Nat → Int32} {J0 : Nat → Nat → Int64}   : ∀ (n : Nat) (a1 : Int32) (a2 : Int32) (a4 : Int32) (a5 : Int32) (a6 : Int32) (I : Nat → Nat → Int32) (J : Nat → Nat → Int64), fM_duel_b82  n a1 a2 a4 a5 a6 I J = some r → qp_E l G d 218 (qp_mk I0 J0) 0 0 (qp_R8 (some (.int r.1)) r.2.1 r.2.2) (82, [some (.ref 36), some (.int a1), some (.int a2), none, some (.int a4), some (.int a5), some (.int a6), none, none, none], [], qp_mk I J) := by
  have hd1 : Nat.ble 1 d = true := Nat.ble_eq_true_of_le (Nat.le_trans (by decide) hd)
  intro n
  induction n with
  | zero => intro a1 a2 a4 a5 a6 I J h; exact absurd h (by simp [fM_duel_b82])
  | succ n ih =>
    intro a1 a2 a4 a5 a6 I J h
    rw [fM_duel_b82] at h
    refine qp_run_E qp_ok218 1 (c' := (84, [some (.ref 36), some (.int a1), some (.int a2), none, some (.int a4), some (.int a5), some (.int a6), none, none, none], [.int a6], qp_mk I J)) (by with_unfolding_all rfl) hd1 trivial ?_
    refine qp_br_E qp_ok218 (f := a6 = 0) (ct := (275, [some (.ref 36), some (.int a1), some (.int a2), none, some (.int a4), some (.int a5), some (.int a6), none, none, none], [], qp_mk I J)) (cf := (87, [some (.ref 36), some (.int a1), some (.int a2), none, some (.int a4), some (.int a5), some (.int a6), none, none, none], [], qp_mk I J)) (by with_unfolding_all rfl) (fun h1 => ?_) (fun h1 => ?_)
    · replace h := qp_ift h1 h
      refine qp_run_E qp_ok218 2 (c' := (278, [some (.ref 36), some (.int a1), some (.int a2), none, some (.int a4), some (.int a5), some (.int a6), none, none, none], [.int a5, .ref 36], qp_mk I J)) (by with_unfolding_all rfl) hd1 trivial ?_
      obtain ⟨v1, I1, J1, e1, h⟩ := qp_bd_s h
      refine qp_cV qp_ok218 (rest := []) (oj := 10) qp_f154 rfl rfl (gM_asks l G a5 I J e1 (Nat.le_refl 1)) rfl rfl rfl rfl (Nat.le_trans (by decide) hd) ?_
      obtain rfl := Option.some.inj h
      exact qp_retI_E qp_ok218 rfl qp_r218.1 ⟨rfl, rfl⟩ ⟨rfl, rfl⟩
    · replace h := qp_iff h1 h
      refine qp_run_E qp_ok218 4 (c' := (92, [some (.ref 36), some (.int a1), some (.int a2), none, some (.int a4), some (.int a5), some (.int a6), none, none, none], [.int a4, .int a2, .int a1, .ref 36], qp_mk I J)) (by with_unfolding_all rfl) hd1 trivial ?_
      obtain ⟨v2, I2, J2, e2, h⟩ := qp_bd_s h
      refine qp_cV qp_ok218 (rest := []) (oj := 10) qp_f220 rfl rfl (gM_goChoices l G a1 a2 a4 I J e2 (Nat.le_refl 3)) rfl rfl rfl rfl (Nat.le_trans (by decide) hd) ?_
      refine qp_run_E qp_ok218 7 (c' := (106, [some (.ref 36), some (.int a1), some (.int a2), none, some (.int a4), some (.int v2), some (.int a6), some (.int (a4 - 1)), some (.int 1), none], [], qp_mk I2 J2)) (by with_unfolding_all rfl) hd1 trivial ?_
      exact qp_E_fg [true, true, true, false, true, true, false, true, true, false] (gM_duel_b106 hd (fun a0 a1 a2 a3 a4 I J => fM_duel_b82 n a0 a1 a2 a3 a4 I J) (fun a0 a1 a2 a3 a4 I J h => ih a0 a1 a2 a3 a4 I J h) 100000 a1 a2 a4 v2 (a4 - 1) 1 I2 J2 h)
def fM_duel_b46  : Nat → Int32 → Int32 → Int32 → Int32 → Int32 → (Nat → Nat → Int32) → (Nat → Nat → Int64) → Option (Int32 × (Nat → Nat → Int32) × (Nat → Nat → Int64))
  | 0, _, _, _, _, _, _, _ => none
  | n + 1, a1, a2, a4, a5, a6, I, J =>
    if a4 ≤ a6 then (
      fM_duel_b82 100000 a1 a2 a4 a5 1 I J
    ) else (
      qp_gd ((0 ≤ a6 ∧ a6 < 4)) <|
      qp_bd (fM_startOf a6 (qp_up I 55 (Int32.toNatClampNeg a6) 0) J) fun v1 I1 J1 =>
      qp_gd ((0 ≤ a6 ∧ a6 < 4)) <|
      fM_duel_b46 n a1 a2 a4 a5 (a6 + 1) (qp_up I1 56 (Int32.toNatClampNeg a6) v1) J1
    )
set_option maxRecDepth 8000 in
theorem gM_duel_b46 {l : Launch} {G : qp_G} {d : Nat} (hd : 4 ≤ d) {r : (Int32 × (Nat → Nat → Int32) × (Nat → Nat → Int64))} {I0 : Nat → Nat → Int32} {J0 : Nat → Nat → Int64}   : ∀ (n : Nat) (a1 : Int32) (a2 : Int32) (a4 : Int32) (a5 : Int32) (a6 : Int32) (I : Nat → Nat → Int32) (J : Nat → Nat → Int64), fM_duel_b46  n a1 a2 a4 a5 a6 I J = some r → qp_E l G d 218 (qp_mk I0 J0) 0 0 (qp_R8 (some (.int r.1)) r.2.1 r.2.2) (46, [some (.ref 36), some (.int a1), some (.int a2), none, some (.int a4), some (.int a5), some (.int a6), none, none, none], [], qp_mk I J) := by
  have hd1 : Nat.ble 1 d = true := Nat.ble_eq_true_of_le (Nat.le_trans (by decide) hd)
  intro n
  induction n with
  | zero => intro a1 a2 a4 a5 a6 I J h; exact absurd h (by simp [fM_duel_b46])
  | succ n ih =>
    intro a1 a2 a4 a5 a6 I J h
    rw [fM_duel_b46] at h
    refine qp_run_E qp_ok218 2 (c' := (50, [some (.ref 36), some (.int a1), some (.int a2), none, some (.int a4), some (.int a5), some (.int a6), none, none, none], [.int a4, .int a6], qp_mk I J)) (by with_unfolding_all rfl) hd1 trivial ?_
    refine qp_br_E qp_ok218 (f := a4 ≤ a6) (ct := (79, [some (.ref 36), some (.int a1), some (.int a2), none, some (.int a4), some (.int a5), some (.int a6), none, none, none], [], qp_mk I J)) (cf := (53, [some (.ref 36), some (.int a1), some (.int a2), none, some (.int a4), some (.int a5), some (.int a6), none, none, none], [], qp_mk I J)) (by with_unfolding_all rfl) (fun h1 => ?_) (fun h1 => ?_)
    · replace h := qp_ift h1 h
      refine qp_run_E qp_ok218 2 (c' := (82, [some (.ref 36), some (.int a1), some (.int a2), none, some (.int a4), some (.int a5), some (.int 1), none, none, none], [], qp_mk I J)) (by with_unfolding_all rfl) hd1 trivial ?_
      exact gM_duel_b82 hd 100000 a1 a2 a4 a5 1 I J h
    · replace h := qp_iff h1 h
      obtain ⟨h2, h⟩ := qp_gd_s h
      refine qp_run_E qp_ok218 9 (f := vp_in a6 4 ∧ True) (c' := (69, [some (.ref 36), some (.int a1), some (.int a2), none, some (.int a4), some (.int a5), some (.int a6), none, none, none], [.int a6, .int a6, .ref 56], qp_mk (qp_up I 55 (Int32.toNatClampNeg a6) 0) J)) (by with_unfolding_all rfl) hd1 ⟨(qp_vin (c := 4) (by decide) h2.1 h2.2), trivial⟩ ?_
      obtain ⟨v1, I1, J1, e1, h⟩ := qp_bd_s h
      refine qp_cS qp_ok218 (rest := [.int a6, .ref 56]) (oj := 10) qp_f219 rfl rfl (gM_startOf l G a6 (qp_up I 55 (Int32.toNatClampNeg a6) 0) J e1 (Nat.le_refl 1)) rfl rfl rfl (Nat.le_trans (by decide) hd) ?_
      obtain ⟨h3, h⟩ := qp_gd_s h
      refine qp_run_E qp_ok218 3 (f := vp_in a6 4 ∧ True) (c' := (46, [some (.ref 36), some (.int a1), some (.int a2), none, some (.int a4), some (.int a5), some (.int (a6 + 1)), none, none, none], [], qp_mk (qp_up I1 56 (Int32.toNatClampNeg a6) v1) J1)) (by with_unfolding_all rfl) hd1 ⟨(qp_vin (c := 4) (by decide) h3.1 h3.2), trivial⟩ ?_
      exact ih a1 a2 a4 a5 (a6 + 1) (qp_up I1 56 (Int32.toNatClampNeg a6) v1) J1 h
def fM_duel (p1 : Int32) (p2 : Int32) (p3 : Int32) (I : Nat → Nat → Int32) (J : Nat → Nat → Int64) : Option (Int32 × (Nat → Nat → Int32) × (Nat → Nat → Int64)) :=
  qp_bd (fM_isOne p1 I J) fun v1 I1 J1 =>
  if v1 = 0 then (
    some ((-1), I1, J1)
  ) else (
    qp_bd (fM_isOne p2 I1 J1) fun v2 I2 J2 =>
    if v2 = 0 then (
      some ((-1), I2, J2)
    ) else (
      if p1 = p2 then (
        some ((-1), I2, J2)
      ) else (
        qp_bd (fM_in (Int32.toInt64 p3) 0 2 I2 J2) fun v3 I3 J3 =>
        if ¬ v3 = 0 then (
          fM_duel_b46 100000 p1 p2 ((2 : Int32) * p3) 0 0 I3 J3
        ) else (
          some ((-1), I3, J3)
        )
      )
    )
  )
set_option maxRecDepth 8000 in
theorem gM_duel (l : Launch) (G : qp_G) (p1 : Int32) (p2 : Int32) (p3 : Int32) (I : Nat → Nat → Int32) (J : Nat → Nat → Int64) {v : Int32} {I' : Nat → Nat → Int32} {J' : Nat → Nat → Int64} (h : fM_duel p1 p2 p3 I J = some (v, I', J')) {d : Nat} (hd : 4 ≤ d) : qp_Met l G d 218 [.ref 36, .int p1, .int p2, .int p3] (qp_mk I J) 0 0 (qp_R8 (some (.int v)) I' J') := by
  have hd1 : Nat.ble 1 d = true := Nat.ble_eq_true_of_le (Nat.le_trans (by decide) hd)
  refine qp_Met_of (by decide) (by rw [qp_r218.2]; rfl) [some (.ref 36), some (.int p1), some (.int p2), some (.int p3), none, none, none, none, none, none] (by rw [qp_r218.2]; rfl) ?_
  unfold fM_duel at h
  refine qp_run_E qp_ok218 2 (c' := (2, [some (.ref 36), some (.int p1), some (.int p2), some (.int p3), none, none, none, none, none, none], [.int p1, .ref 36], qp_mk I J)) (by with_unfolding_all rfl) hd1 trivial ?_
  obtain ⟨v1, I1, J1, e1, h⟩ := qp_bd_s h
  refine qp_cV qp_ok218 (rest := []) (oj := 10) qp_f172 rfl rfl (gM_isOne l G p1 I J e1 (Nat.le_refl 2)) rfl rfl rfl rfl (Nat.le_trans (by decide) hd) ?_
  refine qp_br_E qp_ok218 (f := v1 = 0) (ct := (33, [some (.ref 36), some (.int p1), some (.int p2), some (.int p3), none, none, none, none, none, none], [], qp_mk I1 J1)) (cf := (8, [some (.ref 36), some (.int p1), some (.int p2), some (.int p3), none, none, none, none, none, none], [], qp_mk I1 J1)) (by with_unfolding_all rfl) (fun h1 => ?_) (fun h1 => ?_)
  · replace h := qp_ift h1 h
    refine qp_run_E qp_ok218 1 (c' := (34, [some (.ref 36), some (.int p1), some (.int p2), some (.int p3), none, none, none, none, none, none], [.int (-1)], qp_mk I1 J1)) (by with_unfolding_all rfl) hd1 trivial ?_
    obtain ⟨rfl, rfl, rfl⟩ := qp_some3 h
    exact qp_retI_E qp_ok218 rfl qp_r218.1 ⟨rfl, rfl⟩ ⟨rfl, rfl⟩
  · replace h := qp_iff h1 h
    refine qp_run_E qp_ok218 2 (c' := (10, [some (.ref 36), some (.int p1), some (.int p2), some (.int p3), none, none, none, none, none, none], [.int p2, .ref 36], qp_mk I1 J1)) (by with_unfolding_all rfl) hd1 trivial ?_
    obtain ⟨v2, I2, J2, e2, h⟩ := qp_bd_s h
    refine qp_cV qp_ok218 (rest := []) (oj := 10) qp_f172 rfl rfl (gM_isOne l G p2 I1 J1 e2 (Nat.le_refl 2)) rfl rfl rfl rfl (Nat.le_trans (by decide) hd) ?_
    refine qp_br_E qp_ok218 (f := v2 = 0) (ct := (33, [some (.ref 36), some (.int p1), some (.int p2), some (.int p3), none, none, none, none, none, none], [], qp_mk I2 J2)) (cf := (16, [some (.ref 36), some (.int p1), some (.int p2), some (.int p3), none, none, none, none, none, none], [], qp_mk I2 J2)) (by with_unfolding_all rfl) (fun h2 => ?_) (fun h2 => ?_)
    · replace h := qp_ift h2 h
      refine qp_run_E qp_ok218 1 (c' := (34, [some (.ref 36), some (.int p1), some (.int p2), some (.int p3), none, none, none, none, none, none], [.int (-1)], qp_mk I2 J2)) (by with_unfolding_all rfl) hd1 trivial ?_
      obtain ⟨rfl, rfl, rfl⟩ := qp_some3 h
      exact qp_retI_E qp_ok218 rfl qp_r218.1 ⟨rfl, rfl⟩ ⟨rfl, rfl⟩
    · replace h := qp_iff h2 h
      refine qp_run_E qp_ok218 2 (c' := (18, [some (.ref 36), some (.int p1), some (.int p2), some (.int p3), none, none, none, none, none, none], [.int p2, .int p1], qp_mk I2 J2)) (by with_unfolding_all rfl) hd1 trivial ?_
      refine qp_br_E qp_ok218 (f := p1 = p2) (ct := (33, [some (.ref 36), some (.int p1), some (.int p2), some (.int p3), none, none, none, none, none, none], [], qp_mk I2 J2)) (cf := (21, [some (.ref 36), some (.int p1), some (.int p2), some (.int p3), none, none, none, none, none, none], [], qp_mk I2 J2)) (by with_unfolding_all rfl) (fun h3 => ?_) (fun h3 => ?_)
      · replace h := qp_ift h3 h
        refine qp_run_E qp_ok218 1 (c' := (34, [some (.ref 36), some (.int p1), some (.int p2), some (.int p3), none, none, none, none, none, none], [.int (-1)], qp_mk I2 J2)) (by with_unfolding_all rfl) hd1 trivial ?_
        obtain ⟨rfl, rfl, rfl⟩ := qp_some3 h
        exact qp_retI_E qp_ok218 rfl qp_r218.1 ⟨rfl, rfl⟩ ⟨rfl, rfl⟩
      · replace h := qp_iff h3 h
        refine qp_run_E qp_ok218 4 (c' := (27, [some (.ref 36), some (.int p1), some (.int p2), some (.int p3), none, none, none, none, none, none], [.long 2, .long 0, .long (Int32.toInt64 p3)], qp_mk I2 J2)) (by with_unfolding_all rfl) hd1 trivial ?_
        obtain ⟨v3, I3, J3, e3, h⟩ := qp_bd_s h
        refine qp_cS qp_ok218 (rest := []) (oj := 10) qp_f150 rfl rfl (gM_in l G (Int32.toInt64 p3) 0 2 I2 J2 e3 (Nat.le_refl 1)) rfl rfl rfl (Nat.le_trans (by decide) hd) ?_
        refine qp_br_E qp_ok218 (f := ¬ v3 = 0) (ct := (35, [some (.ref 36), some (.int p1), some (.int p2), some (.int p3), none, none, none, none, none, none], [], qp_mk I3 J3)) (cf := (33, [some (.ref 36), some (.int p1), some (.int p2), some (.int p3), none, none, none, none, none, none], [], qp_mk I3 J3)) (by with_unfolding_all rfl) (fun h4 => ?_) (fun h4 => ?_)
        · replace h := qp_ift h4 h
          refine qp_run_E qp_ok218 8 (c' := (46, [some (.ref 36), some (.int p1), some (.int p2), some (.int p3), some (.int ((2 : Int32) * p3)), some (.int 0), some (.int 0), none, none, none], [], qp_mk I3 J3)) (by with_unfolding_all rfl) hd1 trivial ?_
          exact qp_E_fg [true, true, true, false, true, true, true, false, false, false] (gM_duel_b46 hd 100000 p1 p2 ((2 : Int32) * p3) 0 0 I3 J3 h)
        · replace h := qp_iff h4 h
          refine qp_run_E qp_ok218 1 (c' := (34, [some (.ref 36), some (.int p1), some (.int p2), some (.int p3), none, none, none, none, none, none], [.int (-1)], qp_mk I3 J3)) (by with_unfolding_all rfl) hd1 trivial ?_
          obtain ⟨rfl, rfl, rfl⟩ := qp_some3 h
          exact qp_retI_E qp_ok218 rfl qp_r218.1 ⟨rfl, rfl⟩ ⟨rfl, rfl⟩
def fM_fraction_b6  : Nat → Int64 → Int64 → Int64 → Int64 → (Nat → Nat → Int32) → (Nat → Nat → Int64) → Option (Unit × (Nat → Nat → Int32) × (Nat → Nat → Int64))
  | 0, _, _, _, _, _, _ => none
  | n + 1, a1, a3, a5, a7, I, J =>
    if (lg_cmp a7 0) = 0 then (
      qp_gd ((¬ a5 = 0)) <|
      some ((), I, (qp_up (qp_up J 36 10 (a1 / a5)) 36 11 (a3 / a5)))
    ) else (
      qp_gd ((¬ a7 = 0)) <|
      fM_fraction_b6 n a1 a3 a7 (a5 - a5 / a7 * a7) I J
    )
set_option maxRecDepth 8000 in
theorem gM_fraction_b6 {l : Launch} {G : qp_G} {d : Nat} (hd : 1 ≤ d) {r : (Unit × (Nat → Nat → Int32) × (Nat → Nat → Int64))} {I0 : Nat → Nat → Int32} {J0 : Nat → Nat → Int64}   : ∀ (n : Nat) (a1 : Int64) (a3 : Int64) (a5 : Int64) (a7 : Int64) (I : Nat → Nat → Int32) (J : Nat → Nat → Int64), fM_fraction_b6  n a1 a3 a5 a7 I J = some r → qp_E l G d 223 (qp_mk I0 J0) 0 0 (qp_R8 none r.2.1 r.2.2) (6, [some (.ref 36), some (.long a1), none, some (.long a3), none, some (.long a5), none, some (.long a7), none, none, none], [], qp_mk I J) := by
  have hd1 : Nat.ble 1 d = true := Nat.ble_eq_true_of_le (Nat.le_trans (by decide) hd)
  intro n
  induction n with
  | zero => intro a1 a3 a5 a7 I J h; exact absurd h (by simp [fM_fraction_b6])
  | succ n ih =>
    intro a1 a3 a5 a7 I J h
    rw [fM_fraction_b6] at h
    refine qp_run_E qp_ok223 3 (c' := (10, [some (.ref 36), some (.long a1), none, some (.long a3), none, some (.long a5), none, some (.long a7), none, none, none], [.int (lg_cmp a7 0)], qp_mk I J)) (by with_unfolding_all rfl) hd1 trivial ?_
    refine qp_br_E qp_ok223 (f := (lg_cmp a7 0) = 0) (ct := (31, [some (.ref 36), some (.long a1), none, some (.long a3), none, some (.long a5), none, some (.long a7), none, none, none], [], qp_mk I J)) (cf := (13, [some (.ref 36), some (.long a1), none, some (.long a3), none, some (.long a5), none, some (.long a7), none, none, none], [], qp_mk I J)) (by with_unfolding_all rfl) (fun h1 => ?_) (fun h1 => ?_)
    · replace h := qp_ift h1 h
      obtain ⟨h2, h⟩ := qp_gd_s h
      refine qp_run_E qp_ok223 10 (f := ¬ (a5 : Int64) = 0 ∧ ¬ (a5 : Int64) = 0 ∧ True) (c' := (47, [some (.ref 36), some (.long a1), none, some (.long a3), none, some (.long a5), none, some (.long a7), none, none, none], [], qp_mk I (qp_up (qp_up J 36 10 (a1 / a5)) 36 11 (a3 / a5)))) (by with_unfolding_all rfl) hd1 ⟨h2, h2, trivial⟩ ?_
      obtain rfl := Option.some.inj h
      exact qp_retV_E qp_ok223 rfl qp_r223.1 ⟨rfl, rfl⟩ ⟨rfl, rfl⟩
    · replace h := qp_iff h1 h
      obtain ⟨h3, h⟩ := qp_gd_s h
      refine qp_run_E qp_ok223 9 (f := ¬ (a7 : Int64) = 0 ∧ True) (c' := (6, [some (.ref 36), some (.long a1), none, some (.long a3), none, some (.long a7), none, some (.long (a5 - a5 / a7 * a7)), none, some (.long (a5 - a5 / a7 * a7)), none], [], qp_mk I J)) (by with_unfolding_all rfl) hd1 ⟨h3, trivial⟩ ?_
      exact qp_E_fg [true, true, false, true, false, true, false, true, false, false, false] (ih a1 a3 a7 (a5 - a5 / a7 * a7) I J h)
def fM_fraction (p1 : Int64) (p3 : Int64) (I : Nat → Nat → Int32) (J : Nat → Nat → Int64) : Option (Unit × (Nat → Nat → Int32) × (Nat → Nat → Int64)) :=
  fM_fraction_b6 100000 p1 p3 p1 p3 I J
set_option maxRecDepth 8000 in
theorem gM_fraction (l : Launch) (G : qp_G) (p1 : Int64) (p3 : Int64) (I : Nat → Nat → Int32) (J : Nat → Nat → Int64) {v : Unit} {I' : Nat → Nat → Int32} {J' : Nat → Nat → Int64} (h : fM_fraction p1 p3 I J = some (v, I', J')) {d : Nat} (hd : 1 ≤ d) : qp_Met l G d 223 [.ref 36, .long p1, .long p3] (qp_mk I J) 0 0 (qp_R8 none I' J') := by
  have hd1 : Nat.ble 1 d = true := Nat.ble_eq_true_of_le (Nat.le_trans (by decide) hd)
  refine qp_Met_of (by decide) (by rw [qp_r223.2]; rfl) [some (.ref 36), some (.long p1), none, some (.long p3), none, none, none, none, none, none, none] (by rw [qp_r223.2]; rfl) ?_
  unfold fM_fraction at h
  refine qp_run_E qp_ok223 4 (c' := (6, [some (.ref 36), some (.long p1), none, some (.long p3), none, some (.long p1), none, some (.long p3), none, none, none], [], qp_mk I J)) (by with_unfolding_all rfl) hd1 trivial ?_
  exact gM_fraction_b6 hd 100000 p1 p3 p1 p3 I J h
def fM_serve_36_57_b93  (k26 : Int32 → Int32 → Int32 → Int32 → Int32 → (Nat → Nat → Int32) → (Nat → Nat → Int64) → Option (Unit × (Nat → Nat → Int32) × (Nat → Nat → Int64))) (a2 : Int32) (a3 : Int32) (a4 : Int32) (a5 : Int32) (a6 : Int32) (a7 : Int32) (s0 : Int32) (s1 : Int32) (s2 : Int32) (I : Nat → Nat → Int32) (J : Nat → Nat → Int64) : Option (Unit × (Nat → Nat → Int32) × (Nat → Nat → Int64)) :=
  qp_bd (fM_wantsAs s1 s0 I J) fun v1 I1 J1 =>
  qp_gd ((0 ≤ s2 ∧ s2 < 6) ∧ (0 ≤ a7 ∧ a7 < 6) ∧ (0 ≤ ((8 : Int32) + a7) ∧ ((8 : Int32) + a7) < 75)) <|
  if a4 ≤ (I1 37 (Int32.toNatClampNeg ((8 : Int32) + a7))) then (
    qp_gd ((0 ≤ a7 ∧ a7 < 6)) <|
    if (I1 36 20) ≤ ((qp_up I1 51 (Int32.toNatClampNeg s2) v1) 51 (Int32.toNatClampNeg a7)) then (
      qp_gd ((0 ≤ a7 ∧ a7 < 6)) <|
      k26 a2 a3 (a4 + 1) a5 (a6 + 1) (qp_up (qp_up (qp_up (qp_up (qp_up I1 51 (Int32.toNatClampNeg s2) v1) 49 (Int32.toNatClampNeg a7) a4) 50 (Int32.toNatClampNeg a7) (I1 36 20)) 48 (Int32.toNatClampNeg a7) (I1 36 20)) 36 20 ((I1 36 20) - ((qp_up I1 48 (Int32.toNatClampNeg a7) (I1 36 20)) 48 (Int32.toNatClampNeg a7)))) J1
    ) else (
      qp_gd ((0 ≤ a7 ∧ a7 < 6)) <|
      k26 a2 a3 (a4 + 1) a5 (a6 + 1) (qp_up (qp_up (qp_up (qp_up (qp_up I1 51 (Int32.toNatClampNeg s2) v1) 49 (Int32.toNatClampNeg a7) a4) 50 (Int32.toNatClampNeg a7) (I1 36 20)) 48 (Int32.toNatClampNeg a7) ((qp_up I1 51 (Int32.toNatClampNeg s2) v1) 51 (Int32.toNatClampNeg a7))) 36 20 ((I1 36 20) - ((qp_up I1 48 (Int32.toNatClampNeg a7) ((qp_up I1 51 (Int32.toNatClampNeg s2) v1) 51 (Int32.toNatClampNeg a7))) 48 (Int32.toNatClampNeg a7)))) J1
    )
  ) else (
    qp_gd ((0 ≤ a7 ∧ a7 < 6)) <|
    k26 a2 a3 (a4 + 1) a5 (a6 + 1) (qp_up (qp_up (qp_up (qp_up (qp_up I1 51 (Int32.toNatClampNeg s2) v1) 49 (Int32.toNatClampNeg a7) a4) 50 (Int32.toNatClampNeg a7) (I1 36 20)) 48 (Int32.toNatClampNeg a7) 0) 36 20 ((I1 36 20) - ((qp_up I1 48 (Int32.toNatClampNeg a7) 0) 48 (Int32.toNatClampNeg a7)))) J1
  )
set_option maxRecDepth 8000 in
theorem gM_serve_36_57_b93 {l : Launch} {G : qp_G} {d : Nat} (hd : 2 ≤ d) {r : (Unit × (Nat → Nat → Int32) × (Nat → Nat → Int64))} {I0 : Nat → Nat → Int32} {J0 : Nat → Nat → Int64}  (k26 : Int32 → Int32 → Int32 → Int32 → Int32 → (Nat → Nat → Int32) → (Nat → Nat → Int64) → Option (Unit × (Nat → Nat → Int32) × (Nat → Nat → Int64))) (hk26 : ∀ a2 a3 a4 a5 a6 I J, k26 a2 a3 a4 a5 a6 I J = some r → qp_E l G d 175 (qp_mk I0 J0) 0 0 (qp_R8 none r.2.1 r.2.2) (26, [some (.ref 36), some (.ref 57), some (.int a2), some (.int a3), some (.int a4), some (.int a5), some (.int a6), none], [], qp_mk I J)) : ∀ (a2 : Int32) (a3 : Int32) (a4 : Int32) (a5 : Int32) (a6 : Int32) (a7 : Int32) (s0 : Int32) (s1 : Int32) (s2 : Int32) (I : Nat → Nat → Int32) (J : Nat → Nat → Int64), fM_serve_36_57_b93 k26 a2 a3 a4 a5 a6 a7 s0 s1 s2 I J = some r → qp_E l G d 175 (qp_mk I0 J0) 0 0 (qp_R8 none r.2.1 r.2.2) (93, [some (.ref 36), some (.ref 57), some (.int a2), some (.int a3), some (.int a4), some (.int a5), some (.int a6), some (.int a7)], [.int s0, .int s1, .int s2, .ref 51], qp_mk I J) := by
  have hd1 : Nat.ble 1 d = true := Nat.ble_eq_true_of_le (Nat.le_trans (by decide) hd)
  intro a2 a3 a4 a5 a6 a7 s0 s1 s2 I J h
  unfold fM_serve_36_57_b93 at h
  obtain ⟨v1, I1, J1, e1, h⟩ := qp_bd_s h
  refine qp_cS qp_ok175 (rest := [.int s2, .ref 51]) (oj := 10) qp_f177 rfl rfl (gM_wantsAs l G s1 s0 I J e1 (Nat.le_refl 1)) rfl rfl rfl (Nat.le_trans (by decide) hd) ?_
  obtain ⟨h1, h⟩ := qp_gd_s h
  refine qp_run_E qp_ok175 22 (f := vp_in s2 6 ∧ vp_in a7 6 ∧ vp_in a7 6 ∧ vp_in ((8 : Int32) + a7) 75 ∧ True) (c' := (135, [some (.ref 36), some (.ref 57), some (.int a2), some (.int a3), some (.int a4), some (.int a5), some (.int a6), some (.int a7)], [.int (I1 37 (Int32.toNatClampNeg ((8 : Int32) + a7))), .int a4, .int a7, .ref 48], qp_mk (qp_up (qp_up (qp_up I1 51 (Int32.toNatClampNeg s2) v1) 49 (Int32.toNatClampNeg a7) a4) 50 (Int32.toNatClampNeg a7) (I1 36 20)) J1)) (by with_unfolding_all rfl) hd1 ⟨(qp_vin (c := 6) (by decide) h1.1.1 h1.1.2), (qp_vin (c := 6) (by decide) h1.2.1.1 h1.2.1.2), (qp_vin (c := 6) (by decide) h1.2.1.1 h1.2.1.2), (qp_vin (c := 75) (by decide) h1.2.2.1 h1.2.2.2), trivial⟩ ?_
  refine qp_br_E qp_ok175 (f := a4 ≤ (I1 37 (Int32.toNatClampNeg ((8 : Int32) + a7)))) (ct := (142, [some (.ref 36), some (.ref 57), some (.int a2), some (.int a3), some (.int a4), some (.int a5), some (.int a6), some (.int a7)], [.int a7, .ref 48], qp_mk (qp_up (qp_up (qp_up I1 51 (Int32.toNatClampNeg s2) v1) 49 (Int32.toNatClampNeg a7) a4) 50 (Int32.toNatClampNeg a7) (I1 36 20)) J1)) (cf := (138, [some (.ref 36), some (.ref 57), some (.int a2), some (.int a3), some (.int a4), some (.int a5), some (.int a6), some (.int a7)], [.int a7, .ref 48], qp_mk (qp_up (qp_up (qp_up I1 51 (Int32.toNatClampNeg s2) v1) 49 (Int32.toNatClampNeg a7) a4) 50 (Int32.toNatClampNeg a7) (I1 36 20)) J1)) (by with_unfolding_all rfl) (fun h2 => ?_) (fun h2 => ?_)
  · replace h := qp_ift h2 h
    obtain ⟨h3, h⟩ := qp_gd_s h
    refine qp_run_E qp_ok175 6 (f := vp_in a7 6 ∧ True) (c' := (153, [some (.ref 36), some (.ref 57), some (.int a2), some (.int a3), some (.int a4), some (.int a5), some (.int a6), some (.int a7)], [.int (I1 36 20), .int ((qp_up I1 51 (Int32.toNatClampNeg s2) v1) 51 (Int32.toNatClampNeg a7)), .int a7, .ref 48], qp_mk (qp_up (qp_up (qp_up I1 51 (Int32.toNatClampNeg s2) v1) 49 (Int32.toNatClampNeg a7) a4) 50 (Int32.toNatClampNeg a7) (I1 36 20)) J1)) (by with_unfolding_all rfl) hd1 ⟨(qp_vin (c := 6) (by decide) h3.1 h3.2), trivial⟩ ?_
    refine qp_br_E qp_ok175 (f := (I1 36 20) ≤ ((qp_up I1 51 (Int32.toNatClampNeg s2) v1) 51 (Int32.toNatClampNeg a7))) (ct := (166, [some (.ref 36), some (.ref 57), some (.int a2), some (.int a3), some (.int a4), some (.int a5), some (.int a6), some (.int a7)], [.int a7, .ref 48], qp_mk (qp_up (qp_up (qp_up I1 51 (Int32.toNatClampNeg s2) v1) 49 (Int32.toNatClampNeg a7) a4) 50 (Int32.toNatClampNeg a7) (I1 36 20)) J1)) (cf := (156, [some (.ref 36), some (.ref 57), some (.int a2), some (.int a3), some (.int a4), some (.int a5), some (.int a6), some (.int a7)], [.int a7, .ref 48], qp_mk (qp_up (qp_up (qp_up I1 51 (Int32.toNatClampNeg s2) v1) 49 (Int32.toNatClampNeg a7) a4) 50 (Int32.toNatClampNeg a7) (I1 36 20)) J1)) (by with_unfolding_all rfl) (fun h4 => ?_) (fun h4 => ?_)
    · replace h := qp_ift h4 h
      obtain ⟨h5, h⟩ := qp_gd_s h
      refine qp_run_E qp_ok175 15 (f := vp_in a7 6 ∧ vp_in a7 6 ∧ True) (c' := (26, [some (.ref 36), some (.ref 57), some (.int a2), some (.int a3), some (.int (a4 + 1)), some (.int a5), some (.int (a6 + 1)), some (.int a7)], [], qp_mk (qp_up (qp_up (qp_up (qp_up (qp_up I1 51 (Int32.toNatClampNeg s2) v1) 49 (Int32.toNatClampNeg a7) a4) 50 (Int32.toNatClampNeg a7) (I1 36 20)) 48 (Int32.toNatClampNeg a7) (I1 36 20)) 36 20 ((I1 36 20) - ((qp_up I1 48 (Int32.toNatClampNeg a7) (I1 36 20)) 48 (Int32.toNatClampNeg a7)))) J1)) (by with_unfolding_all rfl) hd1 ⟨(qp_vin (c := 6) (by decide) h5.1 h5.2), (qp_vin (c := 6) (by decide) h5.1 h5.2), trivial⟩ ?_
      exact qp_E_fg [true, true, true, true, true, true, true, false] (hk26 a2 a3 (a4 + 1) a5 (a6 + 1) (qp_up (qp_up (qp_up (qp_up (qp_up I1 51 (Int32.toNatClampNeg s2) v1) 49 (Int32.toNatClampNeg a7) a4) 50 (Int32.toNatClampNeg a7) (I1 36 20)) 48 (Int32.toNatClampNeg a7) (I1 36 20)) 36 20 ((I1 36 20) - ((qp_up I1 48 (Int32.toNatClampNeg a7) (I1 36 20)) 48 (Int32.toNatClampNeg a7)))) J1 h)
    · replace h := qp_iff h4 h
      obtain ⟨h6, h⟩ := qp_gd_s h
      refine qp_run_E qp_ok175 18 (f := vp_in a7 6 ∧ vp_in a7 6 ∧ vp_in a7 6 ∧ True) (c' := (26, [some (.ref 36), some (.ref 57), some (.int a2), some (.int a3), some (.int (a4 + 1)), some (.int a5), some (.int (a6 + 1)), some (.int a7)], [], qp_mk (qp_up (qp_up (qp_up (qp_up (qp_up I1 51 (Int32.toNatClampNeg s2) v1) 49 (Int32.toNatClampNeg a7) a4) 50 (Int32.toNatClampNeg a7) (I1 36 20)) 48 (Int32.toNatClampNeg a7) ((qp_up I1 51 (Int32.toNatClampNeg s2) v1) 51 (Int32.toNatClampNeg a7))) 36 20 ((I1 36 20) - ((qp_up I1 48 (Int32.toNatClampNeg a7) ((qp_up I1 51 (Int32.toNatClampNeg s2) v1) 51 (Int32.toNatClampNeg a7))) 48 (Int32.toNatClampNeg a7)))) J1)) (by with_unfolding_all rfl) hd1 ⟨(qp_vin (c := 6) (by decide) h6.1 h6.2), (qp_vin (c := 6) (by decide) h6.1 h6.2), (qp_vin (c := 6) (by decide) h6.1 h6.2), trivial⟩ ?_
      exact qp_E_fg [true, true, true, true, true, true, true, false] (hk26 a2 a3 (a4 + 1) a5 (a6 + 1) (qp_up (qp_up (qp_up (qp_up (qp_up I1 51 (Int32.toNatClampNeg s2) v1) 49 (Int32.toNatClampNeg a7) a4) 50 (Int32.toNatClampNeg a7) (I1 36 20)) 48 (Int32.toNatClampNeg a7) ((qp_up I1 51 (Int32.toNatClampNeg s2) v1) 51 (Int32.toNatClampNeg a7))) 36 20 ((I1 36 20) - ((qp_up I1 48 (Int32.toNatClampNeg a7) ((qp_up I1 51 (Int32.toNatClampNeg s2) v1) 51 (Int32.toNatClampNeg a7))) 48 (Int32.toNatClampNeg a7)))) J1 h)
  · replace h := qp_iff h2 h
    obtain ⟨h7, h⟩ := qp_gd_s h
    refine qp_run_E qp_ok175 15 (f := vp_in a7 6 ∧ vp_in a7 6 ∧ True) (c' := (26, [some (.ref 36), some (.ref 57), some (.int a2), some (.int a3), some (.int (a4 + 1)), some (.int a5), some (.int (a6 + 1)), some (.int a7)], [], qp_mk (qp_up (qp_up (qp_up (qp_up (qp_up I1 51 (Int32.toNatClampNeg s2) v1) 49 (Int32.toNatClampNeg a7) a4) 50 (Int32.toNatClampNeg a7) (I1 36 20)) 48 (Int32.toNatClampNeg a7) 0) 36 20 ((I1 36 20) - ((qp_up I1 48 (Int32.toNatClampNeg a7) 0) 48 (Int32.toNatClampNeg a7)))) J1)) (by with_unfolding_all rfl) hd1 ⟨(qp_vin (c := 6) (by decide) h7.1 h7.2), (qp_vin (c := 6) (by decide) h7.1 h7.2), trivial⟩ ?_
    exact qp_E_fg [true, true, true, true, true, true, true, false] (hk26 a2 a3 (a4 + 1) a5 (a6 + 1) (qp_up (qp_up (qp_up (qp_up (qp_up I1 51 (Int32.toNatClampNeg s2) v1) 49 (Int32.toNatClampNeg a7) a4) 50 (Int32.toNatClampNeg a7) (I1 36 20)) 48 (Int32.toNatClampNeg a7) 0) 36 20 ((I1 36 20) - ((qp_up I1 48 (Int32.toNatClampNeg a7) 0) 48 (Int32.toNatClampNeg a7)))) J1 h)
def fM_serve_36_57_b62  (k26 : Int32 → Int32 → Int32 → Int32 → Int32 → (Nat → Nat → Int32) → (Nat → Nat → Int64) → Option (Unit × (Nat → Nat → Int32) × (Nat → Nat → Int64))) (a2 : Int32) (a3 : Int32) (a4 : Int32) (a5 : Int32) (a6 : Int32) (a7 : Int32) (s0 : Int32) (s1 : Int32) (I : Nat → Nat → Int32) (J : Nat → Nat → Int64) : Option (Unit × (Nat → Nat → Int32) × (Nat → Nat → Int64)) :=
  if ¬ s1 = s0 then (
    k26 a2 a3 a4 a5 (a6 + 1) I J
  ) else (
    qp_gd ((0 ≤ ((2 : Int32) + a7) ∧ ((2 : Int32) + a7) < 75)) <|
    if ¬ a6 = (a3 - 1) then (
      fM_serve_36_57_b93 k26 a2 a3 a4 a5 a6 a7 0 (I 37 (Int32.toNatClampNeg ((2 : Int32) + a7))) a7 I J
    ) else (
      fM_serve_36_57_b93 k26 a2 a3 a4 a5 a6 a7 1 (I 37 (Int32.toNatClampNeg ((2 : Int32) + a7))) a7 I J
    )
  )
set_option maxRecDepth 8000 in
theorem gM_serve_36_57_b62 {l : Launch} {G : qp_G} {d : Nat} (hd : 2 ≤ d) {r : (Unit × (Nat → Nat → Int32) × (Nat → Nat → Int64))} {I0 : Nat → Nat → Int32} {J0 : Nat → Nat → Int64}  (k26 : Int32 → Int32 → Int32 → Int32 → Int32 → (Nat → Nat → Int32) → (Nat → Nat → Int64) → Option (Unit × (Nat → Nat → Int32) × (Nat → Nat → Int64))) (hk26 : ∀ a2 a3 a4 a5 a6 I J, k26 a2 a3 a4 a5 a6 I J = some r → qp_E l G d 175 (qp_mk I0 J0) 0 0 (qp_R8 none r.2.1 r.2.2) (26, [some (.ref 36), some (.ref 57), some (.int a2), some (.int a3), some (.int a4), some (.int a5), some (.int a6), none], [], qp_mk I J)) : ∀ (a2 : Int32) (a3 : Int32) (a4 : Int32) (a5 : Int32) (a6 : Int32) (a7 : Int32) (s0 : Int32) (s1 : Int32) (I : Nat → Nat → Int32) (J : Nat → Nat → Int64), fM_serve_36_57_b62 k26 a2 a3 a4 a5 a6 a7 s0 s1 I J = some r → qp_E l G d 175 (qp_mk I0 J0) 0 0 (qp_R8 none r.2.1 r.2.2) (62, [some (.ref 36), some (.ref 57), some (.int a2), some (.int a3), some (.int a4), some (.int a5), some (.int a6), some (.int a7)], [.int s0, .int s1], qp_mk I J) := by
  have hd1 : Nat.ble 1 d = true := Nat.ble_eq_true_of_le (Nat.le_trans (by decide) hd)
  intro a2 a3 a4 a5 a6 a7 s0 s1 I J h
  unfold fM_serve_36_57_b62 at h
  refine qp_br_E qp_ok175 (f := ¬ s1 = s0) (ct := (190, [some (.ref 36), some (.ref 57), some (.int a2), some (.int a3), some (.int a4), some (.int a5), some (.int a6), some (.int a7)], [], qp_mk I J)) (cf := (65, [some (.ref 36), some (.ref 57), some (.int a2), some (.int a3), some (.int a4), some (.int a5), some (.int a6), some (.int a7)], [], qp_mk I J)) (by with_unfolding_all rfl) (fun h1 => ?_) (fun h1 => ?_)
  · replace h := qp_ift h1 h
    refine qp_run_E qp_ok175 2 (c' := (26, [some (.ref 36), some (.ref 57), some (.int a2), some (.int a3), some (.int a4), some (.int a5), some (.int (a6 + 1)), some (.int a7)], [], qp_mk I J)) (by with_unfolding_all rfl) hd1 trivial ?_
    exact qp_E_fg [true, true, true, true, true, true, true, false] (hk26 a2 a3 a4 a5 (a6 + 1) I J h)
  · replace h := qp_iff h1 h
    obtain ⟨h2, h⟩ := qp_gd_s h
    refine qp_run_E qp_ok175 13 (f := vp_in ((2 : Int32) + a7) 75 ∧ True) (c' := (85, [some (.ref 36), some (.ref 57), some (.int a2), some (.int a3), some (.int a4), some (.int a5), some (.int a6), some (.int a7)], [.int (a3 - 1), .int a6, .int (I 37 (Int32.toNatClampNeg ((2 : Int32) + a7))), .int a7, .ref 51], qp_mk I J)) (by with_unfolding_all rfl) hd1 ⟨(qp_vin (c := 75) (by decide) h2.1 h2.2), trivial⟩ ?_
    refine qp_br_E qp_ok175 (f := ¬ a6 = (a3 - 1)) (ct := (92, [some (.ref 36), some (.ref 57), some (.int a2), some (.int a3), some (.int a4), some (.int a5), some (.int a6), some (.int a7)], [.int (I 37 (Int32.toNatClampNeg ((2 : Int32) + a7))), .int a7, .ref 51], qp_mk I J)) (cf := (88, [some (.ref 36), some (.ref 57), some (.int a2), some (.int a3), some (.int a4), some (.int a5), some (.int a6), some (.int a7)], [.int (I 37 (Int32.toNatClampNeg ((2 : Int32) + a7))), .int a7, .ref 51], qp_mk I J)) (by with_unfolding_all rfl) (fun h3 => ?_) (fun h3 => ?_)
    · replace h := qp_ift h3 h
      refine qp_run_E qp_ok175 1 (c' := (93, [some (.ref 36), some (.ref 57), some (.int a2), some (.int a3), some (.int a4), some (.int a5), some (.int a6), some (.int a7)], [.int 0, .int (I 37 (Int32.toNatClampNeg ((2 : Int32) + a7))), .int a7, .ref 51], qp_mk I J)) (by with_unfolding_all rfl) hd1 trivial ?_
      exact gM_serve_36_57_b93 hd k26 hk26 a2 a3 a4 a5 a6 a7 0 (I 37 (Int32.toNatClampNeg ((2 : Int32) + a7))) a7 I J h
    · replace h := qp_iff h3 h
      refine qp_run_E qp_ok175 2 (c' := (93, [some (.ref 36), some (.ref 57), some (.int a2), some (.int a3), some (.int a4), some (.int a5), some (.int a6), some (.int a7)], [.int 1, .int (I 37 (Int32.toNatClampNeg ((2 : Int32) + a7))), .int a7, .ref 51], qp_mk I J)) (by with_unfolding_all rfl) hd1 trivial ?_
      exact gM_serve_36_57_b93 hd k26 hk26 a2 a3 a4 a5 a6 a7 1 (I 37 (Int32.toNatClampNeg ((2 : Int32) + a7))) a7 I J h
def fM_serve_36_57_b26  (k17 : Int32 → Int32 → Int32 → Int32 → (Nat → Nat → Int32) → (Nat → Nat → Int64) → Option (Unit × (Nat → Nat → Int32) × (Nat → Nat → Int64))) : Nat → Int32 → Int32 → Int32 → Int32 → Int32 → (Nat → Nat → Int32) → (Nat → Nat → Int64) → Option (Unit × (Nat → Nat → Int32) × (Nat → Nat → Int64))
  | 0, _, _, _, _, _, _, _ => none
  | n + 1, a2, a3, a4, a5, a6, I, J =>
    if a3 ≤ a6 then (
      k17 a2 a3 a4 (a5 + 1) I J
    ) else (
      qp_gd ((0 ≤ (a2 + a6) ∧ (a2 + a6) < 6) ∧ (0 ≤ ((2 : Int32) + (I 57 (Int32.toNatClampNeg (a2 + a6)))) ∧ ((2 : Int32) + (I 57 (Int32.toNatClampNeg (a2 + a6)))) < 75)) <|
      qp_bd (fM_isSoldier (I 37 (Int32.toNatClampNeg ((2 : Int32) + (I 57 (Int32.toNatClampNeg (a2 + a6)))))) I J) fun v1 I1 J1 =>
      if ¬ a5 = 0 then (
        fM_serve_36_57_b62 (fun a0 a1 a2 a3 a4 I J => fM_serve_36_57_b26 k17 n a0 a1 a2 a3 a4 I J) a2 a3 a4 a5 a6 (I 57 (Int32.toNatClampNeg (a2 + a6))) 0 v1 I1 J1
      ) else (
        fM_serve_36_57_b62 (fun a0 a1 a2 a3 a4 I J => fM_serve_36_57_b26 k17 n a0 a1 a2 a3 a4 I J) a2 a3 a4 a5 a6 (I 57 (Int32.toNatClampNeg (a2 + a6))) 1 v1 I1 J1
      )
    )
set_option maxRecDepth 8000 in
theorem gM_serve_36_57_b26 {l : Launch} {G : qp_G} {d : Nat} (hd : 2 ≤ d) {r : (Unit × (Nat → Nat → Int32) × (Nat → Nat → Int64))} {I0 : Nat → Nat → Int32} {J0 : Nat → Nat → Int64}  (k17 : Int32 → Int32 → Int32 → Int32 → (Nat → Nat → Int32) → (Nat → Nat → Int64) → Option (Unit × (Nat → Nat → Int32) × (Nat → Nat → Int64))) (hk17 : ∀ a2 a3 a4 a5 I J, k17 a2 a3 a4 a5 I J = some r → qp_E l G d 175 (qp_mk I0 J0) 0 0 (qp_R8 none r.2.1 r.2.2) (17, [some (.ref 36), some (.ref 57), some (.int a2), some (.int a3), some (.int a4), some (.int a5), none, none], [], qp_mk I J)) : ∀ (n : Nat) (a2 : Int32) (a3 : Int32) (a4 : Int32) (a5 : Int32) (a6 : Int32) (I : Nat → Nat → Int32) (J : Nat → Nat → Int64), fM_serve_36_57_b26 k17 n a2 a3 a4 a5 a6 I J = some r → qp_E l G d 175 (qp_mk I0 J0) 0 0 (qp_R8 none r.2.1 r.2.2) (26, [some (.ref 36), some (.ref 57), some (.int a2), some (.int a3), some (.int a4), some (.int a5), some (.int a6), none], [], qp_mk I J) := by
  have hd1 : Nat.ble 1 d = true := Nat.ble_eq_true_of_le (Nat.le_trans (by decide) hd)
  intro n
  induction n with
  | zero => intro a2 a3 a4 a5 a6 I J h; exact absurd h (by simp [fM_serve_36_57_b26])
  | succ n ih =>
    intro a2 a3 a4 a5 a6 I J h
    rw [fM_serve_36_57_b26] at h
    refine qp_run_E qp_ok175 2 (c' := (29, [some (.ref 36), some (.ref 57), some (.int a2), some (.int a3), some (.int a4), some (.int a5), some (.int a6), none], [.int a3, .int a6], qp_mk I J)) (by with_unfolding_all rfl) hd1 trivial ?_
    refine qp_br_E qp_ok175 (f := a3 ≤ a6) (ct := (196, [some (.ref 36), some (.ref 57), some (.int a2), some (.int a3), some (.int a4), some (.int a5), some (.int a6), none], [], qp_mk I J)) (cf := (32, [some (.ref 36), some (.ref 57), some (.int a2), some (.int a3), some (.int a4), some (.int a5), some (.int a6), none], [], qp_mk I J)) (by with_unfolding_all rfl) (fun h1 => ?_) (fun h1 => ?_)
    · replace h := qp_ift h1 h
      refine qp_run_E qp_ok175 2 (c' := (17, [some (.ref 36), some (.ref 57), some (.int a2), some (.int a3), some (.int a4), some (.int (a5 + 1)), some (.int a6), none], [], qp_mk I J)) (by with_unfolding_all rfl) hd1 trivial ?_
      exact qp_E_fg [true, true, true, true, true, true, false, false] (hk17 a2 a3 a4 (a5 + 1) I J h)
    · replace h := qp_iff h1 h
      obtain ⟨h2, h⟩ := qp_gd_s h
      refine qp_run_E qp_ok175 12 (f := vp_in (a2 + a6) 6 ∧ vp_in ((2 : Int32) + (I 57 (Int32.toNatClampNeg (a2 + a6)))) 75 ∧ True) (c' := (49, [some (.ref 36), some (.ref 57), some (.int a2), some (.int a3), some (.int a4), some (.int a5), some (.int a6), some (.int (I 57 (Int32.toNatClampNeg (a2 + a6))))], [.int (I 37 (Int32.toNatClampNeg ((2 : Int32) + (I 57 (Int32.toNatClampNeg (a2 + a6))))))], qp_mk I J)) (by with_unfolding_all rfl) hd1 ⟨(qp_vin (c := 6) (by decide) h2.1.1 h2.1.2), (qp_vin (c := 75) (by decide) h2.2.1 h2.2.2), trivial⟩ ?_
      obtain ⟨v1, I1, J1, e1, h⟩ := qp_bd_s h
      refine qp_cS qp_ok175 (rest := []) (oj := 10) qp_f176 rfl rfl (gM_isSoldier l G (I 37 (Int32.toNatClampNeg ((2 : Int32) + (I 57 (Int32.toNatClampNeg (a2 + a6)))))) I J e1 (Nat.le_refl 1)) rfl rfl rfl (Nat.le_trans (by decide) hd) ?_
      refine qp_run_E qp_ok175 1 (c' := (54, [some (.ref 36), some (.ref 57), some (.int a2), some (.int a3), some (.int a4), some (.int a5), some (.int a6), some (.int (I 57 (Int32.toNatClampNeg (a2 + a6))))], [.int a5, .int v1], qp_mk I1 J1)) (by with_unfolding_all rfl) hd1 trivial ?_
      refine qp_br_E qp_ok175 (f := ¬ a5 = 0) (ct := (61, [some (.ref 36), some (.ref 57), some (.int a2), some (.int a3), some (.int a4), some (.int a5), some (.int a6), some (.int (I 57 (Int32.toNatClampNeg (a2 + a6))))], [.int v1], qp_mk I1 J1)) (cf := (57, [some (.ref 36), some (.ref 57), some (.int a2), some (.int a3), some (.int a4), some (.int a5), some (.int a6), some (.int (I 57 (Int32.toNatClampNeg (a2 + a6))))], [.int v1], qp_mk I1 J1)) (by with_unfolding_all rfl) (fun h3 => ?_) (fun h3 => ?_)
      · replace h := qp_ift h3 h
        refine qp_run_E qp_ok175 1 (c' := (62, [some (.ref 36), some (.ref 57), some (.int a2), some (.int a3), some (.int a4), some (.int a5), some (.int a6), some (.int (I 57 (Int32.toNatClampNeg (a2 + a6))))], [.int 0, .int v1], qp_mk I1 J1)) (by with_unfolding_all rfl) hd1 trivial ?_
        exact gM_serve_36_57_b62 hd (fun a0 a1 a2 a3 a4 I J => fM_serve_36_57_b26 k17 n a0 a1 a2 a3 a4 I J) (fun a0 a1 a2 a3 a4 I J h => ih a0 a1 a2 a3 a4 I J h) a2 a3 a4 a5 a6 (I 57 (Int32.toNatClampNeg (a2 + a6))) 0 v1 I1 J1 h
      · replace h := qp_iff h3 h
        refine qp_run_E qp_ok175 2 (c' := (62, [some (.ref 36), some (.ref 57), some (.int a2), some (.int a3), some (.int a4), some (.int a5), some (.int a6), some (.int (I 57 (Int32.toNatClampNeg (a2 + a6))))], [.int 1, .int v1], qp_mk I1 J1)) (by with_unfolding_all rfl) hd1 trivial ?_
        exact gM_serve_36_57_b62 hd (fun a0 a1 a2 a3 a4 I J => fM_serve_36_57_b26 k17 n a0 a1 a2 a3 a4 I J) (fun a0 a1 a2 a3 a4 I J h => ih a0 a1 a2 a3 a4 I J h) a2 a3 a4 a5 a6 (I 57 (Int32.toNatClampNeg (a2 + a6))) 1 v1 I1 J1 h
def fM_serve_36_57_b17  : Nat → Int32 → Int32 → Int32 → Int32 → (Nat → Nat → Int32) → (Nat → Nat → Int64) → Option (Unit × (Nat → Nat → Int32) × (Nat → Nat → Int64))
  | 0, _, _, _, _, _, _ => none
  | n + 1, a2, a3, a4, a5, I, J =>
    if 2 ≤ a5 then (
      some ((), I, J)
    ) else (
      fM_serve_36_57_b26 (fun a0 a1 a2 a3 I J => fM_serve_36_57_b17 n a0 a1 a2 a3 I J) 100000 a2 a3 a4 a5 0 I J
    )
set_option maxRecDepth 8000 in
theorem gM_serve_36_57_b17 {l : Launch} {G : qp_G} {d : Nat} (hd : 2 ≤ d) {r : (Unit × (Nat → Nat → Int32) × (Nat → Nat → Int64))} {I0 : Nat → Nat → Int32} {J0 : Nat → Nat → Int64}   : ∀ (n : Nat) (a2 : Int32) (a3 : Int32) (a4 : Int32) (a5 : Int32) (I : Nat → Nat → Int32) (J : Nat → Nat → Int64), fM_serve_36_57_b17  n a2 a3 a4 a5 I J = some r → qp_E l G d 175 (qp_mk I0 J0) 0 0 (qp_R8 none r.2.1 r.2.2) (17, [some (.ref 36), some (.ref 57), some (.int a2), some (.int a3), some (.int a4), some (.int a5), none, none], [], qp_mk I J) := by
  have hd1 : Nat.ble 1 d = true := Nat.ble_eq_true_of_le (Nat.le_trans (by decide) hd)
  intro n
  induction n with
  | zero => intro a2 a3 a4 a5 I J h; exact absurd h (by simp [fM_serve_36_57_b17])
  | succ n ih =>
    intro a2 a3 a4 a5 I J h
    rw [fM_serve_36_57_b17] at h
    refine qp_run_E qp_ok175 2 (c' := (20, [some (.ref 36), some (.ref 57), some (.int a2), some (.int a3), some (.int a4), some (.int a5), none, none], [.int 2, .int a5], qp_mk I J)) (by with_unfolding_all rfl) hd1 trivial ?_
    refine qp_br_E qp_ok175 (f := 2 ≤ a5) (ct := (202, [some (.ref 36), some (.ref 57), some (.int a2), some (.int a3), some (.int a4), some (.int a5), none, none], [], qp_mk I J)) (cf := (23, [some (.ref 36), some (.ref 57), some (.int a2), some (.int a3), some (.int a4), some (.int a5), none, none], [], qp_mk I J)) (by with_unfolding_all rfl) (fun h1 => ?_) (fun h1 => ?_)
    · replace h := qp_ift h1 h
      obtain rfl := Option.some.inj h
      exact qp_retV_E qp_ok175 rfl qp_r175.1 ⟨rfl, rfl⟩ ⟨rfl, rfl⟩
    · replace h := qp_iff h1 h
      refine qp_run_E qp_ok175 2 (c' := (26, [some (.ref 36), some (.ref 57), some (.int a2), some (.int a3), some (.int a4), some (.int a5), some (.int 0), none], [], qp_mk I J)) (by with_unfolding_all rfl) hd1 trivial ?_
      exact gM_serve_36_57_b26 hd (fun a0 a1 a2 a3 I J => fM_serve_36_57_b17 n a0 a1 a2 a3 I J) (fun a0 a1 a2 a3 I J h => ih a0 a1 a2 a3 I J h) 100000 a2 a3 a4 a5 0 I J h
def fM_serve_36_57 (p2 : Int32) (p3 : Int32) (I : Nat → Nat → Int32) (J : Nat → Nat → Int64) : Option (Unit × (Nat → Nat → Int32) × (Nat → Nat → Int64)) :=
  fM_serve_36_57_b17 100000 p2 p3 0 0 (qp_up I 36 20 (I 37 55)) J
set_option maxRecDepth 8000 in
theorem gM_serve_36_57 (l : Launch) (G : qp_G) (p2 : Int32) (p3 : Int32) (I : Nat → Nat → Int32) (J : Nat → Nat → Int64) {v : Unit} {I' : Nat → Nat → Int32} {J' : Nat → Nat → Int64} (h : fM_serve_36_57 p2 p3 I J = some (v, I', J')) {d : Nat} (hd : 2 ≤ d) : qp_Met l G d 175 [.ref 36, .ref 57, .int p2, .int p3] (qp_mk I J) 0 0 (qp_R8 none I' J') := by
  have hd1 : Nat.ble 1 d = true := Nat.ble_eq_true_of_le (Nat.le_trans (by decide) hd)
  refine qp_Met_of (by decide) (by rw [qp_r175.2]; rfl) [some (.ref 36), some (.ref 57), some (.int p2), some (.int p3), none, none, none, none] (by rw [qp_r175.2]; rfl) ?_
  unfold fM_serve_36_57 at h
  refine qp_run_E qp_ok175 10 (f := vp_in 55 75 ∧ True) (c' := (17, [some (.ref 36), some (.ref 57), some (.int p2), some (.int p3), some (.int 0), some (.int 0), none, none], [], qp_mk (qp_up I 36 20 (I 37 55)) J)) (by with_unfolding_all rfl) hd1 ⟨(qp_vin (c := 75) (by decide) (by decide) (by decide)), trivial⟩ ?_
  exact gM_serve_36_57_b17 hd 100000 p2 p3 0 0 (qp_up I 36 20 (I 37 55)) J h
def fM_goOdds_b103  (k58 : Int32 → Int32 → Int64 → Int64 → Int32 → Int64 → Int32 → Int32 → (Nat → Nat → Int32) → (Nat → Nat → Int64) → Option (Unit × (Nat → Nat → Int32) × (Nat → Nat → Int64))) (a1 : Int32) (a2 : Int32) (a3 : Int64) (a5 : Int64) (a7 : Int32) (a10 : Int32) (a11 : Int32) (a12 : Int32) (s0 : Int64) (s1 : Int64) (I : Nat → Nat → Int32) (J : Nat → Nat → Int64) : Option (Unit × (Nat → Nat → Int32) × (Nat → Nat → Int64)) :=
  qp_bd (fM_has a7 a12 I J) fun v1 I1 J1 =>
  if ¬ v1 = 0 then (
    k58 a1 a2 a3 a5 a7 (s1 * s0) a10 (a11 + 1) I1 J1
  ) else (
    qp_gd ((0 ≤ a10 ∧ a10 < 6)) <|
    k58 a1 a2 a3 a5 a7 (s1 * s0) (a10 + 1) (a11 + 1) (qp_up I1 57 (Int32.toNatClampNeg a10) a12) J1
  )
set_option maxRecDepth 8000 in
theorem gM_goOdds_b103 {l : Launch} {G : qp_G} {d : Nat} (hd : 3 ≤ d) {r : (Unit × (Nat → Nat → Int32) × (Nat → Nat → Int64))} {I0 : Nat → Nat → Int32} {J0 : Nat → Nat → Int64}  (k58 : Int32 → Int32 → Int64 → Int64 → Int32 → Int64 → Int32 → Int32 → (Nat → Nat → Int32) → (Nat → Nat → Int64) → Option (Unit × (Nat → Nat → Int32) × (Nat → Nat → Int64))) (hk58 : ∀ a1 a2 a3 a5 a7 a8 a10 a11 I J, k58 a1 a2 a3 a5 a7 a8 a10 a11 I J = some r → qp_E l G d 222 (qp_mk I0 J0) 0 0 (qp_R8 none r.2.1 r.2.2) (58, [some (.ref 36), some (.int a1), some (.int a2), some (.long a3), none, some (.long a5), none, some (.int a7), some (.long a8), none, some (.int a10), some (.int a11), none], [], qp_mk I J)) : ∀ (a1 : Int32) (a2 : Int32) (a3 : Int64) (a5 : Int64) (a7 : Int32) (a10 : Int32) (a11 : Int32) (a12 : Int32) (s0 : Int64) (s1 : Int64) (I : Nat → Nat → Int32) (J : Nat → Nat → Int64), fM_goOdds_b103 k58 a1 a2 a3 a5 a7 a10 a11 a12 s0 s1 I J = some r → qp_E l G d 222 (qp_mk I0 J0) 0 0 (qp_R8 none r.2.1 r.2.2) (103, [some (.ref 36), some (.int a1), some (.int a2), some (.long a3), none, some (.long a5), none, some (.int a7), none, none, some (.int a10), some (.int a11), some (.int a12)], [.long s0, .long s1], qp_mk I J) := by
  have hd1 : Nat.ble 1 d = true := Nat.ble_eq_true_of_le (Nat.le_trans (by decide) hd)
  intro a1 a2 a3 a5 a7 a10 a11 a12 s0 s1 I J h
  unfold fM_goOdds_b103 at h
  refine qp_run_E qp_ok222 4 (c' := (110, [some (.ref 36), some (.int a1), some (.int a2), some (.long a3), none, some (.long a5), none, some (.int a7), some (.long (s1 * s0)), none, some (.int a10), some (.int a11), some (.int a12)], [.int a12, .int a7], qp_mk I J)) (by with_unfolding_all rfl) hd1 trivial ?_
  obtain ⟨v1, I1, J1, e1, h⟩ := qp_bd_s h
  refine qp_cS qp_ok222 (rest := []) (oj := 10) qp_f212 rfl rfl (gM_has l G a7 a12 I J e1 (Nat.le_refl 1)) rfl rfl rfl (Nat.le_trans (by decide) hd) ?_
  refine qp_br_E qp_ok222 (f := ¬ v1 = 0) (ct := (128, [some (.ref 36), some (.int a1), some (.int a2), some (.long a3), none, some (.long a5), none, some (.int a7), some (.long (s1 * s0)), none, some (.int a10), some (.int a11), some (.int a12)], [], qp_mk I1 J1)) (cf := (116, [some (.ref 36), some (.int a1), some (.int a2), some (.long a3), none, some (.long a5), none, some (.int a7), some (.long (s1 * s0)), none, some (.int a10), some (.int a11), some (.int a12)], [], qp_mk I1 J1)) (by with_unfolding_all rfl) (fun h1 => ?_) (fun h1 => ?_)
  · replace h := qp_ift h1 h
    refine qp_run_E qp_ok222 2 (c' := (58, [some (.ref 36), some (.int a1), some (.int a2), some (.long a3), none, some (.long a5), none, some (.int a7), some (.long (s1 * s0)), none, some (.int a10), some (.int (a11 + 1)), some (.int a12)], [], qp_mk I1 J1)) (by with_unfolding_all rfl) hd1 trivial ?_
    exact qp_E_fg [true, true, true, true, false, true, false, true, true, false, true, true, false] (hk58 a1 a2 a3 a5 a7 (s1 * s0) a10 (a11 + 1) I1 J1 h)
  · replace h := qp_iff h1 h
    obtain ⟨h2, h⟩ := qp_gd_s h
    refine qp_run_E qp_ok222 8 (f := vp_in a10 6 ∧ True) (c' := (58, [some (.ref 36), some (.int a1), some (.int a2), some (.long a3), none, some (.long a5), none, some (.int a7), some (.long (s1 * s0)), none, some (.int (a10 + 1)), some (.int (a11 + 1)), some (.int a12)], [], qp_mk (qp_up I1 57 (Int32.toNatClampNeg a10) a12) J1)) (by with_unfolding_all rfl) hd1 ⟨(qp_vin (c := 6) (by decide) h2.1 h2.2), trivial⟩ ?_
    exact qp_E_fg [true, true, true, true, false, true, false, true, true, false, true, true, false] (hk58 a1 a2 a3 a5 a7 (s1 * s0) (a10 + 1) (a11 + 1) (qp_up I1 57 (Int32.toNatClampNeg a10) a12) J1 h)
def fM_goOdds_b58  (k36 : Int32 → Int32 → Int64 → Int64 → Int32 → (Nat → Nat → Int32) → (Nat → Nat → Int64) → Option (Unit × (Nat → Nat → Int32) × (Nat → Nat → Int64))) : Nat → Int32 → Int32 → Int64 → Int64 → Int32 → Int64 → Int32 → Int32 → (Nat → Nat → Int32) → (Nat → Nat → Int64) → Option (Unit × (Nat → Nat → Int32) × (Nat → Nat → Int64))
  | 0, _, _, _, _, _, _, _, _, _, _ => none
  | n + 1, a1, a2, a3, a5, a7, a8, a10, a11, I, J =>
    if (I 37 0) ≤ a11 then (
      qp_bd (fM_serve_36_57 0 a10 I J) fun _u I1 J1 =>
      if ¬ a1 = (-9) then (
        qp_bd (fM_has a7 a1 I1 J1) fun v2 I2 J2 =>
        if ¬ v2 = 0 then (
          k36 a1 a2 (a3 + 0) a5 (a7 + 1) I2 J2
        ) else (
          qp_gd ((0 ≤ a1 ∧ a1 < 6)) <|
          if (I2 51 (Int32.toNatClampNeg a1)) ≤ 0 then (
            k36 a1 a2 (a3 + 0) a5 (a7 + 1) I2 J2
          ) else (
            qp_gd ((0 ≤ a1 ∧ a1 < 6)) <|
            if ¬ (I2 48 (Int32.toNatClampNeg a1)) = (I2 51 (Int32.toNatClampNeg a1)) then (
              k36 a1 a2 (a3 + 0) a5 (a7 + 1) I2 J2
            ) else (
              k36 a1 a2 (a3 + a8) a5 (a7 + 1) I2 J2
            )
          )
        )
      ) else (
        k36 a1 a2 (a3 + (a8 * (Int32.toInt64 (I1 36 20)))) a5 (a7 + 1) I1 J1
      )
    ) else (
      qp_gd ((0 ≤ ((69 : Int32) + a11) ∧ ((69 : Int32) + a11) < 75)) <|
      qp_bd (fM_has a7 (I 37 (Int32.toNatClampNeg ((69 : Int32) + a11))) I J) fun v3 I3 J3 =>
      if v3 = 0 then (
        fM_goOdds_b103 (fun a0 a1 a2 a3 a4 a5 a6 a7 I J => fM_goOdds_b58 k36 n a0 a1 a2 a3 a4 a5 a6 a7 I J) a1 a2 a3 a5 a7 a10 a11 (I 37 (Int32.toNatClampNeg ((69 : Int32) + a11))) (Int32.toInt64 ((12 : Int32) - a2)) a8 I3 J3
      ) else (
        fM_goOdds_b103 (fun a0 a1 a2 a3 a4 a5 a6 a7 I J => fM_goOdds_b58 k36 n a0 a1 a2 a3 a4 a5 a6 a7 I J) a1 a2 a3 a5 a7 a10 a11 (I 37 (Int32.toNatClampNeg ((69 : Int32) + a11))) (Int32.toInt64 a2) a8 I3 J3
      )
    )
set_option maxRecDepth 8000 in
theorem gM_goOdds_b58 {l : Launch} {G : qp_G} {d : Nat} (hd : 3 ≤ d) {r : (Unit × (Nat → Nat → Int32) × (Nat → Nat → Int64))} {I0 : Nat → Nat → Int32} {J0 : Nat → Nat → Int64}  (k36 : Int32 → Int32 → Int64 → Int64 → Int32 → (Nat → Nat → Int32) → (Nat → Nat → Int64) → Option (Unit × (Nat → Nat → Int32) × (Nat → Nat → Int64))) (hk36 : ∀ a1 a2 a3 a5 a7 I J, k36 a1 a2 a3 a5 a7 I J = some r → qp_E l G d 222 (qp_mk I0 J0) 0 0 (qp_R8 none r.2.1 r.2.2) (36, [some (.ref 36), some (.int a1), some (.int a2), some (.long a3), none, some (.long a5), none, some (.int a7), none, none, none, none, none], [], qp_mk I J)) : ∀ (n : Nat) (a1 : Int32) (a2 : Int32) (a3 : Int64) (a5 : Int64) (a7 : Int32) (a8 : Int64) (a10 : Int32) (a11 : Int32) (I : Nat → Nat → Int32) (J : Nat → Nat → Int64), fM_goOdds_b58 k36 n a1 a2 a3 a5 a7 a8 a10 a11 I J = some r → qp_E l G d 222 (qp_mk I0 J0) 0 0 (qp_R8 none r.2.1 r.2.2) (58, [some (.ref 36), some (.int a1), some (.int a2), some (.long a3), none, some (.long a5), none, some (.int a7), some (.long a8), none, some (.int a10), some (.int a11), none], [], qp_mk I J) := by
  have hd1 : Nat.ble 1 d = true := Nat.ble_eq_true_of_le (Nat.le_trans (by decide) hd)
  intro n
  induction n with
  | zero => intro a1 a2 a3 a5 a7 a8 a10 a11 I J h; exact absurd h (by simp [fM_goOdds_b58])
  | succ n ih =>
    intro a1 a2 a3 a5 a7 a8 a10 a11 I J h
    rw [fM_goOdds_b58] at h
    refine qp_run_E qp_ok222 5 (f := vp_in 0 75 ∧ True) (c' := (66, [some (.ref 36), some (.int a1), some (.int a2), some (.long a3), none, some (.long a5), none, some (.int a7), some (.long a8), none, some (.int a10), some (.int a11), none], [.int (I 37 0), .int a11], qp_mk I J)) (by with_unfolding_all rfl) hd1 ⟨(qp_vin (c := 75) (by decide) (by decide) (by decide)), trivial⟩ ?_
    refine qp_br_E qp_ok222 (f := (I 37 0) ≤ a11) (ct := (134, [some (.ref 36), some (.int a1), some (.int a2), some (.long a3), none, some (.long a5), none, some (.int a7), some (.long a8), none, some (.int a10), some (.int a11), none], [], qp_mk I J)) (cf := (69, [some (.ref 36), some (.int a1), some (.int a2), some (.long a3), none, some (.long a5), none, some (.int a7), some (.long a8), none, some (.int a10), some (.int a11), none], [], qp_mk I J)) (by with_unfolding_all rfl) (fun h1 => ?_) (fun h1 => ?_)
    · replace h := qp_ift h1 h
      refine qp_run_E qp_ok222 5 (c' := (142, [some (.ref 36), some (.int a1), some (.int a2), some (.long a3), none, some (.long a5), none, some (.int a7), some (.long a8), none, some (.int a10), some (.int a11), none], [.int a10, .int 0, .ref 57, .ref 36], qp_mk I J)) (by with_unfolding_all rfl) hd1 trivial ?_
      obtain ⟨v1, I1, J1, e1, h⟩ := qp_bd_s h
      refine qp_cV qp_ok222 (rest := []) (oj := 10) qp_f175 rfl rfl (gM_serve_36_57 l G 0 a10 I J e1 (Nat.le_refl 2)) rfl rfl rfl rfl (Nat.le_trans (by decide) hd) ?_
      refine qp_run_E qp_ok222 3 (c' := (149, [some (.ref 36), some (.int a1), some (.int a2), some (.long a3), none, some (.long a5), none, some (.int a7), some (.long a8), none, some (.int a10), some (.int a11), none], [.int (-9), .int a1, .long a3], qp_mk I1 J1)) (by with_unfolding_all rfl) hd1 trivial ?_
      refine qp_br_E qp_ok222 (f := ¬ a1 = (-9)) (ct := (163, [some (.ref 36), some (.int a1), some (.int a2), some (.long a3), none, some (.long a5), none, some (.int a7), some (.long a8), none, some (.int a10), some (.int a11), none], [.long a3], qp_mk I1 J1)) (cf := (152, [some (.ref 36), some (.int a1), some (.int a2), some (.long a3), none, some (.long a5), none, some (.int a7), some (.long a8), none, some (.int a10), some (.int a11), none], [.long a3], qp_mk I1 J1)) (by with_unfolding_all rfl) (fun h2 => ?_) (fun h2 => ?_)
      · replace h := qp_ift h2 h
        refine qp_run_E qp_ok222 2 (c' := (166, [some (.ref 36), some (.int a1), some (.int a2), some (.long a3), none, some (.long a5), none, some (.int a7), some (.long a8), none, some (.int a10), some (.int a11), none], [.int a1, .int a7, .long a3], qp_mk I1 J1)) (by with_unfolding_all rfl) hd1 trivial ?_
        obtain ⟨v2, I2, J2, e2, h⟩ := qp_bd_s h
        refine qp_cS qp_ok222 (rest := [.long a3]) (oj := 10) qp_f212 rfl rfl (gM_has l G a7 a1 I1 J1 e2 (Nat.le_refl 1)) rfl rfl rfl (Nat.le_trans (by decide) hd) ?_
        refine qp_br_E qp_ok222 (f := ¬ v2 = 0) (ct := (201, [some (.ref 36), some (.int a1), some (.int a2), some (.long a3), none, some (.long a5), none, some (.int a7), some (.long a8), none, some (.int a10), some (.int a11), none], [.long a3], qp_mk I2 J2)) (cf := (172, [some (.ref 36), some (.int a1), some (.int a2), some (.long a3), none, some (.long a5), none, some (.int a7), some (.long a8), none, some (.int a10), some (.int a11), none], [.long a3], qp_mk I2 J2)) (by with_unfolding_all rfl) (fun h3 => ?_) (fun h3 => ?_)
        · replace h := qp_ift h3 h
          refine qp_run_E qp_ok222 5 (c' := (36, [some (.ref 36), some (.int a1), some (.int a2), some (.long (a3 + 0)), none, some (.long a5), none, some (.int (a7 + 1)), some (.long a8), none, some (.int a10), some (.int a11), none], [], qp_mk I2 J2)) (by with_unfolding_all rfl) hd1 trivial ?_
          exact qp_E_fg [true, true, true, true, false, true, false, true, false, false, false, false, false] (hk36 a1 a2 (a3 + 0) a5 (a7 + 1) I2 J2 h)
        · replace h := qp_iff h3 h
          obtain ⟨h4, h⟩ := qp_gd_s h
          refine qp_run_E qp_ok222 4 (f := vp_in a1 6 ∧ True) (c' := (178, [some (.ref 36), some (.int a1), some (.int a2), some (.long a3), none, some (.long a5), none, some (.int a7), some (.long a8), none, some (.int a10), some (.int a11), none], [.int (I2 51 (Int32.toNatClampNeg a1)), .long a3], qp_mk I2 J2)) (by with_unfolding_all rfl) hd1 ⟨(qp_vin (c := 6) (by decide) h4.1 h4.2), trivial⟩ ?_
          refine qp_br_E qp_ok222 (f := (I2 51 (Int32.toNatClampNeg a1)) ≤ 0) (ct := (201, [some (.ref 36), some (.int a1), some (.int a2), some (.long a3), none, some (.long a5), none, some (.int a7), some (.long a8), none, some (.int a10), some (.int a11), none], [.long a3], qp_mk I2 J2)) (cf := (181, [some (.ref 36), some (.int a1), some (.int a2), some (.long a3), none, some (.long a5), none, some (.int a7), some (.long a8), none, some (.int a10), some (.int a11), none], [.long a3], qp_mk I2 J2)) (by with_unfolding_all rfl) (fun h5 => ?_) (fun h5 => ?_)
          · replace h := qp_ift h5 h
            refine qp_run_E qp_ok222 5 (c' := (36, [some (.ref 36), some (.int a1), some (.int a2), some (.long (a3 + 0)), none, some (.long a5), none, some (.int (a7 + 1)), some (.long a8), none, some (.int a10), some (.int a11), none], [], qp_mk I2 J2)) (by with_unfolding_all rfl) hd1 trivial ?_
            exact qp_E_fg [true, true, true, true, false, true, false, true, false, false, false, false, false] (hk36 a1 a2 (a3 + 0) a5 (a7 + 1) I2 J2 h)
          · replace h := qp_iff h5 h
            obtain ⟨h6, h⟩ := qp_gd_s h
            refine qp_run_E qp_ok222 8 (f := vp_in a1 6 ∧ vp_in a1 6 ∧ True) (c' := (193, [some (.ref 36), some (.int a1), some (.int a2), some (.long a3), none, some (.long a5), none, some (.int a7), some (.long a8), none, some (.int a10), some (.int a11), none], [.int (I2 51 (Int32.toNatClampNeg a1)), .int (I2 48 (Int32.toNatClampNeg a1)), .long a3], qp_mk I2 J2)) (by with_unfolding_all rfl) hd1 ⟨(qp_vin (c := 6) (by decide) h6.1 h6.2), (qp_vin (c := 6) (by decide) h6.1 h6.2), trivial⟩ ?_
            refine qp_br_E qp_ok222 (f := ¬ (I2 48 (Int32.toNatClampNeg a1)) = (I2 51 (Int32.toNatClampNeg a1))) (ct := (201, [some (.ref 36), some (.int a1), some (.int a2), some (.long a3), none, some (.long a5), none, some (.int a7), some (.long a8), none, some (.int a10), some (.int a11), none], [.long a3], qp_mk I2 J2)) (cf := (196, [some (.ref 36), some (.int a1), some (.int a2), some (.long a3), none, some (.long a5), none, some (.int a7), some (.long a8), none, some (.int a10), some (.int a11), none], [.long a3], qp_mk I2 J2)) (by with_unfolding_all rfl) (fun h7 => ?_) (fun h7 => ?_)
            · replace h := qp_ift h7 h
              refine qp_run_E qp_ok222 5 (c' := (36, [some (.ref 36), some (.int a1), some (.int a2), some (.long (a3 + 0)), none, some (.long a5), none, some (.int (a7 + 1)), some (.long a8), none, some (.int a10), some (.int a11), none], [], qp_mk I2 J2)) (by with_unfolding_all rfl) hd1 trivial ?_
              exact qp_E_fg [true, true, true, true, false, true, false, true, false, false, false, false, false] (hk36 a1 a2 (a3 + 0) a5 (a7 + 1) I2 J2 h)
            · replace h := qp_iff h7 h
              refine qp_run_E qp_ok222 6 (c' := (36, [some (.ref 36), some (.int a1), some (.int a2), some (.long (a3 + a8)), none, some (.long a5), none, some (.int (a7 + 1)), some (.long a8), none, some (.int a10), some (.int a11), none], [], qp_mk I2 J2)) (by with_unfolding_all rfl) hd1 trivial ?_
              exact qp_E_fg [true, true, true, true, false, true, false, true, false, false, false, false, false] (hk36 a1 a2 (a3 + a8) a5 (a7 + 1) I2 J2 h)
      · replace h := qp_iff h2 h
        refine qp_run_E qp_ok222 10 (c' := (36, [some (.ref 36), some (.int a1), some (.int a2), some (.long (a3 + (a8 * (Int32.toInt64 (I1 36 20))))), none, some (.long a5), none, some (.int (a7 + 1)), some (.long a8), none, some (.int a10), some (.int a11), none], [], qp_mk I1 J1)) (by with_unfolding_all rfl) hd1 trivial ?_
        exact qp_E_fg [true, true, true, true, false, true, false, true, false, false, false, false, false] (hk36 a1 a2 (a3 + (a8 * (Int32.toInt64 (I1 36 20)))) a5 (a7 + 1) I1 J1 h)
    · replace h := qp_iff h1 h
      obtain ⟨h8, h⟩ := qp_gd_s h
      refine qp_run_E qp_ok222 10 (f := vp_in ((69 : Int32) + a11) 75 ∧ True) (c' := (87, [some (.ref 36), some (.int a1), some (.int a2), some (.long a3), none, some (.long a5), none, some (.int a7), some (.long a8), none, some (.int a10), some (.int a11), some (.int (I 37 (Int32.toNatClampNeg ((69 : Int32) + a11))))], [.int (I 37 (Int32.toNatClampNeg ((69 : Int32) + a11))), .int a7, .long a8], qp_mk I J)) (by with_unfolding_all rfl) hd1 ⟨(qp_vin (c := 75) (by decide) h8.1 h8.2), trivial⟩ ?_
      obtain ⟨v3, I3, J3, e3, h⟩ := qp_bd_s h
      refine qp_cS qp_ok222 (rest := [.long a8]) (oj := 10) qp_f212 rfl rfl (gM_has l G a7 (I 37 (Int32.toNatClampNeg ((69 : Int32) + a11))) I J e3 (Nat.le_refl 1)) rfl rfl rfl (Nat.le_trans (by decide) hd) ?_
      refine qp_br_E qp_ok222 (f := v3 = 0) (ct := (98, [some (.ref 36), some (.int a1), some (.int a2), some (.long a3), none, some (.long a5), none, some (.int a7), some (.long a8), none, some (.int a10), some (.int a11), some (.int (I 37 (Int32.toNatClampNeg ((69 : Int32) + a11))))], [.long a8], qp_mk I3 J3)) (cf := (93, [some (.ref 36), some (.int a1), some (.int a2), some (.long a3), none, some (.long a5), none, some (.int a7), some (.long a8), none, some (.int a10), some (.int a11), some (.int (I 37 (Int32.toNatClampNeg ((69 : Int32) + a11))))], [.long a8], qp_mk I3 J3)) (by with_unfolding_all rfl) (fun h9 => ?_) (fun h9 => ?_)
      · replace h := qp_ift h9 h
        refine qp_run_E qp_ok222 4 (c' := (103, [some (.ref 36), some (.int a1), some (.int a2), some (.long a3), none, some (.long a5), none, some (.int a7), some (.long a8), none, some (.int a10), some (.int a11), some (.int (I 37 (Int32.toNatClampNeg ((69 : Int32) + a11))))], [.long (Int32.toInt64 ((12 : Int32) - a2)), .long a8], qp_mk I3 J3)) (by with_unfolding_all rfl) hd1 trivial ?_
        exact qp_E_fg [true, true, true, true, false, true, false, true, false, false, true, true, true] (gM_goOdds_b103 hd (fun a0 a1 a2 a3 a4 a5 a6 a7 I J => fM_goOdds_b58 k36 n a0 a1 a2 a3 a4 a5 a6 a7 I J) (fun a0 a1 a2 a3 a4 a5 a6 a7 I J h => ih a0 a1 a2 a3 a4 a5 a6 a7 I J h) a1 a2 a3 a5 a7 a10 a11 (I 37 (Int32.toNatClampNeg ((69 : Int32) + a11))) (Int32.toInt64 ((12 : Int32) - a2)) a8 I3 J3 h)
      · replace h := qp_iff h9 h
        refine qp_run_E qp_ok222 3 (c' := (103, [some (.ref 36), some (.int a1), some (.int a2), some (.long a3), none, some (.long a5), none, some (.int a7), some (.long a8), none, some (.int a10), some (.int a11), some (.int (I 37 (Int32.toNatClampNeg ((69 : Int32) + a11))))], [.long (Int32.toInt64 a2), .long a8], qp_mk I3 J3)) (by with_unfolding_all rfl) hd1 trivial ?_
        exact qp_E_fg [true, true, true, true, false, true, false, true, false, false, true, true, true] (gM_goOdds_b103 hd (fun a0 a1 a2 a3 a4 a5 a6 a7 I J => fM_goOdds_b58 k36 n a0 a1 a2 a3 a4 a5 a6 a7 I J) (fun a0 a1 a2 a3 a4 a5 a6 a7 I J h => ih a0 a1 a2 a3 a4 a5 a6 a7 I J h) a1 a2 a3 a5 a7 a10 a11 (I 37 (Int32.toNatClampNeg ((69 : Int32) + a11))) (Int32.toInt64 a2) a8 I3 J3 h)
def fM_goOdds_b36  : Nat → Int32 → Int32 → Int64 → Int64 → Int32 → (Nat → Nat → Int32) → (Nat → Nat → Int64) → Option (Unit × (Nat → Nat → Int32) × (Nat → Nat → Int64))
  | 0, _, _, _, _, _, _, _ => none
  | n + 1, a1, a2, a3, a5, a7, I, J =>
    if ((1 : Int32) <<< ((I 37 0) &&& 31)) ≤ a7 then (
      qp_bd (fM_fraction a3 a5 I J) fun _u I1 J1 =>
      some ((), I1, J1)
    ) else (
      fM_goOdds_b58 (fun a0 a1 a2 a3 a4 I J => fM_goOdds_b36 n a0 a1 a2 a3 a4 I J) 100000 a1 a2 a3 a5 a7 1 0 0 I J
    )
set_option maxRecDepth 8000 in
theorem gM_goOdds_b36 {l : Launch} {G : qp_G} {d : Nat} (hd : 3 ≤ d) {r : (Unit × (Nat → Nat → Int32) × (Nat → Nat → Int64))} {I0 : Nat → Nat → Int32} {J0 : Nat → Nat → Int64}   : ∀ (n : Nat) (a1 : Int32) (a2 : Int32) (a3 : Int64) (a5 : Int64) (a7 : Int32) (I : Nat → Nat → Int32) (J : Nat → Nat → Int64), fM_goOdds_b36  n a1 a2 a3 a5 a7 I J = some r → qp_E l G d 222 (qp_mk I0 J0) 0 0 (qp_R8 none r.2.1 r.2.2) (36, [some (.ref 36), some (.int a1), some (.int a2), some (.long a3), none, some (.long a5), none, some (.int a7), none, none, none, none, none], [], qp_mk I J) := by
  have hd1 : Nat.ble 1 d = true := Nat.ble_eq_true_of_le (Nat.le_trans (by decide) hd)
  intro n
  induction n with
  | zero => intro a1 a2 a3 a5 a7 I J h; exact absurd h (by simp [fM_goOdds_b36])
  | succ n ih =>
    intro a1 a2 a3 a5 a7 I J h
    rw [fM_goOdds_b36] at h
    refine qp_run_E qp_ok222 7 (f := vp_in 0 75 ∧ True) (c' := (46, [some (.ref 36), some (.int a1), some (.int a2), some (.long a3), none, some (.long a5), none, some (.int a7), none, none, none, none, none], [.int ((1 : Int32) <<< ((I 37 0) &&& 31)), .int a7], qp_mk I J)) (by with_unfolding_all rfl) hd1 ⟨(qp_vin (c := 75) (by decide) (by decide) (by decide)), trivial⟩ ?_
    refine qp_br_E qp_ok222 (f := ((1 : Int32) <<< ((I 37 0) &&& 31)) ≤ a7) (ct := (210, [some (.ref 36), some (.int a1), some (.int a2), some (.long a3), none, some (.long a5), none, some (.int a7), none, none, none, none, none], [], qp_mk I J)) (cf := (49, [some (.ref 36), some (.int a1), some (.int a2), some (.long a3), none, some (.long a5), none, some (.int a7), none, none, none, none, none], [], qp_mk I J)) (by with_unfolding_all rfl) (fun h1 => ?_) (fun h1 => ?_)
    · replace h := qp_ift h1 h
      refine qp_run_E qp_ok222 3 (c' := (214, [some (.ref 36), some (.int a1), some (.int a2), some (.long a3), none, some (.long a5), none, some (.int a7), none, none, none, none, none], [.long a5, .long a3, .ref 36], qp_mk I J)) (by with_unfolding_all rfl) hd1 trivial ?_
      obtain ⟨v1, I1, J1, e1, h⟩ := qp_bd_s h
      refine qp_cV qp_ok222 (rest := []) (oj := 10) qp_f223 rfl rfl (gM_fraction l G a3 a5 I J e1 (Nat.le_refl 1)) rfl rfl rfl rfl (Nat.le_trans (by decide) hd) ?_
      obtain rfl := Option.some.inj h
      exact qp_retV_E qp_ok222 rfl qp_r222.1 ⟨rfl, rfl⟩ ⟨rfl, rfl⟩
    · replace h := qp_iff h1 h
      refine qp_run_E qp_ok222 6 (c' := (58, [some (.ref 36), some (.int a1), some (.int a2), some (.long a3), none, some (.long a5), none, some (.int a7), some (.long 1), none, some (.int 0), some (.int 0), none], [], qp_mk I J)) (by with_unfolding_all rfl) hd1 trivial ?_
      exact gM_goOdds_b58 hd (fun a0 a1 a2 a3 a4 I J => fM_goOdds_b36 n a0 a1 a2 a3 a4 I J) (fun a0 a1 a2 a3 a4 I J h => ih a0 a1 a2 a3 a4 I J h) 100000 a1 a2 a3 a5 a7 1 0 0 I J h
def fM_goOdds_b8  : Nat → Int32 → Int32 → Int64 → Int64 → Int32 → (Nat → Nat → Int32) → (Nat → Nat → Int64) → Option (Unit × (Nat → Nat → Int32) × (Nat → Nat → Int64))
  | 0, _, _, _, _, _, _, _ => none
  | n + 1, a1, a2, a3, a5, a7, I, J =>
    if (I 37 0) ≤ a7 then (
      fM_goOdds_b36 100000 a1 a2 a3 a5 0 I J
    ) else (
      fM_goOdds_b8 n a1 a2 a3 (a5 * 12) (a7 + 1) I J
    )
set_option maxRecDepth 8000 in
theorem gM_goOdds_b8 {l : Launch} {G : qp_G} {d : Nat} (hd : 3 ≤ d) {r : (Unit × (Nat → Nat → Int32) × (Nat → Nat → Int64))} {I0 : Nat → Nat → Int32} {J0 : Nat → Nat → Int64}   : ∀ (n : Nat) (a1 : Int32) (a2 : Int32) (a3 : Int64) (a5 : Int64) (a7 : Int32) (I : Nat → Nat → Int32) (J : Nat → Nat → Int64), fM_goOdds_b8  n a1 a2 a3 a5 a7 I J = some r → qp_E l G d 222 (qp_mk I0 J0) 0 0 (qp_R8 none r.2.1 r.2.2) (8, [some (.ref 36), some (.int a1), some (.int a2), some (.long a3), none, some (.long a5), none, some (.int a7), none, none, none, none, none], [], qp_mk I J) := by
  have hd1 : Nat.ble 1 d = true := Nat.ble_eq_true_of_le (Nat.le_trans (by decide) hd)
  intro n
  induction n with
  | zero => intro a1 a2 a3 a5 a7 I J h; exact absurd h (by simp [fM_goOdds_b8])
  | succ n ih =>
    intro a1 a2 a3 a5 a7 I J h
    rw [fM_goOdds_b8] at h
    refine qp_run_E qp_ok222 5 (f := vp_in 0 75 ∧ True) (c' := (16, [some (.ref 36), some (.int a1), some (.int a2), some (.long a3), none, some (.long a5), none, some (.int a7), none, none, none, none, none], [.int (I 37 0), .int a7], qp_mk I J)) (by with_unfolding_all rfl) hd1 ⟨(qp_vin (c := 75) (by decide) (by decide) (by decide)), trivial⟩ ?_
    refine qp_br_E qp_ok222 (f := (I 37 0) ≤ a7) (ct := (33, [some (.ref 36), some (.int a1), some (.int a2), some (.long a3), none, some (.long a5), none, some (.int a7), none, none, none, none, none], [], qp_mk I J)) (cf := (19, [some (.ref 36), some (.int a1), some (.int a2), some (.long a3), none, some (.long a5), none, some (.int a7), none, none, none, none, none], [], qp_mk I J)) (by with_unfolding_all rfl) (fun h1 => ?_) (fun h1 => ?_)
    · replace h := qp_ift h1 h
      refine qp_run_E qp_ok222 2 (c' := (36, [some (.ref 36), some (.int a1), some (.int a2), some (.long a3), none, some (.long a5), none, some (.int 0), none, none, none, none, none], [], qp_mk I J)) (by with_unfolding_all rfl) hd1 trivial ?_
      exact gM_goOdds_b36 hd 100000 a1 a2 a3 a5 0 I J h
    · replace h := qp_iff h1 h
      refine qp_run_E qp_ok222 6 (c' := (8, [some (.ref 36), some (.int a1), some (.int a2), some (.long a3), none, some (.long (a5 * 12)), none, some (.int (a7 + 1)), none, none, none, none, none], [], qp_mk I J)) (by with_unfolding_all rfl) hd1 trivial ?_
      exact ih a1 a2 a3 (a5 * 12) (a7 + 1) I J h
def fM_goOdds (p1 : Int32) (p2 : Int32) (I : Nat → Nat → Int32) (J : Nat → Nat → Int64) : Option (Unit × (Nat → Nat → Int32) × (Nat → Nat → Int64)) :=
  fM_goOdds_b8 100000 p1 p2 0 1 0 I J
set_option maxRecDepth 8000 in
theorem gM_goOdds (l : Launch) (G : qp_G) (p1 : Int32) (p2 : Int32) (I : Nat → Nat → Int32) (J : Nat → Nat → Int64) {v : Unit} {I' : Nat → Nat → Int32} {J' : Nat → Nat → Int64} (h : fM_goOdds p1 p2 I J = some (v, I', J')) {d : Nat} (hd : 3 ≤ d) : qp_Met l G d 222 [.ref 36, .int p1, .int p2] (qp_mk I J) 0 0 (qp_R8 none I' J') := by
  have hd1 : Nat.ble 1 d = true := Nat.ble_eq_true_of_le (Nat.le_trans (by decide) hd)
  refine qp_Met_of (by decide) (by rw [qp_r222.2]; rfl) [some (.ref 36), some (.int p1), some (.int p2), none, none, none, none, none, none, none, none, none, none] (by rw [qp_r222.2]; rfl) ?_
  unfold fM_goOdds at h
  refine qp_run_E qp_ok222 6 (c' := (8, [some (.ref 36), some (.int p1), some (.int p2), some (.long 0), none, some (.long 1), none, some (.int 0), none, none, none, none, none], [], qp_mk I J)) (by with_unfolding_all rfl) hd1 trivial ?_
  exact gM_goOdds_b8 hd 100000 p1 p2 0 1 0 I J h
def fM_odds (p1 : Int32) (p2 : Int32) (I : Nat → Nat → Int32) (J : Nat → Nat → Int64) : Option (Int32 × (Nat → Nat → Int32) × (Nat → Nat → Int64)) :=
  qp_bd (fM_isOne p1 I J) fun v1 I1 J1 =>
  if v1 = 0 then (
    some ((-1), I1, J1)
  ) else (
    qp_bd (fM_in (Int32.toInt64 p2) 0 12 I1 J1) fun v2 I2 J2 =>
    if ¬ v2 = 0 then (
      qp_bd (fM_goOdds p1 p2 I2 J2) fun _u I3 J3 =>
      some (1, I3, J3)
    ) else (
      some ((-1), I2, J2)
    )
  )
set_option maxRecDepth 8000 in
theorem gM_odds (l : Launch) (G : qp_G) (p1 : Int32) (p2 : Int32) (I : Nat → Nat → Int32) (J : Nat → Nat → Int64) {v : Int32} {I' : Nat → Nat → Int32} {J' : Nat → Nat → Int64} (h : fM_odds p1 p2 I J = some (v, I', J')) {d : Nat} (hd : 4 ≤ d) : qp_Met l G d 221 [.ref 36, .int p1, .int p2] (qp_mk I J) 0 0 (qp_R8 (some (.int v)) I' J') := by
  have hd1 : Nat.ble 1 d = true := Nat.ble_eq_true_of_le (Nat.le_trans (by decide) hd)
  refine qp_Met_of (by decide) (by rw [qp_r221.2]; rfl) [some (.ref 36), some (.int p1), some (.int p2)] (by rw [qp_r221.2]; rfl) ?_
  unfold fM_odds at h
  refine qp_run_E qp_ok221 2 (c' := (2, [some (.ref 36), some (.int p1), some (.int p2)], [.int p1, .ref 36], qp_mk I J)) (by with_unfolding_all rfl) hd1 trivial ?_
  obtain ⟨v1, I1, J1, e1, h⟩ := qp_bd_s h
  refine qp_cV qp_ok221 (rest := []) (oj := 10) qp_f172 rfl rfl (gM_isOne l G p1 I J e1 (Nat.le_refl 2)) rfl rfl rfl rfl (Nat.le_trans (by decide) hd) ?_
  refine qp_br_E qp_ok221 (f := v1 = 0) (ct := (20, [some (.ref 36), some (.int p1), some (.int p2)], [], qp_mk I1 J1)) (cf := (8, [some (.ref 36), some (.int p1), some (.int p2)], [], qp_mk I1 J1)) (by with_unfolding_all rfl) (fun h1 => ?_) (fun h1 => ?_)
  · replace h := qp_ift h1 h
    refine qp_run_E qp_ok221 1 (c' := (21, [some (.ref 36), some (.int p1), some (.int p2)], [.int (-1)], qp_mk I1 J1)) (by with_unfolding_all rfl) hd1 trivial ?_
    obtain ⟨rfl, rfl, rfl⟩ := qp_some3 h
    exact qp_retI_E qp_ok221 rfl qp_r221.1 ⟨rfl, rfl⟩ ⟨rfl, rfl⟩
  · replace h := qp_iff h1 h
    refine qp_run_E qp_ok221 4 (c' := (14, [some (.ref 36), some (.int p1), some (.int p2)], [.long 12, .long 0, .long (Int32.toInt64 p2)], qp_mk I1 J1)) (by with_unfolding_all rfl) hd1 trivial ?_
    obtain ⟨v2, I2, J2, e2, h⟩ := qp_bd_s h
    refine qp_cS qp_ok221 (rest := []) (oj := 10) qp_f150 rfl rfl (gM_in l G (Int32.toInt64 p2) 0 12 I1 J1 e2 (Nat.le_refl 1)) rfl rfl rfl (Nat.le_trans (by decide) hd) ?_
    refine qp_br_E qp_ok221 (f := ¬ v2 = 0) (ct := (22, [some (.ref 36), some (.int p1), some (.int p2)], [], qp_mk I2 J2)) (cf := (20, [some (.ref 36), some (.int p1), some (.int p2)], [], qp_mk I2 J2)) (by with_unfolding_all rfl) (fun h2 => ?_) (fun h2 => ?_)
    · replace h := qp_ift h2 h
      refine qp_run_E qp_ok221 3 (c' := (25, [some (.ref 36), some (.int p1), some (.int p2)], [.int p2, .int p1, .ref 36], qp_mk I2 J2)) (by with_unfolding_all rfl) hd1 trivial ?_
      obtain ⟨v3, I3, J3, e3, h⟩ := qp_bd_s h
      refine qp_cV qp_ok221 (rest := []) (oj := 10) qp_f222 rfl rfl (gM_goOdds l G p1 p2 I2 J2 e3 (Nat.le_refl 3)) rfl rfl rfl rfl (Nat.le_trans (by decide) hd) ?_
      refine qp_run_E qp_ok221 1 (c' := (29, [some (.ref 36), some (.int p1), some (.int p2)], [.int 1], qp_mk I3 J3)) (by with_unfolding_all rfl) hd1 trivial ?_
      obtain ⟨rfl, rfl, rfl⟩ := qp_some3 h
      exact qp_retI_E qp_ok221 rfl qp_r221.1 ⟨rfl, rfl⟩ ⟨rfl, rfl⟩
    · replace h := qp_iff h2 h
      refine qp_run_E qp_ok221 1 (c' := (21, [some (.ref 36), some (.int p1), some (.int p2)], [.int (-1)], qp_mk I2 J2)) (by with_unfolding_all rfl) hd1 trivial ?_
      obtain ⟨rfl, rfl, rfl⟩ := qp_some3 h
      exact qp_retI_E qp_ok221 rfl qp_r221.1 ⟨rfl, rfl⟩ ⟨rfl, rfl⟩
def fM_mid (p1 : Int32) (I : Nat → Nat → Int32) (J : Nat → Nat → Int64) : Option (Int32 × (Nat → Nat → Int32) × (Nat → Nat → Int64)) :=
  qp_bd (fM_in (Int32.toInt64 p1) 0 12 I J) fun v1 I1 J1 =>
  if ¬ v1 = 0 then (
    if ¬ (I1 37 0) = 0 then (
      qp_bd (fM_goOdds (-9) p1 I1 J1) fun _u I2 J2 =>
      some (1, I2, J2)
    ) else (
      some ((-4), I1, J1)
    )
  ) else (
    some ((-1), I1, J1)
  )
set_option maxRecDepth 8000 in
theorem gM_mid (l : Launch) (G : qp_G) (p1 : Int32) (I : Nat → Nat → Int32) (J : Nat → Nat → Int64) {v : Int32} {I' : Nat → Nat → Int32} {J' : Nat → Nat → Int64} (h : fM_mid p1 I J = some (v, I', J')) {d : Nat} (hd : 4 ≤ d) : qp_Met l G d 224 [.ref 36, .int p1] (qp_mk I J) 0 0 (qp_R8 (some (.int v)) I' J') := by
  have hd1 : Nat.ble 1 d = true := Nat.ble_eq_true_of_le (Nat.le_trans (by decide) hd)
  refine qp_Met_of (by decide) (by rw [qp_r224.2]; rfl) [some (.ref 36), some (.int p1)] (by rw [qp_r224.2]; rfl) ?_
  unfold fM_mid at h
  refine qp_run_E qp_ok224 4 (c' := (6, [some (.ref 36), some (.int p1)], [.long 12, .long 0, .long (Int32.toInt64 p1)], qp_mk I J)) (by with_unfolding_all rfl) hd1 trivial ?_
  obtain ⟨v1, I1, J1, e1, h⟩ := qp_bd_s h
  refine qp_cS qp_ok224 (rest := []) (oj := 10) qp_f150 rfl rfl (gM_in l G (Int32.toInt64 p1) 0 12 I J e1 (Nat.le_refl 1)) rfl rfl rfl (Nat.le_trans (by decide) hd) ?_
  refine qp_br_E qp_ok224 (f := ¬ v1 = 0) (ct := (14, [some (.ref 36), some (.int p1)], [], qp_mk I1 J1)) (cf := (12, [some (.ref 36), some (.int p1)], [], qp_mk I1 J1)) (by with_unfolding_all rfl) (fun h1 => ?_) (fun h1 => ?_)
  · replace h := qp_ift h1 h
    refine qp_run_E qp_ok224 4 (f := vp_in 0 75 ∧ True) (c' := (20, [some (.ref 36), some (.int p1)], [.int (I1 37 0)], qp_mk I1 J1)) (by with_unfolding_all rfl) hd1 ⟨(qp_vin (c := 75) (by decide) (by decide) (by decide)), trivial⟩ ?_
    refine qp_br_E qp_ok224 (f := ¬ (I1 37 0) = 0) (ct := (26, [some (.ref 36), some (.int p1)], [], qp_mk I1 J1)) (cf := (23, [some (.ref 36), some (.int p1)], [], qp_mk I1 J1)) (by with_unfolding_all rfl) (fun h2 => ?_) (fun h2 => ?_)
    · replace h := qp_ift h2 h
      refine qp_run_E qp_ok224 3 (c' := (30, [some (.ref 36), some (.int p1)], [.int p1, .int (-9), .ref 36], qp_mk I1 J1)) (by with_unfolding_all rfl) hd1 trivial ?_
      obtain ⟨v2, I2, J2, e2, h⟩ := qp_bd_s h
      refine qp_cV qp_ok224 (rest := []) (oj := 10) qp_f222 rfl rfl (gM_goOdds l G (-9) p1 I1 J1 e2 (Nat.le_refl 3)) rfl rfl rfl rfl (Nat.le_trans (by decide) hd) ?_
      refine qp_run_E qp_ok224 1 (c' := (34, [some (.ref 36), some (.int p1)], [.int 1], qp_mk I2 J2)) (by with_unfolding_all rfl) hd1 trivial ?_
      obtain ⟨rfl, rfl, rfl⟩ := qp_some3 h
      exact qp_retI_E qp_ok224 rfl qp_r224.1 ⟨rfl, rfl⟩ ⟨rfl, rfl⟩
    · replace h := qp_iff h2 h
      refine qp_run_E qp_ok224 1 (c' := (25, [some (.ref 36), some (.int p1)], [.int (-4)], qp_mk I1 J1)) (by with_unfolding_all rfl) hd1 trivial ?_
      obtain ⟨rfl, rfl, rfl⟩ := qp_some3 h
      exact qp_retI_E qp_ok224 rfl qp_r224.1 ⟨rfl, rfl⟩ ⟨rfl, rfl⟩
  · replace h := qp_iff h1 h
    refine qp_run_E qp_ok224 1 (c' := (13, [some (.ref 36), some (.int p1)], [.int (-1)], qp_mk I1 J1)) (by with_unfolding_all rfl) hd1 trivial ?_
    obtain ⟨rfl, rfl, rfl⟩ := qp_some3 h
    exact qp_retI_E qp_ok224 rfl qp_r224.1 ⟨rfl, rfl⟩ ⟨rfl, rfl⟩
def fM_gotAll_b8  : Nat → Int32 → Int32 → (Nat → Nat → Int32) → (Nat → Nat → Int64) → Option (Int32 × (Nat → Nat → Int32) × (Nat → Nat → Int64))
  | 0, _, _, _, _ => none
  | n + 1, a1, a2, I, J =>
    if (I 37 0) ≤ a2 then (
      some (a1, I, J)
    ) else (
      qp_gd ((0 ≤ a2 ∧ a2 < 6)) <|
      fM_gotAll_b8 n (a1 + (I 48 (Int32.toNatClampNeg a2))) (a2 + 1) I J
    )
set_option maxRecDepth 8000 in
theorem gM_gotAll_b8 {l : Launch} {G : qp_G} {d : Nat} (hd : 4 ≤ d) {r : (Int32 × (Nat → Nat → Int32) × (Nat → Nat → Int64))} {I0 : Nat → Nat → Int32} {J0 : Nat → Nat → Int64}   : ∀ (n : Nat) (a1 : Int32) (a2 : Int32) (I : Nat → Nat → Int32) (J : Nat → Nat → Int64), fM_gotAll_b8  n a1 a2 I J = some r → qp_E l G d 227 (qp_mk I0 J0) 0 0 (qp_R8 (some (.int r.1)) r.2.1 r.2.2) (8, [some (.ref 36), some (.int a1), some (.int a2)], [], qp_mk I J) := by
  have hd1 : Nat.ble 1 d = true := Nat.ble_eq_true_of_le (Nat.le_trans (by decide) hd)
  intro n
  induction n with
  | zero => intro a1 a2 I J h; exact absurd h (by simp [fM_gotAll_b8])
  | succ n ih =>
    intro a1 a2 I J h
    rw [fM_gotAll_b8] at h
    refine qp_run_E qp_ok227 5 (f := vp_in 0 75 ∧ True) (c' := (15, [some (.ref 36), some (.int a1), some (.int a2)], [.int (I 37 0), .int a2], qp_mk I J)) (by with_unfolding_all rfl) hd1 ⟨(qp_vin (c := 75) (by decide) (by decide) (by decide)), trivial⟩ ?_
    refine qp_br_E qp_ok227 (f := (I 37 0) ≤ a2) (ct := (33, [some (.ref 36), some (.int a1), some (.int a2)], [], qp_mk I J)) (cf := (18, [some (.ref 36), some (.int a1), some (.int a2)], [], qp_mk I J)) (by with_unfolding_all rfl) (fun h1 => ?_) (fun h1 => ?_)
    · replace h := qp_ift h1 h
      refine qp_run_E qp_ok227 1 (c' := (34, [some (.ref 36), some (.int a1), some (.int a2)], [.int a1], qp_mk I J)) (by with_unfolding_all rfl) hd1 trivial ?_
      obtain rfl := Option.some.inj h
      exact qp_retI_E qp_ok227 rfl qp_r227.1 ⟨rfl, rfl⟩ ⟨rfl, rfl⟩
    · replace h := qp_iff h1 h
      obtain ⟨h2, h⟩ := qp_gd_s h
      refine qp_run_E qp_ok227 9 (f := vp_in a2 6 ∧ True) (c' := (8, [some (.ref 36), some (.int (a1 + (I 48 (Int32.toNatClampNeg a2)))), some (.int (a2 + 1))], [], qp_mk I J)) (by with_unfolding_all rfl) hd1 ⟨(qp_vin (c := 6) (by decide) h2.1 h2.2), trivial⟩ ?_
      exact ih (a1 + (I 48 (Int32.toNatClampNeg a2))) (a2 + 1) I J h
def fM_gotAll  (I : Nat → Nat → Int32) (J : Nat → Nat → Int64) : Option (Int32 × (Nat → Nat → Int32) × (Nat → Nat → Int64)) :=
  qp_bd (fM_serveNow I J) fun _u I1 J1 =>
  fM_gotAll_b8 100000 0 0 I1 J1
set_option maxRecDepth 8000 in
theorem gM_gotAll (l : Launch) (G : qp_G)  (I : Nat → Nat → Int32) (J : Nat → Nat → Int64) {v : Int32} {I' : Nat → Nat → Int32} {J' : Nat → Nat → Int64} (h : fM_gotAll  I J = some (v, I', J')) {d : Nat} (hd : 4 ≤ d) : qp_Met l G d 227 [.ref 36] (qp_mk I J) 0 0 (qp_R8 (some (.int v)) I' J') := by
  have hd1 : Nat.ble 1 d = true := Nat.ble_eq_true_of_le (Nat.le_trans (by decide) hd)
  refine qp_Met_of (by decide) (by rw [qp_r227.2]; rfl) [some (.ref 36), none, none] (by rw [qp_r227.2]; rfl) ?_
  unfold fM_gotAll at h
  refine qp_run_E qp_ok227 3 (c' := (3, [some (.ref 36), some (.int 0), none], [.ref 36], qp_mk I J)) (by with_unfolding_all rfl) hd1 trivial ?_
  obtain ⟨v1, I1, J1, e1, h⟩ := qp_bd_s h
  refine qp_cV qp_ok227 (rest := []) (oj := 10) qp_f174 rfl rfl (gM_serveNow l G I J e1 (Nat.le_refl 3)) rfl rfl rfl rfl (Nat.le_trans (by decide) hd) ?_
  refine qp_run_E qp_ok227 2 (c' := (8, [some (.ref 36), some (.int 0), some (.int 0)], [], qp_mk I1 J1)) (by with_unfolding_all rfl) hd1 trivial ?_
  exact gM_gotAll_b8 hd 100000 0 0 I1 J1 h
def fM_deedBy (p1 : Int64) (I : Nat → Nat → Int32) (J : Nat → Nat → Int64) : Option (Int32 × (Nat → Nat → Int32) × (Nat → Nat → Int64)) :=
  if 6 ≤ (Int64.toInt32 ((p1 / 8) - (p1 / 8) / 8 * 8)) then (
    if ¬ (Int64.toInt32 ((p1 / 8) - (p1 / 8) / 8 * 8)) = 7 then (
      if ¬ (I 37 56) = 0 then (
        qp_gd ((¬ (Int32.toInt64 (I 37 56)) = 0)) <|
        some (((200 : Int32) + (Int64.toInt32 ((p1 / 64) - (p1 / 64) / (Int32.toInt64 (I 37 56)) * (Int32.toInt64 (I 37 56))))), I, J)
      ) else (
        some (0, I, J)
      )
    ) else (
      some (((300 : Int32) + (Int64.toInt32 ((p1 / 64) - (p1 / 64) / 21 * 21))), I, J)
    )
  ) else (
    qp_gd ((¬ (Int32.toInt64 (I 37 0)) = 0) ∧ (0 ≤ ((69 : Int32) + (Int64.toInt32 ((p1 / 64) - (p1 / 64) / (Int32.toInt64 (I 37 0)) * (Int32.toInt64 (I 37 0))))) ∧ ((69 : Int32) + (Int64.toInt32 ((p1 / 64) - (p1 / 64) / (Int32.toInt64 (I 37 0)) * (Int32.toInt64 (I 37 0))))) < 75)) <|
    if (I 37 (Int32.toNatClampNeg ((69 : Int32) + (Int64.toInt32 ((p1 / 64) - (p1 / 64) / (Int32.toInt64 (I 37 0)) * (Int32.toInt64 (I 37 0))))))) = (Int64.toInt32 (p1 - p1 / (Int32.toInt64 (I 37 0)) * (Int32.toInt64 (I 37 0)))) then (
      some (0, I, J)
    ) else (
      if ¬ (I 37 56) = 12 then (
        some ((((100 : Int32) + ((8 : Int32) * (Int64.toInt32 (p1 - p1 / (Int32.toInt64 (I 37 0)) * (Int32.toInt64 (I 37 0)))))) + (Int64.toInt32 ((p1 / 64) - (p1 / 64) / (Int32.toInt64 (I 37 0)) * (Int32.toInt64 (I 37 0))))), I, J)
      ) else (
        some (0, I, J)
      )
    )
  )
set_option maxRecDepth 8000 in
theorem gM_deedBy (l : Launch) (G : qp_G) (p1 : Int64) (I : Nat → Nat → Int32) (J : Nat → Nat → Int64) {v : Int32} {I' : Nat → Nat → Int32} {J' : Nat → Nat → Int64} (h : fM_deedBy p1 I J = some (v, I', J')) {d : Nat} (hd : 1 ≤ d) : qp_Met l G d 226 [.ref 36, .long p1] (qp_mk I J) 0 0 (qp_R8 (some (.int v)) I' J') := by
  have hd1 : Nat.ble 1 d = true := Nat.ble_eq_true_of_le (Nat.le_trans (by decide) hd)
  refine qp_Met_of (by decide) (by rw [qp_r226.2]; rfl) [some (.ref 36), some (.long p1), none, none, none, none, none, none] (by rw [qp_r226.2]; rfl) ?_
  unfold fM_deedBy at h
  refine qp_run_E qp_ok226 13 (f := ¬ (8 : Int64) = 0 ∧ ¬ (8 : Int64) = 0 ∧ ¬ (64 : Int64) = 0 ∧ True) (c' := (21, [some (.ref 36), some (.long p1), none, some (.int (Int64.toInt32 ((p1 / 8) - (p1 / 8) / 8 * 8))), some (.long (p1 / 64)), none, none, none], [.int 6, .int (Int64.toInt32 ((p1 / 8) - (p1 / 8) / 8 * 8))], qp_mk I J)) (by with_unfolding_all rfl) hd1 ⟨(by decide), (by decide), (by decide), trivial⟩ ?_
  refine qp_br_E qp_ok226 (f := 6 ≤ (Int64.toInt32 ((p1 / 8) - (p1 / 8) / 8 * 8))) (ct := (92, [some (.ref 36), some (.long p1), none, some (.int (Int64.toInt32 ((p1 / 8) - (p1 / 8) / 8 * 8))), some (.long (p1 / 64)), none, none, none], [], qp_mk I J)) (cf := (24, [some (.ref 36), some (.long p1), none, some (.int (Int64.toInt32 ((p1 / 8) - (p1 / 8) / 8 * 8))), some (.long (p1 / 64)), none, none, none], [], qp_mk I J)) (by with_unfolding_all rfl) (fun h1 => ?_) (fun h1 => ?_)
  · replace h := qp_ift h1 h
    refine qp_run_E qp_ok226 2 (c' := (95, [some (.ref 36), some (.long p1), none, some (.int (Int64.toInt32 ((p1 / 8) - (p1 / 8) / 8 * 8))), some (.long (p1 / 64)), none, none, none], [.int 7, .int (Int64.toInt32 ((p1 / 8) - (p1 / 8) / 8 * 8))], qp_mk I J)) (by with_unfolding_all rfl) hd1 trivial ?_
    refine qp_br_E qp_ok226 (f := ¬ (Int64.toInt32 ((p1 / 8) - (p1 / 8) / 8 * 8)) = 7) (ct := (112, [some (.ref 36), some (.long p1), none, some (.int (Int64.toInt32 ((p1 / 8) - (p1 / 8) / 8 * 8))), some (.long (p1 / 64)), none, none, none], [], qp_mk I J)) (cf := (98, [some (.ref 36), some (.long p1), none, some (.int (Int64.toInt32 ((p1 / 8) - (p1 / 8) / 8 * 8))), some (.long (p1 / 64)), none, none, none], [], qp_mk I J)) (by with_unfolding_all rfl) (fun h2 => ?_) (fun h2 => ?_)
    · replace h := qp_ift h2 h
      refine qp_run_E qp_ok226 4 (f := vp_in 56 75 ∧ True) (c' := (119, [some (.ref 36), some (.long p1), none, some (.int (Int64.toInt32 ((p1 / 8) - (p1 / 8) / 8 * 8))), some (.long (p1 / 64)), none, none, none], [.int (I 37 56)], qp_mk I J)) (by with_unfolding_all rfl) hd1 ⟨(qp_vin (c := 75) (by decide) (by decide) (by decide)), trivial⟩ ?_
      refine qp_br_E qp_ok226 (f := ¬ (I 37 56) = 0) (ct := (126, [some (.ref 36), some (.long p1), none, some (.int (Int64.toInt32 ((p1 / 8) - (p1 / 8) / 8 * 8))), some (.long (p1 / 64)), none, none, none], [], qp_mk I J)) (cf := (122, [some (.ref 36), some (.long p1), none, some (.int (Int64.toInt32 ((p1 / 8) - (p1 / 8) / 8 * 8))), some (.long (p1 / 64)), none, none, none], [], qp_mk I J)) (by with_unfolding_all rfl) (fun h3 => ?_) (fun h3 => ?_)
      · replace h := qp_ift h3 h
        obtain ⟨h4, h⟩ := qp_gd_s h
        refine qp_run_E qp_ok226 10 (f := vp_in 56 75 ∧ ¬ ((Int32.toInt64 (I 37 56)) : Int64) = 0 ∧ True) (c' := (142, [some (.ref 36), some (.long p1), none, some (.int (Int64.toInt32 ((p1 / 8) - (p1 / 8) / 8 * 8))), some (.long (p1 / 64)), none, none, none], [.int ((200 : Int32) + (Int64.toInt32 ((p1 / 64) - (p1 / 64) / (Int32.toInt64 (I 37 56)) * (Int32.toInt64 (I 37 56)))))], qp_mk I J)) (by with_unfolding_all rfl) hd1 ⟨(qp_vin (c := 75) (by decide) (by decide) (by decide)), h4, trivial⟩ ?_
        obtain ⟨rfl, rfl, rfl⟩ := qp_some3 h
        exact qp_retI_E qp_ok226 rfl qp_r226.1 ⟨rfl, rfl⟩ ⟨rfl, rfl⟩
      · replace h := qp_iff h3 h
        refine qp_run_E qp_ok226 2 (c' := (142, [some (.ref 36), some (.long p1), none, some (.int (Int64.toInt32 ((p1 / 8) - (p1 / 8) / 8 * 8))), some (.long (p1 / 64)), none, none, none], [.int 0], qp_mk I J)) (by with_unfolding_all rfl) hd1 trivial ?_
        obtain ⟨rfl, rfl, rfl⟩ := qp_some3 h
        exact qp_retI_E qp_ok226 rfl qp_r226.1 ⟨rfl, rfl⟩ ⟨rfl, rfl⟩
    · replace h := qp_iff h2 h
      refine qp_run_E qp_ok226 7 (f := ¬ (21 : Int64) = 0 ∧ True) (c' := (142, [some (.ref 36), some (.long p1), none, some (.int (Int64.toInt32 ((p1 / 8) - (p1 / 8) / 8 * 8))), some (.long (p1 / 64)), none, none, none], [.int ((300 : Int32) + (Int64.toInt32 ((p1 / 64) - (p1 / 64) / 21 * 21)))], qp_mk I J)) (by with_unfolding_all rfl) hd1 ⟨(by decide), trivial⟩ ?_
      obtain ⟨rfl, rfl, rfl⟩ := qp_some3 h
      exact qp_retI_E qp_ok226 rfl qp_r226.1 ⟨rfl, rfl⟩ ⟨rfl, rfl⟩
  · replace h := qp_iff h1 h
    obtain ⟨h5, h⟩ := qp_gd_s h
    refine qp_run_E qp_ok226 25 (f := vp_in 0 75 ∧ ¬ ((Int32.toInt64 (I 37 0)) : Int64) = 0 ∧ vp_in 0 75 ∧ ¬ ((Int32.toInt64 (I 37 0)) : Int64) = 0 ∧ vp_in ((69 : Int32) + (Int64.toInt32 ((p1 / 64) - (p1 / 64) / (Int32.toInt64 (I 37 0)) * (Int32.toInt64 (I 37 0))))) 75 ∧ True) (c' := (61, [some (.ref 36), some (.long p1), none, some (.int (Int64.toInt32 ((p1 / 8) - (p1 / 8) / 8 * 8))), some (.long (p1 / 64)), none, some (.int (Int64.toInt32 (p1 - p1 / (Int32.toInt64 (I 37 0)) * (Int32.toInt64 (I 37 0))))), some (.int (Int64.toInt32 ((p1 / 64) - (p1 / 64) / (Int32.toInt64 (I 37 0)) * (Int32.toInt64 (I 37 0)))))], [.int (Int64.toInt32 (p1 - p1 / (Int32.toInt64 (I 37 0)) * (Int32.toInt64 (I 37 0)))), .int (I 37 (Int32.toNatClampNeg ((69 : Int32) + (Int64.toInt32 ((p1 / 64) - (p1 / 64) / (Int32.toInt64 (I 37 0)) * (Int32.toInt64 (I 37 0)))))))], qp_mk I J)) (by with_unfolding_all rfl) hd1 ⟨(qp_vin (c := 75) (by decide) (by decide) (by decide)), h5.1, (qp_vin (c := 75) (by decide) (by decide) (by decide)), h5.1, (qp_vin (c := 75) (by decide) h5.2.1 h5.2.2), trivial⟩ ?_
    refine qp_br_E qp_ok226 (f := (I 37 (Int32.toNatClampNeg ((69 : Int32) + (Int64.toInt32 ((p1 / 64) - (p1 / 64) / (Int32.toInt64 (I 37 0)) * (Int32.toInt64 (I 37 0))))))) = (Int64.toInt32 (p1 - p1 / (Int32.toInt64 (I 37 0)) * (Int32.toInt64 (I 37 0))))) (ct := (76, [some (.ref 36), some (.long p1), none, some (.int (Int64.toInt32 ((p1 / 8) - (p1 / 8) / 8 * 8))), some (.long (p1 / 64)), none, some (.int (Int64.toInt32 (p1 - p1 / (Int32.toInt64 (I 37 0)) * (Int32.toInt64 (I 37 0))))), some (.int (Int64.toInt32 ((p1 / 64) - (p1 / 64) / (Int32.toInt64 (I 37 0)) * (Int32.toInt64 (I 37 0)))))], [], qp_mk I J)) (cf := (64, [some (.ref 36), some (.long p1), none, some (.int (Int64.toInt32 ((p1 / 8) - (p1 / 8) / 8 * 8))), some (.long (p1 / 64)), none, some (.int (Int64.toInt32 (p1 - p1 / (Int32.toInt64 (I 37 0)) * (Int32.toInt64 (I 37 0))))), some (.int (Int64.toInt32 ((p1 / 64) - (p1 / 64) / (Int32.toInt64 (I 37 0)) * (Int32.toInt64 (I 37 0)))))], [], qp_mk I J)) (by with_unfolding_all rfl) (fun h6 => ?_) (fun h6 => ?_)
    · replace h := qp_ift h6 h
      refine qp_run_E qp_ok226 2 (c' := (91, [some (.ref 36), some (.long p1), none, some (.int (Int64.toInt32 ((p1 / 8) - (p1 / 8) / 8 * 8))), some (.long (p1 / 64)), none, some (.int (Int64.toInt32 (p1 - p1 / (Int32.toInt64 (I 37 0)) * (Int32.toInt64 (I 37 0))))), some (.int (Int64.toInt32 ((p1 / 64) - (p1 / 64) / (Int32.toInt64 (I 37 0)) * (Int32.toInt64 (I 37 0)))))], [.int 0], qp_mk I J)) (by with_unfolding_all rfl) hd1 trivial ?_
      obtain ⟨rfl, rfl, rfl⟩ := qp_some3 h
      exact qp_retI_E qp_ok226 rfl qp_r226.1 ⟨rfl, rfl⟩ ⟨rfl, rfl⟩
    · replace h := qp_iff h6 h
      refine qp_run_E qp_ok226 5 (f := vp_in 56 75 ∧ True) (c' := (73, [some (.ref 36), some (.long p1), none, some (.int (Int64.toInt32 ((p1 / 8) - (p1 / 8) / 8 * 8))), some (.long (p1 / 64)), none, some (.int (Int64.toInt32 (p1 - p1 / (Int32.toInt64 (I 37 0)) * (Int32.toInt64 (I 37 0))))), some (.int (Int64.toInt32 ((p1 / 64) - (p1 / 64) / (Int32.toInt64 (I 37 0)) * (Int32.toInt64 (I 37 0)))))], [.int 12, .int (I 37 56)], qp_mk I J)) (by with_unfolding_all rfl) hd1 ⟨(qp_vin (c := 75) (by decide) (by decide) (by decide)), trivial⟩ ?_
      refine qp_br_E qp_ok226 (f := ¬ (I 37 56) = 12) (ct := (80, [some (.ref 36), some (.long p1), none, some (.int (Int64.toInt32 ((p1 / 8) - (p1 / 8) / 8 * 8))), some (.long (p1 / 64)), none, some (.int (Int64.toInt32 (p1 - p1 / (Int32.toInt64 (I 37 0)) * (Int32.toInt64 (I 37 0))))), some (.int (Int64.toInt32 ((p1 / 64) - (p1 / 64) / (Int32.toInt64 (I 37 0)) * (Int32.toInt64 (I 37 0)))))], [], qp_mk I J)) (cf := (76, [some (.ref 36), some (.long p1), none, some (.int (Int64.toInt32 ((p1 / 8) - (p1 / 8) / 8 * 8))), some (.long (p1 / 64)), none, some (.int (Int64.toInt32 (p1 - p1 / (Int32.toInt64 (I 37 0)) * (Int32.toInt64 (I 37 0))))), some (.int (Int64.toInt32 ((p1 / 64) - (p1 / 64) / (Int32.toInt64 (I 37 0)) * (Int32.toInt64 (I 37 0)))))], [], qp_mk I J)) (by with_unfolding_all rfl) (fun h7 => ?_) (fun h7 => ?_)
      · replace h := qp_ift h7 h
        refine qp_run_E qp_ok226 7 (c' := (91, [some (.ref 36), some (.long p1), none, some (.int (Int64.toInt32 ((p1 / 8) - (p1 / 8) / 8 * 8))), some (.long (p1 / 64)), none, some (.int (Int64.toInt32 (p1 - p1 / (Int32.toInt64 (I 37 0)) * (Int32.toInt64 (I 37 0))))), some (.int (Int64.toInt32 ((p1 / 64) - (p1 / 64) / (Int32.toInt64 (I 37 0)) * (Int32.toInt64 (I 37 0)))))], [.int (((100 : Int32) + ((8 : Int32) * (Int64.toInt32 (p1 - p1 / (Int32.toInt64 (I 37 0)) * (Int32.toInt64 (I 37 0)))))) + (Int64.toInt32 ((p1 / 64) - (p1 / 64) / (Int32.toInt64 (I 37 0)) * (Int32.toInt64 (I 37 0)))))], qp_mk I J)) (by with_unfolding_all rfl) hd1 trivial ?_
        obtain ⟨rfl, rfl, rfl⟩ := qp_some3 h
        exact qp_retI_E qp_ok226 rfl qp_r226.1 ⟨rfl, rfl⟩ ⟨rfl, rfl⟩
      · replace h := qp_iff h7 h
        refine qp_run_E qp_ok226 2 (c' := (91, [some (.ref 36), some (.long p1), none, some (.int (Int64.toInt32 ((p1 / 8) - (p1 / 8) / 8 * 8))), some (.long (p1 / 64)), none, some (.int (Int64.toInt32 (p1 - p1 / (Int32.toInt64 (I 37 0)) * (Int32.toInt64 (I 37 0))))), some (.int (Int64.toInt32 ((p1 / 64) - (p1 / 64) / (Int32.toInt64 (I 37 0)) * (Int32.toInt64 (I 37 0)))))], [.int 0], qp_mk I J)) (by with_unfolding_all rfl) hd1 trivial ?_
        obtain ⟨rfl, rfl, rfl⟩ := qp_some3 h
        exact qp_retI_E qp_ok226 rfl qp_r226.1 ⟨rfl, rfl⟩ ⟨rfl, rfl⟩
def fM_lots_b61  : Nat → Int32 → Int64 → Int32 → (Nat → Nat → Int32) → (Nat → Nat → Int64) → Option (Int32 × (Nat → Nat → Int32) × (Nat → Nat → Int64))
  | 0, _, _, _, _, _ => none
  | n + 1, a1, a3, a5, I, J =>
    if a1 ≤ a5 then (
      qp_bd (fM_gotAll I J) fun v1 I1 J1 =>
      some (v1, I1, J1)
    ) else (
      qp_bd (fM_deedBy ((a3 * 48271) - (a3 * 48271) / 2147483647 * 2147483647) I J) fun v2 I2 J2 =>
      qp_bd (fM_does v2 I2 J2) fun v3 I3 J3 =>
      fM_lots_b61 n a1 ((a3 * 48271) - (a3 * 48271) / 2147483647 * 2147483647) (a5 + 1) I3 J3
    )
set_option maxRecDepth 8000 in
theorem gM_lots_b61 {l : Launch} {G : qp_G} {d : Nat} (hd : 7 ≤ d) {r : (Int32 × (Nat → Nat → Int32) × (Nat → Nat → Int64))} {I0 : Nat → Nat → Int32} {J0 : Nat → Nat → Int64}   : ∀ (n : Nat) (a1 : Int32) (a3 : Int64) (a5 : Int32) (I : Nat → Nat → Int32) (J : Nat → Nat → Int64), fM_lots_b61  n a1 a3 a5 I J = some r → qp_E l G d 225 (qp_mk I0 J0) 0 0 (qp_R8 (some (.int r.1)) r.2.1 r.2.2) (61, [some (.ref 36), some (.int a1), none, some (.long a3), none, some (.int a5), none], [], qp_mk I J) := by
  have hd1 : Nat.ble 1 d = true := Nat.ble_eq_true_of_le (Nat.le_trans (by decide) hd)
  intro n
  induction n with
  | zero => intro a1 a3 a5 I J h; exact absurd h (by simp [fM_lots_b61])
  | succ n ih =>
    intro a1 a3 a5 I J h
    rw [fM_lots_b61] at h
    refine qp_run_E qp_ok225 2 (c' := (64, [some (.ref 36), some (.int a1), none, some (.long a3), none, some (.int a5), none], [.int a1, .int a5], qp_mk I J)) (by with_unfolding_all rfl) hd1 trivial ?_
    refine qp_br_E qp_ok225 (f := a1 ≤ a5) (ct := (94, [some (.ref 36), some (.int a1), none, some (.long a3), none, some (.int a5), none], [], qp_mk I J)) (cf := (67, [some (.ref 36), some (.int a1), none, some (.long a3), none, some (.int a5), none], [], qp_mk I J)) (by with_unfolding_all rfl) (fun h1 => ?_) (fun h1 => ?_)
    · replace h := qp_ift h1 h
      refine qp_run_E qp_ok225 1 (c' := (95, [some (.ref 36), some (.int a1), none, some (.long a3), none, some (.int a5), none], [.ref 36], qp_mk I J)) (by with_unfolding_all rfl) hd1 trivial ?_
      obtain ⟨v1, I1, J1, e1, h⟩ := qp_bd_s h
      refine qp_cV qp_ok225 (rest := []) (oj := 10) qp_f227 rfl rfl (gM_gotAll l G I J e1 (Nat.le_refl 4)) rfl rfl rfl rfl (Nat.le_trans (by decide) hd) ?_
      obtain rfl := Option.some.inj h
      exact qp_retI_E qp_ok225 rfl qp_r225.1 ⟨rfl, rfl⟩ ⟨rfl, rfl⟩
    · replace h := qp_iff h1 h
      refine qp_run_E qp_ok225 9 (f := ¬ (2147483647 : Int64) = 0 ∧ True) (c' := (80, [some (.ref 36), some (.int a1), none, some (.long ((a3 * 48271) - (a3 * 48271) / 2147483647 * 2147483647)), none, some (.int a5), none], [.long ((a3 * 48271) - (a3 * 48271) / 2147483647 * 2147483647), .ref 36, .ref 36], qp_mk I J)) (by with_unfolding_all rfl) hd1 ⟨(by decide), trivial⟩ ?_
      obtain ⟨v2, I2, J2, e2, h⟩ := qp_bd_s h
      refine qp_cV qp_ok225 (rest := [.ref 36]) (oj := 10) qp_f226 rfl rfl (gM_deedBy l G ((a3 * 48271) - (a3 * 48271) / 2147483647 * 2147483647) I J e2 (Nat.le_refl 1)) rfl rfl rfl rfl (Nat.le_trans (by decide) hd) ?_
      obtain ⟨v3, I3, J3, e3, h⟩ := qp_bd_s h
      refine qp_cV qp_ok225 (rest := []) (oj := 10) qp_f185 rfl rfl (gM_does l G v2 I2 J2 e3 (Nat.le_refl 6)) rfl rfl rfl rfl (Nat.le_trans (by decide) hd) ?_
      refine qp_run_E qp_ok225 3 (c' := (61, [some (.ref 36), some (.int a1), none, some (.long ((a3 * 48271) - (a3 * 48271) / 2147483647 * 2147483647)), none, some (.int (a5 + 1)), some (.int v3)], [], qp_mk I3 J3)) (by with_unfolding_all rfl) hd1 trivial ?_
      exact qp_E_fg [true, true, false, true, false, true, false] (ih a1 ((a3 * 48271) - (a3 * 48271) / 2147483647 * 2147483647) (a5 + 1) I3 J3 h)
def fM_lots (p1 : Int32) (p2 : Int32) (I : Nat → Nat → Int32) (J : Nat → Nat → Int64) : Option (Int32 × (Nat → Nat → Int32) × (Nat → Nat → Int64)) :=
  qp_bd (fM_in (Int32.toInt64 p1) 1 20 I J) fun v1 I1 J1 =>
  if v1 = 0 then (
    some ((-1), I1, J1)
  ) else (
    qp_bd (fM_in (Int32.toInt64 p2) 1 2147483646 I1 J1) fun v2 I2 J2 =>
    if ¬ v2 = 0 then (
      if ¬ (I2 37 0) = 0 then (
        if ((I2 37 14) + p1) ≤ 40 then (
          fM_lots_b61 100000 p1 (Int32.toInt64 p2) 0 I2 J2
        ) else (
          some ((-2), I2, J2)
        )
      ) else (
        some ((-4), I2, J2)
      )
    ) else (
      some ((-1), I2, J2)
    )
  )
set_option maxRecDepth 8000 in
theorem gM_lots (l : Launch) (G : qp_G) (p1 : Int32) (p2 : Int32) (I : Nat → Nat → Int32) (J : Nat → Nat → Int64) {v : Int32} {I' : Nat → Nat → Int32} {J' : Nat → Nat → Int64} (h : fM_lots p1 p2 I J = some (v, I', J')) {d : Nat} (hd : 7 ≤ d) : qp_Met l G d 225 [.ref 36, .int p1, .int p2] (qp_mk I J) 0 0 (qp_R8 (some (.int v)) I' J') := by
  have hd1 : Nat.ble 1 d = true := Nat.ble_eq_true_of_le (Nat.le_trans (by decide) hd)
  refine qp_Met_of (by decide) (by rw [qp_r225.2]; rfl) [some (.ref 36), some (.int p1), some (.int p2), none, none, none, none] (by rw [qp_r225.2]; rfl) ?_
  unfold fM_lots at h
  refine qp_run_E qp_ok225 4 (c' := (6, [some (.ref 36), some (.int p1), some (.int p2), none, none, none, none], [.long 20, .long 1, .long (Int32.toInt64 p1)], qp_mk I J)) (by with_unfolding_all rfl) hd1 trivial ?_
  obtain ⟨v1, I1, J1, e1, h⟩ := qp_bd_s h
  refine qp_cS qp_ok225 (rest := []) (oj := 10) qp_f150 rfl rfl (gM_in l G (Int32.toInt64 p1) 1 20 I J e1 (Nat.le_refl 1)) rfl rfl rfl (Nat.le_trans (by decide) hd) ?_
  refine qp_br_E qp_ok225 (f := v1 = 0) (ct := (24, [some (.ref 36), some (.int p1), some (.int p2), none, none, none, none], [], qp_mk I1 J1)) (cf := (12, [some (.ref 36), some (.int p1), some (.int p2), none, none, none, none], [], qp_mk I1 J1)) (by with_unfolding_all rfl) (fun h1 => ?_) (fun h1 => ?_)
  · replace h := qp_ift h1 h
    refine qp_run_E qp_ok225 1 (c' := (25, [some (.ref 36), some (.int p1), some (.int p2), none, none, none, none], [.int (-1)], qp_mk I1 J1)) (by with_unfolding_all rfl) hd1 trivial ?_
    obtain ⟨rfl, rfl, rfl⟩ := qp_some3 h
    exact qp_retI_E qp_ok225 rfl qp_r225.1 ⟨rfl, rfl⟩ ⟨rfl, rfl⟩
  · replace h := qp_iff h1 h
    refine qp_run_E qp_ok225 4 (c' := (18, [some (.ref 36), some (.int p1), some (.int p2), none, none, none, none], [.long 2147483646, .long 1, .long (Int32.toInt64 p2)], qp_mk I1 J1)) (by with_unfolding_all rfl) hd1 trivial ?_
    obtain ⟨v2, I2, J2, e2, h⟩ := qp_bd_s h
    refine qp_cS qp_ok225 (rest := []) (oj := 10) qp_f150 rfl rfl (gM_in l G (Int32.toInt64 p2) 1 2147483646 I1 J1 e2 (Nat.le_refl 1)) rfl rfl rfl (Nat.le_trans (by decide) hd) ?_
    refine qp_br_E qp_ok225 (f := ¬ v2 = 0) (ct := (26, [some (.ref 36), some (.int p1), some (.int p2), none, none, none, none], [], qp_mk I2 J2)) (cf := (24, [some (.ref 36), some (.int p1), some (.int p2), none, none, none, none], [], qp_mk I2 J2)) (by with_unfolding_all rfl) (fun h2 => ?_) (fun h2 => ?_)
    · replace h := qp_ift h2 h
      refine qp_run_E qp_ok225 4 (f := vp_in 0 75 ∧ True) (c' := (32, [some (.ref 36), some (.int p1), some (.int p2), none, none, none, none], [.int (I2 37 0)], qp_mk I2 J2)) (by with_unfolding_all rfl) hd1 ⟨(qp_vin (c := 75) (by decide) (by decide) (by decide)), trivial⟩ ?_
      refine qp_br_E qp_ok225 (f := ¬ (I2 37 0) = 0) (ct := (38, [some (.ref 36), some (.int p1), some (.int p2), none, none, none, none], [], qp_mk I2 J2)) (cf := (35, [some (.ref 36), some (.int p1), some (.int p2), none, none, none, none], [], qp_mk I2 J2)) (by with_unfolding_all rfl) (fun h3 => ?_) (fun h3 => ?_)
      · replace h := qp_ift h3 h
        refine qp_run_E qp_ok225 7 (f := vp_in 14 75 ∧ True) (c' := (49, [some (.ref 36), some (.int p1), some (.int p2), none, none, none, none], [.int 40, .int ((I2 37 14) + p1)], qp_mk I2 J2)) (by with_unfolding_all rfl) hd1 ⟨(qp_vin (c := 75) (by decide) (by decide) (by decide)), trivial⟩ ?_
        refine qp_br_E qp_ok225 (f := ((I2 37 14) + p1) ≤ 40) (ct := (55, [some (.ref 36), some (.int p1), some (.int p2), none, none, none, none], [], qp_mk I2 J2)) (cf := (52, [some (.ref 36), some (.int p1), some (.int p2), none, none, none, none], [], qp_mk I2 J2)) (by with_unfolding_all rfl) (fun h4 => ?_) (fun h4 => ?_)
        · replace h := qp_ift h4 h
          refine qp_run_E qp_ok225 5 (c' := (61, [some (.ref 36), some (.int p1), some (.int p2), some (.long (Int32.toInt64 p2)), none, some (.int 0), none], [], qp_mk I2 J2)) (by with_unfolding_all rfl) hd1 trivial ?_
          exact qp_E_fg [true, true, false, true, false, true, false] (gM_lots_b61 hd 100000 p1 (Int32.toInt64 p2) 0 I2 J2 h)
        · replace h := qp_iff h4 h
          refine qp_run_E qp_ok225 1 (c' := (54, [some (.ref 36), some (.int p1), some (.int p2), none, none, none, none], [.int (-2)], qp_mk I2 J2)) (by with_unfolding_all rfl) hd1 trivial ?_
          obtain ⟨rfl, rfl, rfl⟩ := qp_some3 h
          exact qp_retI_E qp_ok225 rfl qp_r225.1 ⟨rfl, rfl⟩ ⟨rfl, rfl⟩
      · replace h := qp_iff h3 h
        refine qp_run_E qp_ok225 1 (c' := (37, [some (.ref 36), some (.int p1), some (.int p2), none, none, none, none], [.int (-4)], qp_mk I2 J2)) (by with_unfolding_all rfl) hd1 trivial ?_
        obtain ⟨rfl, rfl, rfl⟩ := qp_some3 h
        exact qp_retI_E qp_ok225 rfl qp_r225.1 ⟨rfl, rfl⟩ ⟨rfl, rfl⟩
    · replace h := qp_iff h2 h
      refine qp_run_E qp_ok225 1 (c' := (25, [some (.ref 36), some (.int p1), some (.int p2), none, none, none, none], [.int (-1)], qp_mk I2 J2)) (by with_unfolding_all rfl) hd1 trivial ?_
      obtain ⟨rfl, rfl, rfl⟩ := qp_some3 h
      exact qp_retI_E qp_ok225 rfl qp_r225.1 ⟨rfl, rfl⟩ ⟨rfl, rfl⟩
def fM_asked  (I : Nat → Nat → Int32) (J : Nat → Nat → Int64) : Option (Int32 × (Nat → Nat → Int32) × (Nat → Nat → Int64)) :=
  some ((I 36 9), I, J)
set_option maxRecDepth 8000 in
theorem gM_asked (l : Launch) (G : qp_G)  (I : Nat → Nat → Int32) (J : Nat → Nat → Int64) {v : Int32} {I' : Nat → Nat → Int32} {J' : Nat → Nat → Int64} (h : fM_asked  I J = some (v, I', J')) {d : Nat} (hd : 1 ≤ d) : qp_Met l G d 228 [.ref 36] (qp_mk I J) 0 0 (qp_R8 (some (.int v)) I' J') := by
  have hd1 : Nat.ble 1 d = true := Nat.ble_eq_true_of_le (Nat.le_trans (by decide) hd)
  refine qp_Met_of (by decide) (by rw [qp_r228.2]; rfl) [some (.ref 36)] (by rw [qp_r228.2]; rfl) ?_
  unfold fM_asked at h
  refine qp_run_E qp_ok228 2 (c' := (4, [some (.ref 36)], [.int (I 36 9)], qp_mk I J)) (by with_unfolding_all rfl) hd1 trivial ?_
  obtain ⟨rfl, rfl, rfl⟩ := qp_some3 h
  exact qp_retI_E qp_ok228 rfl qp_r228.1 ⟨rfl, rfl⟩ ⟨rfl, rfl⟩
def fM_upper  (I : Nat → Nat → Int32) (J : Nat → Nat → Int64) : Option (Int64 × (Nat → Nat → Int32) × (Nat → Nat → Int64)) :=
  some ((J 36 10), I, J)
set_option maxRecDepth 8000 in
theorem gM_upper (l : Launch) (G : qp_G)  (I : Nat → Nat → Int32) (J : Nat → Nat → Int64) {v : Int64} {I' : Nat → Nat → Int32} {J' : Nat → Nat → Int64} (h : fM_upper  I J = some (v, I', J')) {d : Nat} (hd : 1 ≤ d) : qp_Met l G d 229 [.ref 36] (qp_mk I J) 0 0 (qp_R8 (some (.long v)) I' J') := by
  have hd1 : Nat.ble 1 d = true := Nat.ble_eq_true_of_le (Nat.le_trans (by decide) hd)
  refine qp_Met_of (by decide) (by rw [qp_r229.2]; rfl) [some (.ref 36)] (by rw [qp_r229.2]; rfl) ?_
  unfold fM_upper at h
  refine qp_run_E qp_ok229 2 (c' := (4, [some (.ref 36)], [.long (J 36 10)], qp_mk I J)) (by with_unfolding_all rfl) hd1 trivial ?_
  obtain ⟨rfl, rfl, rfl⟩ := qp_some3 h
  exact qp_retL_E qp_ok229 rfl qp_r229.1 ⟨rfl, rfl⟩ ⟨rfl, rfl⟩
def fM_lower  (I : Nat → Nat → Int32) (J : Nat → Nat → Int64) : Option (Int64 × (Nat → Nat → Int32) × (Nat → Nat → Int64)) :=
  some ((J 36 11), I, J)
set_option maxRecDepth 8000 in
theorem gM_lower (l : Launch) (G : qp_G)  (I : Nat → Nat → Int32) (J : Nat → Nat → Int64) {v : Int64} {I' : Nat → Nat → Int32} {J' : Nat → Nat → Int64} (h : fM_lower  I J = some (v, I', J')) {d : Nat} (hd : 1 ≤ d) : qp_Met l G d 230 [.ref 36] (qp_mk I J) 0 0 (qp_R8 (some (.long v)) I' J') := by
  have hd1 : Nat.ble 1 d = true := Nat.ble_eq_true_of_le (Nat.le_trans (by decide) hd)
  refine qp_Met_of (by decide) (by rw [qp_r230.2]; rfl) [some (.ref 36)] (by rw [qp_r230.2]; rfl) ?_
  unfold fM_lower at h
  refine qp_run_E qp_ok230 2 (c' := (4, [some (.ref 36)], [.long (J 36 11)], qp_mk I J)) (by with_unfolding_all rfl) hd1 trivial ?_
  obtain ⟨rfl, rfl, rfl⟩ := qp_some3 h
  exact qp_retL_E qp_ok230 rfl qp_r230.1 ⟨rfl, rfl⟩ ⟨rfl, rfl⟩

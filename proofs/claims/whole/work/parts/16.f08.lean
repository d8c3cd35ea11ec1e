/-! methods as functions, 8 -/
def fM_serve_36_47_b93  (k26 : Int32 → Int32 → Int32 → Int32 → Int32 → (Nat → Nat → Int32) → (Nat → Nat → Int64) → Option (Unit × (Nat → Nat → Int32) × (Nat → Nat → Int64))) (a2 : Int32) (a3 : Int32) (a4 : Int32) (a5 : Int32) (a6 : Int32) (a7 : Int32) (s0 : Int32) (s1 : Int32) (s2 : Int32) (I : Nat → Nat → Int32) (J : Nat → Nat → Int64) : Option (Unit × (Nat → Nat → Int32) × (Nat → Nat → Int64)) :=
  qp_bd (fM_wantsAs s1 s0 I J) fun v1 I1 J1 =>
  qp_gd ((0 ≤ s2 ∧ s2 < 6) ∧ (0 ≤ a7 ∧ a7 < 6) ∧ (0 ≤ ((8 : Int32) + a7) ∧ ((8 : Int32) + a7) < 75)) <|
  if a4 ≤ (I1 37 (Int32.toNatClampNeg ((8 : Int32) + a7))) then (
    qp_gd ((0 ≤ a7 ∧ a7 < 6)) <|
    if (I1 36 20) ≤ ((qp_up I1 51 (Int32.toNatClampNeg s2) v1) 51 (Int32.toNatClampNeg a7)) then (
      qp_gd ((0 ≤ a7 ∧ a7 < 6)) <|
      k26 a2 a3 (a4 + 1) a5 (a6 + 1) (qp_up (qp_up (qp_up (qp_up (qp_up I1 51 (Int32.toNatClampNeg s2) v1) 49 (Int32.toNatClampNeg a7) a4) 50 (Int32.toNatClampNeg a7) (I1 36 20)) 48 (Int32.toNatClampNeg a7) (I1 36 20)) 36 20 ((I1 36 20) - ((qp_up I1 48 (Int32.toNatClampNeg a7) (I1 36 20)) 48 (Int32.toNatClampNeg a7)))) J1
    ) else (
      qp_gd ((0 ≤ a7 ∧ a7 < 6)) <|
      k26 a2 a3 (a4 + 1) a5 (a6 + 1) (qp_up (qp_up (qp_up (qp_up (qp_up I1 51 (Int32.toNatClampNeg s2) v1) 49 (Int32.toNatClampNeg a7) a4) 50 (Int32.toNatClampNeg a7) (I1 36 20)) 48 (Int32.toNatClampNeg a7) ((qp_up I1 51 (Int32.toNatClampNeg s2) v1) 51 (Int32.toNatClampNeg a7))) 36 20 ((I1 36 20) - ((qp_up I1 48 (Int32.toNatClampNeg a7) ((qp_up I1 51 (Int32.toNatClampNeg s2) v1) 51 (Int32.toNatClampNeg a7))) 48 (Int32.toNatClampNeg a7)))) J1
    )
  ) else (
    qp_gd ((0 ≤ a7 ∧ a7 < 6)) <|
    k26 a2 a3 (a4 + 1) a5 (a6 + 1) (qp_up (qp_up (qp_up (qp_up (qp_up I1 51 (Int32.toNatClampNeg s2) v1) 49 (Int32.toNatClampNeg a7) a4) 50 (Int32.toNatClampNeg a7) (I1 36 20)) 48 (Int32.toNatClampNeg a7) 0) 36 20 ((I1 36 20) - ((qp_up I1 48 (Int32.toNatClampNeg a7) 0) 48 (Int32.toNatClampNeg a7)))) J1
  )
set_option maxRecDepth 8000 in
theorem gM_serve_36_47_b93 {l : Launch} {G : qp_G} {d : Nat} (hd : 2 ≤ d) {r : (Unit × (Nat → Nat → Int32) × (Nat → Nat → Int64))} {I0 : Nat → Nat → Int32} {J0 : Nat → Nat → Int64}  (k26 : Int32 → Int32 → Int32 → Int32 → Int32 → (Nat → Nat → Int32) → (Nat → Nat → Int64) → Option (Unit × (Nat → Nat → Int32) × (Nat → Nat → Int64))) (hk26 : ∀ a2 a3 a4 a5 a6 I J, k26 a2 a3 a4 a5 a6 I J = some r → qp_E l G d 175 (qp_mk I0 J0) 0 0 (qp_R8 none r.2.1 r.2.2) (26, [some (.ref 36), some (.ref 47), some (.int a2), some (.int a3), some (.int a4), some (.int a5), some (.int a6), none], [], qp_mk I J)) : ∀ (a2 : Int32) (a3 : Int32) (a4 : Int32) (a5 : Int32) (a6 : Int32) (a7 : Int32) (s0 : Int32) (s1 : Int32) (s2 : Int32) (I : Nat → Nat → Int32) (J : Nat → Nat → Int64), fM_serve_36_47_b93 k26 a2 a3 a4 a5 a6 a7 s0 s1 s2 I J = some r → qp_E l G d 175 (qp_mk I0 J0) 0 0 (qp_R8 none r.2.1 r.2.2) (93, [some (.ref 36), some (.ref 47), some (.int a2), some (.int a3), some (.int a4), some (.int a5), some (.int a6), some (.int a7)], [.int s0, .int s1, .int s2, .ref 51], qp_mk I J) := by
  have hd1 : Nat.ble 1 d = true := Nat.ble_eq_true_of_le (Nat.le_trans (by decide) hd)
  intro a2 a3 a4 a5 a6 a7 s0 s1 s2 I J h
  unfold fM_serve_36_47_b93 at h
  obtain ⟨v1, I1, J1, e1, h⟩ := qp_bd_s h
  refine qp_cS qp_ok175 (rest := [.int s2, .ref 51]) (oj := 10) qp_f177 rfl rfl (gM_wantsAs l G s1 s0 I J e1 (Nat.le_refl 1)) rfl rfl rfl (Nat.le_trans (by decide) hd) ?_
  obtain ⟨h1, h⟩ := qp_gd_s h
  refine qp_run_E qp_ok175 22 (f := vp_in s2 6 ∧ vp_in a7 6 ∧ vp_in a7 6 ∧ vp_in ((8 : Int32) + a7) 75 ∧ True) (c' := (135, [some (.ref 36), some (.ref 47), some (.int a2), some (.int a3), some (.int a4), some (.int a5), some (.int a6), some (.int a7)], [.int (I1 37 (Int32.toNatClampNeg ((8 : Int32) + a7))), .int a4, .int a7, .ref 48], qp_mk (qp_up (qp_up (qp_up I1 51 (Int32.toNatClampNeg s2) v1) 49 (Int32.toNatClampNeg a7) a4) 50 (Int32.toNatClampNeg a7) (I1 36 20)) J1)) (by with_unfolding_all rfl) hd1 ⟨(qp_vin (c := 6) (by decide) h1.1.1 h1.1.2), (qp_vin (c := 6) (by decide) h1.2.1.1 h1.2.1.2), (qp_vin (c := 6) (by decide) h1.2.1.1 h1.2.1.2), (qp_vin (c := 75) (by decide) h1.2.2.1 h1.2.2.2), trivial⟩ ?_
  refine qp_br_E qp_ok175 (f := a4 ≤ (I1 37 (Int32.toNatClampNeg ((8 : Int32) + a7)))) (ct := (142, [some (.ref 36), some (.ref 47), some (.int a2), some (.int a3), some (.int a4), some (.int a5), some (.int a6), some (.int a7)], [.int a7, .ref 48], qp_mk (qp_up (qp_up (qp_up I1 51 (Int32.toNatClampNeg s2) v1) 49 (Int32.toNatClampNeg a7) a4) 50 (Int32.toNatClampNeg a7) (I1 36 20)) J1)) (cf := (138, [some (.ref 36), some (.ref 47), some (.int a2), some (.int a3), some (.int a4), some (.int a5), some (.int a6), some (.int a7)], [.int a7, .ref 48], qp_mk (qp_up (qp_up (qp_up I1 51 (Int32.toNatClampNeg s2) v1) 49 (Int32.toNatClampNeg a7) a4) 50 (Int32.toNatClampNeg a7) (I1 36 20)) J1)) (by with_unfolding_all rfl) (fun h2 => ?_) (fun h2 => ?_)
  · replace h := qp_ift h2 h
    obtain ⟨h3, h⟩ := qp_gd_s h
    refine qp_run_E qp_ok175 6 (f := vp_in a7 6 ∧ True) (c' := (153, [some (.ref 36), some (.ref 47), some (.int a2), some (.int a3), some (.int a4), some (.int a5), some (.int a6), some (.int a7)], [.int (I1 36 20), .int ((qp_up I1 51 (Int32.toNatClampNeg s2) v1) 51 (Int32.toNatClampNeg a7)), .int a7, .ref 48], qp_mk (qp_up (qp_up (qp_up I1 51 (Int32.toNatClampNeg s2) v1) 49 (Int32.toNatClampNeg a7) a4) 50 (Int32.toNatClampNeg a7) (I1 36 20)) J1)) (by with_unfolding_all rfl) hd1 ⟨(qp_vin (c := 6) (by decide) h3.1 h3.2), trivial⟩ ?_
    refine qp_br_E qp_ok175 (f := (I1 36 20) ≤ ((qp_up I1 51 (Int32.toNatClampNeg s2) v1) 51 (Int32.toNatClampNeg a7))) (ct := (166, [some (.ref 36), some (.ref 47), some (.int a2), some (.int a3), some (.int a4), some (.int a5), some (.int a6), some (.int a7)], [.int a7, .ref 48], qp_mk (qp_up (qp_up (qp_up I1 51 (Int32.toNatClampNeg s2) v1) 49 (Int32.toNatClampNeg a7) a4) 50 (Int32.toNatClampNeg a7) (I1 36 20)) J1)) (cf := (156, [some (.ref 36), some (.ref 47), some (.int a2), some (.int a3), some (.int a4), some (.int a5), some (.int a6), some (.int a7)], [.int a7, .ref 48], qp_mk (qp_up (qp_up (qp_up I1 51 (Int32.toNatClampNeg s2) v1) 49 (Int32.toNatClampNeg a7) a4) 50 (Int32.toNatClampNeg a7) (I1 36 20)) J1)) (by with_unfolding_all rfl) (fun h4 => ?_) (fun h4 => ?_)
    · replace h := qp_ift h4 h
      obtain ⟨h5, h⟩ := qp_gd_s h
      refine qp_run_E qp_ok175 15 (f := vp_in a7 6 ∧ vp_in a7 6 ∧ True) (c' := (26, [some (.ref 36), some (.ref 47), some (.int a2), some (.int a3), some (.int (a4 + 1)), some (.int a5), some (.int (a6 + 1)), some (.int a7)], [], qp_mk (qp_up (qp_up (qp_up (qp_up (qp_up I1 51 (Int32.toNatClampNeg s2) v1) 49 (Int32.toNatClampNeg a7) a4) 50 (Int32.toNatClampNeg a7) (I1 36 20)) 48 (Int32.toNatClampNeg a7) (I1 36 20)) 36 20 ((I1 36 20) - ((qp_up I1 48 (Int32.toNatClampNeg a7) (I1 36 20)) 48 (Int32.toNatClampNeg a7)))) J1)) (by with_unfolding_all rfl) hd1 ⟨(qp_vin (c := 6) (by decide) h5.1 h5.2), (qp_vin (c := 6) (by decide) h5.1 h5.2), trivial⟩ ?_
      exact qp_E_fg [true, true, true, true, true, true, true, false] (hk26 a2 a3 (a4 + 1) a5 (a6 + 1) (qp_up (qp_up (qp_up (qp_up (qp_up I1 51 (Int32.toNatClampNeg s2) v1) 49 (Int32.toNatClampNeg a7) a4) 50 (Int32.toNatClampNeg a7) (I1 36 20)) 48 (Int32.toNatClampNeg a7) (I1 36 20)) 36 20 ((I1 36 20) - ((qp_up I1 48 (Int32.toNatClampNeg a7) (I1 36 20)) 48 (Int32.toNatClampNeg a7)))) J1 h)
    · replace h := qp_iff h4 h
      obtain ⟨h6, h⟩ := qp_gd_s h
      refine qp_run_E qp_ok175 18 (f := vp_in a7 6 ∧ vp_in a7 6 ∧ vp_in a7 6 ∧ True) (c' := (26, [some (.ref 36), some (.ref 47), some (.int a2), some (.int a3), some (.int (a4 + 1)), some (.int a5), some (.int (a6 + 1)), some (.int a7)], [], qp_mk (qp_up (qp_up (qp_up (qp_up (qp_up I1 51 (Int32.toNatClampNeg s2) v1) 49 (Int32.toNatClampNeg a7) a4) 50 (Int32.toNatClampNeg a7) (I1 36 20)) 48 (Int32.toNatClampNeg a7) ((qp_up I1 51 (Int32.toNatClampNeg s2) v1) 51 (Int32.toNatClampNeg a7))) 36 20 ((I1 36 20) - ((qp_up I1 48 (Int32.toNatClampNeg a7) ((qp_up I1 51 (Int32.toNatClampNeg s2) v1) 51 (Int32.toNatClampNeg a7))) 48 (Int32.toNatClampNeg a7)))) J1)) (by with_unfolding_all rfl) hd1 ⟨(qp_vin (c := 6) (by decide) h6.1 h6.2), (qp_vin (c := 6) (by decide) h6.1 h6.2), (qp_vin (c := 6) (by decide) h6.1 h6.2), trivial⟩ ?_
      exact qp_E_fg [true, true, true, true, true, true, true, false] (hk26 a2 a3 (a4 + 1) a5 (a6 + 1) (qp_up (qp_up (qp_up (qp_up (qp_up I1 51 (Int32.toNatClampNeg s2) v1) 49 (Int32.toNatClampNeg a7) a4) 50 (Int32.toNatClampNeg a7) (I1 36 20)) 48 (Int32.toNatClampNeg a7) ((qp_up I1 51 (Int32.toNatClampNeg s2) v1) 51 (Int32.toNatClampNeg a7))) 36 20 ((I1 36 20) - ((qp_up I1 48 (Int32.toNatClampNeg a7) ((qp_up I1 51 (Int32.toNatClampNeg s2) v1) 51 (Int32.toNatClampNeg a7))) 48 (Int32.toNatClampNeg a7)))) J1 h)
  · replace h := qp_iff h2 h
    obtain ⟨h7, h⟩ := qp_gd_s h
    refine qp_run_E qp_ok175 15 (f := vp_in a7 6 ∧ vp_in a7 6 ∧ True) (c' := (26, [some (.ref 36), some (.ref 47), some (.int a2), some (.int a3), some (.int (a4 + 1)), some (.int a5), some (.int (a6 + 1)), some (.int a7)], [], qp_mk (qp_up (qp_up (qp_up (qp_up (qp_up I1 51 (Int32.toNatClampNeg s2) v1) 49 (Int32.toNatClampNeg a7) a4) 50 (Int32.toNatClampNeg a7) (I1 36 20)) 48 (Int32.toNatClampNeg a7) 0) 36 20 ((I1 36 20) - ((qp_up I1 48 (Int32.toNatClampNeg a7) 0) 48 (Int32.toNatClampNeg a7)))) J1)) (by with_unfolding_all rfl) hd1 ⟨(qp_vin (c := 6) (by decide) h7.1 h7.2), (qp_vin (c := 6) (by decide) h7.1 h7.2), trivial⟩ ?_
    exact qp_E_fg [true, true, true, true, true, true, true, false] (hk26 a2 a3 (a4 + 1) a5 (a6 + 1) (qp_up (qp_up (qp_up (qp_up (qp_up I1 51 (Int32.toNatClampNeg s2) v1) 49 (Int32.toNatClampNeg a7) a4) 50 (Int32.toNatClampNeg a7) (I1 36 20)) 48 (Int32.toNatClampNeg a7) 0) 36 20 ((I1 36 20) - ((qp_up I1 48 (Int32.toNatClampNeg a7) 0) 48 (Int32.toNatClampNeg a7)))) J1 h)
def fM_serve_36_47_b62  (k26 : Int32 → Int32 → Int32 → Int32 → Int32 → (Nat → Nat → Int32) → (Nat → Nat → Int64) → Option (Unit × (Nat → Nat → Int32) × (Nat → Nat → Int64))) (a2 : Int32) (a3 : Int32) (a4 : Int32) (a5 : Int32) (a6 : Int32) (a7 : Int32) (s0 : Int32) (s1 : Int32) (I : Nat → Nat → Int32) (J : Nat → Nat → Int64) : Option (Unit × (Nat → Nat → Int32) × (Nat → Nat → Int64)) :=
  if ¬ s1 = s0 then (
    k26 a2 a3 a4 a5 (a6 + 1) I J
  ) else (
    qp_gd ((0 ≤ ((2 : Int32) + a7) ∧ ((2 : Int32) + a7) < 75)) <|
    if ¬ a6 = (a3 - 1) then (
      fM_serve_36_47_b93 k26 a2 a3 a4 a5 a6 a7 0 (I 37 (Int32.toNatClampNeg ((2 : Int32) + a7))) a7 I J
    ) else (
      fM_serve_36_47_b93 k26 a2 a3 a4 a5 a6 a7 1 (I 37 (Int32.toNatClampNeg ((2 : Int32) + a7))) a7 I J
    )
  )
set_option maxRecDepth 8000 in
theorem gM_serve_36_47_b62 {l : Launch} {G : qp_G} {d : Nat} (hd : 2 ≤ d) {r : (Unit × (Nat → Nat → Int32) × (Nat → Nat → Int64))} {I0 : Nat → Nat → Int32} {J0 : Nat → Nat → Int64}  (k26 : Int32 → Int32 → Int32 → Int32 → Int32 → (Nat → Nat → Int32) → (Nat → Nat → Int64) → Option (Unit × (Nat → Nat → Int32) × (Nat → Nat → Int64))) (hk26 : ∀ a2 a3 a4 a5 a6 I J, k26 a2 a3 a4 a5 a6 I J = some r → qp_E l G d 175 (qp_mk I0 J0) 0 0 (qp_R8 none r.2.1 r.2.2) (26, [some (.ref 36), some (.ref 47), some (.int a2), some (.int a3), some (.int a4), some (.int a5), some (.int a6), none], [], qp_mk I J)) : ∀ (a2 : Int32) (a3 : Int32) (a4 : Int32) (a5 : Int32) (a6 : Int32) (a7 : Int32) (s0 : Int32) (s1 : Int32) (I : Nat → Nat → Int32) (J : Nat → Nat → Int64), fM_serve_36_47_b62 k26 a2 a3 a4 a5 a6 a7 s0 s1 I J = some r → qp_E l G d 175 (qp_mk I0 J0) 0 0 (qp_R8 none r.2.1 r.2.2) (62, [some (.ref 36), some (.ref 47), some (.int a2), some (.int a3), some (.int a4), some (.int a5), some (.int a6), some (.int a7)], [.int s0, .int s1], qp_mk I J) := by
  have hd1 : Nat.ble 1 d = true := Nat.ble_eq_true_of_le (Nat.le_trans (by decide) hd)
  intro a2 a3 a4 a5 a6 a7 s0 s1 I J h
  unfold fM_serve_36_47_b62 at h
  refine qp_br_E qp_ok175 (f := ¬ s1 = s0) (ct := (190, [some (.ref 36), some (.ref 47), some (.int a2), some (.int a3), some (.int a4), some (.int a5), some (.int a6), some (.int a7)], [], qp_mk I J)) (cf := (65, [some (.ref 36), some (.ref 47), some (.int a2), some (.int a3), some (.int a4), some (.int a5), some (.int a6), some (.int a7)], [], qp_mk I J)) (by with_unfolding_all rfl) (fun h1 => ?_) (fun h1 => ?_)
  · replace h := qp_ift h1 h
    refine qp_run_E qp_ok175 2 (c' := (26, [some (.ref 36), some (.ref 47), some (.int a2), some (.int a3), some (.int a4), some (.int a5), some (.int (a6 + 1)), some (.int a7)], [], qp_mk I J)) (by with_unfolding_all rfl) hd1 trivial ?_
    exact qp_E_fg [true, true, true, true, true, true, true, false] (hk26 a2 a3 a4 a5 (a6 + 1) I J h)
  · replace h := qp_iff h1 h
    obtain ⟨h2, h⟩ := qp_gd_s h
    refine qp_run_E qp_ok175 13 (f := vp_in ((2 : Int32) + a7) 75 ∧ True) (c' := (85, [some (.ref 36), some (.ref 47), some (.int a2), some (.int a3), some (.int a4), some (.int a5), some (.int a6), some (.int a7)], [.int (a3 - 1), .int a6, .int (I 37 (Int32.toNatClampNeg ((2 : Int32) + a7))), .int a7, .ref 51], qp_mk I J)) (by with_unfolding_all rfl) hd1 ⟨(qp_vin (c := 75) (by decide) h2.1 h2.2), trivial⟩ ?_
    refine qp_br_E qp_ok175 (f := ¬ a6 = (a3 - 1)) (ct := (92, [some (.ref 36), some (.ref 47), some (.int a2), some (.int a3), some (.int a4), some (.int a5), some (.int a6), some (.int a7)], [.int (I 37 (Int32.toNatClampNeg ((2 : Int32) + a7))), .int a7, .ref 51], qp_mk I J)) (cf := (88, [some (.ref 36), some (.ref 47), some (.int a2), some (.int a3), some (.int a4), some (.int a5), some (.int a6), some (.int a7)], [.int (I 37 (Int32.toNatClampNeg ((2 : Int32) + a7))), .int a7, .ref 51], qp_mk I J)) (by with_unfolding_all rfl) (fun h3 => ?_) (fun h3 => ?_)
    · replace h := qp_ift h3 h
      refine qp_run_E qp_ok175 1 (c' := (93, [some (.ref 36), some (.ref 47), some (.int a2), some (.int a3), some (.int a4), some (.int a5), some (.int a6), some (.int a7)], [.int 0, .int (I 37 (Int32.toNatClampNeg ((2 : Int32) + a7))), .int a7, .ref 51], qp_mk I J)) (by with_unfolding_all rfl) hd1 trivial ?_
      exact gM_serve_36_47_b93 hd k26 hk26 a2 a3 a4 a5 a6 a7 0 (I 37 (Int32.toNatClampNeg ((2 : Int32) + a7))) a7 I J h
    · replace h := qp_iff h3 h
      refine qp_run_E qp_ok175 2 (c' := (93, [some (.ref 36), some (.ref 47), some (.int a2), some (.int a3), some (.int a4), some (.int a5), some (.int a6), some (.int a7)], [.int 1, .int (I 37 (Int32.toNatClampNeg ((2 : Int32) + a7))), .int a7, .ref 51], qp_mk I J)) (by with_unfolding_all rfl) hd1 trivial ?_
      exact gM_serve_36_47_b93 hd k26 hk26 a2 a3 a4 a5 a6 a7 1 (I 37 (Int32.toNatClampNeg ((2 : Int32) + a7))) a7 I J h
def fM_serve_36_47_b26  (k17 : Int32 → Int32 → Int32 → Int32 → (Nat → Nat → Int32) → (Nat → Nat → Int64) → Option (Unit × (Nat → Nat → Int32) × (Nat → Nat → Int64))) : Nat → Int32 → Int32 → Int32 → Int32 → Int32 → (Nat → Nat → Int32) → (Nat → Nat → Int64) → Option (Unit × (Nat → Nat → Int32) × (Nat → Nat → Int64))
  | 0, _, _, _, _, _, _, _ => none
  | n + 1, a2, a3, a4, a5, a6, I, J =>
    if a3 ≤ a6 then (
      k17 a2 a3 a4 (a5 + 1) I J
    ) else (
      qp_gd ((0 ≤ (a2 + a6) ∧ (a2 + a6) < 75) ∧ (0 ≤ ((2 : Int32) + (I 47 (Int32.toNatClampNeg (a2 + a6)))) ∧ ((2 : Int32) + (I 47 (Int32.toNatClampNeg (a2 + a6)))) < 75)) <|
      qp_bd (fM_isSoldier (I 37 (Int32.toNatClampNeg ((2 : Int32) + (I 47 (Int32.toNatClampNeg (a2 + a6)))))) I J) fun v1 I1 J1 =>
      if ¬ a5 = 0 then (
        fM_serve_36_47_b62 (fun a0 a1 a2 a3 a4 I J => fM_serve_36_47_b26 k17 n a0 a1 a2 a3 a4 I J) a2 a3 a4 a5 a6 (I 47 (Int32.toNatClampNeg (a2 + a6))) 0 v1 I1 J1
      ) else (
        fM_serve_36_47_b62 (fun a0 a1 a2 a3 a4 I J => fM_serve_36_47_b26 k17 n a0 a1 a2 a3 a4 I J) a2 a3 a4 a5 a6 (I 47 (Int32.toNatClampNeg (a2 + a6))) 1 v1 I1 J1
      )
    )
set_option maxRecDepth 8000 in
theorem gM_serve_36_47_b26 {l : Launch} {G : qp_G} {d : Nat} (hd : 2 ≤ d) {r : (Unit × (Nat → Nat → Int32) × (Nat → Nat → Int64))} {I0 : Nat → Nat → Int32} {J0 : Nat → Nat → Int64}  (k17 : Int32 → Int32 → Int32 → Int32 → (Nat → Nat → Int32) → (Nat → Nat → Int64) → Option (Unit × (Nat → Nat → Int32) × (Nat → Nat → Int64))) (hk17 : ∀ a2 a3 a4 a5 I J, k17 a2 a3 a4 a5 I J = some r → qp_E l G d 175 (qp_mk I0 J0) 0 0 (qp_R8 none r.2.1 r.2.2) (17, [some (.ref 36), some (.ref 47), some (.int a2), some (.int a3), some (.int a4), some (.int a5), none, none], [], qp_mk I J)) : ∀ (n : Nat) (a2 : Int32) (a3 : Int32) (a4 : Int32) (a5 : Int32) (a6 : Int32) (I : Nat → Nat → Int32) (J : Nat → Nat → Int64), fM_serve_36_47_b26 k17 n a2 a3 a4 a5 a6 I J = some r → qp_E l G d 175 (qp_mk I0 J0) 0 0 (qp_R8 none r.2.1 r.2.2) (26, [some (.ref 36), some (.ref 47), some (.int a2), some (.int a3), some (.int a4), some (.int a5), some (.int a6), none], [], qp_mk I J) := by
  have hd1 : Nat.ble 1 d = true := Nat.ble_eq_true_of_le (Nat.le_trans (by decide) hd)
  intro n
  induction n with
  | zero => intro a2 a3 a4 a5 a6 I J h; exact absurd h (by simp [fM_serve_36_47_b26])
  | succ n ih =>
    intro a2 a3 a4 a5 a6 I J h
    rw [fM_serve_36_47_b26] at h
    refine qp_run_E qp_ok175 2 (c' := (29, [some (.ref 36), some (.ref 47), some (.int a2), some (.int a3), some (.int a4), some (.int a5), some (.int a6), none], [.int a3, .int a6], qp_mk I J)) (by with_unfolding_all rfl) hd1 trivial ?_
    refine qp_br_E qp_ok175 (f := a3 ≤ a6) (ct := (196, [some (.ref 36), some (.ref 47), some (.int a2), some (.int a3), some (.int a4), some (.int a5), some (.int a6), none], [], qp_mk I J)) (cf := (32, [some (.ref 36), some (.ref 47), some (.int a2), some (.int a3), some (.int a4), some (.int a5), some (.int a6), none], [], qp_mk I J)) (by with_unfolding_all rfl) (fun h1 => ?_) (fun h1 => ?_)
    · replace h := qp_ift h1 h
      refine qp_run_E qp_ok175 2 (c' := (17, [some (.ref 36), some (.ref 47), some (.int a2), some (.int a3), some (.int a4), some (.int (a5 + 1)), some (.int a6), none], [], qp_mk I J)) (by with_unfolding_all rfl) hd1 trivial ?_
      exact qp_E_fg [true, true, true, true, true, true, false, false] (hk17 a2 a3 a4 (a5 + 1) I J h)
    · replace h := qp_iff h1 h
      obtain ⟨h2, h⟩ := qp_gd_s h
      refine qp_run_E qp_ok175 12 (f := vp_in (a2 + a6) 75 ∧ vp_in ((2 : Int32) + (I 47 (Int32.toNatClampNeg (a2 + a6)))) 75 ∧ True) (c' := (49, [some (.ref 36), some (.ref 47), some (.int a2), some (.int a3), some (.int a4), some (.int a5), some (.int a6), some (.int (I 47 (Int32.toNatClampNeg (a2 + a6))))], [.int (I 37 (Int32.toNatClampNeg ((2 : Int32) + (I 47 (Int32.toNatClampNeg (a2 + a6))))))], qp_mk I J)) (by with_unfolding_all rfl) hd1 ⟨(qp_vin (c := 75) (by decide) h2.1.1 h2.1.2), (qp_vin (c := 75) (by decide) h2.2.1 h2.2.2), trivial⟩ ?_
      obtain ⟨v1, I1, J1, e1, h⟩ := qp_bd_s h
      refine qp_cS qp_ok175 (rest := []) (oj := 10) qp_f176 rfl rfl (gM_isSoldier l G (I 37 (Int32.toNatClampNeg ((2 : Int32) + (I 47 (Int32.toNatClampNeg (a2 + a6)))))) I J e1 (Nat.le_refl 1)) rfl rfl rfl (Nat.le_trans (by decide) hd) ?_
      refine qp_run_E qp_ok175 1 (c' := (54, [some (.ref 36), some (.ref 47), some (.int a2), some (.int a3), some (.int a4), some (.int a5), some (.int a6), some (.int (I 47 (Int32.toNatClampNeg (a2 + a6))))], [.int a5, .int v1], qp_mk I1 J1)) (by with_unfolding_all rfl) hd1 trivial ?_
      refine qp_br_E qp_ok175 (f := ¬ a5 = 0) (ct := (61, [some (.ref 36), some (.ref 47), some (.int a2), some (.int a3), some (.int a4), some (.int a5), some (.int a6), some (.int (I 47 (Int32.toNatClampNeg (a2 + a6))))], [.int v1], qp_mk I1 J1)) (cf := (57, [some (.ref 36), some (.ref 47), some (.int a2), some (.int a3), some (.int a4), some (.int a5), some (.int a6), some (.int (I 47 (Int32.toNatClampNeg (a2 + a6))))], [.int v1], qp_mk I1 J1)) (by with_unfolding_all rfl) (fun h3 => ?_) (fun h3 => ?_)
      · replace h := qp_ift h3 h
        refine qp_run_E qp_ok175 1 (c' := (62, [some (.ref 36), some (.ref 47), some (.int a2), some (.int a3), some (.int a4), some (.int a5), some (.int a6), some (.int (I 47 (Int32.toNatClampNeg (a2 + a6))))], [.int 0, .int v1], qp_mk I1 J1)) (by with_unfolding_all rfl) hd1 trivial ?_
        exact gM_serve_36_47_b62 hd (fun a0 a1 a2 a3 a4 I J => fM_serve_36_47_b26 k17 n a0 a1 a2 a3 a4 I J) (fun a0 a1 a2 a3 a4 I J h => ih a0 a1 a2 a3 a4 I J h) a2 a3 a4 a5 a6 (I 47 (Int32.toNatClampNeg (a2 + a6))) 0 v1 I1 J1 h
      · replace h := qp_iff h3 h
        refine qp_run_E qp_ok175 2 (c' := (62, [some (.ref 36), some (.ref 47), some (.int a2), some (.int a3), some (.int a4), some (.int a5), some (.int a6), some (.int (I 47 (Int32.toNatClampNeg (a2 + a6))))], [.int 1, .int v1], qp_mk I1 J1)) (by with_unfolding_all rfl) hd1 trivial ?_
        exact gM_serve_36_47_b62 hd (fun a0 a1 a2 a3 a4 I J => fM_serve_36_47_b26 k17 n a0 a1 a2 a3 a4 I J) (fun a0 a1 a2 a3 a4 I J h => ih a0 a1 a2 a3 a4 I J h) a2 a3 a4 a5 a6 (I 47 (Int32.toNatClampNeg (a2 + a6))) 1 v1 I1 J1 h
def fM_serve_36_47_b17  : Nat → Int32 → Int32 → Int32 → Int32 → (Nat → Nat → Int32) → (Nat → Nat → Int64) → Option (Unit × (Nat → Nat → Int32) × (Nat → Nat → Int64))
  | 0, _, _, _, _, _, _ => none
  | n + 1, a2, a3, a4, a5, I, J =>
    if 2 ≤ a5 then (
      some ((), I, J)
    ) else (
      fM_serve_36_47_b26 (fun a0 a1 a2 a3 I J => fM_serve_36_47_b17 n a0 a1 a2 a3 I J) 100000 a2 a3 a4 a5 0 I J
    )
set_option maxRecDepth 8000 in
theorem gM_serve_36_47_b17 {l : Launch} {G : qp_G} {d : Nat} (hd : 2 ≤ d) {r : (Unit × (Nat → Nat → Int32) × (Nat → Nat → Int64))} {I0 : Nat → Nat → Int32} {J0 : Nat → Nat → Int64}   : ∀ (n : Nat) (a2 : Int32) (a3 : Int32) (a4 : Int32) (a5 : Int32) (I : Nat → Nat → Int32) (J : Nat → Nat → Int64), fM_serve_36_47_b17  n a2 a3 a4 a5 I J = some r → qp_E l G d 175 (qp_mk I0 J0) 0 0 (qp_R8 none r.2.1 r.2.2) (17, [some (.ref 36), some (.ref 47), some (.int a2), some (.int a3), some (.int a4), some (.int a5), none, none], [], qp_mk I J) := by
  have hd1 : Nat.ble 1 d = true := Nat.ble_eq_true_of_le (Nat.le_trans (by decide) hd)
  intro n
  induction n with
  | zero => intro a2 a3 a4 a5 I J h; exact absurd h (by simp [fM_serve_36_47_b17])
  | succ n ih =>
    intro a2 a3 a4 a5 I J h
    rw [fM_serve_36_47_b17] at h
    refine qp_run_E qp_ok175 2 (c' := (20, [some (.ref 36), some (.ref 47), some (.int a2), some (.int a3), some (.int a4), some (.int a5), none, none], [.int 2, .int a5], qp_mk I J)) (by with_unfolding_all rfl) hd1 trivial ?_
    refine qp_br_E qp_ok175 (f := 2 ≤ a5) (ct := (202, [some (.ref 36), some (.ref 47), some (.int a2), some (.int a3), some (.int a4), some (.int a5), none, none], [], qp_mk I J)) (cf := (23, [some (.ref 36), some (.ref 47), some (.int a2), some (.int a3), some (.int a4), some (.int a5), none, none], [], qp_mk I J)) (by with_unfolding_all rfl) (fun h1 => ?_) (fun h1 => ?_)
    · replace h := qp_ift h1 h
      obtain rfl := Option.some.inj h
      exact qp_retV_E qp_ok175 rfl qp_r175.1 ⟨rfl, rfl⟩ ⟨rfl, rfl⟩
    · replace h := qp_iff h1 h
      refine qp_run_E qp_ok175 2 (c' := (26, [some (.ref 36), some (.ref 47), some (.int a2), some (.int a3), some (.int a4), some (.int a5), some (.int 0), none], [], qp_mk I J)) (by with_unfolding_all rfl) hd1 trivial ?_
      exact gM_serve_36_47_b26 hd (fun a0 a1 a2 a3 I J => fM_serve_36_47_b17 n a0 a1 a2 a3 I J) (fun a0 a1 a2 a3 I J h => ih a0 a1 a2 a3 I J h) 100000 a2 a3 a4 a5 0 I J h
def fM_serve_36_47 (p2 : Int32) (p3 : Int32) (I : Nat → Nat → Int32) (J : Nat → Nat → Int64) : Option (Unit × (Nat → Nat → Int32) × (Nat → Nat → Int64)) :=
  fM_serve_36_47_b17 100000 p2 p3 0 0 (qp_up I 36 20 (I 37 55)) J
set_option maxRecDepth 8000 in
theorem gM_serve_36_47 (l : Launch) (G : qp_G) (p2 : Int32) (p3 : Int32) (I : Nat → Nat → Int32) (J : Nat → Nat → Int64) {v : Unit} {I' : Nat → Nat → Int32} {J' : Nat → Nat → Int64} (h : fM_serve_36_47 p2 p3 I J = some (v, I', J')) {d : Nat} (hd : 2 ≤ d) : qp_Met l G d 175 [.ref 36, .ref 47, .int p2, .int p3] (qp_mk I J) 0 0 (qp_R8 none I' J') := by
  have hd1 : Nat.ble 1 d = true := Nat.ble_eq_true_of_le (Nat.le_trans (by decide) hd)
  refine qp_Met_of (by decide) (by rw [qp_r175.2]; rfl) [some (.ref 36), some (.ref 47), some (.int p2), some (.int p3), none, none, none, none] (by rw [qp_r175.2]; rfl) ?_
  unfold fM_serve_36_47 at h
  refine qp_run_E qp_ok175 10 (f := vp_in 55 75 ∧ True) (c' := (17, [some (.ref 36), some (.ref 47), some (.int p2), some (.int p3), some (.int 0), some (.int 0), none, none], [], qp_mk (qp_up I 36 20 (I 37 55)) J)) (by with_unfolding_all rfl) hd1 ⟨(qp_vin (c := 75) (by decide) (by decide) (by decide)), trivial⟩ ?_
  exact gM_serve_36_47_b17 hd 100000 p2 p3 0 0 (qp_up I 36 20 (I 37 55)) J h
def fM_getsAt (p1 : Int32) (p2 : Int32) (I : Nat → Nat → Int32) (J : Nat → Nat → Int64) : Option (Int32 × (Nat → Nat → Int32) × (Nat → Nat → Int64)) :=
  qp_bd (fM_layHand I J) fun _u I1 J1 =>
  qp_bd (fM_goTo_47 69 (I1 37 0) p1 p2 I1 J1) fun _u I2 J2 =>
  qp_bd (fM_serve_36_47 69 (I2 37 0) I2 J2) fun _u I3 J3 =>
  qp_gd ((0 ≤ p1 ∧ p1 < 6)) <|
  some ((I3 48 (Int32.toNatClampNeg p1)), I3, J3)
set_option maxRecDepth 8000 in
theorem gM_getsAt (l : Launch) (G : qp_G) (p1 : Int32) (p2 : Int32) (I : Nat → Nat → Int32) (J : Nat → Nat → Int64) {v : Int32} {I' : Nat → Nat → Int32} {J' : Nat → Nat → Int64} (h : fM_getsAt p1 p2 I J = some (v, I', J')) {d : Nat} (hd : 3 ≤ d) : qp_Met l G d 201 [.ref 36, .int p1, .int p2] (qp_mk I J) 0 0 (qp_R8 (some (.int v)) I' J') := by
  have hd1 : Nat.ble 1 d = true := Nat.ble_eq_true_of_le (Nat.le_trans (by decide) hd)
  refine qp_Met_of (by decide) (by rw [qp_r201.2]; rfl) [some (.ref 36), some (.int p1), some (.int p2)] (by rw [qp_r201.2]; rfl) ?_
  unfold fM_getsAt at h
  refine qp_run_E qp_ok201 1 (c' := (1, [some (.ref 36), some (.int p1), some (.int p2)], [.ref 36], qp_mk I J)) (by with_unfolding_all rfl) hd1 trivial ?_
  obtain ⟨v1, I1, J1, e1, h⟩ := qp_bd_s h
  refine qp_cV qp_ok201 (rest := []) (oj := 10) qp_f202 rfl rfl (gM_layHand l G I J e1 (Nat.le_refl 1)) rfl rfl rfl rfl (Nat.le_trans (by decide) hd) ?_
  refine qp_run_E qp_ok201 9 (f := vp_in 0 75 ∧ True) (c' := (18, [some (.ref 36), some (.int p1), some (.int p2)], [.int p2, .int p1, .int (I1 37 0), .int 69, .ref 47], qp_mk I1 J1)) (by with_unfolding_all rfl) hd1 ⟨(qp_vin (c := 75) (by decide) (by decide) (by decide)), trivial⟩ ?_
  obtain ⟨v2, I2, J2, e2, h⟩ := qp_bd_s h
  refine qp_cS qp_ok201 (rest := []) (oj := 10) qp_f189 rfl rfl (gM_goTo_47 l G 69 (I1 37 0) p1 p2 I1 J1 e2 (Nat.le_refl 2)) rfl rfl rfl (Nat.le_trans (by decide) hd) ?_
  refine qp_run_E qp_ok201 8 (f := vp_in 0 75 ∧ True) (c' := (34, [some (.ref 36), some (.int p1), some (.int p2)], [.int (I2 37 0), .int 69, .ref 47, .ref 36], qp_mk I2 J2)) (by with_unfolding_all rfl) hd1 ⟨(qp_vin (c := 75) (by decide) (by decide) (by decide)), trivial⟩ ?_
  obtain ⟨v3, I3, J3, e3, h⟩ := qp_bd_s h
  refine qp_cV qp_ok201 (rest := []) (oj := 10) qp_f175 rfl rfl (gM_serve_36_47 l G 69 (I2 37 0) I2 J2 e3 (Nat.le_refl 2)) rfl rfl rfl rfl (Nat.le_trans (by decide) hd) ?_
  obtain ⟨h1, h⟩ := qp_gd_s h
  refine qp_run_E qp_ok201 4 (f := vp_in p1 6 ∧ True) (c' := (43, [some (.ref 36), some (.int p1), some (.int p2)], [.int (I3 48 (Int32.toNatClampNeg p1))], qp_mk I3 J3)) (by with_unfolding_all rfl) hd1 ⟨(qp_vin (c := 6) (by decide) h1.1 h1.2), trivial⟩ ?_
  obtain ⟨rfl, rfl, rfl⟩ := qp_some3 h
  exact qp_retI_E qp_ok201 rfl qp_r201.1 ⟨rfl, rfl⟩ ⟨rfl, rfl⟩
def fM_gets (p1 : Int32) (p2 : Int32) (I : Nat → Nat → Int32) (J : Nat → Nat → Int64) : Option (Int32 × (Nat → Nat → Int32) × (Nat → Nat → Int64)) :=
  qp_bd (fM_isOne p1 I J) fun v1 I1 J1 =>
  if v1 = 0 then (
    some ((-1), I1, J1)
  ) else (
    qp_bd (fM_isOne p2 I1 J1) fun v2 I2 J2 =>
    if v2 = 0 then (
      some ((-1), I2, J2)
    ) else (
      qp_bd (fM_getsAt p1 p2 I2 J2) fun v3 I3 J3 =>
      some (v3, I3, J3)
    )
  )
set_option maxRecDepth 8000 in
theorem gM_gets (l : Launch) (G : qp_G) (p1 : Int32) (p2 : Int32) (I : Nat → Nat → Int32) (J : Nat → Nat → Int64) {v : Int32} {I' : Nat → Nat → Int32} {J' : Nat → Nat → Int64} (h : fM_gets p1 p2 I J = some (v, I', J')) {d : Nat} (hd : 4 ≤ d) : qp_Met l G d 200 [.ref 36, .int p1, .int p2] (qp_mk I J) 0 0 (qp_R8 (some (.int v)) I' J') := by
  have hd1 : Nat.ble 1 d = true := Nat.ble_eq_true_of_le (Nat.le_trans (by decide) hd)
  refine qp_Met_of (by decide) (by rw [qp_r200.2]; rfl) [some (.ref 36), some (.int p1), some (.int p2)] (by rw [qp_r200.2]; rfl) ?_
  unfold fM_gets at h
  refine qp_run_E qp_ok200 2 (c' := (2, [some (.ref 36), some (.int p1), some (.int p2)], [.int p1, .ref 36], qp_mk I J)) (by with_unfolding_all rfl) hd1 trivial ?_
  obtain ⟨v1, I1, J1, e1, h⟩ := qp_bd_s h
  refine qp_cV qp_ok200 (rest := []) (oj := 10) qp_f172 rfl rfl (gM_isOne l G p1 I J e1 (Nat.le_refl 2)) rfl rfl rfl rfl (Nat.le_trans (by decide) hd) ?_
  refine qp_br_E qp_ok200 (f := v1 = 0) (ct := (25, [some (.ref 36), some (.int p1), some (.int p2)], [], qp_mk I1 J1)) (cf := (8, [some (.ref 36), some (.int p1), some (.int p2)], [], qp_mk I1 J1)) (by with_unfolding_all rfl) (fun h1 => ?_) (fun h1 => ?_)
  · replace h := qp_ift h1 h
    refine qp_run_E qp_ok200 1 (c' := (26, [some (.ref 36), some (.int p1), some (.int p2)], [.int (-1)], qp_mk I1 J1)) (by with_unfolding_all rfl) hd1 trivial ?_
    obtain ⟨rfl, rfl, rfl⟩ := qp_some3 h
    exact qp_retI_E qp_ok200 rfl qp_r200.1 ⟨rfl, rfl⟩ ⟨rfl, rfl⟩
  · replace h := qp_iff h1 h
    refine qp_run_E qp_ok200 2 (c' := (10, [some (.ref 36), some (.int p1), some (.int p2)], [.int p2, .ref 36], qp_mk I1 J1)) (by with_unfolding_all rfl) hd1 trivial ?_
    obtain ⟨v2, I2, J2, e2, h⟩ := qp_bd_s h
    refine qp_cV qp_ok200 (rest := []) (oj := 10) qp_f172 rfl rfl (gM_isOne l G p2 I1 J1 e2 (Nat.le_refl 2)) rfl rfl rfl rfl (Nat.le_trans (by decide) hd) ?_
    refine qp_br_E qp_ok200 (f := v2 = 0) (ct := (25, [some (.ref 36), some (.int p1), some (.int p2)], [], qp_mk I2 J2)) (cf := (16, [some (.ref 36), some (.int p1), some (.int p2)], [], qp_mk I2 J2)) (by with_unfolding_all rfl) (fun h2 => ?_) (fun h2 => ?_)
    · replace h := qp_ift h2 h
      refine qp_run_E qp_ok200 1 (c' := (26, [some (.ref 36), some (.int p1), some (.int p2)], [.int (-1)], qp_mk I2 J2)) (by with_unfolding_all rfl) hd1 trivial ?_
      obtain ⟨rfl, rfl, rfl⟩ := qp_some3 h
      exact qp_retI_E qp_ok200 rfl qp_r200.1 ⟨rfl, rfl⟩ ⟨rfl, rfl⟩
    · replace h := qp_iff h2 h
      refine qp_run_E qp_ok200 3 (c' := (19, [some (.ref 36), some (.int p1), some (.int p2)], [.int p2, .int p1, .ref 36], qp_mk I2 J2)) (by with_unfolding_all rfl) hd1 trivial ?_
      obtain ⟨v3, I3, J3, e3, h⟩ := qp_bd_s h
      refine qp_cV qp_ok200 (rest := []) (oj := 10) qp_f201 rfl rfl (gM_getsAt l G p1 p2 I2 J2 e3 (Nat.le_refl 3)) rfl rfl rfl rfl (Nat.le_trans (by decide) hd) ?_
      refine qp_run_E qp_ok200 1 (c' := (26, [some (.ref 36), some (.int p1), some (.int p2)], [.int v3], qp_mk I3 J3)) (by with_unfolding_all rfl) hd1 trivial ?_
      obtain ⟨rfl, rfl, rfl⟩ := qp_some3 h
      exact qp_retI_E qp_ok200 rfl qp_r200.1 ⟨rfl, rfl⟩ ⟨rfl, rfl⟩
def fM_best_b19  : Nat → Int32 → Int32 → Int32 → Int32 → (Nat → Nat → Int32) → (Nat → Nat → Int64) → Option (Int32 × (Nat → Nat → Int32) × (Nat → Nat → Int64))
  | 0, _, _, _, _, _, _ => none
  | n + 1, a1, a2, a3, a4, I, J =>
    if (I 37 0) ≤ a4 then (
      qp_bd (fM_asks a3 I J) fun v1 I1 J1 =>
      some (a2, I1, J1)
    ) else (
      qp_bd (fM_getsAt a1 a4 I J) fun v2 I2 J2 =>
      if v2 ≤ a3 then (
        if v2 ≤ a3 then (
          fM_best_b19 n a1 a2 a3 (a4 + 1) I2 J2
        ) else (
          fM_best_b19 n a1 a2 v2 (a4 + 1) I2 J2
        )
      ) else (
        if v2 ≤ a3 then (
          fM_best_b19 n a1 a4 a3 (a4 + 1) I2 J2
        ) else (
          fM_best_b19 n a1 a4 v2 (a4 + 1) I2 J2
        )
      )
    )
set_option maxRecDepth 8000 in
theorem gM_best_b19 {l : Launch} {G : qp_G} {d : Nat} (hd : 4 ≤ d) {r : (Int32 × (Nat → Nat → Int32) × (Nat → Nat → Int64))} {I0 : Nat → Nat → Int32} {J0 : Nat → Nat → Int64}   : ∀ (n : Nat) (a1 : Int32) (a2 : Int32) (a3 : Int32) (a4 : Int32) (I : Nat → Nat → Int32) (J : Nat → Nat → Int64), fM_best_b19  n a1 a2 a3 a4 I J = some r → qp_E l G d 203 (qp_mk I0 J0) 0 0 (qp_R8 (some (.int r.1)) r.2.1 r.2.2) (19, [some (.ref 36), some (.int a1), some (.int a2), some (.int a3), some (.int a4), none], [], qp_mk I J) := by
  have hd1 : Nat.ble 1 d = true := Nat.ble_eq_true_of_le (Nat.le_trans (by decide) hd)
  intro n
  induction n with
  | zero => intro a1 a2 a3 a4 I J h; exact absurd h (by simp [fM_best_b19])
  | succ n ih =>
    intro a1 a2 a3 a4 I J h
    rw [fM_best_b19] at h
    refine qp_run_E qp_ok203 5 (f := vp_in 0 75 ∧ True) (c' := (27, [some (.ref 36), some (.int a1), some (.int a2), some (.int a3), some (.int a4), none], [.int (I 37 0), .int a4], qp_mk I J)) (by with_unfolding_all rfl) hd1 ⟨(qp_vin (c := 75) (by decide) (by decide) (by decide)), trivial⟩ ?_
    refine qp_br_E qp_ok203 (f := (I 37 0) ≤ a4) (ct := (71, [some (.ref 36), some (.int a1), some (.int a2), some (.int a3), some (.int a4), none], [], qp_mk I J)) (cf := (30, [some (.ref 36), some (.int a1), some (.int a2), some (.int a3), some (.int a4), none], [], qp_mk I J)) (by with_unfolding_all rfl) (fun h1 => ?_) (fun h1 => ?_)
    · replace h := qp_ift h1 h
      refine qp_run_E qp_ok203 2 (c' := (73, [some (.ref 36), some (.int a1), some (.int a2), some (.int a3), some (.int a4), none], [.int a3, .ref 36], qp_mk I J)) (by with_unfolding_all rfl) hd1 trivial ?_
      obtain ⟨v1, I1, J1, e1, h⟩ := qp_bd_s h
      refine qp_cV qp_ok203 (rest := []) (oj := 10) qp_f154 rfl rfl (gM_asks l G a3 I J e1 (Nat.le_refl 1)) rfl rfl rfl rfl (Nat.le_trans (by decide) hd) ?_
      refine qp_run_E qp_ok203 2 (c' := (79, [some (.ref 36), some (.int a1), some (.int a2), some (.int a3), some (.int v1), none], [.int a2], qp_mk I1 J1)) (by with_unfolding_all rfl) hd1 trivial ?_
      obtain rfl := Option.some.inj h
      exact qp_retI_E qp_ok203 rfl qp_r203.1 ⟨rfl, rfl⟩ ⟨rfl, rfl⟩
    · replace h := qp_iff h1 h
      refine qp_run_E qp_ok203 3 (c' := (34, [some (.ref 36), some (.int a1), some (.int a2), some (.int a3), some (.int a4), none], [.int a4, .int a1, .ref 36], qp_mk I J)) (by with_unfolding_all rfl) hd1 trivial ?_
      obtain ⟨v2, I2, J2, e2, h⟩ := qp_bd_s h
      refine qp_cV qp_ok203 (rest := []) (oj := 10) qp_f201 rfl rfl (gM_getsAt l G a1 a4 I J e2 (Nat.le_refl 3)) rfl rfl rfl rfl (Nat.le_trans (by decide) hd) ?_
      refine qp_run_E qp_ok203 3 (c' := (42, [some (.ref 36), some (.int a1), some (.int a2), some (.int a3), some (.int a4), some (.int v2)], [.int a3, .int v2], qp_mk I2 J2)) (by with_unfolding_all rfl) hd1 trivial ?_
      refine qp_br_E qp_ok203 (f := v2 ≤ a3) (ct := (50, [some (.ref 36), some (.int a1), some (.int a2), some (.int a3), some (.int a4), some (.int v2)], [], qp_mk I2 J2)) (cf := (45, [some (.ref 36), some (.int a1), some (.int a2), some (.int a3), some (.int a4), some (.int v2)], [], qp_mk I2 J2)) (by with_unfolding_all rfl) (fun h2 => ?_) (fun h2 => ?_)
      · replace h := qp_ift h2 h
        refine qp_run_E qp_ok203 4 (c' := (55, [some (.ref 36), some (.int a1), some (.int a2), some (.int a3), some (.int a4), some (.int v2)], [.int a3, .int v2], qp_mk I2 J2)) (by with_unfolding_all rfl) hd1 trivial ?_
        refine qp_br_E qp_ok203 (f := v2 ≤ a3) (ct := (63, [some (.ref 36), some (.int a1), some (.int a2), some (.int a3), some (.int a4), some (.int v2)], [], qp_mk I2 J2)) (cf := (58, [some (.ref 36), some (.int a1), some (.int a2), some (.int a3), some (.int a4), some (.int v2)], [], qp_mk I2 J2)) (by with_unfolding_all rfl) (fun h3 => ?_) (fun h3 => ?_)
        · replace h := qp_ift h3 h
          refine qp_run_E qp_ok203 4 (c' := (19, [some (.ref 36), some (.int a1), some (.int a2), some (.int a3), some (.int (a4 + 1)), some (.int v2)], [], qp_mk I2 J2)) (by with_unfolding_all rfl) hd1 trivial ?_
          exact qp_E_fg [true, true, true, true, true, false] (ih a1 a2 a3 (a4 + 1) I2 J2 h)
        · replace h := qp_iff h3 h
          refine qp_run_E qp_ok203 5 (c' := (19, [some (.ref 36), some (.int a1), some (.int a2), some (.int v2), some (.int (a4 + 1)), some (.int v2)], [], qp_mk I2 J2)) (by with_unfolding_all rfl) hd1 trivial ?_
          exact qp_E_fg [true, true, true, true, true, false] (ih a1 a2 v2 (a4 + 1) I2 J2 h)
      · replace h := qp_iff h2 h
        refine qp_run_E qp_ok203 5 (c' := (55, [some (.ref 36), some (.int a1), some (.int a4), some (.int a3), some (.int a4), some (.int v2)], [.int a3, .int v2], qp_mk I2 J2)) (by with_unfolding_all rfl) hd1 trivial ?_
        refine qp_br_E qp_ok203 (f := v2 ≤ a3) (ct := (63, [some (.ref 36), some (.int a1), some (.int a4), some (.int a3), some (.int a4), some (.int v2)], [], qp_mk I2 J2)) (cf := (58, [some (.ref 36), some (.int a1), some (.int a4), some (.int a3), some (.int a4), some (.int v2)], [], qp_mk I2 J2)) (by with_unfolding_all rfl) (fun h4 => ?_) (fun h4 => ?_)
        · replace h := qp_ift h4 h
          refine qp_run_E qp_ok203 4 (c' := (19, [some (.ref 36), some (.int a1), some (.int a4), some (.int a3), some (.int (a4 + 1)), some (.int v2)], [], qp_mk I2 J2)) (by with_unfolding_all rfl) hd1 trivial ?_
          exact qp_E_fg [true, true, true, true, true, false] (ih a1 a4 a3 (a4 + 1) I2 J2 h)
        · replace h := qp_iff h4 h
          refine qp_run_E qp_ok203 5 (c' := (19, [some (.ref 36), some (.int a1), some (.int a4), some (.int v2), some (.int (a4 + 1)), some (.int v2)], [], qp_mk I2 J2)) (by with_unfolding_all rfl) hd1 trivial ?_
          exact qp_E_fg [true, true, true, true, true, false] (ih a1 a4 v2 (a4 + 1) I2 J2 h)
def fM_best (p1 : Int32) (I : Nat → Nat → Int32) (J : Nat → Nat → Int64) : Option (Int32 × (Nat → Nat → Int32) × (Nat → Nat → Int64)) :=
  qp_bd (fM_isOne p1 I J) fun v1 I1 J1 =>
  if ¬ v1 = 0 then (
    fM_best_b19 100000 p1 (-9) (-9) 0 I1 J1
  ) else (
    some ((-1), I1, J1)
  )
set_option maxRecDepth 8000 in
theorem gM_best (l : Launch) (G : qp_G) (p1 : Int32) (I : Nat → Nat → Int32) (J : Nat → Nat → Int64) {v : Int32} {I' : Nat → Nat → Int32} {J' : Nat → Nat → Int64} (h : fM_best p1 I J = some (v, I', J')) {d : Nat} (hd : 4 ≤ d) : qp_Met l G d 203 [.ref 36, .int p1] (qp_mk I J) 0 0 (qp_R8 (some (.int v)) I' J') := by
  have hd1 : Nat.ble 1 d = true := Nat.ble_eq_true_of_le (Nat.le_trans (by decide) hd)
  refine qp_Met_of (by decide) (by rw [qp_r203.2]; rfl) [some (.ref 36), some (.int p1), none, none, none, none] (by rw [qp_r203.2]; rfl) ?_
  unfold fM_best at h
  refine qp_run_E qp_ok203 2 (c' := (2, [some (.ref 36), some (.int p1), none, none, none, none], [.int p1, .ref 36], qp_mk I J)) (by with_unfolding_all rfl) hd1 trivial ?_
  obtain ⟨v1, I1, J1, e1, h⟩ := qp_bd_s h
  refine qp_cV qp_ok203 (rest := []) (oj := 10) qp_f172 rfl rfl (gM_isOne l G p1 I J e1 (Nat.le_refl 2)) rfl rfl rfl rfl (Nat.le_trans (by decide) hd) ?_
  refine qp_br_E qp_ok203 (f := ¬ v1 = 0) (ct := (10, [some (.ref 36), some (.int p1), none, none, none, none], [], qp_mk I1 J1)) (cf := (8, [some (.ref 36), some (.int p1), none, none, none, none], [], qp_mk I1 J1)) (by with_unfolding_all rfl) (fun h1 => ?_) (fun h1 => ?_)
  · replace h := qp_ift h1 h
    refine qp_run_E qp_ok203 6 (c' := (19, [some (.ref 36), some (.int p1), some (.int (-9)), some (.int (-9)), some (.int 0), none], [], qp_mk I1 J1)) (by with_unfolding_all rfl) hd1 trivial ?_
    exact gM_best_b19 hd 100000 p1 (-9) (-9) 0 I1 J1 h
  · replace h := qp_iff h1 h
    refine qp_run_E qp_ok203 1 (c' := (9, [some (.ref 36), some (.int p1), none, none, none, none], [.int (-1)], qp_mk I1 J1)) (by with_unfolding_all rfl) hd1 trivial ?_
    obtain ⟨rfl, rfl, rfl⟩ := qp_some3 h
    exact qp_retI_E qp_ok203 rfl qp_r203.1 ⟨rfl, rfl⟩ ⟨rfl, rfl⟩
def fM_layStands_47_b23  : Nat → Int32 → (Nat → Nat → Int32) → (Nat → Nat → Int64) → Option (Unit × (Nat → Nat → Int32) × (Nat → Nat → Int64))
  | 0, _, _, _ => none
  | n + 1, a1, I, J =>
    if (I 47 56) ≤ a1 then (
      some ((), I, J)
    ) else (
      qp_gd ((0 ≤ ((57 : Int32) + a1) ∧ ((57 : Int32) + a1) < 75)) <|
      qp_bd (fM_goTo_47 69 (I 47 0) ((I 47 (Int32.toNatClampNeg ((57 : Int32) + a1))) / 8) ((I 47 (Int32.toNatClampNeg ((57 : Int32) + a1))) - (I 47 (Int32.toNatClampNeg ((57 : Int32) + a1))) / 8 * 8) I J) fun _u I1 J1 =>
      fM_layStands_47_b23 n (a1 + 1) I1 J1
    )
set_option maxRecDepth 8000 in
theorem gM_layStands_47_b23 {l : Launch} {G : qp_G} {d : Nat} (hd : 3 ≤ d) {r : (Unit × (Nat → Nat → Int32) × (Nat → Nat → Int64))} {I0 : Nat → Nat → Int32} {J0 : Nat → Nat → Int64}   : ∀ (n : Nat) (a1 : Int32) (I : Nat → Nat → Int32) (J : Nat → Nat → Int64), fM_layStands_47_b23  n a1 I J = some r → qp_E l G d 188 (qp_mk I0 J0) 0 0 (qp_R8 none r.2.1 r.2.2) (23, [some (.ref 47), some (.int a1)], [], qp_mk I J) := by
  have hd1 : Nat.ble 1 d = true := Nat.ble_eq_true_of_le (Nat.le_trans (by decide) hd)
  intro n
  induction n with
  | zero => intro a1 I J h; exact absurd h (by simp [fM_layStands_47_b23])
  | succ n ih =>
    intro a1 I J h
    rw [fM_layStands_47_b23] at h
    refine qp_run_E qp_ok188 4 (f := vp_in 56 75 ∧ True) (c' := (28, [some (.ref 47), some (.int a1)], [.int (I 47 56), .int a1], qp_mk I J)) (by with_unfolding_all rfl) hd1 ⟨(qp_vin (c := 75) (by decide) (by decide) (by decide)), trivial⟩ ?_
    refine qp_br_E qp_ok188 (f := (I 47 56) ≤ a1) (ct := (64, [some (.ref 47), some (.int a1)], [], qp_mk I J)) (cf := (31, [some (.ref 47), some (.int a1)], [], qp_mk I J)) (by with_unfolding_all rfl) (fun h1 => ?_) (fun h1 => ?_)
    · replace h := qp_ift h1 h
      obtain rfl := Option.some.inj h
      exact qp_retV_E qp_ok188 rfl qp_r188.1 ⟨rfl, rfl⟩ ⟨rfl, rfl⟩
    · replace h := qp_iff h1 h
      obtain ⟨h2, h⟩ := qp_gd_s h
      refine qp_run_E qp_ok188 19 (f := vp_in 0 75 ∧ vp_in ((57 : Int32) + a1) 75 ∧ ¬ (8 : Int32) = 0 ∧ vp_in ((57 : Int32) + a1) 75 ∧ ¬ (8 : Int32) = 0 ∧ True) (c' := (55, [some (.ref 47), some (.int a1)], [.int ((I 47 (Int32.toNatClampNeg ((57 : Int32) + a1))) - (I 47 (Int32.toNatClampNeg ((57 : Int32) + a1))) / 8 * 8), .int ((I 47 (Int32.toNatClampNeg ((57 : Int32) + a1))) / 8), .int (I 47 0), .int 69, .ref 47], qp_mk I J)) (by with_unfolding_all rfl) hd1 ⟨(qp_vin (c := 75) (by decide) (by decide) (by decide)), (qp_vin (c := 75) (by decide) h2.1 h2.2), (by decide), (qp_vin (c := 75) (by decide) h2.1 h2.2), (by decide), trivial⟩ ?_
      obtain ⟨v1, I1, J1, e1, h⟩ := qp_bd_s h
      refine qp_cS qp_ok188 (rest := []) (oj := 10) qp_f189 rfl rfl (gM_goTo_47 l G 69 (I 47 0) ((I 47 (Int32.toNatClampNeg ((57 : Int32) + a1))) / 8) ((I 47 (Int32.toNatClampNeg ((57 : Int32) + a1))) - (I 47 (Int32.toNatClampNeg ((57 : Int32) + a1))) / 8 * 8) I J e1 (Nat.le_refl 2)) rfl rfl rfl (Nat.le_trans (by decide) hd) ?_
      refine qp_run_E qp_ok188 2 (c' := (23, [some (.ref 47), some (.int (a1 + 1))], [], qp_mk I1 J1)) (by with_unfolding_all rfl) hd1 trivial ?_
      exact ih (a1 + 1) I1 J1 h
def fM_layStands_47_b2  : Nat → Int32 → (Nat → Nat → Int32) → (Nat → Nat → Int64) → Option (Unit × (Nat → Nat → Int32) × (Nat → Nat → Int64))
  | 0, _, _, _ => none
  | n + 1, a1, I, J =>
    if 6 ≤ a1 then (
      fM_layStands_47_b23 100000 0 I J
    ) else (
      qp_gd ((0 ≤ ((69 : Int32) + a1) ∧ ((69 : Int32) + a1) < 75)) <|
      fM_layStands_47_b2 n (a1 + 1) (qp_up I 47 (Int32.toNatClampNeg ((69 : Int32) + a1)) a1) J
    )
set_option maxRecDepth 8000 in
theorem gM_layStands_47_b2 {l : Launch} {G : qp_G} {d : Nat} (hd : 3 ≤ d) {r : (Unit × (Nat → Nat → Int32) × (Nat → Nat → Int64))} {I0 : Nat → Nat → Int32} {J0 : Nat → Nat → Int64}   : ∀ (n : Nat) (a1 : Int32) (I : Nat → Nat → Int32) (J : Nat → Nat → Int64), fM_layStands_47_b2  n a1 I J = some r → qp_E l G d 188 (qp_mk I0 J0) 0 0 (qp_R8 none r.2.1 r.2.2) (2, [some (.ref 47), some (.int a1)], [], qp_mk I J) := by
  have hd1 : Nat.ble 1 d = true := Nat.ble_eq_true_of_le (Nat.le_trans (by decide) hd)
  intro n
  induction n with
  | zero => intro a1 I J h; exact absurd h (by simp [fM_layStands_47_b2])
  | succ n ih =>
    intro a1 I J h
    rw [fM_layStands_47_b2] at h
    refine qp_run_E qp_ok188 2 (c' := (5, [some (.ref 47), some (.int a1)], [.int 6, .int a1], qp_mk I J)) (by with_unfolding_all rfl) hd1 trivial ?_
    refine qp_br_E qp_ok188 (f := 6 ≤ a1) (ct := (21, [some (.ref 47), some (.int a1)], [], qp_mk I J)) (cf := (8, [some (.ref 47), some (.int a1)], [], qp_mk I J)) (by with_unfolding_all rfl) (fun h1 => ?_) (fun h1 => ?_)
    · replace h := qp_ift h1 h
      refine qp_run_E qp_ok188 2 (c' := (23, [some (.ref 47), some (.int 0)], [], qp_mk I J)) (by with_unfolding_all rfl) hd1 trivial ?_
      exact gM_layStands_47_b23 hd 100000 0 I J h
    · replace h := qp_iff h1 h
      obtain ⟨h2, h⟩ := qp_gd_s h
      refine qp_run_E qp_ok188 8 (f := vp_in ((69 : Int32) + a1) 75 ∧ True) (c' := (2, [some (.ref 47), some (.int (a1 + 1))], [], qp_mk (qp_up I 47 (Int32.toNatClampNeg ((69 : Int32) + a1)) a1) J)) (by with_unfolding_all rfl) hd1 ⟨(qp_vin (c := 75) (by decide) h2.1 h2.2), trivial⟩ ?_
      exact ih (a1 + 1) (qp_up I 47 (Int32.toNatClampNeg ((69 : Int32) + a1)) a1) J h
def fM_layStands_47  (I : Nat → Nat → Int32) (J : Nat → Nat → Int64) : Option (Unit × (Nat → Nat → Int32) × (Nat → Nat → Int64)) :=
  fM_layStands_47_b2 100000 0 I J
set_option maxRecDepth 8000 in
theorem gM_layStands_47 (l : Launch) (G : qp_G)  (I : Nat → Nat → Int32) (J : Nat → Nat → Int64) {v : Unit} {I' : Nat → Nat → Int32} {J' : Nat → Nat → Int64} (h : fM_layStands_47  I J = some (v, I', J')) {d : Nat} (hd : 3 ≤ d) : qp_Met l G d 188 [.ref 47] (qp_mk I J) 0 0 (qp_R8 none I' J') := by
  have hd1 : Nat.ble 1 d = true := Nat.ble_eq_true_of_le (Nat.le_trans (by decide) hd)
  refine qp_Met_of (by decide) (by rw [qp_r188.2]; rfl) [some (.ref 47), none] (by rw [qp_r188.2]; rfl) ?_
  unfold fM_layStands_47 at h
  refine qp_run_E qp_ok188 2 (c' := (2, [some (.ref 47), some (.int 0)], [], qp_mk I J)) (by with_unfolding_all rfl) hd1 trivial ?_
  exact gM_layStands_47_b2 hd 100000 0 I J h
def fM_goBack_47_b21  : Nat → Int32 → Int32 → Int32 → (Nat → Nat → Int32) → (Nat → Nat → Int64) → Option (Int32 × (Nat → Nat → Int32) × (Nat → Nat → Int64))
  | 0, _, _, _, _, _ => none
  | n + 1, a2, a3, a4, I, J =>
    if a2 ≤ a4 then (
      some (a3, I, J)
    ) else (
      qp_gd ((0 ≤ ((57 : Int32) + a4) ∧ ((57 : Int32) + a4) < 75) ∧ (0 ≤ ((69 : Int32) + ((I 47 (Int32.toNatClampNeg ((57 : Int32) + a4))) - (I 47 (Int32.toNatClampNeg ((57 : Int32) + a4))) / 8 * 8)) ∧ ((69 : Int32) + ((I 47 (Int32.toNatClampNeg ((57 : Int32) + a4))) - (I 47 (Int32.toNatClampNeg ((57 : Int32) + a4))) / 8 * 8)) < 75)) <|
      if ¬ (I 47 (Int32.toNatClampNeg ((69 : Int32) + ((I 47 (Int32.toNatClampNeg ((57 : Int32) + a4))) - (I 47 (Int32.toNatClampNeg ((57 : Int32) + a4))) / 8 * 8)))) = ((I 47 (Int32.toNatClampNeg ((57 : Int32) + a4))) / 8) then (
        qp_gd ((0 ≤ ((57 : Int32) + a4) ∧ ((57 : Int32) + a4) < 75) ∧ (0 ≤ ((57 : Int32) + (I 47 56)) ∧ ((57 : Int32) + (I 47 56)) < 75)) <|
        qp_bd (fM_goTo_47 69 ((qp_up I 47 (Int32.toNatClampNeg ((57 : Int32) + (I 47 56))) (I 47 (Int32.toNatClampNeg ((57 : Int32) + a4)))) 47 0) ((I 47 (Int32.toNatClampNeg ((57 : Int32) + a4))) / 8) ((I 47 (Int32.toNatClampNeg ((57 : Int32) + a4))) - (I 47 (Int32.toNatClampNeg ((57 : Int32) + a4))) / 8 * 8) (qp_up (qp_up I 47 (Int32.toNatClampNeg ((57 : Int32) + (I 47 56))) (I 47 (Int32.toNatClampNeg ((57 : Int32) + a4)))) 47 56 (((qp_up I 47 (Int32.toNatClampNeg ((57 : Int32) + (I 47 56))) (I 47 (Int32.toNatClampNeg ((57 : Int32) + a4)))) 47 56) + 1)) J) fun _u I1 J1 =>
        fM_goBack_47_b21 n a2 a3 (a4 + 1) I1 J1
      ) else (
        fM_goBack_47_b21 n a2 (a3 + 1) (a4 + 1) I J
      )
    )
set_option maxRecDepth 8000 in
theorem gM_goBack_47_b21 {l : Launch} {G : qp_G} {d : Nat} (hd : 4 ≤ d) {r : (Int32 × (Nat → Nat → Int32) × (Nat → Nat → Int64))} {I0 : Nat → Nat → Int32} {J0 : Nat → Nat → Int64}   : ∀ (n : Nat) (a2 : Int32) (a3 : Int32) (a4 : Int32) (I : Nat → Nat → Int32) (J : Nat → Nat → Int64), fM_goBack_47_b21  n a2 a3 a4 I J = some r → qp_E l G d 187 (qp_mk I0 J0) 0 0 (qp_R8 (some (.int r.1)) r.2.1 r.2.2) (21, [some (.ref 47), none, some (.int a2), some (.int a3), some (.int a4), none, none], [], qp_mk I J) := by
  have hd1 : Nat.ble 1 d = true := Nat.ble_eq_true_of_le (Nat.le_trans (by decide) hd)
  intro n
  induction n with
  | zero => intro a2 a3 a4 I J h; exact absurd h (by simp [fM_goBack_47_b21])
  | succ n ih =>
    intro a2 a3 a4 I J h
    rw [fM_goBack_47_b21] at h
    refine qp_run_E qp_ok187 2 (c' := (24, [some (.ref 47), none, some (.int a2), some (.int a3), some (.int a4), none, none], [.int a2, .int a4], qp_mk I J)) (by with_unfolding_all rfl) hd1 trivial ?_
    refine qp_br_E qp_ok187 (f := a2 ≤ a4) (ct := (112, [some (.ref 47), none, some (.int a2), some (.int a3), some (.int a4), none, none], [], qp_mk I J)) (cf := (27, [some (.ref 47), none, some (.int a2), some (.int a3), some (.int a4), none, none], [], qp_mk I J)) (by with_unfolding_all rfl) (fun h1 => ?_) (fun h1 => ?_)
    · replace h := qp_ift h1 h
      refine qp_run_E qp_ok187 1 (c' := (113, [some (.ref 47), none, some (.int a2), some (.int a3), some (.int a4), none, none], [.int a3], qp_mk I J)) (by with_unfolding_all rfl) hd1 trivial ?_
      obtain rfl := Option.some.inj h
      exact qp_retI_E qp_ok187 rfl qp_r187.1 ⟨rfl, rfl⟩ ⟨rfl, rfl⟩
    · replace h := qp_iff h1 h
      obtain ⟨h2, h⟩ := qp_gd_s h
      refine qp_run_E qp_ok187 22 (f := vp_in ((57 : Int32) + a4) 75 ∧ ¬ (8 : Int32) = 0 ∧ vp_in ((57 : Int32) + a4) 75 ∧ ¬ (8 : Int32) = 0 ∧ vp_in ((69 : Int32) + ((I 47 (Int32.toNatClampNeg ((57 : Int32) + a4))) - (I 47 (Int32.toNatClampNeg ((57 : Int32) + a4))) / 8 * 8)) 75 ∧ True) (c' := (60, [some (.ref 47), none, some (.int a2), some (.int a3), some (.int a4), some (.int ((I 47 (Int32.toNatClampNeg ((57 : Int32) + a4))) / 8)), some (.int ((I 47 (Int32.toNatClampNeg ((57 : Int32) + a4))) - (I 47 (Int32.toNatClampNeg ((57 : Int32) + a4))) / 8 * 8))], [.int ((I 47 (Int32.toNatClampNeg ((57 : Int32) + a4))) / 8), .int (I 47 (Int32.toNatClampNeg ((69 : Int32) + ((I 47 (Int32.toNatClampNeg ((57 : Int32) + a4))) - (I 47 (Int32.toNatClampNeg ((57 : Int32) + a4))) / 8 * 8))))], qp_mk I J)) (by with_unfolding_all rfl) hd1 ⟨(qp_vin (c := 75) (by decide) h2.1.1 h2.1.2), (by decide), (qp_vin (c := 75) (by decide) h2.1.1 h2.1.2), (by decide), (qp_vin (c := 75) (by decide) h2.2.1 h2.2.2), trivial⟩ ?_
      refine qp_br_E qp_ok187 (f := ¬ (I 47 (Int32.toNatClampNeg ((69 : Int32) + ((I 47 (Int32.toNatClampNeg ((57 : Int32) + a4))) - (I 47 (Int32.toNatClampNeg ((57 : Int32) + a4))) / 8 * 8)))) = ((I 47 (Int32.toNatClampNeg ((57 : Int32) + a4))) / 8)) (ct := (69, [some (.ref 47), none, some (.int a2), some (.int a3), some (.int a4), some (.int ((I 47 (Int32.toNatClampNeg ((57 : Int32) + a4))) / 8)), some (.int ((I 47 (Int32.toNatClampNeg ((57 : Int32) + a4))) - (I 47 (Int32.toNatClampNeg ((57 : Int32) + a4))) / 8 * 8))], [], qp_mk I J)) (cf := (63, [some (.ref 47), none, some (.int a2), some (.int a3), some (.int a4), some (.int ((I 47 (Int32.toNatClampNeg ((57 : Int32) + a4))) / 8)), some (.int ((I 47 (Int32.toNatClampNeg ((57 : Int32) + a4))) - (I 47 (Int32.toNatClampNeg ((57 : Int32) + a4))) / 8 * 8))], [], qp_mk I J)) (by with_unfolding_all rfl) (fun h3 => ?_) (fun h3 => ?_)
      · replace h := qp_ift h3 h
        obtain ⟨h4, h⟩ := qp_gd_s h
        refine qp_run_E qp_ok187 26 (f := vp_in 56 75 ∧ vp_in ((57 : Int32) + a4) 75 ∧ vp_in ((57 : Int32) + (I 47 56)) 75 ∧ vp_in 56 75 ∧ vp_in 56 75 ∧ vp_in 0 75 ∧ True) (c' := (103, [some (.ref 47), none, some (.int a2), some (.int a3), some (.int a4), some (.int ((I 47 (Int32.toNatClampNeg ((57 : Int32) + a4))) / 8)), some (.int ((I 47 (Int32.toNatClampNeg ((57 : Int32) + a4))) - (I 47 (Int32.toNatClampNeg ((57 : Int32) + a4))) / 8 * 8))], [.int ((I 47 (Int32.toNatClampNeg ((57 : Int32) + a4))) - (I 47 (Int32.toNatClampNeg ((57 : Int32) + a4))) / 8 * 8), .int ((I 47 (Int32.toNatClampNeg ((57 : Int32) + a4))) / 8), .int ((qp_up I 47 (Int32.toNatClampNeg ((57 : Int32) + (I 47 56))) (I 47 (Int32.toNatClampNeg ((57 : Int32) + a4)))) 47 0), .int 69, .ref 47], qp_mk (qp_up (qp_up I 47 (Int32.toNatClampNeg ((57 : Int32) + (I 47 56))) (I 47 (Int32.toNatClampNeg ((57 : Int32) + a4)))) 47 56 (((qp_up I 47 (Int32.toNatClampNeg ((57 : Int32) + (I 47 56))) (I 47 (Int32.toNatClampNeg ((57 : Int32) + a4)))) 47 56) + 1)) J)) (by with_unfolding_all rfl) hd1 ⟨(qp_vin (c := 75) (by decide) (by decide) (by decide)), (qp_vin (c := 75) (by decide) h4.1.1 h4.1.2), (qp_vin (c := 75) (by decide) h4.2.1 h4.2.2), (qp_vin (c := 75) (by decide) (by decide) (by decide)), (qp_vin (c := 75) (by decide) (by decide) (by decide)), (qp_vin (c := 75) (by decide) (by decide) (by decide)), trivial⟩ ?_
        obtain ⟨v1, I1, J1, e1, h⟩ := qp_bd_s h
        refine qp_cS qp_ok187 (rest := []) (oj := 10) qp_f189 rfl rfl (gM_goTo_47 l G 69 ((qp_up I 47 (Int32.toNatClampNeg ((57 : Int32) + (I 47 56))) (I 47 (Int32.toNatClampNeg ((57 : Int32) + a4)))) 47 0) ((I 47 (Int32.toNatClampNeg ((57 : Int32) + a4))) / 8) ((I 47 (Int32.toNatClampNeg ((57 : Int32) + a4))) - (I 47 (Int32.toNatClampNeg ((57 : Int32) + a4))) / 8 * 8) (qp_up (qp_up I 47 (Int32.toNatClampNeg ((57 : Int32) + (I 47 56))) (I 47 (Int32.toNatClampNeg ((57 : Int32) + a4)))) 47 56 (((qp_up I 47 (Int32.toNatClampNeg ((57 : Int32) + (I 47 56))) (I 47 (Int32.toNatClampNeg ((57 : Int32) + a4)))) 47 56) + 1)) J e1 (Nat.le_refl 2)) rfl rfl rfl (Nat.le_trans (by decide) hd) ?_
        refine qp_run_E qp_ok187 2 (c' := (21, [some (.ref 47), none, some (.int a2), some (.int a3), some (.int (a4 + 1)), some (.int ((I 47 (Int32.toNatClampNeg ((57 : Int32) + a4))) / 8)), some (.int ((I 47 (Int32.toNatClampNeg ((57 : Int32) + a4))) - (I 47 (Int32.toNatClampNeg ((57 : Int32) + a4))) / 8 * 8))], [], qp_mk I1 J1)) (by with_unfolding_all rfl) hd1 trivial ?_
        exact qp_E_fg [true, false, true, true, true, false, false] (ih a2 a3 (a4 + 1) I1 J1 h)
      · replace h := qp_iff h3 h
        refine qp_run_E qp_ok187 4 (c' := (21, [some (.ref 47), none, some (.int a2), some (.int (a3 + 1)), some (.int (a4 + 1)), some (.int ((I 47 (Int32.toNatClampNeg ((57 : Int32) + a4))) / 8)), some (.int ((I 47 (Int32.toNatClampNeg ((57 : Int32) + a4))) - (I 47 (Int32.toNatClampNeg ((57 : Int32) + a4))) / 8 * 8))], [], qp_mk I J)) (by with_unfolding_all rfl) hd1 trivial ?_
        exact qp_E_fg [true, false, true, true, true, false, false] (ih a2 (a3 + 1) (a4 + 1) I J h)
def fM_goBack_47 (p1 : Int32) (I : Nat → Nat → Int32) (J : Nat → Nat → Int64) : Option (Int32 × (Nat → Nat → Int32) × (Nat → Nat → Int64)) :=
  qp_bd (fM_layStands_47 (qp_up I 47 56 p1) J) fun _u I1 J1 =>
  fM_goBack_47_b21 100000 (I 47 56) 0 (p1 + 1) I1 J1
set_option maxRecDepth 8000 in
theorem gM_goBack_47 (l : Launch) (G : qp_G) (p1 : Int32) (I : Nat → Nat → Int32) (J : Nat → Nat → Int64) {v : Int32} {I' : Nat → Nat → Int32} {J' : Nat → Nat → Int64} (h : fM_goBack_47 p1 I J = some (v, I', J')) {d : Nat} (hd : 4 ≤ d) : qp_Met l G d 187 [.ref 47, .int p1] (qp_mk I J) 0 0 (qp_R8 (some (.int v)) I' J') := by
  have hd1 : Nat.ble 1 d = true := Nat.ble_eq_true_of_le (Nat.le_trans (by decide) hd)
  refine qp_Met_of (by decide) (by rw [qp_r187.2]; rfl) [some (.ref 47), some (.int p1), none, none, none, none, none] (by rw [qp_r187.2]; rfl) ?_
  unfold fM_goBack_47 at h
  refine qp_run_E qp_ok187 11 (f := vp_in 56 75 ∧ vp_in 56 75 ∧ True) (c' := (13, [some (.ref 47), some (.int p1), some (.int (I 47 56)), some (.int 0), none, none, none], [.ref 47], qp_mk (qp_up I 47 56 p1) J)) (by with_unfolding_all rfl) hd1 ⟨(qp_vin (c := 75) (by decide) (by decide) (by decide)), (qp_vin (c := 75) (by decide) (by decide) (by decide)), trivial⟩ ?_
  obtain ⟨v1, I1, J1, e1, h⟩ := qp_bd_s h
  refine qp_cS qp_ok187 (rest := []) (oj := 10) qp_f188 rfl rfl (gM_layStands_47 l G (qp_up I 47 56 p1) J e1 (Nat.le_refl 3)) rfl rfl rfl (Nat.le_trans (by decide) hd) ?_
  refine qp_run_E qp_ok187 4 (c' := (21, [some (.ref 47), some (.int p1), some (.int (I 47 56)), some (.int 0), some (.int (p1 + 1)), none, none], [], qp_mk I1 J1)) (by with_unfolding_all rfl) hd1 trivial ?_
  exact qp_E_fg [true, false, true, true, true, false, false] (gM_goBack_47_b21 hd 100000 (I 47 56) 0 (p1 + 1) I1 J1 h)
def fM_falls (p1 : Int32) (I : Nat → Nat → Int32) (J : Nat → Nat → Int64) : Option (Int32 × (Nat → Nat → Int32) × (Nat → Nat → Int64)) :=
  qp_bd (fM_isTicket p1 I J) fun v1 I1 J1 =>
  if ¬ v1 = 0 then (
    qp_bd (fM_layHand I1 J1) fun _u I2 J2 =>
    qp_bd (fM_goBack_47 p1 I2 J2) fun v3 I3 J3 =>
    some (v3, I3, J3)
  ) else (
    some ((-1), I1, J1)
  )
set_option maxRecDepth 8000 in
theorem gM_falls (l : Launch) (G : qp_G) (p1 : Int32) (I : Nat → Nat → Int32) (J : Nat → Nat → Int64) {v : Int32} {I' : Nat → Nat → Int32} {J' : Nat → Nat → Int64} (h : fM_falls p1 I J = some (v, I', J')) {d : Nat} (hd : 5 ≤ d) : qp_Met l G d 204 [.ref 36, .int p1] (qp_mk I J) 0 0 (qp_R8 (some (.int v)) I' J') := by
  have hd1 : Nat.ble 1 d = true := Nat.ble_eq_true_of_le (Nat.le_trans (by decide) hd)
  refine qp_Met_of (by decide) (by rw [qp_r204.2]; rfl) [some (.ref 36), some (.int p1)] (by rw [qp_r204.2]; rfl) ?_
  unfold fM_falls at h
  refine qp_run_E qp_ok204 2 (c' := (2, [some (.ref 36), some (.int p1)], [.int p1, .ref 36], qp_mk I J)) (by with_unfolding_all rfl) hd1 trivial ?_
  obtain ⟨v1, I1, J1, e1, h⟩ := qp_bd_s h
  refine qp_cV qp_ok204 (rest := []) (oj := 10) qp_f191 rfl rfl (gM_isTicket l G p1 I J e1 (Nat.le_refl 2)) rfl rfl rfl rfl (Nat.le_trans (by decide) hd) ?_
  refine qp_br_E qp_ok204 (f := ¬ v1 = 0) (ct := (10, [some (.ref 36), some (.int p1)], [], qp_mk I1 J1)) (cf := (8, [some (.ref 36), some (.int p1)], [], qp_mk I1 J1)) (by with_unfolding_all rfl) (fun h1 => ?_) (fun h1 => ?_)
  · replace h := qp_ift h1 h
    refine qp_run_E qp_ok204 1 (c' := (11, [some (.ref 36), some (.int p1)], [.ref 36], qp_mk I1 J1)) (by with_unfolding_all rfl) hd1 trivial ?_
    obtain ⟨v2, I2, J2, e2, h⟩ := qp_bd_s h
    refine qp_cV qp_ok204 (rest := []) (oj := 10) qp_f202 rfl rfl (gM_layHand l G I1 J1 e2 (Nat.le_refl 1)) rfl rfl rfl rfl (Nat.le_trans (by decide) hd) ?_
    refine qp_run_E qp_ok204 3 (c' := (19, [some (.ref 36), some (.int p1)], [.int p1, .ref 47], qp_mk I2 J2)) (by with_unfolding_all rfl) hd1 trivial ?_
    obtain ⟨v3, I3, J3, e3, h⟩ := qp_bd_s h
    refine qp_cS qp_ok204 (rest := []) (oj := 10) qp_f187 rfl rfl (gM_goBack_47 l G p1 I2 J2 e3 (Nat.le_refl 4)) rfl rfl rfl (Nat.le_trans (by decide) hd) ?_
    obtain ⟨rfl, rfl, rfl⟩ := qp_some3 h
    exact qp_retI_E qp_ok204 rfl qp_r204.1 ⟨rfl, rfl⟩ ⟨rfl, rfl⟩
  · replace h := qp_iff h1 h
    refine qp_run_E qp_ok204 1 (c' := (9, [some (.ref 36), some (.int p1)], [.int (-1)], qp_mk I1 J1)) (by with_unfolding_all rfl) hd1 trivial ?_
    obtain ⟨rfl, rfl, rfl⟩ := qp_some3 h
    exact qp_retI_E qp_ok204 rfl qp_r204.1 ⟨rfl, rfl⟩ ⟨rfl, rfl⟩
def fM_goes_b165   (a3 : Int32) (a4 : Int32) (a5 : Int32) (a7 : Int32) (a8 : Int32) (I : Nat → Nat → Int32) (J : Nat → Nat → Int64) : Option (Int32 × (Nat → Nat → Int32) × (Nat → Nat → Int64)) :=
  if ¬ a8 = 0 then (
    qp_bd (fM_placeIn_47 69 a7 a3 I J) fun v1 I1 J1 =>
    qp_bd (fM_placeIn_47 69 a7 a4 I1 J1) fun v2 I2 J2 =>
    qp_bd (fM_serve_36_47 69 a7 I2 J2) fun _u I3 J3 =>
    if (v1 - v2) = 1 then (
      qp_gd ((0 ≤ a5 ∧ a5 < 6)) <|
      if ¬ (I3 48 (Int32.toNatClampNeg a5)) = (I3 51 (Int32.toNatClampNeg a5)) then (
        some (0, I3, J3)
      ) else (
        some (1, I3, J3)
      )
    ) else (
      if ¬ (v1 - v2) = (-1) then (
        some (0, I3, J3)
      ) else (
        qp_gd ((0 ≤ a5 ∧ a5 < 6)) <|
        if ¬ (I3 48 (Int32.toNatClampNeg a5)) = (I3 51 (Int32.toNatClampNeg a5)) then (
          some (0, I3, J3)
        ) else (
          some (1, I3, J3)
        )
      )
    )
  ) else (
    some (0, I, J)
  )
set_option maxRecDepth 8000 in
theorem gM_goes_b165 {l : Launch} {G : qp_G} {d : Nat} (hd : 3 ≤ d) {r : (Int32 × (Nat → Nat → Int32) × (Nat → Nat → Int64))} {I0 : Nat → Nat → Int32} {J0 : Nat → Nat → Int64}   : ∀ (a3 : Int32) (a4 : Int32) (a5 : Int32) (a7 : Int32) (a8 : Int32) (I : Nat → Nat → Int32) (J : Nat → Nat → Int64), fM_goes_b165  a3 a4 a5 a7 a8 I J = some r → qp_E l G d 206 (qp_mk I0 J0) 0 0 (qp_R8 (some (.int r.1)) r.2.1 r.2.2) (165, [some (.ref 36), none, none, some (.int a3), some (.int a4), some (.int a5), none, some (.int a7), some (.int a8), none, none, none], [], qp_mk I J) := by
  have hd1 : Nat.ble 1 d = true := Nat.ble_eq_true_of_le (Nat.le_trans (by decide) hd)
  intro a3 a4 a5 a7 a8 I J h
  unfold fM_goes_b165 at h
  refine qp_run_E qp_ok206 1 (c' := (167, [some (.ref 36), none, none, some (.int a3), some (.int a4), some (.int a5), none, some (.int a7), some (.int a8), none, none, none], [.int a8], qp_mk I J)) (by with_unfolding_all rfl) hd1 trivial ?_
  refine qp_br_E qp_ok206 (f := ¬ a8 = 0) (ct := (172, [some (.ref 36), none, none, some (.int a3), some (.int a4), some (.int a5), none, some (.int a7), some (.int a8), none, none, none], [], qp_mk I J)) (cf := (170, [some (.ref 36), none, none, some (.int a3), some (.int a4), some (.int a5), none, some (.int a7), some (.int a8), none, none, none], [], qp_mk I J)) (by with_unfolding_all rfl) (fun h1 => ?_) (fun h1 => ?_)
  · replace h := qp_ift h1 h
    refine qp_run_E qp_ok206 5 (c' := (181, [some (.ref 36), none, none, some (.int a3), some (.int a4), some (.int a5), none, some (.int a7), some (.int a8), none, none, none], [.int a3, .int a7, .int 69, .ref 47], qp_mk I J)) (by with_unfolding_all rfl) hd1 trivial ?_
    obtain ⟨v1, I1, J1, e1, h⟩ := qp_bd_s h
    refine qp_cS qp_ok206 (rest := []) (oj := 10) qp_f179 rfl rfl (gM_placeIn_47 l G 69 a7 a3 I J e1 (Nat.le_refl 1)) rfl rfl rfl (Nat.le_trans (by decide) hd) ?_
    refine qp_run_E qp_ok206 5 (c' := (194, [some (.ref 36), none, none, some (.int a3), some (.int a4), some (.int a5), none, some (.int a7), some (.int a8), none, none, none], [.int a4, .int a7, .int 69, .ref 47, .int v1], qp_mk I1 J1)) (by with_unfolding_all rfl) hd1 trivial ?_
    obtain ⟨v2, I2, J2, e2, h⟩ := qp_bd_s h
    refine qp_cS qp_ok206 (rest := [.int v1]) (oj := 10) qp_f179 rfl rfl (gM_placeIn_47 l G 69 a7 a4 I1 J1 e2 (Nat.le_refl 1)) rfl rfl rfl (Nat.le_trans (by decide) hd) ?_
    refine qp_run_E qp_ok206 7 (c' := (209, [some (.ref 36), none, none, some (.int a3), some (.int a4), some (.int a5), none, some (.int a7), some (.int a8), some (.int (v1 - v2)), none, none], [.int a7, .int 69, .ref 47, .ref 36], qp_mk I2 J2)) (by with_unfolding_all rfl) hd1 trivial ?_
    obtain ⟨v3, I3, J3, e3, h⟩ := qp_bd_s h
    refine qp_cV qp_ok206 (rest := []) (oj := 10) qp_f175 rfl rfl (gM_serve_36_47 l G 69 a7 I2 J2 e3 (Nat.le_refl 2)) rfl rfl rfl rfl (Nat.le_trans (by decide) hd) ?_
    refine qp_run_E qp_ok206 2 (c' := (215, [some (.ref 36), none, none, some (.int a3), some (.int a4), some (.int a5), none, some (.int a7), some (.int a8), some (.int (v1 - v2)), none, none], [.int 1, .int (v1 - v2)], qp_mk I3 J3)) (by with_unfolding_all rfl) hd1 trivial ?_
    refine qp_br_E qp_ok206 (f := (v1 - v2) = 1) (ct := (224, [some (.ref 36), none, none, some (.int a3), some (.int a4), some (.int a5), none, some (.int a7), some (.int a8), some (.int (v1 - v2)), none, none], [], qp_mk I3 J3)) (cf := (218, [some (.ref 36), none, none, some (.int a3), some (.int a4), some (.int a5), none, some (.int a7), some (.int a8), some (.int (v1 - v2)), none, none], [], qp_mk I3 J3)) (by with_unfolding_all rfl) (fun h2 => ?_) (fun h2 => ?_)
    · replace h := qp_ift h2 h
      obtain ⟨h3, h⟩ := qp_gd_s h
      refine qp_run_E qp_ok206 8 (f := vp_in a5 6 ∧ vp_in a5 6 ∧ True) (c' := (238, [some (.ref 36), none, none, some (.int a3), some (.int a4), some (.int a5), none, some (.int a7), some (.int a8), some (.int (v1 - v2)), none, none], [.int (I3 51 (Int32.toNatClampNeg a5)), .int (I3 48 (Int32.toNatClampNeg a5))], qp_mk I3 J3)) (by with_unfolding_all rfl) hd1 ⟨(qp_vin (c := 6) (by decide) h3.1 h3.2), (qp_vin (c := 6) (by decide) h3.1 h3.2), trivial⟩ ?_
      refine qp_br_E qp_ok206 (f := ¬ (I3 48 (Int32.toNatClampNeg a5)) = (I3 51 (Int32.toNatClampNeg a5))) (ct := (245, [some (.ref 36), none, none, some (.int a3), some (.int a4), some (.int a5), none, some (.int a7), some (.int a8), some (.int (v1 - v2)), none, none], [], qp_mk I3 J3)) (cf := (241, [some (.ref 36), none, none, some (.int a3), some (.int a4), some (.int a5), none, some (.int a7), some (.int a8), some (.int (v1 - v2)), none, none], [], qp_mk I3 J3)) (by with_unfolding_all rfl) (fun h4 => ?_) (fun h4 => ?_)
      · replace h := qp_ift h4 h
        refine qp_run_E qp_ok206 1 (c' := (246, [some (.ref 36), none, none, some (.int a3), some (.int a4), some (.int a5), none, some (.int a7), some (.int a8), some (.int (v1 - v2)), none, none], [.int 0], qp_mk I3 J3)) (by with_unfolding_all rfl) hd1 trivial ?_
        obtain rfl := Option.some.inj h
        exact qp_retZ_E qp_ok206 rfl qp_r206.1 rfl ⟨rfl, rfl⟩ ⟨rfl, rfl⟩
      · replace h := qp_iff h4 h
        refine qp_run_E qp_ok206 2 (c' := (246, [some (.ref 36), none, none, some (.int a3), some (.int a4), some (.int a5), none, some (.int a7), some (.int a8), some (.int (v1 - v2)), none, none], [.int 1], qp_mk I3 J3)) (by with_unfolding_all rfl) hd1 trivial ?_
        obtain rfl := Option.some.inj h
        exact qp_retZ_E qp_ok206 rfl qp_r206.1 rfl ⟨rfl, rfl⟩ ⟨rfl, rfl⟩
    · replace h := qp_iff h2 h
      refine qp_run_E qp_ok206 2 (c' := (221, [some (.ref 36), none, none, some (.int a3), some (.int a4), some (.int a5), none, some (.int a7), some (.int a8), some (.int (v1 - v2)), none, none], [.int (-1), .int (v1 - v2)], qp_mk I3 J3)) (by with_unfolding_all rfl) hd1 trivial ?_
      refine qp_br_E qp_ok206 (f := ¬ (v1 - v2) = (-1)) (ct := (245, [some (.ref 36), none, none, some (.int a3), some (.int a4), some (.int a5), none, some (.int a7), some (.int a8), some (.int (v1 - v2)), none, none], [], qp_mk I3 J3)) (cf := (224, [some (.ref 36), none, none, some (.int a3), some (.int a4), some (.int a5), none, some (.int a7), some (.int a8), some (.int (v1 - v2)), none, none], [], qp_mk I3 J3)) (by with_unfolding_all rfl) (fun h5 => ?_) (fun h5 => ?_)
      · replace h := qp_ift h5 h
        refine qp_run_E qp_ok206 1 (c' := (246, [some (.ref 36), none, none, some (.int a3), some (.int a4), some (.int a5), none, some (.int a7), some (.int a8), some (.int (v1 - v2)), none, none], [.int 0], qp_mk I3 J3)) (by with_unfolding_all rfl) hd1 trivial ?_
        obtain rfl := Option.some.inj h
        exact qp_retZ_E qp_ok206 rfl qp_r206.1 rfl ⟨rfl, rfl⟩ ⟨rfl, rfl⟩
      · replace h := qp_iff h5 h
        obtain ⟨h6, h⟩ := qp_gd_s h
        refine qp_run_E qp_ok206 8 (f := vp_in a5 6 ∧ vp_in a5 6 ∧ True) (c' := (238, [some (.ref 36), none, none, some (.int a3), some (.int a4), some (.int a5), none, some (.int a7), some (.int a8), some (.int (v1 - v2)), none, none], [.int (I3 51 (Int32.toNatClampNeg a5)), .int (I3 48 (Int32.toNatClampNeg a5))], qp_mk I3 J3)) (by with_unfolding_all rfl) hd1 ⟨(qp_vin (c := 6) (by decide) h6.1 h6.2), (qp_vin (c := 6) (by decide) h6.1 h6.2), trivial⟩ ?_
        refine qp_br_E qp_ok206 (f := ¬ (I3 48 (Int32.toNatClampNeg a5)) = (I3 51 (Int32.toNatClampNeg a5))) (ct := (245, [some (.ref 36), none, none, some (.int a3), some (.int a4), some (.int a5), none, some (.int a7), some (.int a8), some (.int (v1 - v2)), none, none], [], qp_mk I3 J3)) (cf := (241, [some (.ref 36), none, none, some (.int a3), some (.int a4), some (.int a5), none, some (.int a7), some (.int a8), some (.int (v1 - v2)), none, none], [], qp_mk I3 J3)) (by with_unfolding_all rfl) (fun h7 => ?_) (fun h7 => ?_)
        · replace h := qp_ift h7 h
          refine qp_run_E qp_ok206 1 (c' := (246, [some (.ref 36), none, none, some (.int a3), some (.int a4), some (.int a5), none, some (.int a7), some (.int a8), some (.int (v1 - v2)), none, none], [.int 0], qp_mk I3 J3)) (by with_unfolding_all rfl) hd1 trivial ?_
          obtain rfl := Option.some.inj h
          exact qp_retZ_E qp_ok206 rfl qp_r206.1 rfl ⟨rfl, rfl⟩ ⟨rfl, rfl⟩
        · replace h := qp_iff h7 h
          refine qp_run_E qp_ok206 2 (c' := (246, [some (.ref 36), none, none, some (.int a3), some (.int a4), some (.int a5), none, some (.int a7), some (.int a8), some (.int (v1 - v2)), none, none], [.int 1], qp_mk I3 J3)) (by with_unfolding_all rfl) hd1 trivial ?_
          obtain rfl := Option.some.inj h
          exact qp_retZ_E qp_ok206 rfl qp_r206.1 rfl ⟨rfl, rfl⟩ ⟨rfl, rfl⟩
  · replace h := qp_iff h1 h
    refine qp_run_E qp_ok206 1 (c' := (171, [some (.ref 36), none, none, some (.int a3), some (.int a4), some (.int a5), none, some (.int a7), some (.int a8), none, none, none], [.int 0], qp_mk I J)) (by with_unfolding_all rfl) hd1 trivial ?_
    obtain rfl := Option.some.inj h
    exact qp_retZ_E qp_ok206 rfl qp_r206.1 rfl ⟨rfl, rfl⟩ ⟨rfl, rfl⟩
def fM_goes_b137  (k68 : Int32 → Int32 → Int32 → Int32 → Int32 → Int32 → Int32 → (Nat → Nat → Int32) → (Nat → Nat → Int64) → Option (Int32 × (Nat → Nat → Int32) × (Nat → Nat → Int64))) (a2 : Int32) (a3 : Int32) (a4 : Int32) (a5 : Int32) (a7 : Int32) (a9 : Int32) (a10 : Int32) (a11 : Int32) (s0 : Int32) (I : Nat → Nat → Int32) (J : Nat → Nat → Int64) : Option (Int32 × (Nat → Nat → Int32) × (Nat → Nat → Int64)) :=
  if s0 = 0 then (
    k68 a2 a3 a4 a5 a7 s0 (a9 + 1) I J
  ) else (
    qp_bd (fM_goTo_47 69 a7 a10 a11 I J) fun _u I1 J1 =>
    k68 a2 a3 a4 a5 a7 s0 (a9 + 1) I1 J1
  )
set_option maxRecDepth 8000 in
theorem gM_goes_b137 {l : Launch} {G : qp_G} {d : Nat} (hd : 3 ≤ d) {r : (Int32 × (Nat → Nat → Int32) × (Nat → Nat → Int64))} {I0 : Nat → Nat → Int32} {J0 : Nat → Nat → Int64}  (k68 : Int32 → Int32 → Int32 → Int32 → Int32 → Int32 → Int32 → (Nat → Nat → Int32) → (Nat → Nat → Int64) → Option (Int32 × (Nat → Nat → Int32) × (Nat → Nat → Int64))) (hk68 : ∀ a2 a3 a4 a5 a7 a8 a9 I J, k68 a2 a3 a4 a5 a7 a8 a9 I J = some r → qp_E l G d 206 (qp_mk I0 J0) 0 0 (qp_R8 (some (.int r.1)) r.2.1 r.2.2) (68, [some (.ref 36), none, some (.int a2), some (.int a3), some (.int a4), some (.int a5), none, some (.int a7), some (.int a8), some (.int a9), none, none], [], qp_mk I J)) : ∀ (a2 : Int32) (a3 : Int32) (a4 : Int32) (a5 : Int32) (a7 : Int32) (a9 : Int32) (a10 : Int32) (a11 : Int32) (s0 : Int32) (I : Nat → Nat → Int32) (J : Nat → Nat → Int64), fM_goes_b137 k68 a2 a3 a4 a5 a7 a9 a10 a11 s0 I J = some r → qp_E l G d 206 (qp_mk I0 J0) 0 0 (qp_R8 (some (.int r.1)) r.2.1 r.2.2) (137, [some (.ref 36), none, some (.int a2), some (.int a3), some (.int a4), some (.int a5), none, some (.int a7), none, some (.int a9), some (.int a10), some (.int a11)], [.int s0], qp_mk I J) := by
  have hd1 : Nat.ble 1 d = true := Nat.ble_eq_true_of_le (Nat.le_trans (by decide) hd)
  intro a2 a3 a4 a5 a7 a9 a10 a11 s0 I J h
  unfold fM_goes_b137 at h
  refine qp_run_E qp_ok206 2 (c' := (141, [some (.ref 36), none, some (.int a2), some (.int a3), some (.int a4), some (.int a5), none, some (.int a7), some (.int s0), some (.int a9), some (.int a10), some (.int a11)], [.int s0], qp_mk I J)) (by with_unfolding_all rfl) hd1 trivial ?_
  refine qp_br_E qp_ok206 (f := s0 = 0) (ct := (159, [some (.ref 36), none, some (.int a2), some (.int a3), some (.int a4), some (.int a5), none, some (.int a7), some (.int s0), some (.int a9), some (.int a10), some (.int a11)], [], qp_mk I J)) (cf := (144, [some (.ref 36), none, some (.int a2), some (.int a3), some (.int a4), some (.int a5), none, some (.int a7), some (.int s0), some (.int a9), some (.int a10), some (.int a11)], [], qp_mk I J)) (by with_unfolding_all rfl) (fun h1 => ?_) (fun h1 => ?_)
  · replace h := qp_ift h1 h
    refine qp_run_E qp_ok206 2 (c' := (68, [some (.ref 36), none, some (.int a2), some (.int a3), some (.int a4), some (.int a5), none, some (.int a7), some (.int s0), some (.int (a9 + 1)), some (.int a10), some (.int a11)], [], qp_mk I J)) (by with_unfolding_all rfl) hd1 trivial ?_
    exact qp_E_fg [true, false, true, true, true, true, false, true, true, true, false, false] (hk68 a2 a3 a4 a5 a7 s0 (a9 + 1) I J h)
  · replace h := qp_iff h1 h
    refine qp_run_E qp_ok206 6 (c' := (156, [some (.ref 36), none, some (.int a2), some (.int a3), some (.int a4), some (.int a5), none, some (.int a7), some (.int s0), some (.int a9), some (.int a10), some (.int a11)], [.int a11, .int a10, .int a7, .int 69, .ref 47], qp_mk I J)) (by with_unfolding_all rfl) hd1 trivial ?_
    obtain ⟨v1, I1, J1, e1, h⟩ := qp_bd_s h
    refine qp_cS qp_ok206 (rest := []) (oj := 10) qp_f189 rfl rfl (gM_goTo_47 l G 69 a7 a10 a11 I J e1 (Nat.le_refl 2)) rfl rfl rfl (Nat.le_trans (by decide) hd) ?_
    refine qp_run_E qp_ok206 2 (c' := (68, [some (.ref 36), none, some (.int a2), some (.int a3), some (.int a4), some (.int a5), none, some (.int a7), some (.int s0), some (.int (a9 + 1)), some (.int a10), some (.int a11)], [], qp_mk I1 J1)) (by with_unfolding_all rfl) hd1 trivial ?_
    exact qp_E_fg [true, false, true, true, true, true, false, true, true, true, false, false] (hk68 a2 a3 a4 a5 a7 s0 (a9 + 1) I1 J1 h)
def fM_goes_b136  (k68 : Int32 → Int32 → Int32 → Int32 → Int32 → Int32 → Int32 → (Nat → Nat → Int32) → (Nat → Nat → Int64) → Option (Int32 × (Nat → Nat → Int32) × (Nat → Nat → Int64))) (a2 : Int32) (a3 : Int32) (a4 : Int32) (a5 : Int32) (a7 : Int32) (a9 : Int32) (a10 : Int32) (a11 : Int32) (I : Nat → Nat → Int32) (J : Nat → Nat → Int64) : Option (Int32 × (Nat → Nat → Int32) × (Nat → Nat → Int64)) :=
  fM_goes_b137 k68 a2 a3 a4 a5 a7 a9 a10 a11 0 I J
set_option maxRecDepth 8000 in
theorem gM_goes_b136 {l : Launch} {G : qp_G} {d : Nat} (hd : 3 ≤ d) {r : (Int32 × (Nat → Nat → Int32) × (Nat → Nat → Int64))} {I0 : Nat → Nat → Int32} {J0 : Nat → Nat → Int64}  (k68 : Int32 → Int32 → Int32 → Int32 → Int32 → Int32 → Int32 → (Nat → Nat → Int32) → (Nat → Nat → Int64) → Option (Int32 × (Nat → Nat → Int32) × (Nat → Nat → Int64))) (hk68 : ∀ a2 a3 a4 a5 a7 a8 a9 I J, k68 a2 a3 a4 a5 a7 a8 a9 I J = some r → qp_E l G d 206 (qp_mk I0 J0) 0 0 (qp_R8 (some (.int r.1)) r.2.1 r.2.2) (68, [some (.ref 36), none, some (.int a2), some (.int a3), some (.int a4), some (.int a5), none, some (.int a7), some (.int a8), some (.int a9), none, none], [], qp_mk I J)) : ∀ (a2 : Int32) (a3 : Int32) (a4 : Int32) (a5 : Int32) (a7 : Int32) (a9 : Int32) (a10 : Int32) (a11 : Int32) (I : Nat → Nat → Int32) (J : Nat → Nat → Int64), fM_goes_b136 k68 a2 a3 a4 a5 a7 a9 a10 a11 I J = some r → qp_E l G d 206 (qp_mk I0 J0) 0 0 (qp_R8 (some (.int r.1)) r.2.1 r.2.2) (136, [some (.ref 36), none, some (.int a2), some (.int a3), some (.int a4), some (.int a5), none, some (.int a7), none, some (.int a9), some (.int a10), some (.int a11)], [], qp_mk I J) := by
  have hd1 : Nat.ble 1 d = true := Nat.ble_eq_true_of_le (Nat.le_trans (by decide) hd)
  intro a2 a3 a4 a5 a7 a9 a10 a11 I J h
  unfold fM_goes_b136 at h
  refine qp_run_E qp_ok206 1 (c' := (137, [some (.ref 36), none, some (.int a2), some (.int a3), some (.int a4), some (.int a5), none, some (.int a7), none, some (.int a9), some (.int a10), some (.int a11)], [.int 0], qp_mk I J)) (by with_unfolding_all rfl) hd1 trivial ?_
  exact gM_goes_b137 hd k68 hk68 a2 a3 a4 a5 a7 a9 a10 a11 0 I J h
def fM_goes_b68  : Nat → Int32 → Int32 → Int32 → Int32 → Int32 → Int32 → Int32 → (Nat → Nat → Int32) → (Nat → Nat → Int64) → Option (Int32 × (Nat → Nat → Int32) × (Nat → Nat → Int64))
  | 0, _, _, _, _, _, _, _, _, _ => none
  | n + 1, a2, a3, a4, a5, a7, a8, a9, I, J =>
    if a2 ≤ a9 then (
      fM_goes_b165 a3 a4 a5 a7 a8 I J
    ) else (
      if a8 = 0 then (
        fM_goes_b165 a3 a4 a5 a7 a8 I J
      ) else (
        qp_gd ((0 ≤ a9 ∧ a9 < 3)) <|
        if a7 ≤ ((I 52 (Int32.toNatClampNeg a9)) / 8) then (
          fM_goes_b136 (fun a0 a1 a2 a3 a4 a5 a6 I J => fM_goes_b68 n a0 a1 a2 a3 a4 a5 a6 I J) a2 a3 a4 a5 a7 a9 ((I 52 (Int32.toNatClampNeg a9)) / 8) ((I 52 (Int32.toNatClampNeg a9)) - (I 52 (Int32.toNatClampNeg a9)) / 8 * 8) I J
        ) else (
          if a7 ≤ ((I 52 (Int32.toNatClampNeg a9)) - (I 52 (Int32.toNatClampNeg a9)) / 8 * 8) then (
            fM_goes_b136 (fun a0 a1 a2 a3 a4 a5 a6 I J => fM_goes_b68 n a0 a1 a2 a3 a4 a5 a6 I J) a2 a3 a4 a5 a7 a9 ((I 52 (Int32.toNatClampNeg a9)) / 8) ((I 52 (Int32.toNatClampNeg a9)) - (I 52 (Int32.toNatClampNeg a9)) / 8 * 8) I J
          ) else (
            qp_gd ((0 ≤ ((69 : Int32) + ((I 52 (Int32.toNatClampNeg a9)) - (I 52 (Int32.toNatClampNeg a9)) / 8 * 8)) ∧ ((69 : Int32) + ((I 52 (Int32.toNatClampNeg a9)) - (I 52 (Int32.toNatClampNeg a9)) / 8 * 8)) < 75)) <|
            if (I 47 (Int32.toNatClampNeg ((69 : Int32) + ((I 52 (Int32.toNatClampNeg a9)) - (I 52 (Int32.toNatClampNeg a9)) / 8 * 8)))) = ((I 52 (Int32.toNatClampNeg a9)) / 8) then (
              fM_goes_b136 (fun a0 a1 a2 a3 a4 a5 a6 I J => fM_goes_b68 n a0 a1 a2 a3 a4 a5 a6 I J) a2 a3 a4 a5 a7 a9 ((I 52 (Int32.toNatClampNeg a9)) / 8) ((I 52 (Int32.toNatClampNeg a9)) - (I 52 (Int32.toNatClampNeg a9)) / 8 * 8) I J
            ) else (
              fM_goes_b137 (fun a0 a1 a2 a3 a4 a5 a6 I J => fM_goes_b68 n a0 a1 a2 a3 a4 a5 a6 I J) a2 a3 a4 a5 a7 a9 ((I 52 (Int32.toNatClampNeg a9)) / 8) ((I 52 (Int32.toNatClampNeg a9)) - (I 52 (Int32.toNatClampNeg a9)) / 8 * 8) 1 I J
            )
          )
        )
      )
    )
set_option maxRecDepth 8000 in
theorem gM_goes_b68 {l : Launch} {G : qp_G} {d : Nat} (hd : 3 ≤ d) {r : (Int32 × (Nat → Nat → Int32) × (Nat → Nat → Int64))} {I0 : Nat → Nat → Int32} {J0 : Nat → Nat → Int64}   : ∀ (n : Nat) (a2 : Int32) (a3 : Int32) (a4 : Int32) (a5 : Int32) (a7 : Int32) (a8 : Int32) (a9 : Int32) (I : Nat → Nat → Int32) (J : Nat → Nat → Int64), fM_goes_b68  n a2 a3 a4 a5 a7 a8 a9 I J = some r → qp_E l G d 206 (qp_mk I0 J0) 0 0 (qp_R8 (some (.int r.1)) r.2.1 r.2.2) (68, [some (.ref 36), none, some (.int a2), some (.int a3), some (.int a4), some (.int a5), none, some (.int a7), some (.int a8), some (.int a9), none, none], [], qp_mk I J) := by
  have hd1 : Nat.ble 1 d = true := Nat.ble_eq_true_of_le (Nat.le_trans (by decide) hd)
  intro n
  induction n with
  | zero => intro a2 a3 a4 a5 a7 a8 a9 I J h; exact absurd h (by simp [fM_goes_b68])
  | succ n ih =>
    intro a2 a3 a4 a5 a7 a8 a9 I J h
    rw [fM_goes_b68] at h
    refine qp_run_E qp_ok206 2 (c' := (71, [some (.ref 36), none, some (.int a2), some (.int a3), some (.int a4), some (.int a5), none, some (.int a7), some (.int a8), some (.int a9), none, none], [.int a2, .int a9], qp_mk I J)) (by with_unfolding_all rfl) hd1 trivial ?_
    refine qp_br_E qp_ok206 (f := a2 ≤ a9) (ct := (165, [some (.ref 36), none, some (.int a2), some (.int a3), some (.int a4), some (.int a5), none, some (.int a7), some (.int a8), some (.int a9), none, none], [], qp_mk I J)) (cf := (74, [some (.ref 36), none, some (.int a2), some (.int a3), some (.int a4), some (.int a5), none, some (.int a7), some (.int a8), some (.int a9), none, none], [], qp_mk I J)) (by with_unfolding_all rfl) (fun h1 => ?_) (fun h1 => ?_)
    · replace h := qp_ift h1 h
      exact qp_E_fg [true, false, false, true, true, true, false, true, true, false, false, false] (gM_goes_b165 hd a3 a4 a5 a7 a8 I J h)
    · replace h := qp_iff h1 h
      refine qp_run_E qp_ok206 1 (c' := (76, [some (.ref 36), none, some (.int a2), some (.int a3), some (.int a4), some (.int a5), none, some (.int a7), some (.int a8), some (.int a9), none, none], [.int a8], qp_mk I J)) (by with_unfolding_all rfl) hd1 trivial ?_
      refine qp_br_E qp_ok206 (f := a8 = 0) (ct := (165, [some (.ref 36), none, some (.int a2), some (.int a3), some (.int a4), some (.int a5), none, some (.int a7), some (.int a8), some (.int a9), none, none], [], qp_mk I J)) (cf := (79, [some (.ref 36), none, some (.int a2), some (.int a3), some (.int a4), some (.int a5), none, some (.int a7), some (.int a8), some (.int a9), none, none], [], qp_mk I J)) (by with_unfolding_all rfl) (fun h2 => ?_) (fun h2 => ?_)
      · replace h := qp_ift h2 h
        exact qp_E_fg [true, false, false, true, true, true, false, true, true, false, false, false] (gM_goes_b165 hd a3 a4 a5 a7 a8 I J h)
      · replace h := qp_iff h2 h
        obtain ⟨h3, h⟩ := qp_gd_s h
        refine qp_run_E qp_ok206 16 (f := vp_in a9 3 ∧ ¬ (8 : Int32) = 0 ∧ vp_in a9 3 ∧ ¬ (8 : Int32) = 0 ∧ True) (c' := (107, [some (.ref 36), none, some (.int a2), some (.int a3), some (.int a4), some (.int a5), none, some (.int a7), some (.int a8), some (.int a9), some (.int ((I 52 (Int32.toNatClampNeg a9)) / 8)), some (.int ((I 52 (Int32.toNatClampNeg a9)) - (I 52 (Int32.toNatClampNeg a9)) / 8 * 8))], [.int a7, .int ((I 52 (Int32.toNatClampNeg a9)) / 8)], qp_mk I J)) (by with_unfolding_all rfl) hd1 ⟨(qp_vin (c := 3) (by decide) h3.1 h3.2), (by decide), (qp_vin (c := 3) (by decide) h3.1 h3.2), (by decide), trivial⟩ ?_
        refine qp_br_E qp_ok206 (f := a7 ≤ ((I 52 (Int32.toNatClampNeg a9)) / 8)) (ct := (136, [some (.ref 36), none, some (.int a2), some (.int a3), some (.int a4), some (.int a5), none, some (.int a7), some (.int a8), some (.int a9), some (.int ((I 52 (Int32.toNatClampNeg a9)) / 8)), some (.int ((I 52 (Int32.toNatClampNeg a9)) - (I 52 (Int32.toNatClampNeg a9)) / 8 * 8))], [], qp_mk I J)) (cf := (110, [some (.ref 36), none, some (.int a2), some (.int a3), some (.int a4), some (.int a5), none, some (.int a7), some (.int a8), some (.int a9), some (.int ((I 52 (Int32.toNatClampNeg a9)) / 8)), some (.int ((I 52 (Int32.toNatClampNeg a9)) - (I 52 (Int32.toNatClampNeg a9)) / 8 * 8))], [], qp_mk I J)) (by with_unfolding_all rfl) (fun h4 => ?_) (fun h4 => ?_)
        · replace h := qp_ift h4 h
          exact qp_E_fg [true, false, true, true, true, true, false, true, false, true, true, true] (gM_goes_b136 hd (fun a0 a1 a2 a3 a4 a5 a6 I J => fM_goes_b68 n a0 a1 a2 a3 a4 a5 a6 I J) (fun a0 a1 a2 a3 a4 a5 a6 I J h => ih a0 a1 a2 a3 a4 a5 a6 I J h) a2 a3 a4 a5 a7 a9 ((I 52 (Int32.toNatClampNeg a9)) / 8) ((I 52 (Int32.toNatClampNeg a9)) - (I 52 (Int32.toNatClampNeg a9)) / 8 * 8) I J h)
        · replace h := qp_iff h4 h
          refine qp_run_E qp_ok206 2 (c' := (114, [some (.ref 36), none, some (.int a2), some (.int a3), some (.int a4), some (.int a5), none, some (.int a7), some (.int a8), some (.int a9), some (.int ((I 52 (Int32.toNatClampNeg a9)) / 8)), some (.int ((I 52 (Int32.toNatClampNeg a9)) - (I 52 (Int32.toNatClampNeg a9)) / 8 * 8))], [.int a7, .int ((I 52 (Int32.toNatClampNeg a9)) - (I 52 (Int32.toNatClampNeg a9)) / 8 * 8)], qp_mk I J)) (by with_unfolding_all rfl) hd1 trivial ?_
          refine qp_br_E qp_ok206 (f := a7 ≤ ((I 52 (Int32.toNatClampNeg a9)) - (I 52 (Int32.toNatClampNeg a9)) / 8 * 8)) (ct := (136, [some (.ref 36), none, some (.int a2), some (.int a3), some (.int a4), some (.int a5), none, some (.int a7), some (.int a8), some (.int a9), some (.int ((I 52 (Int32.toNatClampNeg a9)) / 8)), some (.int ((I 52 (Int32.toNatClampNeg a9)) - (I 52 (Int32.toNatClampNeg a9)) / 8 * 8))], [], qp_mk I J)) (cf := (117, [some (.ref 36), none, some (.int a2), some (.int a3), some (.int a4), some (.int a5), none, some (.int a7), some (.int a8), some (.int a9), some (.int ((I 52 (Int32.toNatClampNeg a9)) / 8)), some (.int ((I 52 (Int32.toNatClampNeg a9)) - (I 52 (Int32.toNatClampNeg a9)) / 8 * 8))], [], qp_mk I J)) (by with_unfolding_all rfl) (fun h5 => ?_) (fun h5 => ?_)
          · replace h := qp_ift h5 h
            exact qp_E_fg [true, false, true, true, true, true, false, true, false, true, true, true] (gM_goes_b136 hd (fun a0 a1 a2 a3 a4 a5 a6 I J => fM_goes_b68 n a0 a1 a2 a3 a4 a5 a6 I J) (fun a0 a1 a2 a3 a4 a5 a6 I J h => ih a0 a1 a2 a3 a4 a5 a6 I J h) a2 a3 a4 a5 a7 a9 ((I 52 (Int32.toNatClampNeg a9)) / 8) ((I 52 (Int32.toNatClampNeg a9)) - (I 52 (Int32.toNatClampNeg a9)) / 8 * 8) I J h)
          · replace h := qp_iff h5 h
            obtain ⟨h6, h⟩ := qp_gd_s h
            refine qp_run_E qp_ok206 7 (f := vp_in ((69 : Int32) + ((I 52 (Int32.toNatClampNeg a9)) - (I 52 (Int32.toNatClampNeg a9)) / 8 * 8)) 75 ∧ True) (c' := (129, [some (.ref 36), none, some (.int a2), some (.int a3), some (.int a4), some (.int a5), none, some (.int a7), some (.int a8), some (.int a9), some (.int ((I 52 (Int32.toNatClampNeg a9)) / 8)), some (.int ((I 52 (Int32.toNatClampNeg a9)) - (I 52 (Int32.toNatClampNeg a9)) / 8 * 8))], [.int ((I 52 (Int32.toNatClampNeg a9)) / 8), .int (I 47 (Int32.toNatClampNeg ((69 : Int32) + ((I 52 (Int32.toNatClampNeg a9)) - (I 52 (Int32.toNatClampNeg a9)) / 8 * 8))))], qp_mk I J)) (by with_unfolding_all rfl) hd1 ⟨(qp_vin (c := 75) (by decide) h6.1 h6.2), trivial⟩ ?_
            refine qp_br_E qp_ok206 (f := (I 47 (Int32.toNatClampNeg ((69 : Int32) + ((I 52 (Int32.toNatClampNeg a9)) - (I 52 (Int32.toNatClampNeg a9)) / 8 * 8)))) = ((I 52 (Int32.toNatClampNeg a9)) / 8)) (ct := (136, [some (.ref 36), none, some (.int a2), some (.int a3), some (.int a4), some (.int a5), none, some (.int a7), some (.int a8), some (.int a9), some (.int ((I 52 (Int32.toNatClampNeg a9)) / 8)), some (.int ((I 52 (Int32.toNatClampNeg a9)) - (I 52 (Int32.toNatClampNeg a9)) / 8 * 8))], [], qp_mk I J)) (cf := (132, [some (.ref 36), none, some (.int a2), some (.int a3), some (.int a4), some (.int a5), none, some (.int a7), some (.int a8), some (.int a9), some (.int ((I 52 (Int32.toNatClampNeg a9)) / 8)), some (.int ((I 52 (Int32.toNatClampNeg a9)) - (I 52 (Int32.toNatClampNeg a9)) / 8 * 8))], [], qp_mk I J)) (by with_unfolding_all rfl) (fun h7 => ?_) (fun h7 => ?_)
            · replace h := qp_ift h7 h
              exact qp_E_fg [true, false, true, true, true, true, false, true, false, true, true, true] (gM_goes_b136 hd (fun a0 a1 a2 a3 a4 a5 a6 I J => fM_goes_b68 n a0 a1 a2 a3 a4 a5 a6 I J) (fun a0 a1 a2 a3 a4 a5 a6 I J h => ih a0 a1 a2 a3 a4 a5 a6 I J h) a2 a3 a4 a5 a7 a9 ((I 52 (Int32.toNatClampNeg a9)) / 8) ((I 52 (Int32.toNatClampNeg a9)) - (I 52 (Int32.toNatClampNeg a9)) / 8 * 8) I J h)
            · replace h := qp_iff h7 h
              refine qp_run_E qp_ok206 2 (c' := (137, [some (.ref 36), none, some (.int a2), some (.int a3), some (.int a4), some (.int a5), none, some (.int a7), some (.int a8), some (.int a9), some (.int ((I 52 (Int32.toNatClampNeg a9)) / 8)), some (.int ((I 52 (Int32.toNatClampNeg a9)) - (I 52 (Int32.toNatClampNeg a9)) / 8 * 8))], [.int 1], qp_mk I J)) (by with_unfolding_all rfl) hd1 trivial ?_
              exact qp_E_fg [true, false, true, true, true, true, false, true, false, true, true, true] (gM_goes_b137 hd (fun a0 a1 a2 a3 a4 a5 a6 I J => fM_goes_b68 n a0 a1 a2 a3 a4 a5 a6 I J) (fun a0 a1 a2 a3 a4 a5 a6 I J h => ih a0 a1 a2 a3 a4 a5 a6 I J h) a2 a3 a4 a5 a7 a9 ((I 52 (Int32.toNatClampNeg a9)) / 8) ((I 52 (Int32.toNatClampNeg a9)) - (I 52 (Int32.toNatClampNeg a9)) / 8 * 8) 1 I J h)
def fM_goes_b19  : Nat → Int32 → Int32 → Int32 → Int32 → Int32 → Int32 → Int32 → Int32 → (Nat → Nat → Int32) → (Nat → Nat → Int64) → Option (Int32 × (Nat → Nat → Int32) × (Nat → Nat → Int64))
  | 0, _, _, _, _, _, _, _, _, _, _ => none
  | n + 1, a2, a3, a4, a5, a6, a7, a8, a9, I, J =>
    if a9 < 0 then (
      qp_bd (fM_layHand I J) fun _u I1 J1 =>
      fM_goes_b68 100000 a2 a3 a4 a5 a7 a8 0 I1 J1
    ) else (
      qp_gd ((0 ≤ a9 ∧ a9 < 3)) <|
      fM_goes_b19 n a2 a3 a4 a5 (a6 / 36) a7 a8 (a9 + (-1)) (qp_up I 52 (Int32.toNatClampNeg a9) (((8 : Int32) * ((a6 - a6 / 36 * 36) / 6)) + (a6 - a6 / 6 * 6))) J
    )
set_option maxRecDepth 8000 in
theorem gM_goes_b19 {l : Launch} {G : qp_G} {d : Nat} (hd : 3 ≤ d) {r : (Int32 × (Nat → Nat → Int32) × (Nat → Nat → Int64))} {I0 : Nat → Nat → Int32} {J0 : Nat → Nat → Int64}   : ∀ (n : Nat) (a2 : Int32) (a3 : Int32) (a4 : Int32) (a5 : Int32) (a6 : Int32) (a7 : Int32) (a8 : Int32) (a9 : Int32) (I : Nat → Nat → Int32) (J : Nat → Nat → Int64), fM_goes_b19  n a2 a3 a4 a5 a6 a7 a8 a9 I J = some r → qp_E l G d 206 (qp_mk I0 J0) 0 0 (qp_R8 (some (.int r.1)) r.2.1 r.2.2) (19, [some (.ref 36), none, some (.int a2), some (.int a3), some (.int a4), some (.int a5), some (.int a6), some (.int a7), some (.int a8), some (.int a9), none, none], [], qp_mk I J) := by
  have hd1 : Nat.ble 1 d = true := Nat.ble_eq_true_of_le (Nat.le_trans (by decide) hd)
  intro n
  induction n with
  | zero => intro a2 a3 a4 a5 a6 a7 a8 a9 I J h; exact absurd h (by simp [fM_goes_b19])
  | succ n ih =>
    intro a2 a3 a4 a5 a6 a7 a8 a9 I J h
    rw [fM_goes_b19] at h
    refine qp_run_E qp_ok206 1 (c' := (21, [some (.ref 36), none, some (.int a2), some (.int a3), some (.int a4), some (.int a5), some (.int a6), some (.int a7), some (.int a8), some (.int a9), none, none], [.int a9], qp_mk I J)) (by with_unfolding_all rfl) hd1 trivial ?_
    refine qp_br_E qp_ok206 (f := a9 < 0) (ct := (61, [some (.ref 36), none, some (.int a2), some (.int a3), some (.int a4), some (.int a5), some (.int a6), some (.int a7), some (.int a8), some (.int a9), none, none], [], qp_mk I J)) (cf := (24, [some (.ref 36), none, some (.int a2), some (.int a3), some (.int a4), some (.int a5), some (.int a6), some (.int a7), some (.int a8), some (.int a9), none, none], [], qp_mk I J)) (by with_unfolding_all rfl) (fun h1 => ?_) (fun h1 => ?_)
    · replace h := qp_ift h1 h
      refine qp_run_E qp_ok206 1 (c' := (62, [some (.ref 36), none, some (.int a2), some (.int a3), some (.int a4), some (.int a5), some (.int a6), some (.int a7), some (.int a8), some (.int a9), none, none], [.ref 36], qp_mk I J)) (by with_unfolding_all rfl) hd1 trivial ?_
      obtain ⟨v1, I1, J1, e1, h⟩ := qp_bd_s h
      refine qp_cV qp_ok206 (rest := []) (oj := 10) qp_f202 rfl rfl (gM_layHand l G I J e1 (Nat.le_refl 1)) rfl rfl rfl rfl (Nat.le_trans (by decide) hd) ?_
      refine qp_run_E qp_ok206 2 (c' := (68, [some (.ref 36), none, some (.int a2), some (.int a3), some (.int a4), some (.int a5), some (.int a6), some (.int a7), some (.int a8), some (.int 0), none, none], [], qp_mk I1 J1)) (by with_unfolding_all rfl) hd1 trivial ?_
      exact qp_E_fg [true, false, true, true, true, true, false, true, true, true, false, false] (gM_goes_b68 hd 100000 a2 a3 a4 a5 a7 a8 0 I1 J1 h)
    · replace h := qp_iff h1 h
      obtain ⟨h2, h⟩ := qp_gd_s h
      refine qp_run_E qp_ok206 21 (f := ¬ (36 : Int32) = 0 ∧ ¬ (6 : Int32) = 0 ∧ ¬ (6 : Int32) = 0 ∧ vp_in a9 3 ∧ ¬ (36 : Int32) = 0 ∧ True) (c' := (19, [some (.ref 36), none, some (.int a2), some (.int a3), some (.int a4), some (.int a5), some (.int (a6 / 36)), some (.int a7), some (.int a8), some (.int (a9 + (-1))), none, none], [], qp_mk (qp_up I 52 (Int32.toNatClampNeg a9) (((8 : Int32) * ((a6 - a6 / 36 * 36) / 6)) + (a6 - a6 / 6 * 6))) J)) (by with_unfolding_all rfl) hd1 ⟨(by decide), (by decide), (by decide), (qp_vin (c := 3) (by decide) h2.1 h2.2), (by decide), trivial⟩ ?_
      exact ih a2 a3 a4 a5 (a6 / 36) a7 a8 (a9 + (-1)) (qp_up I 52 (Int32.toNatClampNeg a9) (((8 : Int32) * ((a6 - a6 / 36 * 36) / 6)) + (a6 - a6 / 6 * 6))) J h
def fM_goes (p1 : Int32) (p2 : Int32) (p3 : Int32) (p4 : Int32) (p5 : Int32) (I : Nat → Nat → Int32) (J : Nat → Nat → Int64) : Option (Int32 × (Nat → Nat → Int32) × (Nat → Nat → Int64)) :=
  fM_goes_b19 100000 p2 p3 p4 p5 p1 (I 37 0) 1 (p2 - 1) I J
set_option maxRecDepth 8000 in
theorem gM_goes (l : Launch) (G : qp_G) (p1 : Int32) (p2 : Int32) (p3 : Int32) (p4 : Int32) (p5 : Int32) (I : Nat → Nat → Int32) (J : Nat → Nat → Int64) {v : Int32} {I' : Nat → Nat → Int32} {J' : Nat → Nat → Int64} (h : fM_goes p1 p2 p3 p4 p5 I J = some (v, I', J')) {d : Nat} (hd : 3 ≤ d) : qp_Met l G d 206 [.ref 36, .int p1, .int p2, .int p3, .int p4, .int p5] (qp_mk I J) 0 0 (qp_R8 (some (.int v)) I' J') := by
  have hd1 : Nat.ble 1 d = true := Nat.ble_eq_true_of_le (Nat.le_trans (by decide) hd)
  refine qp_Met_of (by decide) (by rw [qp_r206.2]; rfl) [some (.ref 36), some (.int p1), some (.int p2), some (.int p3), some (.int p4), some (.int p5), none, none, none, none, none, none] (by rw [qp_r206.2]; rfl) ?_
  unfold fM_goes at h
  refine qp_run_E qp_ok206 13 (f := vp_in 0 75 ∧ True) (c' := (19, [some (.ref 36), some (.int p1), some (.int p2), some (.int p3), some (.int p4), some (.int p5), some (.int p1), some (.int (I 37 0)), some (.int 1), some (.int (p2 - 1)), none, none], [], qp_mk I J)) (by with_unfolding_all rfl) hd1 ⟨(qp_vin (c := 75) (by decide) (by decide) (by decide)), trivial⟩ ?_
  exact qp_E_fg [true, false, true, true, true, true, true, true, true, true, false, false] (gM_goes_b19 hd 100000 p2 p3 p4 p5 p1 (I 37 0) 1 (p2 - 1) I J h)
def fM_wish_b87  : Nat → Int32 → Int32 → Int32 → (Nat → Nat → Int32) → (Nat → Nat → Int64) → Option (Int32 × (Nat → Nat → Int32) × (Nat → Nat → Int64))
  | 0, _, _, _, _, _ => none
  | n + 1, a4, a6, a8, I, J =>
    if a6 ≤ a8 then (
      some (a6, I, J)
    ) else (
      qp_gd ((0 ≤ a8 ∧ a8 < 3) ∧ (0 ≤ (((40 : Int32) * a4) + a8) ∧ (((40 : Int32) * a4) + a8) < 240)) <|
      fM_wish_b87 n a4 a6 (a8 + 1) (qp_up I 40 (Int32.toNatClampNeg (((40 : Int32) * a4) + a8)) (I 52 (Int32.toNatClampNeg a8))) J
    )
set_option maxRecDepth 8000 in
theorem gM_wish_b87 {l : Launch} {G : qp_G} {d : Nat} (hd : 4 ≤ d) {r : (Int32 × (Nat → Nat → Int32) × (Nat → Nat → Int64))} {I0 : Nat → Nat → Int32} {J0 : Nat → Nat → Int64}   : ∀ (n : Nat) (a4 : Int32) (a6 : Int32) (a8 : Int32) (I : Nat → Nat → Int32) (J : Nat → Nat → Int64), fM_wish_b87  n a4 a6 a8 I J = some r → qp_E l G d 205 (qp_mk I0 J0) 0 0 (qp_R8 (some (.int r.1)) r.2.1 r.2.2) (87, [some (.ref 36), none, none, none, some (.int a4), none, some (.int a6), none, some (.int a8)], [], qp_mk I J) := by
  have hd1 : Nat.ble 1 d = true := Nat.ble_eq_true_of_le (Nat.le_trans (by decide) hd)
  intro n
  induction n with
  | zero => intro a4 a6 a8 I J h; exact absurd h (by simp [fM_wish_b87])
  | succ n ih =>
    intro a4 a6 a8 I J h
    rw [fM_wish_b87] at h
    refine qp_run_E qp_ok205 2 (c' := (91, [some (.ref 36), none, none, none, some (.int a4), none, some (.int a6), none, some (.int a8)], [.int a6, .int a8], qp_mk I J)) (by with_unfolding_all rfl) hd1 trivial ?_
    refine qp_br_E qp_ok205 (f := a6 ≤ a8) (ct := (120, [some (.ref 36), none, none, none, some (.int a4), none, some (.int a6), none, some (.int a8)], [], qp_mk I J)) (cf := (94, [some (.ref 36), none, none, none, some (.int a4), none, some (.int a6), none, some (.int a8)], [], qp_mk I J)) (by with_unfolding_all rfl) (fun h1 => ?_) (fun h1 => ?_)
    · replace h := qp_ift h1 h
      refine qp_run_E qp_ok205 1 (c' := (122, [some (.ref 36), none, none, none, some (.int a4), none, some (.int a6), none, some (.int a8)], [.int a6], qp_mk I J)) (by with_unfolding_all rfl) hd1 trivial ?_
      obtain rfl := Option.some.inj h
      exact qp_retI_E qp_ok205 rfl qp_r205.1 ⟨rfl, rfl⟩ ⟨rfl, rfl⟩
    · replace h := qp_iff h1 h
      obtain ⟨h2, h⟩ := qp_gd_s h
      refine qp_run_E qp_ok205 14 (f := vp_in a8 3 ∧ vp_in (((40 : Int32) * a4) + a8) 240 ∧ True) (c' := (87, [some (.ref 36), none, none, none, some (.int a4), none, some (.int a6), none, some (.int (a8 + 1))], [], qp_mk (qp_up I 40 (Int32.toNatClampNeg (((40 : Int32) * a4) + a8)) (I 52 (Int32.toNatClampNeg a8))) J)) (by with_unfolding_all rfl) hd1 ⟨(qp_vin (c := 3) (by decide) h2.1.1 h2.1.2), (qp_vin (c := 240) (by decide) h2.2.1 h2.2.2), trivial⟩ ?_
      exact ih a4 a6 (a8 + 1) (qp_up I 40 (Int32.toNatClampNeg (((40 : Int32) * a4) + a8)) (I 52 (Int32.toNatClampNeg a8))) J h
def fM_wish_b54  (k45 : Int32 → Int32 → Int32 → Int32 → Int32 → Int32 → (Nat → Nat → Int32) → (Nat → Nat → Int64) → Option (Int32 × (Nat → Nat → Int32) × (Nat → Nat → Int64))) : Nat → Int32 → Int32 → Int32 → Int32 → Int32 → Int32 → Int32 → (Nat → Nat → Int32) → (Nat → Nat → Int64) → Option (Int32 × (Nat → Nat → Int32) × (Nat → Nat → Int64))
  | 0, _, _, _, _, _, _, _, _, _ => none
  | n + 1, a1, a2, a3, a4, a5, a6, a7, I, J =>
    if a5 ≤ a7 then (
      k45 a1 a2 a3 a4 (a5 * 36) (a6 + 1) I J
    ) else (
      qp_bd (fM_goes a7 a6 a1 a2 a3 I J) fun v1 I1 J1 =>
      if v1 = 0 then (
        fM_wish_b54 k45 n a1 a2 a3 a4 a5 a6 (a7 + 1) I1 J1
      ) else (
        qp_gd ((0 ≤ a4 ∧ a4 < 6)) <|
        fM_wish_b87 100000 a4 a6 0 (qp_up I1 41 (Int32.toNatClampNeg a4) a6) J1
      )
    )
set_option maxRecDepth 8000 in
theorem gM_wish_b54 {l : Launch} {G : qp_G} {d : Nat} (hd : 4 ≤ d) {r : (Int32 × (Nat → Nat → Int32) × (Nat → Nat → Int64))} {I0 : Nat → Nat → Int32} {J0 : Nat → Nat → Int64}  (k45 : Int32 → Int32 → Int32 → Int32 → Int32 → Int32 → (Nat → Nat → Int32) → (Nat → Nat → Int64) → Option (Int32 × (Nat → Nat → Int32) × (Nat → Nat → Int64))) (hk45 : ∀ a1 a2 a3 a4 a5 a6 I J, k45 a1 a2 a3 a4 a5 a6 I J = some r → qp_E l G d 205 (qp_mk I0 J0) 0 0 (qp_R8 (some (.int r.1)) r.2.1 r.2.2) (45, [some (.ref 36), some (.int a1), some (.int a2), some (.int a3), some (.int a4), some (.int a5), some (.int a6), none, none], [], qp_mk I J)) : ∀ (n : Nat) (a1 : Int32) (a2 : Int32) (a3 : Int32) (a4 : Int32) (a5 : Int32) (a6 : Int32) (a7 : Int32) (I : Nat → Nat → Int32) (J : Nat → Nat → Int64), fM_wish_b54 k45 n a1 a2 a3 a4 a5 a6 a7 I J = some r → qp_E l G d 205 (qp_mk I0 J0) 0 0 (qp_R8 (some (.int r.1)) r.2.1 r.2.2) (54, [some (.ref 36), some (.int a1), some (.int a2), some (.int a3), some (.int a4), some (.int a5), some (.int a6), some (.int a7), none], [], qp_mk I J) := by
  have hd1 : Nat.ble 1 d = true := Nat.ble_eq_true_of_le (Nat.le_trans (by decide) hd)
  intro n
  induction n with
  | zero => intro a1 a2 a3 a4 a5 a6 a7 I J h; exact absurd h (by simp [fM_wish_b54])
  | succ n ih =>
    intro a1 a2 a3 a4 a5 a6 a7 I J h
    rw [fM_wish_b54] at h
    refine qp_run_E qp_ok205 2 (c' := (58, [some (.ref 36), some (.int a1), some (.int a2), some (.int a3), some (.int a4), some (.int a5), some (.int a6), some (.int a7), none], [.int a5, .int a7], qp_mk I J)) (by with_unfolding_all rfl) hd1 trivial ?_
    refine qp_br_E qp_ok205 (f := a5 ≤ a7) (ct := (129, [some (.ref 36), some (.int a1), some (.int a2), some (.int a3), some (.int a4), some (.int a5), some (.int a6), some (.int a7), none], [], qp_mk I J)) (cf := (61, [some (.ref 36), some (.int a1), some (.int a2), some (.int a3), some (.int a4), some (.int a5), some (.int a6), some (.int a7), none], [], qp_mk I J)) (by with_unfolding_all rfl) (fun h1 => ?_) (fun h1 => ?_)
    · replace h := qp_ift h1 h
      refine qp_run_E qp_ok205 6 (c' := (45, [some (.ref 36), some (.int a1), some (.int a2), some (.int a3), some (.int a4), some (.int (a5 * 36)), some (.int (a6 + 1)), some (.int a7), none], [], qp_mk I J)) (by with_unfolding_all rfl) hd1 trivial ?_
      exact qp_E_fg [true, true, true, true, true, true, true, false, false] (hk45 a1 a2 a3 a4 (a5 * 36) (a6 + 1) I J h)
    · replace h := qp_iff h1 h
      refine qp_run_E qp_ok205 6 (c' := (69, [some (.ref 36), some (.int a1), some (.int a2), some (.int a3), some (.int a4), some (.int a5), some (.int a6), some (.int a7), none], [.int a3, .int a2, .int a1, .int a6, .int a7, .ref 36], qp_mk I J)) (by with_unfolding_all rfl) hd1 trivial ?_
      obtain ⟨v1, I1, J1, e1, h⟩ := qp_bd_s h
      refine qp_cV qp_ok205 (rest := []) (oj := 10) qp_f206 rfl rfl (gM_goes l G a7 a6 a1 a2 a3 I J e1 (Nat.le_refl 3)) rfl rfl rfl rfl (Nat.le_trans (by decide) hd) ?_
      refine qp_br_E qp_ok205 (f := v1 = 0) (ct := (123, [some (.ref 36), some (.int a1), some (.int a2), some (.int a3), some (.int a4), some (.int a5), some (.int a6), some (.int a7), none], [], qp_mk I1 J1)) (cf := (75, [some (.ref 36), some (.int a1), some (.int a2), some (.int a3), some (.int a4), some (.int a5), some (.int a6), some (.int a7), none], [], qp_mk I1 J1)) (by with_unfolding_all rfl) (fun h2 => ?_) (fun h2 => ?_)
      · replace h := qp_ift h2 h
        refine qp_run_E qp_ok205 2 (c' := (54, [some (.ref 36), some (.int a1), some (.int a2), some (.int a3), some (.int a4), some (.int a5), some (.int a6), some (.int (a7 + 1)), none], [], qp_mk I1 J1)) (by with_unfolding_all rfl) hd1 trivial ?_
        exact ih a1 a2 a3 a4 a5 a6 (a7 + 1) I1 J1 h
      · replace h := qp_iff h2 h
        obtain ⟨h3, h⟩ := qp_gd_s h
        refine qp_run_E qp_ok205 7 (f := vp_in a4 6 ∧ True) (c' := (87, [some (.ref 36), some (.int a1), some (.int a2), some (.int a3), some (.int a4), some (.int a5), some (.int a6), some (.int a7), some (.int 0)], [], qp_mk (qp_up I1 41 (Int32.toNatClampNeg a4) a6) J1)) (by with_unfolding_all rfl) hd1 ⟨(qp_vin (c := 6) (by decide) h3.1 h3.2), trivial⟩ ?_
        exact qp_E_fg [true, false, false, false, true, false, true, false, true] (gM_wish_b87 hd 100000 a4 a6 0 (qp_up I1 41 (Int32.toNatClampNeg a4) a6) J1 h)
def fM_wish_b45  : Nat → Int32 → Int32 → Int32 → Int32 → Int32 → Int32 → (Nat → Nat → Int32) → (Nat → Nat → Int64) → Option (Int32 × (Nat → Nat → Int32) × (Nat → Nat → Int64))
  | 0, _, _, _, _, _, _, _, _ => none
  | n + 1, a1, a2, a3, a4, a5, a6, I, J =>
    if 3 < a6 then (
      some ((-9), I, J)
    ) else (
      fM_wish_b54 (fun a0 a1 a2 a3 a4 a5 I J => fM_wish_b45 n a0 a1 a2 a3 a4 a5 I J) 100000 a1 a2 a3 a4 a5 a6 0 I J
    )
set_option maxRecDepth 8000 in
theorem gM_wish_b45 {l : Launch} {G : qp_G} {d : Nat} (hd : 4 ≤ d) {r : (Int32 × (Nat → Nat → Int32) × (Nat → Nat → Int64))} {I0 : Nat → Nat → Int32} {J0 : Nat → Nat → Int64}   : ∀ (n : Nat) (a1 : Int32) (a2 : Int32) (a3 : Int32) (a4 : Int32) (a5 : Int32) (a6 : Int32) (I : Nat → Nat → Int32) (J : Nat → Nat → Int64), fM_wish_b45  n a1 a2 a3 a4 a5 a6 I J = some r → qp_E l G d 205 (qp_mk I0 J0) 0 0 (qp_R8 (some (.int r.1)) r.2.1 r.2.2) (45, [some (.ref 36), some (.int a1), some (.int a2), some (.int a3), some (.int a4), some (.int a5), some (.int a6), none, none], [], qp_mk I J) := by
  have hd1 : Nat.ble 1 d = true := Nat.ble_eq_true_of_le (Nat.le_trans (by decide) hd)
  intro n
  induction n with
  | zero => intro a1 a2 a3 a4 a5 a6 I J h; exact absurd h (by simp [fM_wish_b45])
  | succ n ih =>
    intro a1 a2 a3 a4 a5 a6 I J h
    rw [fM_wish_b45] at h
    refine qp_run_E qp_ok205 2 (c' := (48, [some (.ref 36), some (.int a1), some (.int a2), some (.int a3), some (.int a4), some (.int a5), some (.int a6), none, none], [.int 3, .int a6], qp_mk I J)) (by with_unfolding_all rfl) hd1 trivial ?_
    refine qp_br_E qp_ok205 (f := 3 < a6) (ct := (142, [some (.ref 36), some (.int a1), some (.int a2), some (.int a3), some (.int a4), some (.int a5), some (.int a6), none, none], [], qp_mk I J)) (cf := (51, [some (.ref 36), some (.int a1), some (.int a2), some (.int a3), some (.int a4), some (.int a5), some (.int a6), none, none], [], qp_mk I J)) (by with_unfolding_all rfl) (fun h1 => ?_) (fun h1 => ?_)
    · replace h := qp_ift h1 h
      refine qp_run_E qp_ok205 1 (c' := (144, [some (.ref 36), some (.int a1), some (.int a2), some (.int a3), some (.int a4), some (.int a5), some (.int a6), none, none], [.int (-9)], qp_mk I J)) (by with_unfolding_all rfl) hd1 trivial ?_
      obtain rfl := Option.some.inj h
      exact qp_retI_E qp_ok205 rfl qp_r205.1 ⟨rfl, rfl⟩ ⟨rfl, rfl⟩
    · replace h := qp_iff h1 h
      refine qp_run_E qp_ok205 2 (c' := (54, [some (.ref 36), some (.int a1), some (.int a2), some (.int a3), some (.int a4), some (.int a5), some (.int a6), some (.int 0), none], [], qp_mk I J)) (by with_unfolding_all rfl) hd1 trivial ?_
      exact gM_wish_b54 hd (fun a0 a1 a2 a3 a4 a5 I J => fM_wish_b45 n a0 a1 a2 a3 a4 a5 I J) (fun a0 a1 a2 a3 a4 a5 I J h => ih a0 a1 a2 a3 a4 a5 I J h) 100000 a1 a2 a3 a4 a5 a6 0 I J h
def fM_wish (p1 : Int32) (p2 : Int32) (p3 : Int32) (p4 : Int32) (I : Nat → Nat → Int32) (J : Nat → Nat → Int64) : Option (Int32 × (Nat → Nat → Int32) × (Nat → Nat → Int64)) :=
  qp_bd (fM_isOne p1 I J) fun v1 I1 J1 =>
  if v1 = 0 then (
    some ((-1), I1, J1)
  ) else (
    qp_bd (fM_isOne p2 I1 J1) fun v2 I2 J2 =>
    if v2 = 0 then (
      some ((-1), I2, J2)
    ) else (
      if p1 = p2 then (
        some ((-1), I2, J2)
      ) else (
        qp_bd (fM_isOne p3 I2 J2) fun v3 I3 J3 =>
        if v3 = 0 then (
          some ((-1), I3, J3)
        ) else (
          qp_bd (fM_isRow p4 I3 J3) fun v4 I4 J4 =>
          if ¬ v4 = 0 then (
            fM_wish_b45 100000 p1 p2 p3 p4 1 0 I4 J4
          ) else (
            some ((-1), I4, J4)
          )
        )
      )
    )
  )
set_option maxRecDepth 8000 in
theorem gM_wish (l : Launch) (G : qp_G) (p1 : Int32) (p2 : Int32) (p3 : Int32) (p4 : Int32) (I : Nat → Nat → Int32) (J : Nat → Nat → Int64) {v : Int32} {I' : Nat → Nat → Int32} {J' : Nat → Nat → Int64} (h : fM_wish p1 p2 p3 p4 I J = some (v, I', J')) {d : Nat} (hd : 4 ≤ d) : qp_Met l G d 205 [.ref 36, .int p1, .int p2, .int p3, .int p4] (qp_mk I J) 0 0 (qp_R8 (some (.int v)) I' J') := by
  have hd1 : Nat.ble 1 d = true := Nat.ble_eq_true_of_le (Nat.le_trans (by decide) hd)
  refine qp_Met_of (by decide) (by rw [qp_r205.2]; rfl) [some (.ref 36), some (.int p1), some (.int p2), some (.int p3), some (.int p4), none, none, none, none] (by rw [qp_r205.2]; rfl) ?_
  unfold fM_wish at h
  refine qp_run_E qp_ok205 2 (c' := (2, [some (.ref 36), some (.int p1), some (.int p2), some (.int p3), some (.int p4), none, none, none, none], [.int p1, .ref 36], qp_mk I J)) (by with_unfolding_all rfl) hd1 trivial ?_
  obtain ⟨v1, I1, J1, e1, h⟩ := qp_bd_s h
  refine qp_cV qp_ok205 (rest := []) (oj := 10) qp_f172 rfl rfl (gM_isOne l G p1 I J e1 (Nat.le_refl 2)) rfl rfl rfl rfl (Nat.le_trans (by decide) hd) ?_
  refine qp_br_E qp_ok205 (f := v1 = 0) (ct := (37, [some (.ref 36), some (.int p1), some (.int p2), some (.int p3), some (.int p4), none, none, none, none], [], qp_mk I1 J1)) (cf := (8, [some (.ref 36), some (.int p1), some (.int p2), some (.int p3), some (.int p4), none, none, none, none], [], qp_mk I1 J1)) (by with_unfolding_all rfl) (fun h1 => ?_) (fun h1 => ?_)
  · replace h := qp_ift h1 h
    refine qp_run_E qp_ok205 1 (c' := (38, [some (.ref 36), some (.int p1), some (.int p2), some (.int p3), some (.int p4), none, none, none, none], [.int (-1)], qp_mk I1 J1)) (by with_unfolding_all rfl) hd1 trivial ?_
    obtain ⟨rfl, rfl, rfl⟩ := qp_some3 h
    exact qp_retI_E qp_ok205 rfl qp_r205.1 ⟨rfl, rfl⟩ ⟨rfl, rfl⟩
  · replace h := qp_iff h1 h
    refine qp_run_E qp_ok205 2 (c' := (10, [some (.ref 36), some (.int p1), some (.int p2), some (.int p3), some (.int p4), none, none, none, none], [.int p2, .ref 36], qp_mk I1 J1)) (by with_unfolding_all rfl) hd1 trivial ?_
    obtain ⟨v2, I2, J2, e2, h⟩ := qp_bd_s h
    refine qp_cV qp_ok205 (rest := []) (oj := 10) qp_f172 rfl rfl (gM_isOne l G p2 I1 J1 e2 (Nat.le_refl 2)) rfl rfl rfl rfl (Nat.le_trans (by decide) hd) ?_
    refine qp_br_E qp_ok205 (f := v2 = 0) (ct := (37, [some (.ref 36), some (.int p1), some (.int p2), some (.int p3), some (.int p4), none, none, none, none], [], qp_mk I2 J2)) (cf := (16, [some (.ref 36), some (.int p1), some (.int p2), some (.int p3), some (.int p4), none, none, none, none], [], qp_mk I2 J2)) (by with_unfolding_all rfl) (fun h2 => ?_) (fun h2 => ?_)
    · replace h := qp_ift h2 h
      refine qp_run_E qp_ok205 1 (c' := (38, [some (.ref 36), some (.int p1), some (.int p2), some (.int p3), some (.int p4), none, none, none, none], [.int (-1)], qp_mk I2 J2)) (by with_unfolding_all rfl) hd1 trivial ?_
      obtain ⟨rfl, rfl, rfl⟩ := qp_some3 h
      exact qp_retI_E qp_ok205 rfl qp_r205.1 ⟨rfl, rfl⟩ ⟨rfl, rfl⟩
    · replace h := qp_iff h2 h
      refine qp_run_E qp_ok205 2 (c' := (18, [some (.ref 36), some (.int p1), some (.int p2), some (.int p3), some (.int p4), none, none, none, none], [.int p2, .int p1], qp_mk I2 J2)) (by with_unfolding_all rfl) hd1 trivial ?_
      refine qp_br_E qp_ok205 (f := p1 = p2) (ct := (37, [some (.ref 36), some (.int p1), some (.int p2), some (.int p3), some (.int p4), none, none, none, none], [], qp_mk I2 J2)) (cf := (21, [some (.ref 36), some (.int p1), some (.int p2), some (.int p3), some (.int p4), none, none, none, none], [], qp_mk I2 J2)) (by with_unfolding_all rfl) (fun h3 => ?_) (fun h3 => ?_)
      · replace h := qp_ift h3 h
        refine qp_run_E qp_ok205 1 (c' := (38, [some (.ref 36), some (.int p1), some (.int p2), some (.int p3), some (.int p4), none, none, none, none], [.int (-1)], qp_mk I2 J2)) (by with_unfolding_all rfl) hd1 trivial ?_
        obtain ⟨rfl, rfl, rfl⟩ := qp_some3 h
        exact qp_retI_E qp_ok205 rfl qp_r205.1 ⟨rfl, rfl⟩ ⟨rfl, rfl⟩
      · replace h := qp_iff h3 h
        refine qp_run_E qp_ok205 2 (c' := (23, [some (.ref 36), some (.int p1), some (.int p2), some (.int p3), some (.int p4), none, none, none, none], [.int p3, .ref 36], qp_mk I2 J2)) (by with_unfolding_all rfl) hd1 trivial ?_
        obtain ⟨v3, I3, J3, e3, h⟩ := qp_bd_s h
        refine qp_cV qp_ok205 (rest := []) (oj := 10) qp_f172 rfl rfl (gM_isOne l G p3 I2 J2 e3 (Nat.le_refl 2)) rfl rfl rfl rfl (Nat.le_trans (by decide) hd) ?_
        refine qp_br_E qp_ok205 (f := v3 = 0) (ct := (37, [some (.ref 36), some (.int p1), some (.int p2), some (.int p3), some (.int p4), none, none, none, none], [], qp_mk I3 J3)) (cf := (29, [some (.ref 36), some (.int p1), some (.int p2), some (.int p3), some (.int p4), none, none, none, none], [], qp_mk I3 J3)) (by with_unfolding_all rfl) (fun h4 => ?_) (fun h4 => ?_)
        · replace h := qp_ift h4 h
          refine qp_run_E qp_ok205 1 (c' := (38, [some (.ref 36), some (.int p1), some (.int p2), some (.int p3), some (.int p4), none, none, none, none], [.int (-1)], qp_mk I3 J3)) (by with_unfolding_all rfl) hd1 trivial ?_
          obtain ⟨rfl, rfl, rfl⟩ := qp_some3 h
          exact qp_retI_E qp_ok205 rfl qp_r205.1 ⟨rfl, rfl⟩ ⟨rfl, rfl⟩
        · replace h := qp_iff h4 h
          refine qp_run_E qp_ok205 1 (c' := (31, [some (.ref 36), some (.int p1), some (.int p2), some (.int p3), some (.int p4), none, none, none, none], [.int p4], qp_mk I3 J3)) (by with_unfolding_all rfl) hd1 trivial ?_
          obtain ⟨v4, I4, J4, e4, h⟩ := qp_bd_s h
          refine qp_cS qp_ok205 (rest := []) (oj := 10) qp_f149 rfl rfl (gM_isRow l G p4 I3 J3 e4 (Nat.le_refl 2)) rfl rfl rfl (Nat.le_trans (by decide) hd) ?_
          refine qp_br_E qp_ok205 (f := ¬ v4 = 0) (ct := (39, [some (.ref 36), some (.int p1), some (.int p2), some (.int p3), some (.int p4), none, none, none, none], [], qp_mk I4 J4)) (cf := (37, [some (.ref 36), some (.int p1), some (.int p2), some (.int p3), some (.int p4), none, none, none, none], [], qp_mk I4 J4)) (by with_unfolding_all rfl) (fun h5 => ?_) (fun h5 => ?_)
          · replace h := qp_ift h5 h
            refine qp_run_E qp_ok205 4 (c' := (45, [some (.ref 36), some (.int p1), some (.int p2), some (.int p3), some (.int p4), some (.int 1), some (.int 0), none, none], [], qp_mk I4 J4)) (by with_unfolding_all rfl) hd1 trivial ?_
            exact gM_wish_b45 hd 100000 p1 p2 p3 p4 1 0 I4 J4 h
          · replace h := qp_iff h5 h
            refine qp_run_E qp_ok205 1 (c' := (38, [some (.ref 36), some (.int p1), some (.int p2), some (.int p3), some (.int p4), none, none, none, none], [.int (-1)], qp_mk I4 J4)) (by with_unfolding_all rfl) hd1 trivial ?_
            obtain ⟨rfl, rfl, rfl⟩ := qp_some3 h
            exact qp_retI_E qp_ok205 rfl qp_r205.1 ⟨rfl, rfl⟩ ⟨rfl, rfl⟩
def fM_refusesPairs_b45  : Nat → Int32 → Int32 → (Nat → Nat → Int32) → (Nat → Nat → Int64) → Option (Int32 × (Nat → Nat → Int32) × (Nat → Nat → Int64))
  | 0, _, _, _, _ => none
  | n + 1, a1, a2, I, J =>
    qp_gd ((0 ≤ a1 ∧ a1 < 6)) <|
    if (I 41 (Int32.toNatClampNeg a1)) ≤ a2 then (
      some (0, I, J)
    ) else (
      qp_gd ((0 ≤ (((40 : Int32) * a1) + a2) ∧ (((40 : Int32) * a1) + a2) < 240)) <|
      if ¬ (a2 - a2 / 2 * 2) = 0 then (
        qp_bd (fM_in (Int32.toInt64 (I 40 (Int32.toNatClampNeg (((40 : Int32) * a1) + a2)))) 0 9 I J) fun v1 I1 J1 =>
        if ¬ v1 = 0 then (
          fM_refusesPairs_b45 n a1 (a2 + 1) I1 J1
        ) else (
          qp_bd (fM_finds 3 I1 J1) fun v2 I2 J2 =>
          some (v2, I2, J2)
        )
      ) else (
        qp_bd (fM_in (Int32.toInt64 (I 40 (Int32.toNatClampNeg (((40 : Int32) * a1) + a2)))) 0 (Int32.toInt64 ((I 37 0) - 1)) I J) fun v3 I3 J3 =>
        if ¬ v3 = 0 then (
          fM_refusesPairs_b45 n a1 (a2 + 1) I3 J3
        ) else (
          qp_bd (fM_finds 3 I3 J3) fun v4 I4 J4 =>
          some (v4, I4, J4)
        )
      )
    )
set_option maxRecDepth 8000 in
theorem gM_refusesPairs_b45 {l : Launch} {G : qp_G} {d : Nat} (hd : 2 ≤ d) {r : (Int32 × (Nat → Nat → Int32) × (Nat → Nat → Int64))} {I0 : Nat → Nat → Int32} {J0 : Nat → Nat → Int64}   : ∀ (n : Nat) (a1 : Int32) (a2 : Int32) (I : Nat → Nat → Int32) (J : Nat → Nat → Int64), fM_refusesPairs_b45  n a1 a2 I J = some r → qp_E l G d 208 (qp_mk I0 J0) 0 0 (qp_R8 (some (.int r.1)) r.2.1 r.2.2) (45, [some (.ref 36), some (.int a1), some (.int a2)], [], qp_mk I J) := by
  have hd1 : Nat.ble 1 d = true := Nat.ble_eq_true_of_le (Nat.le_trans (by decide) hd)
  intro n
  induction n with
  | zero => intro a1 a2 I J h; exact absurd h (by simp [fM_refusesPairs_b45])
  | succ n ih =>
    intro a1 a2 I J h
    rw [fM_refusesPairs_b45] at h
    obtain ⟨h1, h⟩ := qp_gd_s h
    refine qp_run_E qp_ok208 5 (f := vp_in a1 6 ∧ True) (c' := (52, [some (.ref 36), some (.int a1), some (.int a2)], [.int (I 41 (Int32.toNatClampNeg a1)), .int a2], qp_mk I J)) (by with_unfolding_all rfl) hd1 ⟨(qp_vin (c := 6) (by decide) h1.1 h1.2), trivial⟩ ?_
    refine qp_br_E qp_ok208 (f := (I 41 (Int32.toNatClampNeg a1)) ≤ a2) (ct := (107, [some (.ref 36), some (.int a1), some (.int a2)], [], qp_mk I J)) (cf := (55, [some (.ref 36), some (.int a1), some (.int a2)], [], qp_mk I J)) (by with_unfolding_all rfl) (fun h2 => ?_) (fun h2 => ?_)
    · replace h := qp_ift h2 h
      refine qp_run_E qp_ok208 1 (c' := (108, [some (.ref 36), some (.int a1), some (.int a2)], [.int 0], qp_mk I J)) (by with_unfolding_all rfl) hd1 trivial ?_
      obtain rfl := Option.some.inj h
      exact qp_retI_E qp_ok208 rfl qp_r208.1 ⟨rfl, rfl⟩ ⟨rfl, rfl⟩
    · replace h := qp_iff h2 h
      obtain ⟨h3, h⟩ := qp_gd_s h
      refine qp_run_E qp_ok208 13 (f := vp_in (((40 : Int32) * a1) + a2) 240 ∧ ¬ (2 : Int32) = 0 ∧ True) (c' := (71, [some (.ref 36), some (.int a1), some (.int a2)], [.int (a2 - a2 / 2 * 2), .long 0, .long (Int32.toInt64 (I 40 (Int32.toNatClampNeg (((40 : Int32) * a1) + a2))))], qp_mk I J)) (by with_unfolding_all rfl) hd1 ⟨(qp_vin (c := 240) (by decide) h3.1 h3.2), (by decide), trivial⟩ ?_
      refine qp_br_E qp_ok208 (f := ¬ (a2 - a2 / 2 * 2) = 0) (ct := (86, [some (.ref 36), some (.int a1), some (.int a2)], [.long 0, .long (Int32.toInt64 (I 40 (Int32.toNatClampNeg (((40 : Int32) * a1) + a2))))], qp_mk I J)) (cf := (74, [some (.ref 36), some (.int a1), some (.int a2)], [.long 0, .long (Int32.toInt64 (I 40 (Int32.toNatClampNeg (((40 : Int32) * a1) + a2))))], qp_mk I J)) (by with_unfolding_all rfl) (fun h4 => ?_) (fun h4 => ?_)
      · replace h := qp_ift h4 h
        refine qp_run_E qp_ok208 1 (c' := (89, [some (.ref 36), some (.int a1), some (.int a2)], [.long 9, .long 0, .long (Int32.toInt64 (I 40 (Int32.toNatClampNeg (((40 : Int32) * a1) + a2))))], qp_mk I J)) (by with_unfolding_all rfl) hd1 trivial ?_
        obtain ⟨v1, I1, J1, e1, h⟩ := qp_bd_s h
        refine qp_cS qp_ok208 (rest := []) (oj := 10) qp_f150 rfl rfl (gM_in l G (Int32.toInt64 (I 40 (Int32.toNatClampNeg (((40 : Int32) * a1) + a2)))) 0 9 I J e1 (Nat.le_refl 1)) rfl rfl rfl (Nat.le_trans (by decide) hd) ?_
        refine qp_br_E qp_ok208 (f := ¬ v1 = 0) (ct := (101, [some (.ref 36), some (.int a1), some (.int a2)], [], qp_mk I1 J1)) (cf := (95, [some (.ref 36), some (.int a1), some (.int a2)], [], qp_mk I1 J1)) (by with_unfolding_all rfl) (fun h5 => ?_) (fun h5 => ?_)
        · replace h := qp_ift h5 h
          refine qp_run_E qp_ok208 2 (c' := (45, [some (.ref 36), some (.int a1), some (.int (a2 + 1))], [], qp_mk I1 J1)) (by with_unfolding_all rfl) hd1 trivial ?_
          exact ih a1 (a2 + 1) I1 J1 h
        · replace h := qp_iff h5 h
          refine qp_run_E qp_ok208 2 (c' := (97, [some (.ref 36), some (.int a1), some (.int a2)], [.int 3, .ref 36], qp_mk I1 J1)) (by with_unfolding_all rfl) hd1 trivial ?_
          obtain ⟨v2, I2, J2, e2, h⟩ := qp_bd_s h
          refine qp_cV qp_ok208 (rest := []) (oj := 10) qp_f151 rfl rfl (gM_finds l G 3 I1 J1 e2 (Nat.le_refl 1)) rfl rfl rfl rfl (Nat.le_trans (by decide) hd) ?_
          obtain rfl := Option.some.inj h
          exact qp_retI_E qp_ok208 rfl qp_r208.1 ⟨rfl, rfl⟩ ⟨rfl, rfl⟩
      · replace h := qp_iff h4 h
        refine qp_run_E qp_ok208 8 (f := vp_in 0 75 ∧ True) (c' := (89, [some (.ref 36), some (.int a1), some (.int a2)], [.long (Int32.toInt64 ((I 37 0) - 1)), .long 0, .long (Int32.toInt64 (I 40 (Int32.toNatClampNeg (((40 : Int32) * a1) + a2))))], qp_mk I J)) (by with_unfolding_all rfl) hd1 ⟨(qp_vin (c := 75) (by decide) (by decide) (by decide)), trivial⟩ ?_
        obtain ⟨v3, I3, J3, e3, h⟩ := qp_bd_s h
        refine qp_cS qp_ok208 (rest := []) (oj := 10) qp_f150 rfl rfl (gM_in l G (Int32.toInt64 (I 40 (Int32.toNatClampNeg (((40 : Int32) * a1) + a2)))) 0 (Int32.toInt64 ((I 37 0) - 1)) I J e3 (Nat.le_refl 1)) rfl rfl rfl (Nat.le_trans (by decide) hd) ?_
        refine qp_br_E qp_ok208 (f := ¬ v3 = 0) (ct := (101, [some (.ref 36), some (.int a1), some (.int a2)], [], qp_mk I3 J3)) (cf := (95, [some (.ref 36), some (.int a1), some (.int a2)], [], qp_mk I3 J3)) (by with_unfolding_all rfl) (fun h6 => ?_) (fun h6 => ?_)
        · replace h := qp_ift h6 h
          refine qp_run_E qp_ok208 2 (c' := (45, [some (.ref 36), some (.int a1), some (.int (a2 + 1))], [], qp_mk I3 J3)) (by with_unfolding_all rfl) hd1 trivial ?_
          exact ih a1 (a2 + 1) I3 J3 h
        · replace h := qp_iff h6 h
          refine qp_run_E qp_ok208 2 (c' := (97, [some (.ref 36), some (.int a1), some (.int a2)], [.int 3, .ref 36], qp_mk I3 J3)) (by with_unfolding_all rfl) hd1 trivial ?_
          obtain ⟨v4, I4, J4, e4, h⟩ := qp_bd_s h
          refine qp_cV qp_ok208 (rest := []) (oj := 10) qp_f151 rfl rfl (gM_finds l G 3 I3 J3 e4 (Nat.le_refl 1)) rfl rfl rfl rfl (Nat.le_trans (by decide) hd) ?_
          obtain rfl := Option.some.inj h
          exact qp_retI_E qp_ok208 rfl qp_r208.1 ⟨rfl, rfl⟩ ⟨rfl, rfl⟩
def fM_refusesPairs (p1 : Int32) (I : Nat → Nat → Int32) (J : Nat → Nat → Int64) : Option (Int32 × (Nat → Nat → Int32) × (Nat → Nat → Int64)) :=
  qp_gd ((0 ≤ p1 ∧ p1 < 6)) <|
  if 0 ≤ (I 41 (Int32.toNatClampNeg p1)) then (
    qp_gd ((0 ≤ p1 ∧ p1 < 6)) <|
    if ¬ ((I 41 (Int32.toNatClampNeg p1)) - (I 41 (Int32.toNatClampNeg p1)) / 2 * 2) = 0 then (
      qp_bd (fM_finds 5 I J) fun v1 I1 J1 =>
      some (v1, I1, J1)
    ) else (
      qp_gd ((0 ≤ p1 ∧ p1 < 6)) <|
      if (I 41 (Int32.toNatClampNeg p1)) ≤ 16 then (
        fM_refusesPairs_b45 100000 p1 0 I J
      ) else (
        qp_bd (fM_finds 5 I J) fun v2 I2 J2 =>
        some (v2, I2, J2)
      )
    )
  ) else (
    qp_bd (fM_finds 1 I J) fun v3 I3 J3 =>
    some (v3, I3, J3)
  )
set_option maxRecDepth 8000 in
theorem gM_refusesPairs (l : Launch) (G : qp_G) (p1 : Int32) (I : Nat → Nat → Int32) (J : Nat → Nat → Int64) {v : Int32} {I' : Nat → Nat → Int32} {J' : Nat → Nat → Int64} (h : fM_refusesPairs p1 I J = some (v, I', J')) {d : Nat} (hd : 2 ≤ d) : qp_Met l G d 208 [.ref 36, .int p1] (qp_mk I J) 0 0 (qp_R8 (some (.int v)) I' J') := by
  have hd1 : Nat.ble 1 d = true := Nat.ble_eq_true_of_le (Nat.le_trans (by decide) hd)
  refine qp_Met_of (by decide) (by rw [qp_r208.2]; rfl) [some (.ref 36), some (.int p1), none] (by rw [qp_r208.2]; rfl) ?_
  unfold fM_refusesPairs at h
  obtain ⟨h1, h⟩ := qp_gd_s h
  refine qp_run_E qp_ok208 4 (f := vp_in p1 6 ∧ True) (c' := (6, [some (.ref 36), some (.int p1), none], [.int (I 41 (Int32.toNatClampNeg p1))], qp_mk I J)) (by with_unfolding_all rfl) hd1 ⟨(qp_vin (c := 6) (by decide) h1.1 h1.2), trivial⟩ ?_
  refine qp_br_E qp_ok208 (f := 0 ≤ (I 41 (Int32.toNatClampNeg p1))) (ct := (15, [some (.ref 36), some (.int p1), none], [], qp_mk I J)) (cf := (9, [some (.ref 36), some (.int p1), none], [], qp_mk I J)) (by with_unfolding_all rfl) (fun h2 => ?_) (fun h2 => ?_)
  · replace h := qp_ift h2 h
    obtain ⟨h3, h⟩ := qp_gd_s h
    refine qp_run_E qp_ok208 6 (f := vp_in p1 6 ∧ ¬ (2 : Int32) = 0 ∧ True) (c' := (23, [some (.ref 36), some (.int p1), none], [.int ((I 41 (Int32.toNatClampNeg p1)) - (I 41 (Int32.toNatClampNeg p1)) / 2 * 2)], qp_mk I J)) (by with_unfolding_all rfl) hd1 ⟨(qp_vin (c := 6) (by decide) h3.1 h3.2), (by decide), trivial⟩ ?_
    refine qp_br_E qp_ok208 (f := ¬ ((I 41 (Int32.toNatClampNeg p1)) - (I 41 (Int32.toNatClampNeg p1)) / 2 * 2) = 0) (ct := (37, [some (.ref 36), some (.int p1), none], [], qp_mk I J)) (cf := (26, [some (.ref 36), some (.int p1), none], [], qp_mk I J)) (by with_unfolding_all rfl) (fun h4 => ?_) (fun h4 => ?_)
    · replace h := qp_ift h4 h
      refine qp_run_E qp_ok208 2 (c' := (39, [some (.ref 36), some (.int p1), none], [.int 5, .ref 36], qp_mk I J)) (by with_unfolding_all rfl) hd1 trivial ?_
      obtain ⟨v1, I1, J1, e1, h⟩ := qp_bd_s h
      refine qp_cV qp_ok208 (rest := []) (oj := 10) qp_f151 rfl rfl (gM_finds l G 5 I J e1 (Nat.le_refl 1)) rfl rfl rfl rfl (Nat.le_trans (by decide) hd) ?_
      obtain ⟨rfl, rfl, rfl⟩ := qp_some3 h
      exact qp_retI_E qp_ok208 rfl qp_r208.1 ⟨rfl, rfl⟩ ⟨rfl, rfl⟩
    · replace h := qp_iff h4 h
      obtain ⟨h5, h⟩ := qp_gd_s h
      refine qp_run_E qp_ok208 5 (f := vp_in p1 6 ∧ True) (c' := (34, [some (.ref 36), some (.int p1), none], [.int 16, .int (I 41 (Int32.toNatClampNeg p1))], qp_mk I J)) (by with_unfolding_all rfl) hd1 ⟨(qp_vin (c := 6) (by decide) h5.1 h5.2), trivial⟩ ?_
      refine qp_br_E qp_ok208 (f := (I 41 (Int32.toNatClampNeg p1)) ≤ 16) (ct := (43, [some (.ref 36), some (.int p1), none], [], qp_mk I J)) (cf := (37, [some (.ref 36), some (.int p1), none], [], qp_mk I J)) (by with_unfolding_all rfl) (fun h6 => ?_) (fun h6 => ?_)
      · replace h := qp_ift h6 h
        refine qp_run_E qp_ok208 2 (c' := (45, [some (.ref 36), some (.int p1), some (.int 0)], [], qp_mk I J)) (by with_unfolding_all rfl) hd1 trivial ?_
        exact gM_refusesPairs_b45 hd 100000 p1 0 I J h
      · replace h := qp_iff h6 h
        refine qp_run_E qp_ok208 2 (c' := (39, [some (.ref 36), some (.int p1), none], [.int 5, .ref 36], qp_mk I J)) (by with_unfolding_all rfl) hd1 trivial ?_
        obtain ⟨v2, I2, J2, e2, h⟩ := qp_bd_s h
        refine qp_cV qp_ok208 (rest := []) (oj := 10) qp_f151 rfl rfl (gM_finds l G 5 I J e2 (Nat.le_refl 1)) rfl rfl rfl rfl (Nat.le_trans (by decide) hd) ?_
        obtain ⟨rfl, rfl, rfl⟩ := qp_some3 h
        exact qp_retI_E qp_ok208 rfl qp_r208.1 ⟨rfl, rfl⟩ ⟨rfl, rfl⟩
  · replace h := qp_iff h2 h
    refine qp_run_E qp_ok208 2 (c' := (11, [some (.ref 36), some (.int p1), none], [.int 1, .ref 36], qp_mk I J)) (by with_unfolding_all rfl) hd1 trivial ?_
    obtain ⟨v3, I3, J3, e3, h⟩ := qp_bd_s h
    refine qp_cV qp_ok208 (rest := []) (oj := 10) qp_f151 rfl rfl (gM_finds l G 1 I J e3 (Nat.le_refl 1)) rfl rfl rfl rfl (Nat.le_trans (by decide) hd) ?_
    obtain ⟨rfl, rfl, rfl⟩ := qp_some3 h
    exact qp_retI_E qp_ok208 rfl qp_r208.1 ⟨rfl, rfl⟩ ⟨rfl, rfl⟩
def fM_manyOrders_b4  : Nat → Int32 → Int32 → (Nat → Nat → Int32) → (Nat → Nat → Int64) → Option (Int32 × (Nat → Nat → Int32) × (Nat → Nat → Int64))
  | 0, _, _, _, _ => none
  | n + 1, a1, a2, I, J =>
    if (I 37 0) < a2 then (
      some (a1, I, J)
    ) else (
      fM_manyOrders_b4 n (a1 * a2) (a2 + 1) I J
    )
set_option maxRecDepth 8000 in
theorem gM_manyOrders_b4 {l : Launch} {G : qp_G} {d : Nat} (hd : 1 ≤ d) {r : (Int32 × (Nat → Nat → Int32) × (Nat → Nat → Int64))} {I0 : Nat → Nat → Int32} {J0 : Nat → Nat → Int64}   : ∀ (n : Nat) (a1 : Int32) (a2 : Int32) (I : Nat → Nat → Int32) (J : Nat → Nat → Int64), fM_manyOrders_b4  n a1 a2 I J = some r → qp_E l G d 209 (qp_mk I0 J0) 0 0 (qp_R8 (some (.int r.1)) r.2.1 r.2.2) (4, [some (.ref 36), some (.int a1), some (.int a2)], [], qp_mk I J) := by
  have hd1 : Nat.ble 1 d = true := Nat.ble_eq_true_of_le (Nat.le_trans (by decide) hd)
  intro n
  induction n with
  | zero => intro a1 a2 I J h; exact absurd h (by simp [fM_manyOrders_b4])
  | succ n ih =>
    intro a1 a2 I J h
    rw [fM_manyOrders_b4] at h
    refine qp_run_E qp_ok209 5 (f := vp_in 0 75 ∧ True) (c' := (11, [some (.ref 36), some (.int a1), some (.int a2)], [.int (I 37 0), .int a2], qp_mk I J)) (by with_unfolding_all rfl) hd1 ⟨(qp_vin (c := 75) (by decide) (by decide) (by decide)), trivial⟩ ?_
    refine qp_br_E qp_ok209 (f := (I 37 0) < a2) (ct := (24, [some (.ref 36), some (.int a1), some (.int a2)], [], qp_mk I J)) (cf := (14, [some (.ref 36), some (.int a1), some (.int a2)], [], qp_mk I J)) (by with_unfolding_all rfl) (fun h1 => ?_) (fun h1 => ?_)
    · replace h := qp_ift h1 h
      refine qp_run_E qp_ok209 1 (c' := (25, [some (.ref 36), some (.int a1), some (.int a2)], [.int a1], qp_mk I J)) (by with_unfolding_all rfl) hd1 trivial ?_
      obtain rfl := Option.some.inj h
      exact qp_retI_E qp_ok209 rfl qp_r209.1 ⟨rfl, rfl⟩ ⟨rfl, rfl⟩
    · replace h := qp_iff h1 h
      refine qp_run_E qp_ok209 6 (c' := (4, [some (.ref 36), some (.int (a1 * a2)), some (.int (a2 + 1))], [], qp_mk I J)) (by with_unfolding_all rfl) hd1 trivial ?_
      exact ih (a1 * a2) (a2 + 1) I J h
def fM_manyOrders  (I : Nat → Nat → Int32) (J : Nat → Nat → Int64) : Option (Int32 × (Nat → Nat → Int32) × (Nat → Nat → Int64)) :=
  fM_manyOrders_b4 100000 1 2 I J
set_option maxRecDepth 8000 in
theorem gM_manyOrders (l : Launch) (G : qp_G)  (I : Nat → Nat → Int32) (J : Nat → Nat → Int64) {v : Int32} {I' : Nat → Nat → Int32} {J' : Nat → Nat → Int64} (h : fM_manyOrders  I J = some (v, I', J')) {d : Nat} (hd : 1 ≤ d) : qp_Met l G d 209 [.ref 36] (qp_mk I J) 0 0 (qp_R8 (some (.int v)) I' J') := by
  have hd1 : Nat.ble 1 d = true := Nat.ble_eq_true_of_le (Nat.le_trans (by decide) hd)
  refine qp_Met_of (by decide) (by rw [qp_r209.2]; rfl) [some (.ref 36), none, none] (by rw [qp_r209.2]; rfl) ?_
  unfold fM_manyOrders at h
  refine qp_run_E qp_ok209 4 (c' := (4, [some (.ref 36), some (.int 1), some (.int 2)], [], qp_mk I J)) (by with_unfolding_all rfl) hd1 trivial ?_
  exact gM_manyOrders_b4 hd 100000 1 2 I J h
def fM_has (p0 : Int32) (p1 : Int32) (I : Nat → Nat → Int32) (J : Nat → Nat → Int64) : Option (Int32 × (Nat → Nat → Int32) × (Nat → Nat → Int64)) :=
  if ¬ ((p0 >>> (p1 &&& 31)) &&& 1) = 1 then (
    some (0, I, J)
  ) else (
    some (1, I, J)
  )
set_option maxRecDepth 8000 in
theorem gM_has (l : Launch) (G : qp_G) (p0 : Int32) (p1 : Int32) (I : Nat → Nat → Int32) (J : Nat → Nat → Int64) {v : Int32} {I' : Nat → Nat → Int32} {J' : Nat → Nat → Int64} (h : fM_has p0 p1 I J = some (v, I', J')) {d : Nat} (hd : 1 ≤ d) : qp_Met l G d 212 [.int p0, .int p1] (qp_mk I J) 0 0 (qp_R8 (some (.int v)) I' J') := by
  have hd1 : Nat.ble 1 d = true := Nat.ble_eq_true_of_le (Nat.le_trans (by decide) hd)
  refine qp_Met_of (by decide) (by rw [qp_r212.2]; rfl) [some (.int p0), some (.int p1)] (by rw [qp_r212.2]; rfl) ?_
  unfold fM_has at h
  refine qp_run_E qp_ok212 6 (c' := (6, [some (.int p0), some (.int p1)], [.int 1, .int ((p0 >>> (p1 &&& 31)) &&& 1)], qp_mk I J)) (by with_unfolding_all rfl) hd1 trivial ?_
  refine qp_br_E qp_ok212 (f := ¬ ((p0 >>> (p1 &&& 31)) &&& 1) = 1) (ct := (13, [some (.int p0), some (.int p1)], [], qp_mk I J)) (cf := (9, [some (.int p0), some (.int p1)], [], qp_mk I J)) (by with_unfolding_all rfl) (fun h1 => ?_) (fun h1 => ?_)
  · replace h := qp_ift h1 h
    refine qp_run_E qp_ok212 1 (c' := (14, [some (.int p0), some (.int p1)], [.int 0], qp_mk I J)) (by with_unfolding_all rfl) hd1 trivial ?_
    obtain ⟨rfl, rfl, rfl⟩ := qp_some3 h
    exact qp_retZ_E qp_ok212 rfl qp_r212.1 rfl ⟨rfl, rfl⟩ ⟨rfl, rfl⟩
  · replace h := qp_iff h1 h
    refine qp_run_E qp_ok212 2 (c' := (14, [some (.int p0), some (.int p1)], [.int 1], qp_mk I J)) (by with_unfolding_all rfl) hd1 trivial ?_
    obtain ⟨rfl, rfl, rfl⟩ := qp_some3 h
    exact qp_retZ_E qp_ok212 rfl qp_r212.1 rfl ⟨rfl, rfl⟩ ⟨rfl, rfl⟩

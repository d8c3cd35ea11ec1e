/-! THE MODEL'S CONSTRUCTOR -/
def cP42 : Nat → Nat → Option Nat := qp_up cP41 36 0 (some 37)
def cP43 : Nat → Nat → Option Nat := qp_up cP42 36 1 (some 38)
def cP44 : Nat → Nat → Option Nat := qp_up cP43 36 2 (some 39)
def cP45 : Nat → Nat → Option Nat := qp_up cP44 36 3 (some 40)
def cP46 : Nat → Nat → Option Nat := qp_up cP45 36 4 (some 41)
def cP47 : Nat → Nat → Option Nat := qp_up cP46 36 5 (some 42)
def cP48 : Nat → Nat → Option Nat := qp_up cP47 36 6 (some 43)
def cP49 : Nat → Nat → Option Nat := qp_up cP48 36 7 (some 44)
def cJ2 : Nat → Nat → Int64 := qp_up cJ1 36 11 1
def cP50 : Nat → Nat → Option Nat := qp_up cP49 36 12 (some 45)
def cP51 : Nat → Nat → Option Nat := qp_up cP50 36 13 (some 46)
def cP52 : Nat → Nat → Option Nat := qp_up cP51 36 15 (some 47)
def cP53 : Nat → Nat → Option Nat := qp_up cP52 36 16 (some 48)
def cP54 : Nat → Nat → Option Nat := qp_up cP53 36 17 (some 49)
def cP55 : Nat → Nat → Option Nat := qp_up cP54 36 18 (some 50)
def cP56 : Nat → Nat → Option Nat := qp_up cP55 36 19 (some 51)
def cP57 : Nat → Nat → Option Nat := qp_up cP56 36 21 (some 52)
def cP58 : Nat → Nat → Option Nat := qp_up cP57 36 22 (some 53)
def cP59 : Nat → Nat → Option Nat := qp_up cP58 36 23 (some 54)
def cP60 : Nat → Nat → Option Nat := qp_up cP59 36 24 (some 55)
def cP61 : Nat → Nat → Option Nat := qp_up cP60 36 25 (some 56)
def cP62 : Nat → Nat → Option Nat := qp_up cP61 36 26 (some 57)
def cI17 : Nat → Nat → Int32 := qp_up cI16 41 (Int32.toNatClampNeg 0) (-1)
def cI18 : Nat → Nat → Int32 := qp_up cI17 41 (Int32.toNatClampNeg (0 + 1)) (-1)
def cI19 : Nat → Nat → Int32 := qp_up cI18 41 (Int32.toNatClampNeg ((0 + 1) + 1)) (-1)
def cI20 : Nat → Nat → Int32 := qp_up cI19 41 (Int32.toNatClampNeg (((0 + 1) + 1) + 1)) (-1)
def cI21 : Nat → Nat → Int32 := qp_up cI20 41 (Int32.toNatClampNeg ((((0 + 1) + 1) + 1) + 1)) (-1)
def cI22 : Nat → Nat → Int32 := qp_up cI21 41 (Int32.toNatClampNeg (((((0 + 1) + 1) + 1) + 1) + 1)) (-1)
def cI23 : Nat → Nat → Int32 := qp_up cI22 43 (Int32.toNatClampNeg 0) (-1)
def cI24 : Nat → Nat → Int32 := qp_up cI23 43 (Int32.toNatClampNeg (0 + 1)) (-1)
def cI25 : Nat → Nat → Int32 := qp_up cI24 43 (Int32.toNatClampNeg ((0 + 1) + 1)) (-1)
def cI26 : Nat → Nat → Int32 := qp_up cI25 43 (Int32.toNatClampNeg (((0 + 1) + 1) + 1)) (-1)
set_option maxRecDepth 8000 in
theorem cG20 (l : Launch) (G : qp_G) {d : Nat} (hd : 1 ≤ d) : qp_Met l G d 147 [.ref 36] (cI16, cJ1, cP41, qp_S0, 37, 3011) 21 1060 (qc_R none (cI26, cJ2, cP62, qp_S0, 58, 4071)) := by
  have hd1 : Nat.ble 1 d = true := Nat.ble_eq_true_of_le (Nat.le_trans (by decide) hd)
  refine qp_Met_of (by decide) (by rw [qp_r147.2]; rfl) [some (.ref 36), none] (by rw [qp_r147.2]; rfl) ?_
  refine qp_run_E qp_ok147 4 (c' := (7, [some (.ref 36), none], [.int 75, .ref 36], (cI16, cJ1, cP41, qp_S0, 37, 3011))) (by with_unfolding_all rfl) hd1 trivial ?_
  refine qc_newI qp_ok147 (n := 37) (q := 3011) (k := 75) rfl ⟨by decide, by decide, rfl⟩ (fun _ => rfl) (fun _ => rfl) (fun _ => rfl) rfl (by decide +kernel) hd1 ?_
  show qp_E l G d 147 (cI16, cJ1, cP41, qp_S0, 37, 3011) 21 1060 _ (9, [some (.ref 36), none], [.ref 37, .ref 36], (cI16, cJ1, cP41, qp_S0, 38, 3086))
  refine qp_run_E qp_ok147 1 (c' := (12, [some (.ref 36), none], [], (cI16, cJ1, cP42, qp_S0, 38, 3086))) (by with_unfolding_all rfl) hd1 trivial ?_
  refine qp_run_E qp_ok147 2 (c' := (16, [some (.ref 36), none], [.int 225, .ref 36], (cI16, cJ1, cP42, qp_S0, 38, 3086))) (by with_unfolding_all rfl) hd1 trivial ?_
  refine qc_newI qp_ok147 (n := 38) (q := 3086) (k := 225) rfl ⟨by decide, by decide, rfl⟩ (fun _ => rfl) (fun _ => rfl) (fun _ => rfl) rfl (by decide +kernel) hd1 ?_
  show qp_E l G d 147 (cI16, cJ1, cP41, qp_S0, 37, 3011) 21 1060 _ (18, [some (.ref 36), none], [.ref 38, .ref 36], (cI16, cJ1, cP42, qp_S0, 39, 3311))
  refine qp_run_E qp_ok147 1 (c' := (21, [some (.ref 36), none], [], (cI16, cJ1, cP43, qp_S0, 39, 3311))) (by with_unfolding_all rfl) hd1 trivial ?_
  refine qp_run_E qp_ok147 2 (c' := (23, [some (.ref 36), none], [.int 3, .ref 36], (cI16, cJ1, cP43, qp_S0, 39, 3311))) (by with_unfolding_all rfl) hd1 trivial ?_
  refine qc_newB qp_ok147 (n := 39) (q := 3311) (k := 3) rfl ⟨by decide, by decide, rfl⟩ (fun _ => rfl) (fun _ => rfl) (fun _ => rfl) rfl (by decide +kernel) hd1 ?_
  show qp_E l G d 147 (cI16, cJ1, cP41, qp_S0, 37, 3011) 21 1060 _ (25, [some (.ref 36), none], [.ref 39, .ref 36], (cI16, cJ1, cP43, qp_S0, 40, 3314))
  refine qp_run_E qp_ok147 1 (c' := (28, [some (.ref 36), none], [], (cI16, cJ1, cP44, qp_S0, 40, 3314))) (by with_unfolding_all rfl) hd1 trivial ?_
  refine qp_run_E qp_ok147 2 (c' := (32, [some (.ref 36), none], [.int 240, .ref 36], (cI16, cJ1, cP44, qp_S0, 40, 3314))) (by with_unfolding_all rfl) hd1 trivial ?_
  refine qc_newI qp_ok147 (n := 40) (q := 3314) (k := 240) rfl ⟨by decide, by decide, rfl⟩ (fun _ => rfl) (fun _ => rfl) (fun _ => rfl) rfl (by decide +kernel) hd1 ?_
  show qp_E l G d 147 (cI16, cJ1, cP41, qp_S0, 37, 3011) 21 1060 _ (34, [some (.ref 36), none], [.ref 40, .ref 36], (cI16, cJ1, cP44, qp_S0, 41, 3554))
  refine qp_run_E qp_ok147 1 (c' := (37, [some (.ref 36), none], [], (cI16, cJ1, cP45, qp_S0, 41, 3554))) (by with_unfolding_all rfl) hd1 trivial ?_
  refine qp_run_E qp_ok147 2 (c' := (40, [some (.ref 36), none], [.int 6, .ref 36], (cI16, cJ1, cP45, qp_S0, 41, 3554))) (by with_unfolding_all rfl) hd1 trivial ?_
  refine qc_newI qp_ok147 (n := 41) (q := 3554) (k := 6) rfl ⟨by decide, by decide, rfl⟩ (fun _ => rfl) (fun _ => rfl) (fun _ => rfl) rfl (by decide +kernel) hd1 ?_
  show qp_E l G d 147 (cI16, cJ1, cP41, qp_S0, 37, 3011) 21 1060 _ (42, [some (.ref 36), none], [.ref 41, .ref 36], (cI16, cJ1, cP45, qp_S0, 42, 3560))
  refine qp_run_E qp_ok147 1 (c' := (45, [some (.ref 36), none], [], (cI16, cJ1, cP46, qp_S0, 42, 3560))) (by with_unfolding_all rfl) hd1 trivial ?_
  refine qp_run_E qp_ok147 2 (c' := (49, [some (.ref 36), none], [.int 240, .ref 36], (cI16, cJ1, cP46, qp_S0, 42, 3560))) (by with_unfolding_all rfl) hd1 trivial ?_
  refine qc_newI qp_ok147 (n := 42) (q := 3560) (k := 240) rfl ⟨by decide, by decide, rfl⟩ (fun _ => rfl) (fun _ => rfl) (fun _ => rfl) rfl (by decide +kernel) hd1 ?_
  show qp_E l G d 147 (cI16, cJ1, cP41, qp_S0, 37, 3011) 21 1060 _ (51, [some (.ref 36), none], [.ref 42, .ref 36], (cI16, cJ1, cP46, qp_S0, 43, 3800))
  refine qp_run_E qp_ok147 1 (c' := (54, [some (.ref 36), none], [], (cI16, cJ1, cP47, qp_S0, 43, 3800))) (by with_unfolding_all rfl) hd1 trivial ?_
  refine qp_run_E qp_ok147 2 (c' := (56, [some (.ref 36), none], [.int 4, .ref 36], (cI16, cJ1, cP47, qp_S0, 43, 3800))) (by with_unfolding_all rfl) hd1 trivial ?_
  refine qc_newI qp_ok147 (n := 43) (q := 3800) (k := 4) rfl ⟨by decide, by decide, rfl⟩ (fun _ => rfl) (fun _ => rfl) (fun _ => rfl) rfl (by decide +kernel) hd1 ?_
  show qp_E l G d 147 (cI16, cJ1, cP41, qp_S0, 37, 3011) 21 1060 _ (58, [some (.ref 36), none], [.ref 43, .ref 36], (cI16, cJ1, cP47, qp_S0, 44, 3804))
  refine qp_run_E qp_ok147 1 (c' := (61, [some (.ref 36), none], [], (cI16, cJ1, cP48, qp_S0, 44, 3804))) (by with_unfolding_all rfl) hd1 trivial ?_
  refine qp_run_E qp_ok147 2 (c' := (64, [some (.ref 36), none], [.int 6, .ref 36], (cI16, cJ1, cP48, qp_S0, 44, 3804))) (by with_unfolding_all rfl) hd1 trivial ?_
  refine qc_newI qp_ok147 (n := 44) (q := 3804) (k := 6) rfl ⟨by decide, by decide, rfl⟩ (fun _ => rfl) (fun _ => rfl) (fun _ => rfl) rfl (by decide +kernel) hd1 ?_
  show qp_E l G d 147 (cI16, cJ1, cP41, qp_S0, 37, 3011) 21 1060 _ (66, [some (.ref 36), none], [.ref 44, .ref 36], (cI16, cJ1, cP48, qp_S0, 45, 3810))
  refine qp_run_E qp_ok147 1 (c' := (69, [some (.ref 36), none], [], (cI16, cJ1, cP49, qp_S0, 45, 3810))) (by with_unfolding_all rfl) hd1 trivial ?_
  refine qp_run_E qp_ok147 3 (c' := (74, [some (.ref 36), none], [], (cI16, cJ2, cP49, qp_S0, 45, 3810))) (by with_unfolding_all rfl) hd1 trivial ?_
  refine qp_run_E qp_ok147 2 (c' := (77, [some (.ref 36), none], [.int 40, .ref 36], (cI16, cJ2, cP49, qp_S0, 45, 3810))) (by with_unfolding_all rfl) hd1 trivial ?_
  refine qc_newI qp_ok147 (n := 45) (q := 3810) (k := 40) rfl ⟨by decide, by decide, rfl⟩ (fun _ => rfl) (fun _ => rfl) (fun _ => rfl) rfl (by decide +kernel) hd1 ?_
  show qp_E l G d 147 (cI16, cJ1, cP41, qp_S0, 37, 3011) 21 1060 _ (79, [some (.ref 36), none], [.ref 45, .ref 36], (cI16, cJ2, cP49, qp_S0, 46, 3850))
  refine qp_run_E qp_ok147 1 (c' := (82, [some (.ref 36), none], [], (cI16, cJ2, cP50, qp_S0, 46, 3850))) (by with_unfolding_all rfl) hd1 trivial ?_
  refine qp_run_E qp_ok147 2 (c' := (85, [some (.ref 36), none], [.int 75, .ref 36], (cI16, cJ2, cP50, qp_S0, 46, 3850))) (by with_unfolding_all rfl) hd1 trivial ?_
  refine qc_newI qp_ok147 (n := 46) (q := 3850) (k := 75) rfl ⟨by decide, by decide, rfl⟩ (fun _ => rfl) (fun _ => rfl) (fun _ => rfl) rfl (by decide +kernel) hd1 ?_
  show qp_E l G d 147 (cI16, cJ1, cP41, qp_S0, 37, 3011) 21 1060 _ (87, [some (.ref 36), none], [.ref 46, .ref 36], (cI16, cJ2, cP50, qp_S0, 47, 3925))
  refine qp_run_E qp_ok147 1 (c' := (90, [some (.ref 36), none], [], (cI16, cJ2, cP51, qp_S0, 47, 3925))) (by with_unfolding_all rfl) hd1 trivial ?_
  refine qp_run_E qp_ok147 2 (c' := (93, [some (.ref 36), none], [.int 75, .ref 36], (cI16, cJ2, cP51, qp_S0, 47, 3925))) (by with_unfolding_all rfl) hd1 trivial ?_
  refine qc_newI qp_ok147 (n := 47) (q := 3925) (k := 75) rfl ⟨by decide, by decide, rfl⟩ (fun _ => rfl) (fun _ => rfl) (fun _ => rfl) rfl (by decide +kernel) hd1 ?_
  show qp_E l G d 147 (cI16, cJ1, cP41, qp_S0, 37, 3011) 21 1060 _ (95, [some (.ref 36), none], [.ref 47, .ref 36], (cI16, cJ2, cP51, qp_S0, 48, 4000))
  refine qp_run_E qp_ok147 1 (c' := (98, [some (.ref 36), none], [], (cI16, cJ2, cP52, qp_S0, 48, 4000))) (by with_unfolding_all rfl) hd1 trivial ?_
  refine qp_run_E qp_ok147 2 (c' := (101, [some (.ref 36), none], [.int 6, .ref 36], (cI16, cJ2, cP52, qp_S0, 48, 4000))) (by with_unfolding_all rfl) hd1 trivial ?_
  refine qc_newI qp_ok147 (n := 48) (q := 4000) (k := 6) rfl ⟨by decide, by decide, rfl⟩ (fun _ => rfl) (fun _ => rfl) (fun _ => rfl) rfl (by decide +kernel) hd1 ?_
  show qp_E l G d 147 (cI16, cJ1, cP41, qp_S0, 37, 3011) 21 1060 _ (103, [some (.ref 36), none], [.ref 48, .ref 36], (cI16, cJ2, cP52, qp_S0, 49, 4006))
  refine qp_run_E qp_ok147 1 (c' := (106, [some (.ref 36), none], [], (cI16, cJ2, cP53, qp_S0, 49, 4006))) (by with_unfolding_all rfl) hd1 trivial ?_
  refine qp_run_E qp_ok147 2 (c' := (109, [some (.ref 36), none], [.int 6, .ref 36], (cI16, cJ2, cP53, qp_S0, 49, 4006))) (by with_unfolding_all rfl) hd1 trivial ?_
  refine qc_newI qp_ok147 (n := 49) (q := 4006) (k := 6) rfl ⟨by decide, by decide, rfl⟩ (fun _ => rfl) (fun _ => rfl) (fun _ => rfl) rfl (by decide +kernel) hd1 ?_
  show qp_E l G d 147 (cI16, cJ1, cP41, qp_S0, 37, 3011) 21 1060 _ (111, [some (.ref 36), none], [.ref 49, .ref 36], (cI16, cJ2, cP53, qp_S0, 50, 4012))
  refine qp_run_E qp_ok147 1 (c' := (114, [some (.ref 36), none], [], (cI16, cJ2, cP54, qp_S0, 50, 4012))) (by with_unfolding_all rfl) hd1 trivial ?_
  refine qp_run_E qp_ok147 2 (c' := (117, [some (.ref 36), none], [.int 6, .ref 36], (cI16, cJ2, cP54, qp_S0, 50, 4012))) (by with_unfolding_all rfl) hd1 trivial ?_
  refine qc_newI qp_ok147 (n := 50) (q := 4012) (k := 6) rfl ⟨by decide, by decide, rfl⟩ (fun _ => rfl) (fun _ => rfl) (fun _ => rfl) rfl (by decide +kernel) hd1 ?_
  show qp_E l G d 147 (cI16, cJ1, cP41, qp_S0, 37, 3011) 21 1060 _ (119, [some (.ref 36), none], [.ref 50, .ref 36], (cI16, cJ2, cP54, qp_S0, 51, 4018))
  refine qp_run_E qp_ok147 1 (c' := (122, [some (.ref 36), none], [], (cI16, cJ2, cP55, qp_S0, 51, 4018))) (by with_unfolding_all rfl) hd1 trivial ?_
  refine qp_run_E qp_ok147 2 (c' := (125, [some (.ref 36), none], [.int 6, .ref 36], (cI16, cJ2, cP55, qp_S0, 51, 4018))) (by with_unfolding_all rfl) hd1 trivial ?_
  refine qc_newI qp_ok147 (n := 51) (q := 4018) (k := 6) rfl ⟨by decide, by decide, rfl⟩ (fun _ => rfl) (fun _ => rfl) (fun _ => rfl) rfl (by decide +kernel) hd1 ?_
  show qp_E l G d 147 (cI16, cJ1, cP41, qp_S0, 37, 3011) 21 1060 _ (127, [some (.ref 36), none], [.ref 51, .ref 36], (cI16, cJ2, cP55, qp_S0, 52, 4024))
  refine qp_run_E qp_ok147 1 (c' := (130, [some (.ref 36), none], [], (cI16, cJ2, cP56, qp_S0, 52, 4024))) (by with_unfolding_all rfl) hd1 trivial ?_
  refine qp_run_E qp_ok147 2 (c' := (132, [some (.ref 36), none], [.int 3, .ref 36], (cI16, cJ2, cP56, qp_S0, 52, 4024))) (by with_unfolding_all rfl) hd1 trivial ?_
  refine qc_newI qp_ok147 (n := 52) (q := 4024) (k := 3) rfl ⟨by decide, by decide, rfl⟩ (fun _ => rfl) (fun _ => rfl) (fun _ => rfl) rfl (by decide +kernel) hd1 ?_
  show qp_E l G d 147 (cI16, cJ1, cP41, qp_S0, 37, 3011) 21 1060 _ (134, [some (.ref 36), none], [.ref 52, .ref 36], (cI16, cJ2, cP56, qp_S0, 53, 4027))
  refine qp_run_E qp_ok147 1 (c' := (137, [some (.ref 36), none], [], (cI16, cJ2, cP57, qp_S0, 53, 4027))) (by with_unfolding_all rfl) hd1 trivial ?_
  refine qp_run_E qp_ok147 2 (c' := (140, [some (.ref 36), none], [.int 6, .ref 36], (cI16, cJ2, cP57, qp_S0, 53, 4027))) (by with_unfolding_all rfl) hd1 trivial ?_
  refine qc_newI qp_ok147 (n := 53) (q := 4027) (k := 6) rfl ⟨by decide, by decide, rfl⟩ (fun _ => rfl) (fun _ => rfl) (fun _ => rfl) rfl (by decide +kernel) hd1 ?_
  show qp_E l G d 147 (cI16, cJ1, cP41, qp_S0, 37, 3011) 21 1060 _ (142, [some (.ref 36), none], [.ref 53, .ref 36], (cI16, cJ2, cP57, qp_S0, 54, 4033))
  refine qp_run_E qp_ok147 1 (c' := (145, [some (.ref 36), none], [], (cI16, cJ2, cP58, qp_S0, 54, 4033))) (by with_unfolding_all rfl) hd1 trivial ?_
  refine qp_run_E qp_ok147 2 (c' := (148, [some (.ref 36), none], [.int 24, .ref 36], (cI16, cJ2, cP58, qp_S0, 54, 4033))) (by with_unfolding_all rfl) hd1 trivial ?_
  refine qc_newI qp_ok147 (n := 54) (q := 4033) (k := 24) rfl ⟨by decide, by decide, rfl⟩ (fun _ => rfl) (fun _ => rfl) (fun _ => rfl) rfl (by decide +kernel) hd1 ?_
  show qp_E l G d 147 (cI16, cJ1, cP41, qp_S0, 37, 3011) 21 1060 _ (150, [some (.ref 36), none], [.ref 54, .ref 36], (cI16, cJ2, cP58, qp_S0, 55, 4057))
  refine qp_run_E qp_ok147 1 (c' := (153, [some (.ref 36), none], [], (cI16, cJ2, cP59, qp_S0, 55, 4057))) (by with_unfolding_all rfl) hd1 trivial ?_
  refine qp_run_E qp_ok147 2 (c' := (155, [some (.ref 36), none], [.int 4, .ref 36], (cI16, cJ2, cP59, qp_S0, 55, 4057))) (by with_unfolding_all rfl) hd1 trivial ?_
  refine qc_newI qp_ok147 (n := 55) (q := 4057) (k := 4) rfl ⟨by decide, by decide, rfl⟩ (fun _ => rfl) (fun _ => rfl) (fun _ => rfl) rfl (by decide +kernel) hd1 ?_
  show qp_E l G d 147 (cI16, cJ1, cP41, qp_S0, 37, 3011) 21 1060 _ (157, [some (.ref 36), none], [.ref 55, .ref 36], (cI16, cJ2, cP59, qp_S0, 56, 4061))
  refine qp_run_E qp_ok147 1 (c' := (160, [some (.ref 36), none], [], (cI16, cJ2, cP60, qp_S0, 56, 4061))) (by with_unfolding_all rfl) hd1 trivial ?_
  refine qp_run_E qp_ok147 2 (c' := (162, [some (.ref 36), none], [.int 4, .ref 36], (cI16, cJ2, cP60, qp_S0, 56, 4061))) (by with_unfolding_all rfl) hd1 trivial ?_
  refine qc_newI qp_ok147 (n := 56) (q := 4061) (k := 4) rfl ⟨by decide, by decide, rfl⟩ (fun _ => rfl) (fun _ => rfl) (fun _ => rfl) rfl (by decide +kernel) hd1 ?_
  show qp_E l G d 147 (cI16, cJ1, cP41, qp_S0, 37, 3011) 21 1060 _ (164, [some (.ref 36), none], [.ref 56, .ref 36], (cI16, cJ2, cP60, qp_S0, 57, 4065))
  refine qp_run_E qp_ok147 1 (c' := (167, [some (.ref 36), none], [], (cI16, cJ2, cP61, qp_S0, 57, 4065))) (by with_unfolding_all rfl) hd1 trivial ?_
  refine qp_run_E qp_ok147 2 (c' := (170, [some (.ref 36), none], [.int 6, .ref 36], (cI16, cJ2, cP61, qp_S0, 57, 4065))) (by with_unfolding_all rfl) hd1 trivial ?_
  refine qc_newI qp_ok147 (n := 57) (q := 4065) (k := 6) rfl ⟨by decide, by decide, rfl⟩ (fun _ => rfl) (fun _ => rfl) (fun _ => rfl) rfl (by decide +kernel) hd1 ?_
  show qp_E l G d 147 (cI16, cJ1, cP41, qp_S0, 37, 3011) 21 1060 _ (172, [some (.ref 36), none], [.ref 57, .ref 36], (cI16, cJ2, cP61, qp_S0, 58, 4071))
  refine qp_run_E qp_ok147 1 (c' := (175, [some (.ref 36), none], [], (cI16, cJ2, cP62, qp_S0, 58, 4071))) (by with_unfolding_all rfl) hd1 trivial ?_
  refine qp_run_E qp_ok147 4 (c' := (180, [some (.ref 36), some (.int 0)], [.int 6, .int 0], (cI16, cJ2, cP62, qp_S0, 58, 4071))) (by with_unfolding_all rfl) hd1 trivial ?_
  refine qp_br_E qp_ok147 (f := (6 : Int32) ≤ (0 : Int32)) (ct := (196, [some (.ref 36), some (.int 0)], [], (cI16, cJ2, cP62, qp_S0, 58, 4071))) (cf := (183, [some (.ref 36), some (.int 0)], [], (cI16, cJ2, cP62, qp_S0, 58, 4071))) (by with_unfolding_all rfl) (fun h1 => absurd h1 (by decide)) (fun _ => ?_)
  refine qp_run_E qp_ok147 5 (f := (vp_in 0 6 ∧ True)) (c' := (190, [some (.ref 36), some (.int 0)], [], (cI17, cJ2, cP62, qp_S0, 58, 4071))) (by with_unfolding_all rfl) hd1 ⟨vp_in_iff.mpr (by decide), trivial⟩ ?_
  refine qp_run_E qp_ok147 4 (c' := (180, [some (.ref 36), some (.int (0 + 1))], [.int 6, .int (0 + 1)], (cI17, cJ2, cP62, qp_S0, 58, 4071))) (by with_unfolding_all rfl) hd1 trivial ?_
  refine qp_br_E qp_ok147 (f := (6 : Int32) ≤ ((0 + 1) : Int32)) (ct := (196, [some (.ref 36), some (.int (0 + 1))], [], (cI17, cJ2, cP62, qp_S0, 58, 4071))) (cf := (183, [some (.ref 36), some (.int (0 + 1))], [], (cI17, cJ2, cP62, qp_S0, 58, 4071))) (by with_unfolding_all rfl) (fun h1 => absurd h1 (by decide)) (fun _ => ?_)
  refine qp_run_E qp_ok147 5 (f := (vp_in (0 + 1) 6 ∧ True)) (c' := (190, [some (.ref 36), some (.int (0 + 1))], [], (cI18, cJ2, cP62, qp_S0, 58, 4071))) (by with_unfolding_all rfl) hd1 ⟨vp_in_iff.mpr (by decide), trivial⟩ ?_
  refine qp_run_E qp_ok147 4 (c' := (180, [some (.ref 36), some (.int ((0 + 1) + 1))], [.int 6, .int ((0 + 1) + 1)], (cI18, cJ2, cP62, qp_S0, 58, 4071))) (by with_unfolding_all rfl) hd1 trivial ?_
  refine qp_br_E qp_ok147 (f := (6 : Int32) ≤ (((0 + 1) + 1) : Int32)) (ct := (196, [some (.ref 36), some (.int ((0 + 1) + 1))], [], (cI18, cJ2, cP62, qp_S0, 58, 4071))) (cf := (183, [some (.ref 36), some (.int ((0 + 1) + 1))], [], (cI18, cJ2, cP62, qp_S0, 58, 4071))) (by with_unfolding_all rfl) (fun h1 => absurd h1 (by decide)) (fun _ => ?_)
  refine qp_run_E qp_ok147 5 (f := (vp_in ((0 + 1) + 1) 6 ∧ True)) (c' := (190, [some (.ref 36), some (.int ((0 + 1) + 1))], [], (cI19, cJ2, cP62, qp_S0, 58, 4071))) (by with_unfolding_all rfl) hd1 ⟨vp_in_iff.mpr (by decide), trivial⟩ ?_
  refine qp_run_E qp_ok147 4 (c' := (180, [some (.ref 36), some (.int (((0 + 1) + 1) + 1))], [.int 6, .int (((0 + 1) + 1) + 1)], (cI19, cJ2, cP62, qp_S0, 58, 4071))) (by with_unfolding_all rfl) hd1 trivial ?_
  refine qp_br_E qp_ok147 (f := (6 : Int32) ≤ ((((0 + 1) + 1) + 1) : Int32)) (ct := (196, [some (.ref 36), some (.int (((0 + 1) + 1) + 1))], [], (cI19, cJ2, cP62, qp_S0, 58, 4071))) (cf := (183, [some (.ref 36), some (.int (((0 + 1) + 1) + 1))], [], (cI19, cJ2, cP62, qp_S0, 58, 4071))) (by with_unfolding_all rfl) (fun h1 => absurd h1 (by decide)) (fun _ => ?_)
  refine qp_run_E qp_ok147 5 (f := (vp_in (((0 + 1) + 1) + 1) 6 ∧ True)) (c' := (190, [some (.ref 36), some (.int (((0 + 1) + 1) + 1))], [], (cI20, cJ2, cP62, qp_S0, 58, 4071))) (by with_unfolding_all rfl) hd1 ⟨vp_in_iff.mpr (by decide), trivial⟩ ?_
  refine qp_run_E qp_ok147 4 (c' := (180, [some (.ref 36), some (.int ((((0 + 1) + 1) + 1) + 1))], [.int 6, .int ((((0 + 1) + 1) + 1) + 1)], (cI20, cJ2, cP62, qp_S0, 58, 4071))) (by with_unfolding_all rfl) hd1 trivial ?_
  refine qp_br_E qp_ok147 (f := (6 : Int32) ≤ (((((0 + 1) + 1) + 1) + 1) : Int32)) (ct := (196, [some (.ref 36), some (.int ((((0 + 1) + 1) + 1) + 1))], [], (cI20, cJ2, cP62, qp_S0, 58, 4071))) (cf := (183, [some (.ref 36), some (.int ((((0 + 1) + 1) + 1) + 1))], [], (cI20, cJ2, cP62, qp_S0, 58, 4071))) (by with_unfolding_all rfl) (fun h1 => absurd h1 (by decide)) (fun _ => ?_)
  refine qp_run_E qp_ok147 5 (f := (vp_in ((((0 + 1) + 1) + 1) + 1) 6 ∧ True)) (c' := (190, [some (.ref 36), some (.int ((((0 + 1) + 1) + 1) + 1))], [], (cI21, cJ2, cP62, qp_S0, 58, 4071))) (by with_unfolding_all rfl) hd1 ⟨vp_in_iff.mpr (by decide), trivial⟩ ?_
  refine qp_run_E qp_ok147 4 (c' := (180, [some (.ref 36), some (.int (((((0 + 1) + 1) + 1) + 1) + 1))], [.int 6, .int (((((0 + 1) + 1) + 1) + 1) + 1)], (cI21, cJ2, cP62, qp_S0, 58, 4071))) (by with_unfolding_all rfl) hd1 trivial ?_
  refine qp_br_E qp_ok147 (f := (6 : Int32) ≤ ((((((0 + 1) + 1) + 1) + 1) + 1) : Int32)) (ct := (196, [some (.ref 36), some (.int (((((0 + 1) + 1) + 1) + 1) + 1))], [], (cI21, cJ2, cP62, qp_S0, 58, 4071))) (cf := (183, [some (.ref 36), some (.int (((((0 + 1) + 1) + 1) + 1) + 1))], [], (cI21, cJ2, cP62, qp_S0, 58, 4071))) (by with_unfolding_all rfl) (fun h1 => absurd h1 (by decide)) (fun _ => ?_)
  refine qp_run_E qp_ok147 5 (f := (vp_in (((((0 + 1) + 1) + 1) + 1) + 1) 6 ∧ True)) (c' := (190, [some (.ref 36), some (.int (((((0 + 1) + 1) + 1) + 1) + 1))], [], (cI22, cJ2, cP62, qp_S0, 58, 4071))) (by with_unfolding_all rfl) hd1 ⟨vp_in_iff.mpr (by decide), trivial⟩ ?_
  refine qp_run_E qp_ok147 4 (c' := (180, [some (.ref 36), some (.int ((((((0 + 1) + 1) + 1) + 1) + 1) + 1))], [.int 6, .int ((((((0 + 1) + 1) + 1) + 1) + 1) + 1)], (cI22, cJ2, cP62, qp_S0, 58, 4071))) (by with_unfolding_all rfl) hd1 trivial ?_
  refine qp_br_E qp_ok147 (f := (6 : Int32) ≤ (((((((0 + 1) + 1) + 1) + 1) + 1) + 1) : Int32)) (ct := (196, [some (.ref 36), some (.int ((((((0 + 1) + 1) + 1) + 1) + 1) + 1))], [], (cI22, cJ2, cP62, qp_S0, 58, 4071))) (cf := (183, [some (.ref 36), some (.int ((((((0 + 1) + 1) + 1) + 1) + 1) + 1))], [], (cI22, cJ2, cP62, qp_S0, 58, 4071))) (by with_unfolding_all rfl) (fun _ => ?_) (fun h1 => absurd (by decide) h1)
  refine qp_run_E qp_ok147 4 (c' := (200, [some (.ref 36), some (.int 0)], [.int 4, .int 0], (cI22, cJ2, cP62, qp_S0, 58, 4071))) (by with_unfolding_all rfl) hd1 trivial ?_
  refine qp_br_E qp_ok147 (f := (4 : Int32) ≤ (0 : Int32)) (ct := (216, [some (.ref 36), some (.int 0)], [], (cI22, cJ2, cP62, qp_S0, 58, 4071))) (cf := (203, [some (.ref 36), some (.int 0)], [], (cI22, cJ2, cP62, qp_S0, 58, 4071))) (by with_unfolding_all rfl) (fun h1 => absurd h1 (by decide)) (fun _ => ?_)
  refine qp_run_E qp_ok147 5 (f := (vp_in 0 4 ∧ True)) (c' := (210, [some (.ref 36), some (.int 0)], [], (cI23, cJ2, cP62, qp_S0, 58, 4071))) (by with_unfolding_all rfl) hd1 ⟨vp_in_iff.mpr (by decide), trivial⟩ ?_
  refine qp_run_E qp_ok147 4 (c' := (200, [some (.ref 36), some (.int (0 + 1))], [.int 4, .int (0 + 1)], (cI23, cJ2, cP62, qp_S0, 58, 4071))) (by with_unfolding_all rfl) hd1 trivial ?_
  refine qp_br_E qp_ok147 (f := (4 : Int32) ≤ ((0 + 1) : Int32)) (ct := (216, [some (.ref 36), some (.int (0 + 1))], [], (cI23, cJ2, cP62, qp_S0, 58, 4071))) (cf := (203, [some (.ref 36), some (.int (0 + 1))], [], (cI23, cJ2, cP62, qp_S0, 58, 4071))) (by with_unfolding_all rfl) (fun h1 => absurd h1 (by decide)) (fun _ => ?_)
  refine qp_run_E qp_ok147 5 (f := (vp_in (0 + 1) 4 ∧ True)) (c' := (210, [some (.ref 36), some (.int (0 + 1))], [], (cI24, cJ2, cP62, qp_S0, 58, 4071))) (by with_unfolding_all rfl) hd1 ⟨vp_in_iff.mpr (by decide), trivial⟩ ?_
  refine qp_run_E qp_ok147 4 (c' := (200, [some (.ref 36), some (.int ((0 + 1) + 1))], [.int 4, .int ((0 + 1) + 1)], (cI24, cJ2, cP62, qp_S0, 58, 4071))) (by with_unfolding_all rfl) hd1 trivial ?_
  refine qp_br_E qp_ok147 (f := (4 : Int32) ≤ (((0 + 1) + 1) : Int32)) (ct := (216, [some (.ref 36), some (.int ((0 + 1) + 1))], [], (cI24, cJ2, cP62, qp_S0, 58, 4071))) (cf := (203, [some (.ref 36), some (.int ((0 + 1) + 1))], [], (cI24, cJ2, cP62, qp_S0, 58, 4071))) (by with_unfolding_all rfl) (fun h1 => absurd h1 (by decide)) (fun _ => ?_)
  refine qp_run_E qp_ok147 5 (f := (vp_in ((0 + 1) + 1) 4 ∧ True)) (c' := (210, [some (.ref 36), some (.int ((0 + 1) + 1))], [], (cI25, cJ2, cP62, qp_S0, 58, 4071))) (by with_unfolding_all rfl) hd1 ⟨vp_in_iff.mpr (by decide), trivial⟩ ?_
  refine qp_run_E qp_ok147 4 (c' := (200, [some (.ref 36), some (.int (((0 + 1) + 1) + 1))], [.int 4, .int (((0 + 1) + 1) + 1)], (cI25, cJ2, cP62, qp_S0, 58, 4071))) (by with_unfolding_all rfl) hd1 trivial ?_
  refine qp_br_E qp_ok147 (f := (4 : Int32) ≤ ((((0 + 1) + 1) + 1) : Int32)) (ct := (216, [some (.ref 36), some (.int (((0 + 1) + 1) + 1))], [], (cI25, cJ2, cP62, qp_S0, 58, 4071))) (cf := (203, [some (.ref 36), some (.int (((0 + 1) + 1) + 1))], [], (cI25, cJ2, cP62, qp_S0, 58, 4071))) (by with_unfolding_all rfl) (fun h1 => absurd h1 (by decide)) (fun _ => ?_)
  refine qp_run_E qp_ok147 5 (f := (vp_in (((0 + 1) + 1) + 1) 4 ∧ True)) (c' := (210, [some (.ref 36), some (.int (((0 + 1) + 1) + 1))], [], (cI26, cJ2, cP62, qp_S0, 58, 4071))) (by with_unfolding_all rfl) hd1 ⟨vp_in_iff.mpr (by decide), trivial⟩ ?_
  refine qp_run_E qp_ok147 4 (c' := (200, [some (.ref 36), some (.int ((((0 + 1) + 1) + 1) + 1))], [.int 4, .int ((((0 + 1) + 1) + 1) + 1)], (cI26, cJ2, cP62, qp_S0, 58, 4071))) (by with_unfolding_all rfl) hd1 trivial ?_
  refine qp_br_E qp_ok147 (f := (4 : Int32) ≤ (((((0 + 1) + 1) + 1) + 1) : Int32)) (ct := (216, [some (.ref 36), some (.int ((((0 + 1) + 1) + 1) + 1))], [], (cI26, cJ2, cP62, qp_S0, 58, 4071))) (cf := (203, [some (.ref 36), some (.int ((((0 + 1) + 1) + 1) + 1))], [], (cI26, cJ2, cP62, qp_S0, 58, 4071))) (by with_unfolding_all rfl) (fun _ => ?_) (fun h1 => absurd (by decide) h1)
  exact qp_retV_E qp_ok147 rfl qp_r147.1 ⟨rfl, rfl⟩ ⟨rfl, rfl⟩

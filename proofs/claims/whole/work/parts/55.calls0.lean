/-! THE LAW'S CALLS, one by one: both answer alike, the loop goes on -/
theorem lg_self {v : Int64} : lg_cmp v v = 0 := by
  unfold lg_cmp
  simp
section LC
variable {p : Program} {l : Launch} {e : Env} {s : State} {m : MethodId} {below : List Frame} {meth : Method} {c : Code} {G : qp_G} {ad0 : Nat → Nat} {b L : Nat} {xs : Nat → Int32} {I : Nat → Nat → Int32} {J : Nat → Nat → Int64} {i : Nat}
/-- the law's locals -/
abbrev lw_L (i : Int32) : List (Option Value) := [some (.ref 2000), some (.ref 0), some (.ref 36), some (.int i)]
theorem lw_in {a : Nat} (hi : i + 6 ≤ L) (hL : L ≤ 3072) (ha : a < 6) : vp_in (qn i + qn a) L ∧ (qn i + qn a).toNatClampNeg = i + a := by
  rw [qn_add]
  refine ⟨vp_in_iff.mpr ?_, qn_nat (by omega)⟩
  rw [qn_toInt (by omega)]
  omega
def qp_kc0 : List (List (Nat × Instr × Int32 × Nat)) := [[], [], [], [], [], [], [], [], [], [], [], [], [], [(212, .aload_n 1, 0, 0), (213, .aload_n 0, 0, 0), (214, .iload_n 3, 0, 0), (215, .iconst 1, 1, 0), (216, .iadd, 0, 0), (217, .iaload, 0, 0), (218, .aload_n 0, 0, 0), (219, .iload_n 3, 0, 0), (220, .iconst 2, 2, 0), (221, .iadd, 0, 0), (222, .iaload, 0, 0), (223, .invokevirtual 13, 0, 110)], [(226, .aload_n 2, 0, 0), (227, .aload_n 0, 0, 0), (228, .iload_n 3, 0, 0), (229, .iconst 1, 1, 0), (230, .iadd, 0, 0), (231, .iaload, 0, 0), (232, .aload_n 0, 0, 0), (233, .iload_n 3, 0, 0), (234, .iconst 2, 2, 0), (235, .iadd, 0, 0), (236, .iaload, 0, 0), (237, .invokevirtual 17, 0, 1480)], [(240, .if_icmp .eq 1118, 0, 1358)], [], [], [], [], [], [], [], [], [], [], [], [], [], [], [], [], [], [], [], [], [], [], [], [], [], [], [], [], [], [], [], [], [], [], [], [], [], [], [], [], [], [], [], [], [], [], [], [], [], [], [], [], [], [], [], [], [], [], [], [], [], [], [], [], [], [], [], [], [(1358, .iinc 3 6, 6, 0)], [(1361, .goto (-1343), 0, 18)]]
theorem qp_kc0_ok : qp_ok 14 code qp_kc0 := qp_ok_of (by decide +kernel)
set_option maxRecDepth 8000 in
theorem lw_c0 (C : lw_C p s m meth c G ad0 b L xs) (hL : L ≤ 3072) (hi : i + 6 ≤ L) (hR : zR I J) (ih : ∀ I J, zR I J → lw_V p l e s m below meth c G ad0 b (18, lw_L (qn i + 6), [], qp_mk I J)) : lw_V p l e s m below meth c G ad0 b (212, lw_L (qn i), [], qp_mk I J) := by
  have ok := qp_kc0_ok
  obtain ⟨v, I1, J1, I2, J2, e1, e2, hz⟩ := sim_row (xs (i + 1)) (xs (i + 2)) I J hR
  refine lw_run C ok 5 (x' := (217, lw_L (qn i), [.int (qn i + 1), .ref 2000, .ref 0], qp_mk I J)) (by with_unfolding_all rfl) trivial ?_
  refine lw_ld C ok rfl (lw_in (a := 1) hi hL (by omega)).1 ?_
  rw [show (qn i + 1).toNatClampNeg = i + 1 from (lw_in (a := 1) hi hL (by omega)).2]
  refine lw_run C ok 4 (x' := (222, lw_L (qn i), [.int (qn i + 2), .ref 2000, .int (xs (i + 1)), .ref 0], qp_mk I J)) (by with_unfolding_all rfl) trivial ?_
  refine lw_ld C ok rfl (lw_in (a := 2) hi hL (by omega)).1 ?_
  rw [show (qn i + 2).toNatClampNeg = i + 2 from (lw_in (a := 2) hi hL (by omega)).2]
  refine lw_cV C ok (d' := 100) (rest := []) (oj := 0) qp_f11 rfl rfl (gX_row l G (xs (i + 1)) (xs (i + 2)) I J e1 (by decide)) rfl rfl rfl rfl (by omega) ?_
  refine lw_run C ok 5 (x' := (231, lw_L (qn i), [.int (qn i + 1), .ref 2000, .ref 36, .int v], qp_mk I1 J1)) (by with_unfolding_all rfl) trivial ?_
  refine lw_ld C ok rfl (lw_in (a := 1) hi hL (by omega)).1 ?_
  rw [show (qn i + 1).toNatClampNeg = i + 1 from (lw_in (a := 1) hi hL (by omega)).2]
  refine lw_run C ok 4 (x' := (236, lw_L (qn i), [.int (qn i + 2), .ref 2000, .int (xs (i + 1)), .ref 36, .int v], qp_mk I1 J1)) (by with_unfolding_all rfl) trivial ?_
  refine lw_ld C ok rfl (lw_in (a := 2) hi hL (by omega)).1 ?_
  rw [show (qn i + 2).toNatClampNeg = i + 2 from (lw_in (a := 2) hi hL (by omega)).2]
  refine lw_cV C ok (d' := 100) (rest := [.int v]) (oj := 10) qp_f148 rfl rfl (gM_row l G (xs (i + 1)) (xs (i + 2)) I1 J1 e2 (by decide)) rfl rfl rfl rfl (by omega) ?_
  refine lw_br C ok (f := v = v) (xt := (1358, lw_L (qn i), [], qp_mk I2 J2)) (xf := (243, lw_L (qn i), [], qp_mk I2 J2)) (by with_unfolding_all rfl) (fun _ => ?_) (fun h => absurd rfl h)
  refine lw_run C ok 2 (x' := (18, lw_L (qn i + 6), [], qp_mk I2 J2)) (by with_unfolding_all rfl) trivial ?_
  exact ih I2 J2 hz
def qp_kc1 : List (List (Nat × Instr × Int32 × Nat)) := [[], [], [], [], [], [], [], [], [], [], [], [], [], [], [], [(245, .aload_n 1, 0, 0), (246, .aload_n 0, 0, 0), (247, .iload_n 3, 0, 0), (248, .iconst 1, 1, 0), (249, .iadd, 0, 0), (250, .iaload, 0, 0), (251, .aload_n 0, 0, 0), (252, .iload_n 3, 0, 0), (253, .iconst 2, 2, 0), (254, .iadd, 0, 0), (255, .iaload, 0, 0)], [(256, .aload_n 0, 0, 0), (257, .iload_n 3, 0, 0), (258, .iconst 3, 3, 0), (259, .iadd, 0, 0), (260, .iaload, 0, 0), (261, .invokevirtual 18, 0, 180), (264, .aload_n 2, 0, 0), (265, .aload_n 0, 0, 0), (266, .iload_n 3, 0, 0), (267, .iconst 1, 1, 0), (268, .iadd, 0, 0), (269, .iaload, 0, 0), (270, .aload_n 0, 0, 0), (271, .iload_n 3, 0, 0)], [(272, .iconst 2, 2, 0), (273, .iadd, 0, 0), (274, .iaload, 0, 0), (275, .aload_n 0, 0, 0), (276, .iload_n 3, 0, 0), (277, .iconst 3, 3, 0), (278, .iadd, 0, 0), (279, .iaload, 0, 0), (280, .invokevirtual 22, 0, 1520), (283, .if_icmp .eq 1075, 0, 1358)], [], [], [], [], [], [], [], [], [], [], [], [], [], [], [], [], [], [], [], [], [], [], [], [], [], [], [], [], [], [], [], [], [], [], [], [], [], [], [], [], [], [], [], [], [], [], [], [], [], [], [], [], [], [], [], [], [], [], [], [], [], [], [], [], [], [], [(1358, .iinc 3 6, 6, 0)], [(1361, .goto (-1343), 0, 18)]]
theorem qp_kc1_ok : qp_ok 14 code qp_kc1 := qp_ok_of (by decide +kernel)
set_option maxRecDepth 8000 in
theorem lw_c1 (C : lw_C p s m meth c G ad0 b L xs) (hL : L ≤ 3072) (hi : i + 6 ≤ L) (hR : zR I J) (ih : ∀ I J, zR I J → lw_V p l e s m below meth c G ad0 b (18, lw_L (qn i + 6), [], qp_mk I J)) : lw_V p l e s m below meth c G ad0 b (245, lw_L (qn i), [], qp_mk I J) := by
  have ok := qp_kc1_ok
  obtain ⟨v, I1, J1, I2, J2, e1, e2, hz⟩ := sim_lay (xs (i + 1)) (xs (i + 2)) (xs (i + 3)) I J hR
  refine lw_run C ok 5 (x' := (250, lw_L (qn i), [.int (qn i + 1), .ref 2000, .ref 0], qp_mk I J)) (by with_unfolding_all rfl) trivial ?_
  refine lw_ld C ok rfl (lw_in (a := 1) hi hL (by omega)).1 ?_
  rw [show (qn i + 1).toNatClampNeg = i + 1 from (lw_in (a := 1) hi hL (by omega)).2]
  refine lw_run C ok 4 (x' := (255, lw_L (qn i), [.int (qn i + 2), .ref 2000, .int (xs (i + 1)), .ref 0], qp_mk I J)) (by with_unfolding_all rfl) trivial ?_
  refine lw_ld C ok rfl (lw_in (a := 2) hi hL (by omega)).1 ?_
  rw [show (qn i + 2).toNatClampNeg = i + 2 from (lw_in (a := 2) hi hL (by omega)).2]
  refine lw_run C ok 4 (x' := (260, lw_L (qn i), [.int (qn i + 3), .ref 2000, .int (xs (i + 2)), .int (xs (i + 1)), .ref 0], qp_mk I J)) (by with_unfolding_all rfl) trivial ?_
  refine lw_ld C ok rfl (lw_in (a := 3) hi hL (by omega)).1 ?_
  rw [show (qn i + 3).toNatClampNeg = i + 3 from (lw_in (a := 3) hi hL (by omega)).2]
  refine lw_cV C ok (d' := 100) (rest := []) (oj := 0) qp_f18 rfl rfl (gX_lay l G (xs (i + 1)) (xs (i + 2)) (xs (i + 3)) I J e1 (by decide)) rfl rfl rfl rfl (by omega) ?_
  refine lw_run C ok 5 (x' := (269, lw_L (qn i), [.int (qn i + 1), .ref 2000, .ref 36, .int v], qp_mk I1 J1)) (by with_unfolding_all rfl) trivial ?_
  refine lw_ld C ok rfl (lw_in (a := 1) hi hL (by omega)).1 ?_
  rw [show (qn i + 1).toNatClampNeg = i + 1 from (lw_in (a := 1) hi hL (by omega)).2]
  refine lw_run C ok 4 (x' := (274, lw_L (qn i), [.int (qn i + 2), .ref 2000, .int (xs (i + 1)), .ref 36, .int v], qp_mk I1 J1)) (by with_unfolding_all rfl) trivial ?_
  refine lw_ld C ok rfl (lw_in (a := 2) hi hL (by omega)).1 ?_
  rw [show (qn i + 2).toNatClampNeg = i + 2 from (lw_in (a := 2) hi hL (by omega)).2]
  refine lw_run C ok 4 (x' := (279, lw_L (qn i), [.int (qn i + 3), .ref 2000, .int (xs (i + 2)), .int (xs (i + 1)), .ref 36, .int v], qp_mk I1 J1)) (by with_unfolding_all rfl) trivial ?_
  refine lw_ld C ok rfl (lw_in (a := 3) hi hL (by omega)).1 ?_
  rw [show (qn i + 3).toNatClampNeg = i + 3 from (lw_in (a := 3) hi hL (by omega)).2]
  refine lw_cV C ok (d' := 100) (rest := [.int v]) (oj := 10) qp_f152 rfl rfl (gM_lay l G (xs (i + 1)) (xs (i + 2)) (xs (i + 3)) I1 J1 e2 (by decide)) rfl rfl rfl rfl (by omega) ?_
  refine lw_br C ok (f := v = v) (xt := (1358, lw_L (qn i), [], qp_mk I2 J2)) (xf := (286, lw_L (qn i), [], qp_mk I2 J2)) (by with_unfolding_all rfl) (fun _ => ?_) (fun h => absurd rfl h)
  refine lw_run C ok 2 (x' := (18, lw_L (qn i + 6), [], qp_mk I2 J2)) (by with_unfolding_all rfl) trivial ?_
  exact ih I2 J2 hz
def qp_kc2 : List (List (Nat × Instr × Int32 × Nat)) := [[], [], [], [], [], [], [], [], [], [], [], [], [], [], [], [], [], [], [(288, .aload_n 1, 0, 0), (289, .aload_n 0, 0, 0), (290, .iload_n 3, 0, 0), (291, .iconst 1, 1, 0), (292, .iadd, 0, 0), (293, .iaload, 0, 0), (294, .aload_n 0, 0, 0), (295, .iload_n 3, 0, 0), (296, .iconst 2, 2, 0), (297, .iadd, 0, 0), (298, .iaload, 0, 0), (299, .invokevirtual 23, 0, 250), (302, .aload_n 2, 0, 0), (303, .aload_n 0, 0, 0)], [(304, .iload_n 3, 0, 0), (305, .iconst 1, 1, 0), (306, .iadd, 0, 0), (307, .iaload, 0, 0), (308, .aload_n 0, 0, 0), (309, .iload_n 3, 0, 0), (310, .iconst 2, 2, 0), (311, .iadd, 0, 0), (312, .iaload, 0, 0), (313, .invokevirtual 26, 0, 1530), (316, .if_icmp .eq 1042, 0, 1358)], [], [], [], [], [], [], [], [], [], [], [], [], [], [], [], [], [], [], [], [], [], [], [], [], [], [], [], [], [], [], [], [], [], [], [], [], [], [], [], [], [], [], [], [], [], [], [], [], [], [], [], [], [], [], [], [], [], [], [], [], [], [], [], [], [(1358, .iinc 3 6, 6, 0)], [(1361, .goto (-1343), 0, 18)]]
theorem qp_kc2_ok : qp_ok 14 code qp_kc2 := qp_ok_of (by decide +kernel)
set_option maxRecDepth 8000 in
theorem lw_c2 (C : lw_C p s m meth c G ad0 b L xs) (hL : L ≤ 3072) (hi : i + 6 ≤ L) (hR : zR I J) (ih : ∀ I J, zR I J → lw_V p l e s m below meth c G ad0 b (18, lw_L (qn i + 6), [], qp_mk I J)) : lw_V p l e s m below meth c G ad0 b (288, lw_L (qn i), [], qp_mk I J) := by
  have ok := qp_kc2_ok
  obtain ⟨v, I1, J1, I2, J2, e1, e2, hz⟩ := sim_at (xs (i + 1)) (xs (i + 2)) I J hR
  refine lw_run C ok 5 (x' := (293, lw_L (qn i), [.int (qn i + 1), .ref 2000, .ref 0], qp_mk I J)) (by with_unfolding_all rfl) trivial ?_
  refine lw_ld C ok rfl (lw_in (a := 1) hi hL (by omega)).1 ?_
  rw [show (qn i + 1).toNatClampNeg = i + 1 from (lw_in (a := 1) hi hL (by omega)).2]
  refine lw_run C ok 4 (x' := (298, lw_L (qn i), [.int (qn i + 2), .ref 2000, .int (xs (i + 1)), .ref 0], qp_mk I J)) (by with_unfolding_all rfl) trivial ?_
  refine lw_ld C ok rfl (lw_in (a := 2) hi hL (by omega)).1 ?_
  rw [show (qn i + 2).toNatClampNeg = i + 2 from (lw_in (a := 2) hi hL (by omega)).2]
  refine lw_cV C ok (d' := 100) (rest := []) (oj := 0) qp_f25 rfl rfl (gX_at l G (xs (i + 1)) (xs (i + 2)) I J e1 (by decide)) rfl rfl rfl rfl (by omega) ?_
  refine lw_run C ok 5 (x' := (307, lw_L (qn i), [.int (qn i + 1), .ref 2000, .ref 36, .int v], qp_mk I1 J1)) (by with_unfolding_all rfl) trivial ?_
  refine lw_ld C ok rfl (lw_in (a := 1) hi hL (by omega)).1 ?_
  rw [show (qn i + 1).toNatClampNeg = i + 1 from (lw_in (a := 1) hi hL (by omega)).2]
  refine lw_run C ok 4 (x' := (312, lw_L (qn i), [.int (qn i + 2), .ref 2000, .int (xs (i + 1)), .ref 36, .int v], qp_mk I1 J1)) (by with_unfolding_all rfl) trivial ?_
  refine lw_ld C ok rfl (lw_in (a := 2) hi hL (by omega)).1 ?_
  rw [show (qn i + 2).toNatClampNeg = i + 2 from (lw_in (a := 2) hi hL (by omega)).2]
  refine lw_cV C ok (d' := 100) (rest := [.int v]) (oj := 10) qp_f153 rfl rfl (gM_at l G (xs (i + 1)) (xs (i + 2)) I1 J1 e2 (by decide)) rfl rfl rfl rfl (by omega) ?_
  refine lw_br C ok (f := v = v) (xt := (1358, lw_L (qn i), [], qp_mk I2 J2)) (xf := (319, lw_L (qn i), [], qp_mk I2 J2)) (by with_unfolding_all rfl) (fun _ => ?_) (fun h => absurd rfl h)
  refine lw_run C ok 2 (x' := (18, lw_L (qn i + 6), [], qp_mk I2 J2)) (by with_unfolding_all rfl) trivial ?_
  exact ih I2 J2 hz
def qp_kc3 : List (List (Nat × Instr × Int32 × Nat)) := [[], [], [], [], [], [], [], [], [], [], [], [], [], [], [], [], [], [], [], [], [(321, .aload_n 1, 0, 0), (322, .aload_n 0, 0, 0), (323, .iload_n 3, 0, 0), (324, .iconst 1, 1, 0), (325, .iadd, 0, 0), (326, .iaload, 0, 0), (327, .invokevirtual 27, 0, 260), (330, .aload_n 2, 0, 0), (331, .aload_n 0, 0, 0), (332, .iload_n 3, 0, 0), (333, .iconst 1, 1, 0), (334, .iadd, 0, 0), (335, .iaload, 0, 0)], [(336, .invokevirtual 31, 0, 1550), (339, .if_icmp .eq 1019, 0, 1358)], [], [], [], [], [], [], [], [], [], [], [], [], [], [], [], [], [], [], [], [], [], [], [], [], [], [], [], [], [], [], [], [], [], [], [], [], [], [], [], [], [], [], [], [], [], [], [], [], [], [], [], [], [], [], [], [], [], [], [], [], [], [], [(1358, .iinc 3 6, 6, 0)], [(1361, .goto (-1343), 0, 18)]]
theorem qp_kc3_ok : qp_ok 14 code qp_kc3 := qp_ok_of (by decide +kernel)
set_option maxRecDepth 8000 in
theorem lw_c3 (C : lw_C p s m meth c G ad0 b L xs) (hL : L ≤ 3072) (hi : i + 6 ≤ L) (hR : zR I J) (ih : ∀ I J, zR I J → lw_V p l e s m below meth c G ad0 b (18, lw_L (qn i + 6), [], qp_mk I J)) : lw_V p l e s m below meth c G ad0 b (321, lw_L (qn i), [], qp_mk I J) := by
  have ok := qp_kc3_ok
  obtain ⟨v, I1, J1, I2, J2, e1, e2, hz⟩ := sim_tear (xs (i + 1)) I J hR
  refine lw_run C ok 5 (x' := (326, lw_L (qn i), [.int (qn i + 1), .ref 2000, .ref 0], qp_mk I J)) (by with_unfolding_all rfl) trivial ?_
  refine lw_ld C ok rfl (lw_in (a := 1) hi hL (by omega)).1 ?_
  rw [show (qn i + 1).toNatClampNeg = i + 1 from (lw_in (a := 1) hi hL (by omega)).2]
  refine lw_cV C ok (d' := 100) (rest := []) (oj := 0) qp_f26 rfl rfl (gX_tear l G (xs (i + 1)) I J e1 (by decide)) rfl rfl rfl rfl (by omega) ?_
  refine lw_run C ok 5 (x' := (335, lw_L (qn i), [.int (qn i + 1), .ref 2000, .ref 36, .int v], qp_mk I1 J1)) (by with_unfolding_all rfl) trivial ?_
  refine lw_ld C ok rfl (lw_in (a := 1) hi hL (by omega)).1 ?_
  rw [show (qn i + 1).toNatClampNeg = i + 1 from (lw_in (a := 1) hi hL (by omega)).2]
  refine lw_cV C ok (d' := 100) (rest := [.int v]) (oj := 10) qp_f155 rfl rfl (gM_tear l G (xs (i + 1)) I1 J1 e2 (by decide)) rfl rfl rfl rfl (by omega) ?_
  refine lw_br C ok (f := v = v) (xt := (1358, lw_L (qn i), [], qp_mk I2 J2)) (xf := (342, lw_L (qn i), [], qp_mk I2 J2)) (by with_unfolding_all rfl) (fun _ => ?_) (fun h => absurd rfl h)
  refine lw_run C ok 2 (x' := (18, lw_L (qn i + 6), [], qp_mk I2 J2)) (by with_unfolding_all rfl) trivial ?_
  exact ih I2 J2 hz
def qp_kc4 : List (List (Nat × Instr × Int32 × Nat)) := [[], [], [], [], [], [], [], [], [], [], [], [], [], [], [], [], [], [], [], [], [], [(344, .aload_n 1, 0, 0), (345, .aload_n 0, 0, 0), (346, .iload_n 3, 0, 0), (347, .iconst 1, 1, 0), (348, .iadd, 0, 0), (349, .iaload, 0, 0), (350, .aload_n 0, 0, 0), (351, .iload_n 3, 0, 0)], [(352, .iconst 2, 2, 0), (353, .iadd, 0, 0), (354, .iaload, 0, 0), (355, .aload_n 0, 0, 0), (356, .iload_n 3, 0, 0), (357, .iconst 3, 3, 0), (358, .iadd, 0, 0), (359, .iaload, 0, 0), (360, .aload_n 0, 0, 0), (361, .iload_n 3, 0, 0), (362, .iconst 4, 4, 0), (363, .iadd, 0, 0), (364, .iaload, 0, 0), (365, .aload_n 0, 0, 0), (366, .iload_n 3, 0, 0), (367, .iconst 5, 5, 0)], [(368, .iadd, 0, 0), (369, .iaload, 0, 0), (370, .invokevirtual 32, 0, 280), (373, .aload_n 2, 0, 0), (374, .aload_n 0, 0, 0), (375, .iload_n 3, 0, 0), (376, .iconst 1, 1, 0), (377, .iadd, 0, 0), (378, .iaload, 0, 0), (379, .aload_n 0, 0, 0), (380, .iload_n 3, 0, 0), (381, .iconst 2, 2, 0), (382, .iadd, 0, 0), (383, .iaload, 0, 0)], [(384, .aload_n 0, 0, 0), (385, .iload_n 3, 0, 0), (386, .iconst 3, 3, 0), (387, .iadd, 0, 0), (388, .iaload, 0, 0), (389, .aload_n 0, 0, 0), (390, .iload_n 3, 0, 0), (391, .iconst 4, 4, 0), (392, .iadd, 0, 0), (393, .iaload, 0, 0), (394, .aload_n 0, 0, 0), (395, .iload_n 3, 0, 0), (396, .iconst 5, 5, 0), (397, .iadd, 0, 0), (398, .iaload, 0, 0), (399, .invokevirtual 36, 0, 1560)], [(402, .if_icmp .eq 956, 0, 1358)], [], [], [], [], [], [], [], [], [], [], [], [], [], [], [], [], [], [], [], [], [], [], [], [], [], [], [], [], [], [], [], [], [], [], [], [], [], [], [], [], [], [], [], [], [], [], [], [], [], [], [], [], [], [], [], [], [], [], [(1358, .iinc 3 6, 6, 0)], [(1361, .goto (-1343), 0, 18)]]
theorem qp_kc4_ok : qp_ok 14 code qp_kc4 := qp_ok_of (by decide +kernel)
set_option maxRecDepth 8000 in
theorem lw_c4 (C : lw_C p s m meth c G ad0 b L xs) (hL : L ≤ 3072) (hi : i + 6 ≤ L) (hR : zR I J) (ih : ∀ I J, zR I J → lw_V p l e s m below meth c G ad0 b (18, lw_L (qn i + 6), [], qp_mk I J)) : lw_V p l e s m below meth c G ad0 b (344, lw_L (qn i), [], qp_mk I J) := by
  have ok := qp_kc4_ok
  obtain ⟨v, I1, J1, I2, J2, e1, e2, hz⟩ := sim_copy (xs (i + 1)) (xs (i + 2)) (xs (i + 3)) (xs (i + 4)) (xs (i + 5)) I J hR
  refine lw_run C ok 5 (x' := (349, lw_L (qn i), [.int (qn i + 1), .ref 2000, .ref 0], qp_mk I J)) (by with_unfolding_all rfl) trivial ?_
  refine lw_ld C ok rfl (lw_in (a := 1) hi hL (by omega)).1 ?_
  rw [show (qn i + 1).toNatClampNeg = i + 1 from (lw_in (a := 1) hi hL (by omega)).2]
  refine lw_run C ok 4 (x' := (354, lw_L (qn i), [.int (qn i + 2), .ref 2000, .int (xs (i + 1)), .ref 0], qp_mk I J)) (by with_unfolding_all rfl) trivial ?_
  refine lw_ld C ok rfl (lw_in (a := 2) hi hL (by omega)).1 ?_
  rw [show (qn i + 2).toNatClampNeg = i + 2 from (lw_in (a := 2) hi hL (by omega)).2]
  refine lw_run C ok 4 (x' := (359, lw_L (qn i), [.int (qn i + 3), .ref 2000, .int (xs (i + 2)), .int (xs (i + 1)), .ref 0], qp_mk I J)) (by with_unfolding_all rfl) trivial ?_
  refine lw_ld C ok rfl (lw_in (a := 3) hi hL (by omega)).1 ?_
  rw [show (qn i + 3).toNatClampNeg = i + 3 from (lw_in (a := 3) hi hL (by omega)).2]
  refine lw_run C ok 4 (x' := (364, lw_L (qn i), [.int (qn i + 4), .ref 2000, .int (xs (i + 3)), .int (xs (i + 2)), .int (xs (i + 1)), .ref 0], qp_mk I J)) (by with_unfolding_all rfl) trivial ?_
  refine lw_ld C ok rfl (lw_in (a := 4) hi hL (by omega)).1 ?_
  rw [show (qn i + 4).toNatClampNeg = i + 4 from (lw_in (a := 4) hi hL (by omega)).2]
  refine lw_run C ok 4 (x' := (369, lw_L (qn i), [.int (qn i + 5), .ref 2000, .int (xs (i + 4)), .int (xs (i + 3)), .int (xs (i + 2)), .int (xs (i + 1)), .ref 0], qp_mk I J)) (by with_unfolding_all rfl) trivial ?_
  refine lw_ld C ok rfl (lw_in (a := 5) hi hL (by omega)).1 ?_
  rw [show (qn i + 5).toNatClampNeg = i + 5 from (lw_in (a := 5) hi hL (by omega)).2]
  refine lw_cV C ok (d' := 100) (rest := []) (oj := 0) qp_f28 rfl rfl (gX_copy l G (xs (i + 1)) (xs (i + 2)) (xs (i + 3)) (xs (i + 4)) (xs (i + 5)) I J e1 (by decide)) rfl rfl rfl rfl (by omega) ?_
  refine lw_run C ok 5 (x' := (378, lw_L (qn i), [.int (qn i + 1), .ref 2000, .ref 36, .int v], qp_mk I1 J1)) (by with_unfolding_all rfl) trivial ?_
  refine lw_ld C ok rfl (lw_in (a := 1) hi hL (by omega)).1 ?_
  rw [show (qn i + 1).toNatClampNeg = i + 1 from (lw_in (a := 1) hi hL (by omega)).2]
  refine lw_run C ok 4 (x' := (383, lw_L (qn i), [.int (qn i + 2), .ref 2000, .int (xs (i + 1)), .ref 36, .int v], qp_mk I1 J1)) (by with_unfolding_all rfl) trivial ?_
  refine lw_ld C ok rfl (lw_in (a := 2) hi hL (by omega)).1 ?_
  rw [show (qn i + 2).toNatClampNeg = i + 2 from (lw_in (a := 2) hi hL (by omega)).2]
  refine lw_run C ok 4 (x' := (388, lw_L (qn i), [.int (qn i + 3), .ref 2000, .int (xs (i + 2)), .int (xs (i + 1)), .ref 36, .int v], qp_mk I1 J1)) (by with_unfolding_all rfl) trivial ?_
  refine lw_ld C ok rfl (lw_in (a := 3) hi hL (by omega)).1 ?_
  rw [show (qn i + 3).toNatClampNeg = i + 3 from (lw_in (a := 3) hi hL (by omega)).2]
  refine lw_run C ok 4 (x' := (393, lw_L (qn i), [.int (qn i + 4), .ref 2000, .int (xs (i + 3)), .int (xs (i + 2)), .int (xs (i + 1)), .ref 36, .int v], qp_mk I1 J1)) (by with_unfolding_all rfl) trivial ?_
  refine lw_ld C ok rfl (lw_in (a := 4) hi hL (by omega)).1 ?_
  rw [show (qn i + 4).toNatClampNeg = i + 4 from (lw_in (a := 4) hi hL (by omega)).2]
  refine lw_run C ok 4 (x' := (398, lw_L (qn i), [.int (qn i + 5), .ref 2000, .int (xs (i + 4)), .int (xs (i + 3)), .int (xs (i + 2)), .int (xs (i + 1)), .ref 36, .int v], qp_mk I1 J1)) (by with_unfolding_all rfl) trivial ?_
  refine lw_ld C ok rfl (lw_in (a := 5) hi hL (by omega)).1 ?_
  rw [show (qn i + 5).toNatClampNeg = i + 5 from (lw_in (a := 5) hi hL (by omega)).2]
  refine lw_cV C ok (d' := 100) (rest := [.int v]) (oj := 10) qp_f156 rfl rfl (gM_copy l G (xs (i + 1)) (xs (i + 2)) (xs (i + 3)) (xs (i + 4)) (xs (i + 5)) I1 J1 e2 (by decide)) rfl rfl rfl rfl (by omega) ?_
  refine lw_br C ok (f := v = v) (xt := (1358, lw_L (qn i), [], qp_mk I2 J2)) (xf := (405, lw_L (qn i), [], qp_mk I2 J2)) (by with_unfolding_all rfl) (fun _ => ?_) (fun h => absurd rfl h)
  refine lw_run C ok 2 (x' := (18, lw_L (qn i + 6), [], qp_mk I2 J2)) (by with_unfolding_all rfl) trivial ?_
  exact ih I2 J2 hz
def qp_kc5 : List (List (Nat × Instr × Int32 × Nat)) := [[], [], [], [], [], [], [], [], [], [], [], [], [], [], [], [], [], [], [], [], [], [], [], [], [], [(407, .aload_n 1, 0, 0), (408, .aload_n 0, 0, 0), (409, .iload_n 3, 0, 0), (410, .iconst 1, 1, 0), (411, .iadd, 0, 0), (412, .iaload, 0, 0), (413, .invokevirtual 37, 0, 320)], [(416, .aload_n 2, 0, 0), (417, .aload_n 0, 0, 0), (418, .iload_n 3, 0, 0), (419, .iconst 1, 1, 0), (420, .iadd, 0, 0), (421, .iaload, 0, 0), (422, .invokevirtual 40, 0, 1570), (425, .if_icmp .eq 933, 0, 1358)], [], [], [], [], [], [], [], [], [], [], [], [], [], [], [], [], [], [], [], [], [], [], [], [], [], [], [], [], [], [], [], [], [], [], [], [], [], [], [], [], [], [], [], [], [], [], [], [], [], [], [], [], [], [], [], [], [], [(1358, .iinc 3 6, 6, 0)], [(1361, .goto (-1343), 0, 18)]]
theorem qp_kc5_ok : qp_ok 14 code qp_kc5 := qp_ok_of (by decide +kernel)
set_option maxRecDepth 8000 in
theorem lw_c5 (C : lw_C p s m meth c G ad0 b L xs) (hL : L ≤ 3072) (hi : i + 6 ≤ L) (hR : zR I J) (ih : ∀ I J, zR I J → lw_V p l e s m below meth c G ad0 b (18, lw_L (qn i + 6), [], qp_mk I J)) : lw_V p l e s m below meth c G ad0 b (407, lw_L (qn i), [], qp_mk I J) := by
  have ok := qp_kc5_ok
  obtain ⟨v, I1, J1, I2, J2, e1, e2, hz⟩ := sim_mean (xs (i + 1)) I J hR
  refine lw_run C ok 5 (x' := (412, lw_L (qn i), [.int (qn i + 1), .ref 2000, .ref 0], qp_mk I J)) (by with_unfolding_all rfl) trivial ?_
  refine lw_ld C ok rfl (lw_in (a := 1) hi hL (by omega)).1 ?_
  rw [show (qn i + 1).toNatClampNeg = i + 1 from (lw_in (a := 1) hi hL (by omega)).2]
  refine lw_cV C ok (d' := 100) (rest := []) (oj := 0) qp_f32 rfl rfl (gX_mean l G (xs (i + 1)) I J e1 (by decide)) rfl rfl rfl rfl (by omega) ?_
  refine lw_run C ok 5 (x' := (421, lw_L (qn i), [.int (qn i + 1), .ref 2000, .ref 36, .int v], qp_mk I1 J1)) (by with_unfolding_all rfl) trivial ?_
  refine lw_ld C ok rfl (lw_in (a := 1) hi hL (by omega)).1 ?_
  rw [show (qn i + 1).toNatClampNeg = i + 1 from (lw_in (a := 1) hi hL (by omega)).2]
  refine lw_cV C ok (d' := 100) (rest := [.int v]) (oj := 10) qp_f157 rfl rfl (gM_mean l G (xs (i + 1)) I1 J1 e2 (by decide)) rfl rfl rfl rfl (by omega) ?_
  refine lw_br C ok (f := v = v) (xt := (1358, lw_L (qn i), [], qp_mk I2 J2)) (xf := (428, lw_L (qn i), [], qp_mk I2 J2)) (by with_unfolding_all rfl) (fun _ => ?_) (fun h => absurd rfl h)
  refine lw_run C ok 2 (x' := (18, lw_L (qn i + 6), [], qp_mk I2 J2)) (by with_unfolding_all rfl) trivial ?_
  exact ih I2 J2 hz
def qp_kc6 : List (List (Nat × Instr × Int32 × Nat)) := [[], [], [], [], [], [], [], [], [], [], [], [], [], [], [], [], [], [], [], [], [], [], [], [], [], [], [(430, .aload_n 1, 0, 0), (431, .aload_n 0, 0, 0)], [(432, .iload_n 3, 0, 0), (433, .iconst 1, 1, 0), (434, .iadd, 0, 0), (435, .iaload, 0, 0), (436, .aload_n 0, 0, 0), (437, .iload_n 3, 0, 0), (438, .iconst 2, 2, 0), (439, .iadd, 0, 0), (440, .iaload, 0, 0), (441, .invokevirtual 41, 0, 340), (444, .aload_n 2, 0, 0), (445, .aload_n 0, 0, 0), (446, .iload_n 3, 0, 0), (447, .iconst 1, 1, 0)], [(448, .iadd, 0, 0), (449, .iaload, 0, 0), (450, .aload_n 0, 0, 0), (451, .iload_n 3, 0, 0), (452, .iconst 2, 2, 0), (453, .iadd, 0, 0), (454, .iaload, 0, 0), (455, .invokevirtual 44, 0, 1580), (458, .if_icmp .eq 900, 0, 1358)], [], [], [], [], [], [], [], [], [], [], [], [], [], [], [], [], [], [], [], [], [], [], [], [], [], [], [], [], [], [], [], [], [], [], [], [], [], [], [], [], [], [], [], [], [], [], [], [], [], [], [], [], [], [], [], [(1358, .iinc 3 6, 6, 0)], [(1361, .goto (-1343), 0, 18)]]
theorem qp_kc6_ok : qp_ok 14 code qp_kc6 := qp_ok_of (by decide +kernel)
set_option maxRecDepth 8000 in
theorem lw_c6 (C : lw_C p s m meth c G ad0 b L xs) (hL : L ≤ 3072) (hi : i + 6 ≤ L) (hR : zR I J) (ih : ∀ I J, zR I J → lw_V p l e s m below meth c G ad0 b (18, lw_L (qn i + 6), [], qp_mk I J)) : lw_V p l e s m below meth c G ad0 b (430, lw_L (qn i), [], qp_mk I J) := by
  have ok := qp_kc6_ok
  obtain ⟨v, I1, J1, I2, J2, e1, e2, hz⟩ := sim_text (xs (i + 1)) (xs (i + 2)) I J hR
  refine lw_run C ok 5 (x' := (435, lw_L (qn i), [.int (qn i + 1), .ref 2000, .ref 0], qp_mk I J)) (by with_unfolding_all rfl) trivial ?_
  refine lw_ld C ok rfl (lw_in (a := 1) hi hL (by omega)).1 ?_
  rw [show (qn i + 1).toNatClampNeg = i + 1 from (lw_in (a := 1) hi hL (by omega)).2]
  refine lw_run C ok 4 (x' := (440, lw_L (qn i), [.int (qn i + 2), .ref 2000, .int (xs (i + 1)), .ref 0], qp_mk I J)) (by with_unfolding_all rfl) trivial ?_
  refine lw_ld C ok rfl (lw_in (a := 2) hi hL (by omega)).1 ?_
  rw [show (qn i + 2).toNatClampNeg = i + 2 from (lw_in (a := 2) hi hL (by omega)).2]
  refine lw_cV C ok (d' := 100) (rest := []) (oj := 0) qp_f34 rfl rfl (gX_text l G (xs (i + 1)) (xs (i + 2)) I J e1 (by decide)) rfl rfl rfl rfl (by omega) ?_
  refine lw_run C ok 5 (x' := (449, lw_L (qn i), [.int (qn i + 1), .ref 2000, .ref 36, .int v], qp_mk I1 J1)) (by with_unfolding_all rfl) trivial ?_
  refine lw_ld C ok rfl (lw_in (a := 1) hi hL (by omega)).1 ?_
  rw [show (qn i + 1).toNatClampNeg = i + 1 from (lw_in (a := 1) hi hL (by omega)).2]
  refine lw_run C ok 4 (x' := (454, lw_L (qn i), [.int (qn i + 2), .ref 2000, .int (xs (i + 1)), .ref 36, .int v], qp_mk I1 J1)) (by with_unfolding_all rfl) trivial ?_
  refine lw_ld C ok rfl (lw_in (a := 2) hi hL (by omega)).1 ?_
  rw [show (qn i + 2).toNatClampNeg = i + 2 from (lw_in (a := 2) hi hL (by omega)).2]
  refine lw_cV C ok (d' := 100) (rest := [.int v]) (oj := 10) qp_f158 rfl rfl (gM_text l G (xs (i + 1)) (xs (i + 2)) I1 J1 e2 (by decide)) rfl rfl rfl rfl (by omega) ?_
  refine lw_br C ok (f := v = v) (xt := (1358, lw_L (qn i), [], qp_mk I2 J2)) (xf := (461, lw_L (qn i), [], qp_mk I2 J2)) (by with_unfolding_all rfl) (fun _ => ?_) (fun h => absurd rfl h)
  refine lw_run C ok 2 (x' := (18, lw_L (qn i + 6), [], qp_mk I2 J2)) (by with_unfolding_all rfl) trivial ?_
  exact ih I2 J2 hz
end LC

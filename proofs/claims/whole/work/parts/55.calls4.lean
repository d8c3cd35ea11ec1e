/-! THE LAW'S CALLS, further -/
section LC
variable {p : Program} {l : Launch} {e : Env} {s : State} {m : MethodId} {below : List Frame} {meth : Method} {c : Code} {G : qp_G} {ad0 : Nat → Nat} {b L : Nat} {xs : Nat → Int32} {I : Nat → Nat → Int32} {J : Nat → Nat → Int64} {i : Nat}
def qp_kc28 : List (List (Nat × Instr × Int32 × Nat)) := [[], [], [], [], [], [], [], [], [], [], [], [], [], [], [], [], [], [], [], [], [], [], [], [], [], [], [], [], [], [], [], [], [], [], [], [], [], [], [], [], [], [], [], [], [], [], [], [], [], [], [], [], [], [], [], [], [], [], [], [], [], [], [], [], [], [], [(1066, .aload_n 1, 0, 0), (1067, .aload_n 0, 0, 0), (1068, .iload_n 3, 0, 0), (1069, .iconst 1, 1, 0), (1070, .iadd, 0, 0), (1071, .iaload, 0, 0)], [(1072, .invokevirtual 130, 0, 1170), (1075, .aload_n 2, 0, 0), (1076, .aload_n 0, 0, 0), (1077, .iload_n 3, 0, 0), (1078, .iconst 1, 1, 0), (1079, .iadd, 0, 0), (1080, .iaload, 0, 0), (1081, .invokevirtual 133, 0, 2150), (1084, .if_icmp .eq 274, 0, 1358)], [], [], [], [], [], [], [], [], [], [], [], [], [], [], [], [], [(1358, .iinc 3 6, 6, 0)], [(1361, .goto (-1343), 0, 18)]]
theorem qp_kc28_ok : qp_ok 14 code qp_kc28 := qp_ok_of (by decide +kernel)
set_option maxRecDepth 8000 in
theorem lw_c28 (C : lw_C p s m meth c G ad0 b L xs) (hL : L ≤ 3072) (hi : i + 6 ≤ L) (hR : zR I J) (ih : ∀ I J, zR I J → lw_V p l e s m below meth c G ad0 b (18, lw_L (qn i + 6), [], qp_mk I J)) : lw_V p l e s m below meth c G ad0 b (1066, lw_L (qn i), [], qp_mk I J) := by
  have ok := qp_kc28_ok
  obtain ⟨v, I1, J1, I2, J2, e1, e2, hz⟩ := sim_sets (xs (i + 1)) I J hR
  refine lw_run C ok 5 (x' := (1071, lw_L (qn i), [.int (qn i + 1), .ref 2000, .ref 0], qp_mk I J)) (by with_unfolding_all rfl) trivial ?_
  refine lw_ld C ok rfl (lw_in (a := 1) hi hL (by omega)).1 ?_
  rw [show (qn i + 1).toNatClampNeg = i + 1 from (lw_in (a := 1) hi hL (by omega)).2]
  refine lw_cV C ok (d' := 100) (rest := []) (oj := 0) qp_f117 rfl rfl (gX_sets l G (xs (i + 1)) I J e1 (by decide)) rfl rfl rfl rfl (by omega) ?_
  refine lw_run C ok 5 (x' := (1080, lw_L (qn i), [.int (qn i + 1), .ref 2000, .ref 36, .int v], qp_mk I1 J1)) (by with_unfolding_all rfl) trivial ?_
  refine lw_ld C ok rfl (lw_in (a := 1) hi hL (by omega)).1 ?_
  rw [show (qn i + 1).toNatClampNeg = i + 1 from (lw_in (a := 1) hi hL (by omega)).2]
  refine lw_cV C ok (d' := 100) (rest := [.int v]) (oj := 10) qp_f215 rfl rfl (gM_sets l G (xs (i + 1)) I1 J1 e2 (by decide)) rfl rfl rfl rfl (by omega) ?_
  refine lw_br C ok (f := v = v) (xt := (1358, lw_L (qn i), [], qp_mk I2 J2)) (xf := (1087, lw_L (qn i), [], qp_mk I2 J2)) (by with_unfolding_all rfl) (fun _ => ?_) (fun h => absurd rfl h)
  refine lw_run C ok 2 (x' := (18, lw_L (qn i + 6), [], qp_mk I2 J2)) (by with_unfolding_all rfl) trivial ?_
  exact ih I2 J2 hz
def qp_kc29 : List (List (Nat × Instr × Int32 × Nat)) := [[], [], [], [], [], [], [], [], [], [], [], [], [], [], [], [], [], [], [], [], [], [], [], [], [], [], [], [], [], [], [], [], [], [], [], [], [], [], [], [], [], [], [], [], [], [], [], [], [], [], [], [], [], [], [], [], [], [], [], [], [], [], [], [], [], [], [], [], [(1089, .aload_n 1, 0, 0), (1090, .aload_n 0, 0, 0), (1091, .iload_n 3, 0, 0), (1092, .iconst 1, 1, 0), (1093, .iadd, 0, 0), (1094, .iaload, 0, 0), (1095, .invokevirtual 134, 0, 1190), (1098, .aload_n 2, 0, 0), (1099, .aload_n 0, 0, 0), (1100, .iload_n 3, 0, 0), (1101, .iconst 1, 1, 0), (1102, .iadd, 0, 0), (1103, .iaload, 0, 0)], [(1104, .invokevirtual 137, 0, 2170), (1107, .if_icmp .eq 251, 0, 1358)], [], [], [], [], [], [], [], [], [], [], [], [], [], [], [(1358, .iinc 3 6, 6, 0)], [(1361, .goto (-1343), 0, 18)]]
theorem qp_kc29_ok : qp_ok 14 code qp_kc29 := qp_ok_of (by decide +kernel)
set_option maxRecDepth 8000 in
theorem lw_c29 (C : lw_C p s m meth c G ad0 b L xs) (hL : L ≤ 3072) (hi : i + 6 ≤ L) (hR : zR I J) (ih : ∀ I J, zR I J → lw_V p l e s m below meth c G ad0 b (18, lw_L (qn i + 6), [], qp_mk I J)) : lw_V p l e s m below meth c G ad0 b (1089, lw_L (qn i), [], qp_mk I J) := by
  have ok := qp_kc29_ok
  obtain ⟨v, I1, J1, I2, J2, e1, e2, hz⟩ := sim_sure (xs (i + 1)) I J hR
  refine lw_run C ok 5 (x' := (1094, lw_L (qn i), [.int (qn i + 1), .ref 2000, .ref 0], qp_mk I J)) (by with_unfolding_all rfl) trivial ?_
  refine lw_ld C ok rfl (lw_in (a := 1) hi hL (by omega)).1 ?_
  rw [show (qn i + 1).toNatClampNeg = i + 1 from (lw_in (a := 1) hi hL (by omega)).2]
  refine lw_cV C ok (d' := 100) (rest := []) (oj := 0) qp_f119 rfl rfl (gX_sure l G (xs (i + 1)) I J e1 (by decide)) rfl rfl rfl rfl (by omega) ?_
  refine lw_run C ok 5 (x' := (1103, lw_L (qn i), [.int (qn i + 1), .ref 2000, .ref 36, .int v], qp_mk I1 J1)) (by with_unfolding_all rfl) trivial ?_
  refine lw_ld C ok rfl (lw_in (a := 1) hi hL (by omega)).1 ?_
  rw [show (qn i + 1).toNatClampNeg = i + 1 from (lw_in (a := 1) hi hL (by omega)).2]
  refine lw_cV C ok (d' := 100) (rest := [.int v]) (oj := 10) qp_f217 rfl rfl (gM_sure l G (xs (i + 1)) I1 J1 e2 (by decide)) rfl rfl rfl rfl (by omega) ?_
  refine lw_br C ok (f := v = v) (xt := (1358, lw_L (qn i), [], qp_mk I2 J2)) (xf := (1110, lw_L (qn i), [], qp_mk I2 J2)) (by with_unfolding_all rfl) (fun _ => ?_) (fun h => absurd rfl h)
  refine lw_run C ok 2 (x' := (18, lw_L (qn i + 6), [], qp_mk I2 J2)) (by with_unfolding_all rfl) trivial ?_
  exact ih I2 J2 hz
def qp_kc30 : List (List (Nat × Instr × Int32 × Nat)) := [[], [], [], [], [], [], [], [], [], [], [], [], [], [], [], [], [], [], [], [], [], [], [], [], [], [], [], [], [], [], [], [], [], [], [], [], [], [], [], [], [], [], [], [], [], [], [], [], [], [], [], [], [], [], [], [], [], [], [], [], [], [], [], [], [], [], [], [], [], [(1112, .aload_n 1, 0, 0), (1113, .aload_n 0, 0, 0), (1114, .iload_n 3, 0, 0), (1115, .iconst 1, 1, 0), (1116, .iadd, 0, 0), (1117, .iaload, 0, 0), (1118, .aload_n 0, 0, 0), (1119, .iload_n 3, 0, 0)], [(1120, .iconst 2, 2, 0), (1121, .iadd, 0, 0), (1122, .iaload, 0, 0), (1123, .aload_n 0, 0, 0), (1124, .iload_n 3, 0, 0), (1125, .iconst 3, 3, 0), (1126, .iadd, 0, 0), (1127, .iaload, 0, 0), (1128, .invokevirtual 138, 0, 1200), (1131, .aload_n 2, 0, 0), (1132, .aload_n 0, 0, 0), (1133, .iload_n 3, 0, 0), (1134, .iconst 1, 1, 0), (1135, .iadd, 0, 0)], [(1136, .iaload, 0, 0), (1137, .aload_n 0, 0, 0), (1138, .iload_n 3, 0, 0), (1139, .iconst 2, 2, 0), (1140, .iadd, 0, 0), (1141, .iaload, 0, 0), (1142, .aload_n 0, 0, 0), (1143, .iload_n 3, 0, 0), (1144, .iconst 3, 3, 0), (1145, .iadd, 0, 0), (1146, .iaload, 0, 0), (1147, .invokevirtual 141, 0, 2180), (1150, .if_icmp .eq 208, 0, 1358)], [], [], [], [], [], [], [], [], [], [], [], [], [(1358, .iinc 3 6, 6, 0)], [(1361, .goto (-1343), 0, 18)]]
theorem qp_kc30_ok : qp_ok 14 code qp_kc30 := qp_ok_of (by decide +kernel)
set_option maxRecDepth 8000 in
theorem lw_c30 (C : lw_C p s m meth c G ad0 b L xs) (hL : L ≤ 3072) (hi : i + 6 ≤ L) (hR : zR I J) (ih : ∀ I J, zR I J → lw_V p l e s m below meth c G ad0 b (18, lw_L (qn i + 6), [], qp_mk I J)) : lw_V p l e s m below meth c G ad0 b (1112, lw_L (qn i), [], qp_mk I J) := by
  have ok := qp_kc30_ok
  obtain ⟨v, I1, J1, I2, J2, e1, e2, hz⟩ := sim_duel (xs (i + 1)) (xs (i + 2)) (xs (i + 3)) I J hR
  refine lw_run C ok 5 (x' := (1117, lw_L (qn i), [.int (qn i + 1), .ref 2000, .ref 0], qp_mk I J)) (by with_unfolding_all rfl) trivial ?_
  refine lw_ld C ok rfl (lw_in (a := 1) hi hL (by omega)).1 ?_
  rw [show (qn i + 1).toNatClampNeg = i + 1 from (lw_in (a := 1) hi hL (by omega)).2]
  refine lw_run C ok 4 (x' := (1122, lw_L (qn i), [.int (qn i + 2), .ref 2000, .int (xs (i + 1)), .ref 0], qp_mk I J)) (by with_unfolding_all rfl) trivial ?_
  refine lw_ld C ok rfl (lw_in (a := 2) hi hL (by omega)).1 ?_
  rw [show (qn i + 2).toNatClampNeg = i + 2 from (lw_in (a := 2) hi hL (by omega)).2]
  refine lw_run C ok 4 (x' := (1127, lw_L (qn i), [.int (qn i + 3), .ref 2000, .int (xs (i + 2)), .int (xs (i + 1)), .ref 0], qp_mk I J)) (by with_unfolding_all rfl) trivial ?_
  refine lw_ld C ok rfl (lw_in (a := 3) hi hL (by omega)).1 ?_
  rw [show (qn i + 3).toNatClampNeg = i + 3 from (lw_in (a := 3) hi hL (by omega)).2]
  refine lw_cV C ok (d' := 100) (rest := []) (oj := 0) qp_f120 rfl rfl (gX_duel l G (xs (i + 1)) (xs (i + 2)) (xs (i + 3)) I J e1 (by decide)) rfl rfl rfl rfl (by omega) ?_
  refine lw_run C ok 5 (x' := (1136, lw_L (qn i), [.int (qn i + 1), .ref 2000, .ref 36, .int v], qp_mk I1 J1)) (by with_unfolding_all rfl) trivial ?_
  refine lw_ld C ok rfl (lw_in (a := 1) hi hL (by omega)).1 ?_
  rw [show (qn i + 1).toNatClampNeg = i + 1 from (lw_in (a := 1) hi hL (by omega)).2]
  refine lw_run C ok 4 (x' := (1141, lw_L (qn i), [.int (qn i + 2), .ref 2000, .int (xs (i + 1)), .ref 36, .int v], qp_mk I1 J1)) (by with_unfolding_all rfl) trivial ?_
  refine lw_ld C ok rfl (lw_in (a := 2) hi hL (by omega)).1 ?_
  rw [show (qn i + 2).toNatClampNeg = i + 2 from (lw_in (a := 2) hi hL (by omega)).2]
  refine lw_run C ok 4 (x' := (1146, lw_L (qn i), [.int (qn i + 3), .ref 2000, .int (xs (i + 2)), .int (xs (i + 1)), .ref 36, .int v], qp_mk I1 J1)) (by with_unfolding_all rfl) trivial ?_
  refine lw_ld C ok rfl (lw_in (a := 3) hi hL (by omega)).1 ?_
  rw [show (qn i + 3).toNatClampNeg = i + 3 from (lw_in (a := 3) hi hL (by omega)).2]
  refine lw_cV C ok (d' := 100) (rest := [.int v]) (oj := 10) qp_f218 rfl rfl (gM_duel l G (xs (i + 1)) (xs (i + 2)) (xs (i + 3)) I1 J1 e2 (by decide)) rfl rfl rfl rfl (by omega) ?_
  refine lw_br C ok (f := v = v) (xt := (1358, lw_L (qn i), [], qp_mk I2 J2)) (xf := (1153, lw_L (qn i), [], qp_mk I2 J2)) (by with_unfolding_all rfl) (fun _ => ?_) (fun h => absurd rfl h)
  refine lw_run C ok 2 (x' := (18, lw_L (qn i + 6), [], qp_mk I2 J2)) (by with_unfolding_all rfl) trivial ?_
  exact ih I2 J2 hz
def qp_kc31 : List (List (Nat × Instr × Int32 × Nat)) := [[], [], [], [], [], [], [], [], [], [], [], [], [], [], [], [], [], [], [], [], [], [], [], [], [], [], [], [], [], [], [], [], [], [], [], [], [], [], [], [], [], [], [], [], [], [], [], [], [], [], [], [], [], [], [], [], [], [], [], [], [], [], [], [], [], [], [], [], [], [], [], [], [(1155, .aload_n 1, 0, 0), (1156, .aload_n 0, 0, 0), (1157, .iload_n 3, 0, 0), (1158, .iconst 1, 1, 0), (1159, .iadd, 0, 0), (1160, .iaload, 0, 0), (1161, .aload_n 0, 0, 0), (1162, .iload_n 3, 0, 0), (1163, .iconst 2, 2, 0), (1164, .iadd, 0, 0), (1165, .iaload, 0, 0), (1166, .invokevirtual 142, 0, 1240)], [(1169, .aload_n 2, 0, 0), (1170, .aload_n 0, 0, 0), (1171, .iload_n 3, 0, 0), (1172, .iconst 1, 1, 0), (1173, .iadd, 0, 0), (1174, .iaload, 0, 0), (1175, .aload_n 0, 0, 0), (1176, .iload_n 3, 0, 0), (1177, .iconst 2, 2, 0), (1178, .iadd, 0, 0), (1179, .iaload, 0, 0), (1180, .invokevirtual 145, 0, 2210), (1183, .if_icmp .eq 175, 0, 1358)], [], [], [], [], [], [], [], [], [], [], [(1358, .iinc 3 6, 6, 0)], [(1361, .goto (-1343), 0, 18)]]
theorem qp_kc31_ok : qp_ok 14 code qp_kc31 := qp_ok_of (by decide +kernel)
set_option maxRecDepth 8000 in
theorem lw_c31 (C : lw_C p s m meth c G ad0 b L xs) (hL : L ≤ 3072) (hi : i + 6 ≤ L) (hR : zR I J) (ih : ∀ I J, zR I J → lw_V p l e s m below meth c G ad0 b (18, lw_L (qn i + 6), [], qp_mk I J)) : lw_V p l e s m below meth c G ad0 b (1155, lw_L (qn i), [], qp_mk I J) := by
  have ok := qp_kc31_ok
  obtain ⟨v, I1, J1, I2, J2, e1, e2, hz⟩ := sim_odds (xs (i + 1)) (xs (i + 2)) I J hR
  refine lw_run C ok 5 (x' := (1160, lw_L (qn i), [.int (qn i + 1), .ref 2000, .ref 0], qp_mk I J)) (by with_unfolding_all rfl) trivial ?_
  refine lw_ld C ok rfl (lw_in (a := 1) hi hL (by omega)).1 ?_
  rw [show (qn i + 1).toNatClampNeg = i + 1 from (lw_in (a := 1) hi hL (by omega)).2]
  refine lw_run C ok 4 (x' := (1165, lw_L (qn i), [.int (qn i + 2), .ref 2000, .int (xs (i + 1)), .ref 0], qp_mk I J)) (by with_unfolding_all rfl) trivial ?_
  refine lw_ld C ok rfl (lw_in (a := 2) hi hL (by omega)).1 ?_
  rw [show (qn i + 2).toNatClampNeg = i + 2 from (lw_in (a := 2) hi hL (by omega)).2]
  refine lw_cV C ok (d' := 100) (rest := []) (oj := 0) qp_f124 rfl rfl (gX_odds l G (xs (i + 1)) (xs (i + 2)) I J e1 (by decide)) rfl rfl rfl rfl (by omega) ?_
  refine lw_run C ok 5 (x' := (1174, lw_L (qn i), [.int (qn i + 1), .ref 2000, .ref 36, .int v], qp_mk I1 J1)) (by with_unfolding_all rfl) trivial ?_
  refine lw_ld C ok rfl (lw_in (a := 1) hi hL (by omega)).1 ?_
  rw [show (qn i + 1).toNatClampNeg = i + 1 from (lw_in (a := 1) hi hL (by omega)).2]
  refine lw_run C ok 4 (x' := (1179, lw_L (qn i), [.int (qn i + 2), .ref 2000, .int (xs (i + 1)), .ref 36, .int v], qp_mk I1 J1)) (by with_unfolding_all rfl) trivial ?_
  refine lw_ld C ok rfl (lw_in (a := 2) hi hL (by omega)).1 ?_
  rw [show (qn i + 2).toNatClampNeg = i + 2 from (lw_in (a := 2) hi hL (by omega)).2]
  refine lw_cV C ok (d' := 100) (rest := [.int v]) (oj := 10) qp_f221 rfl rfl (gM_odds l G (xs (i + 1)) (xs (i + 2)) I1 J1 e2 (by decide)) rfl rfl rfl rfl (by omega) ?_
  refine lw_br C ok (f := v = v) (xt := (1358, lw_L (qn i), [], qp_mk I2 J2)) (xf := (1186, lw_L (qn i), [], qp_mk I2 J2)) (by with_unfolding_all rfl) (fun _ => ?_) (fun h => absurd rfl h)
  refine lw_run C ok 2 (x' := (18, lw_L (qn i + 6), [], qp_mk I2 J2)) (by with_unfolding_all rfl) trivial ?_
  exact ih I2 J2 hz
def qp_kc32 : List (List (Nat × Instr × Int32 × Nat)) := [[], [], [], [], [], [], [], [], [], [], [], [], [], [], [], [], [], [], [], [], [], [], [], [], [], [], [], [], [], [], [], [], [], [], [], [], [], [], [], [], [], [], [], [], [], [], [], [], [], [], [], [], [], [], [], [], [], [], [], [], [], [], [], [], [], [], [], [], [], [], [], [], [], [], [(1188, .aload_n 1, 0, 0), (1189, .aload_n 0, 0, 0), (1190, .iload_n 3, 0, 0), (1191, .iconst 1, 1, 0), (1192, .iadd, 0, 0), (1193, .iaload, 0, 0), (1194, .invokevirtual 146, 0, 1300), (1197, .aload_n 2, 0, 0), (1198, .aload_n 0, 0, 0), (1199, .iload_n 3, 0, 0)], [(1200, .iconst 1, 1, 0), (1201, .iadd, 0, 0), (1202, .iaload, 0, 0), (1203, .invokevirtual 149, 0, 2240), (1206, .if_icmp .eq 152, 0, 1358)], [], [], [], [], [], [], [], [], [(1358, .iinc 3 6, 6, 0)], [(1361, .goto (-1343), 0, 18)]]
theorem qp_kc32_ok : qp_ok 14 code qp_kc32 := qp_ok_of (by decide +kernel)
set_option maxRecDepth 8000 in
theorem lw_c32 (C : lw_C p s m meth c G ad0 b L xs) (hL : L ≤ 3072) (hi : i + 6 ≤ L) (hR : zR I J) (ih : ∀ I J, zR I J → lw_V p l e s m below meth c G ad0 b (18, lw_L (qn i + 6), [], qp_mk I J)) : lw_V p l e s m below meth c G ad0 b (1188, lw_L (qn i), [], qp_mk I J) := by
  have ok := qp_kc32_ok
  obtain ⟨v, I1, J1, I2, J2, e1, e2, hz⟩ := sim_mid (xs (i + 1)) I J hR
  refine lw_run C ok 5 (x' := (1193, lw_L (qn i), [.int (qn i + 1), .ref 2000, .ref 0], qp_mk I J)) (by with_unfolding_all rfl) trivial ?_
  refine lw_ld C ok rfl (lw_in (a := 1) hi hL (by omega)).1 ?_
  rw [show (qn i + 1).toNatClampNeg = i + 1 from (lw_in (a := 1) hi hL (by omega)).2]
  refine lw_cV C ok (d' := 100) (rest := []) (oj := 0) qp_f130 rfl rfl (gX_mid l G (xs (i + 1)) I J e1 (by decide)) rfl rfl rfl rfl (by omega) ?_
  refine lw_run C ok 5 (x' := (1202, lw_L (qn i), [.int (qn i + 1), .ref 2000, .ref 36, .int v], qp_mk I1 J1)) (by with_unfolding_all rfl) trivial ?_
  refine lw_ld C ok rfl (lw_in (a := 1) hi hL (by omega)).1 ?_
  rw [show (qn i + 1).toNatClampNeg = i + 1 from (lw_in (a := 1) hi hL (by omega)).2]
  refine lw_cV C ok (d' := 100) (rest := [.int v]) (oj := 10) qp_f224 rfl rfl (gM_mid l G (xs (i + 1)) I1 J1 e2 (by decide)) rfl rfl rfl rfl (by omega) ?_
  refine lw_br C ok (f := v = v) (xt := (1358, lw_L (qn i), [], qp_mk I2 J2)) (xf := (1209, lw_L (qn i), [], qp_mk I2 J2)) (by with_unfolding_all rfl) (fun _ => ?_) (fun h => absurd rfl h)
  refine lw_run C ok 2 (x' := (18, lw_L (qn i + 6), [], qp_mk I2 J2)) (by with_unfolding_all rfl) trivial ?_
  exact ih I2 J2 hz
def qp_kc33 : List (List (Nat × Instr × Int32 × Nat)) := [[], [], [], [], [], [], [], [], [], [], [], [], [], [], [], [], [], [], [], [], [], [], [], [], [], [], [], [], [], [], [], [], [], [], [], [], [], [], [], [], [], [], [], [], [], [], [], [], [], [], [], [], [], [], [], [], [], [], [], [], [], [], [], [], [], [], [], [], [], [], [], [], [], [], [], [(1211, .aload_n 1, 0, 0), (1212, .aload_n 0, 0, 0), (1213, .iload_n 3, 0, 0), (1214, .iconst 1, 1, 0), (1215, .iadd, 0, 0)], [(1216, .iaload, 0, 0), (1217, .aload_n 0, 0, 0), (1218, .iload_n 3, 0, 0), (1219, .iconst 2, 2, 0), (1220, .iadd, 0, 0), (1221, .iaload, 0, 0), (1222, .invokevirtual 150, 0, 1330), (1225, .aload_n 2, 0, 0), (1226, .aload_n 0, 0, 0), (1227, .iload_n 3, 0, 0), (1228, .iconst 1, 1, 0), (1229, .iadd, 0, 0), (1230, .iaload, 0, 0), (1231, .aload_n 0, 0, 0)], [(1232, .iload_n 3, 0, 0), (1233, .iconst 2, 2, 0), (1234, .iadd, 0, 0), (1235, .iaload, 0, 0), (1236, .invokevirtual 153, 0, 2250), (1239, .if_icmp .eq 119, 0, 1358)], [], [], [], [], [], [], [(1358, .iinc 3 6, 6, 0)], [(1361, .goto (-1343), 0, 18)]]
theorem qp_kc33_ok : qp_ok 14 code qp_kc33 := qp_ok_of (by decide +kernel)
set_option maxRecDepth 8000 in
theorem lw_c33 (C : lw_C p s m meth c G ad0 b L xs) (hL : L ≤ 3072) (hi : i + 6 ≤ L) (hR : zR I J) (ih : ∀ I J, zR I J → lw_V p l e s m below meth c G ad0 b (18, lw_L (qn i + 6), [], qp_mk I J)) : lw_V p l e s m below meth c G ad0 b (1211, lw_L (qn i), [], qp_mk I J) := by
  have ok := qp_kc33_ok
  obtain ⟨v, I1, J1, I2, J2, e1, e2, hz⟩ := sim_lots (xs (i + 1)) (xs (i + 2)) I J hR
  refine lw_run C ok 5 (x' := (1216, lw_L (qn i), [.int (qn i + 1), .ref 2000, .ref 0], qp_mk I J)) (by with_unfolding_all rfl) trivial ?_
  refine lw_ld C ok rfl (lw_in (a := 1) hi hL (by omega)).1 ?_
  rw [show (qn i + 1).toNatClampNeg = i + 1 from (lw_in (a := 1) hi hL (by omega)).2]
  refine lw_run C ok 4 (x' := (1221, lw_L (qn i), [.int (qn i + 2), .ref 2000, .int (xs (i + 1)), .ref 0], qp_mk I J)) (by with_unfolding_all rfl) trivial ?_
  refine lw_ld C ok rfl (lw_in (a := 2) hi hL (by omega)).1 ?_
  rw [show (qn i + 2).toNatClampNeg = i + 2 from (lw_in (a := 2) hi hL (by omega)).2]
  refine lw_cV C ok (d' := 100) (rest := []) (oj := 0) qp_f133 rfl rfl (gX_lots l G (xs (i + 1)) (xs (i + 2)) I J e1 (by decide)) rfl rfl rfl rfl (by omega) ?_
  refine lw_run C ok 5 (x' := (1230, lw_L (qn i), [.int (qn i + 1), .ref 2000, .ref 36, .int v], qp_mk I1 J1)) (by with_unfolding_all rfl) trivial ?_
  refine lw_ld C ok rfl (lw_in (a := 1) hi hL (by omega)).1 ?_
  rw [show (qn i + 1).toNatClampNeg = i + 1 from (lw_in (a := 1) hi hL (by omega)).2]
  refine lw_run C ok 4 (x' := (1235, lw_L (qn i), [.int (qn i + 2), .ref 2000, .int (xs (i + 1)), .ref 36, .int v], qp_mk I1 J1)) (by with_unfolding_all rfl) trivial ?_
  refine lw_ld C ok rfl (lw_in (a := 2) hi hL (by omega)).1 ?_
  rw [show (qn i + 2).toNatClampNeg = i + 2 from (lw_in (a := 2) hi hL (by omega)).2]
  refine lw_cV C ok (d' := 100) (rest := [.int v]) (oj := 10) qp_f225 rfl rfl (gM_lots l G (xs (i + 1)) (xs (i + 2)) I1 J1 e2 (by decide)) rfl rfl rfl rfl (by omega) ?_
  refine lw_br C ok (f := v = v) (xt := (1358, lw_L (qn i), [], qp_mk I2 J2)) (xf := (1242, lw_L (qn i), [], qp_mk I2 J2)) (by with_unfolding_all rfl) (fun _ => ?_) (fun h => absurd rfl h)
  refine lw_run C ok 2 (x' := (18, lw_L (qn i + 6), [], qp_mk I2 J2)) (by with_unfolding_all rfl) trivial ?_
  exact ih I2 J2 hz
def qp_kc34 : List (List (Nat × Instr × Int32 × Nat)) := [[], [], [], [], [], [], [], [], [], [], [], [], [], [], [], [], [], [], [], [], [], [], [], [], [], [], [], [], [], [], [], [], [], [], [], [], [], [], [], [], [], [], [], [], [], [], [], [], [], [], [], [], [], [], [], [], [], [], [], [], [], [], [], [], [], [], [], [], [], [], [], [], [], [], [], [], [], [(1244, .aload_n 1, 0, 0), (1245, .invokevirtual 154, 0, 1360)], [(1248, .aload_n 2, 0, 0), (1249, .invokevirtual 158, 0, 2280), (1252, .if_icmp .eq 106, 0, 1358)], [], [], [], [], [], [(1358, .iinc 3 6, 6, 0)], [(1361, .goto (-1343), 0, 18)]]
theorem qp_kc34_ok : qp_ok 14 code qp_kc34 := qp_ok_of (by decide +kernel)
set_option maxRecDepth 8000 in
theorem lw_c34 (C : lw_C p s m meth c G ad0 b L xs) (hL : L ≤ 3072) (hi : i + 6 ≤ L) (hR : zR I J) (ih : ∀ I J, zR I J → lw_V p l e s m below meth c G ad0 b (18, lw_L (qn i + 6), [], qp_mk I J)) : lw_V p l e s m below meth c G ad0 b (1244, lw_L (qn i), [], qp_mk I J) := by
  have ok := qp_kc34_ok
  obtain ⟨v, I1, J1, I2, J2, e1, e2, hz⟩ := sim_asked I J hR
  refine lw_run C ok 1 (x' := (1245, lw_L (qn i), [.ref 0], qp_mk I J)) (by with_unfolding_all rfl) trivial ?_
  refine lw_cV C ok (d' := 100) (rest := []) (oj := 0) qp_f136 rfl rfl (gX_asked l G  I J e1 (by decide)) rfl rfl rfl rfl (by omega) ?_
  refine lw_run C ok 1 (x' := (1249, lw_L (qn i), [.ref 36, .int v], qp_mk I1 J1)) (by with_unfolding_all rfl) trivial ?_
  refine lw_cV C ok (d' := 100) (rest := [.int v]) (oj := 10) qp_f228 rfl rfl (gM_asked l G  I1 J1 e2 (by decide)) rfl rfl rfl rfl (by omega) ?_
  refine lw_br C ok (f := v = v) (xt := (1358, lw_L (qn i), [], qp_mk I2 J2)) (xf := (1255, lw_L (qn i), [], qp_mk I2 J2)) (by with_unfolding_all rfl) (fun _ => ?_) (fun h => absurd rfl h)
  refine lw_run C ok 2 (x' := (18, lw_L (qn i + 6), [], qp_mk I2 J2)) (by with_unfolding_all rfl) trivial ?_
  exact ih I2 J2 hz
end LC

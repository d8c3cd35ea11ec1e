/-! THE LAW'S CALLS, further -/
section LC
variable {p : Program} {l : Launch} {e : Env} {s : State} {m : MethodId} {below : List Frame} {meth : Method} {c : Code} {G : qp_G} {ad0 : Nat → Nat} {b L : Nat} {xs : Nat → Int32} {I : Nat → Nat → Int32} {J : Nat → Nat → Int64} {i : Nat}
def qp_kc35 : List (List (Nat × Instr × Int32 × Nat)) := [[], [], [], [], [], [], [], [], [], [], [], [], [], [], [], [], [], [], [], [], [], [], [], [], [], [], [], [], [], [], [], [], [], [], [], [], [], [], [], [], [], [], [], [], [], [], [], [], [], [], [], [], [], [], [], [], [], [], [], [], [], [], [], [], [], [], [], [], [], [], [], [], [], [], [], [], [], [], [(1257, .aload_n 1, 0, 0), (1258, .invokevirtual 159, 0, 1370), (1261, .aload_n 2, 0, 0), (1262, .invokevirtual 163, 0, 2290)], [(1265, .lcmp, 0, 0), (1266, .ifCond .eq 92, 0, 1358)], [], [], [], [], [(1358, .iinc 3 6, 6, 0)], [(1361, .goto (-1343), 0, 18)]]
theorem qp_kc35_ok : qp_ok 14 code qp_kc35 := qp_ok_of (by decide +kernel)
set_option maxRecDepth 8000 in
theorem lw_c35 (C : lw_C p s m meth c G ad0 b L xs) (hL : L ≤ 3072) (hi : i + 6 ≤ L) (hR : zR I J) (ih : ∀ I J, zR I J → lw_V p l e s m below meth c G ad0 b (18, lw_L (qn i + 6), [], qp_mk I J)) : lw_V p l e s m below meth c G ad0 b (1257, lw_L (qn i), [], qp_mk I J) := by
  have ok := qp_kc35_ok
  obtain ⟨v, I1, J1, I2, J2, e1, e2, hz⟩ := sim_upper I J hR
  refine lw_run C ok 1 (x' := (1258, lw_L (qn i), [.ref 0], qp_mk I J)) (by with_unfolding_all rfl) trivial ?_
  refine lw_cV C ok (d' := 100) (rest := []) (oj := 0) qp_f137 rfl rfl (gX_upper l G  I J e1 (by decide)) rfl rfl rfl rfl (by omega) ?_
  refine lw_run C ok 1 (x' := (1262, lw_L (qn i), [.ref 36, .long v], qp_mk I1 J1)) (by with_unfolding_all rfl) trivial ?_
  refine lw_cV C ok (d' := 100) (rest := [.long v]) (oj := 10) qp_f229 rfl rfl (gM_upper l G  I1 J1 e2 (by decide)) rfl rfl rfl rfl (by omega) ?_
  refine lw_run C ok 1 (x' := (1266, lw_L (qn i), [.int (lg_cmp v v)], qp_mk I2 J2)) (by with_unfolding_all rfl) trivial ?_
  refine lw_br C ok (f := lg_cmp v v = 0) (xt := (1358, lw_L (qn i), [], qp_mk I2 J2)) (xf := (1269, lw_L (qn i), [], qp_mk I2 J2)) (by with_unfolding_all rfl) (fun _ => ?_) (fun h => absurd lg_self h)
  refine lw_run C ok 2 (x' := (18, lw_L (qn i + 6), [], qp_mk I2 J2)) (by with_unfolding_all rfl) trivial ?_
  exact ih I2 J2 hz
def qp_kc36 : List (List (Nat × Instr × Int32 × Nat)) := [[], [], [], [], [], [], [], [], [], [], [], [], [], [], [], [], [], [], [], [], [], [], [], [], [], [], [], [], [], [], [], [], [], [], [], [], [], [], [], [], [], [], [], [], [], [], [], [], [], [], [], [], [], [], [], [], [], [], [], [], [], [], [], [], [], [], [], [], [], [], [], [], [], [], [], [], [], [], [], [(1271, .aload_n 1, 0, 0), (1272, .invokevirtual 164, 0, 1380), (1275, .aload_n 2, 0, 0), (1276, .invokevirtual 167, 0, 2300), (1279, .lcmp, 0, 0)], [(1280, .ifCond .eq 78, 0, 1358)], [], [], [], [(1358, .iinc 3 6, 6, 0)], [(1361, .goto (-1343), 0, 18)]]
theorem qp_kc36_ok : qp_ok 14 code qp_kc36 := qp_ok_of (by decide +kernel)
set_option maxRecDepth 8000 in
theorem lw_c36 (C : lw_C p s m meth c G ad0 b L xs) (hL : L ≤ 3072) (hi : i + 6 ≤ L) (hR : zR I J) (ih : ∀ I J, zR I J → lw_V p l e s m below meth c G ad0 b (18, lw_L (qn i + 6), [], qp_mk I J)) : lw_V p l e s m below meth c G ad0 b (1271, lw_L (qn i), [], qp_mk I J) := by
  have ok := qp_kc36_ok
  obtain ⟨v, I1, J1, I2, J2, e1, e2, hz⟩ := sim_lower I J hR
  refine lw_run C ok 1 (x' := (1272, lw_L (qn i), [.ref 0], qp_mk I J)) (by with_unfolding_all rfl) trivial ?_
  refine lw_cV C ok (d' := 100) (rest := []) (oj := 0) qp_f138 rfl rfl (gX_lower l G  I J e1 (by decide)) rfl rfl rfl rfl (by omega) ?_
  refine lw_run C ok 1 (x' := (1276, lw_L (qn i), [.ref 36, .long v], qp_mk I1 J1)) (by with_unfolding_all rfl) trivial ?_
  refine lw_cV C ok (d' := 100) (rest := [.long v]) (oj := 10) qp_f230 rfl rfl (gM_lower l G  I1 J1 e2 (by decide)) rfl rfl rfl rfl (by omega) ?_
  refine lw_run C ok 1 (x' := (1280, lw_L (qn i), [.int (lg_cmp v v)], qp_mk I2 J2)) (by with_unfolding_all rfl) trivial ?_
  refine lw_br C ok (f := lg_cmp v v = 0) (xt := (1358, lw_L (qn i), [], qp_mk I2 J2)) (xf := (1283, lw_L (qn i), [], qp_mk I2 J2)) (by with_unfolding_all rfl) (fun _ => ?_) (fun h => absurd lg_self h)
  refine lw_run C ok 2 (x' := (18, lw_L (qn i + 6), [], qp_mk I2 J2)) (by with_unfolding_all rfl) trivial ?_
  exact ih I2 J2 hz
def qp_kc37 : List (List (Nat × Instr × Int32 × Nat)) := [[], [], [], [], [], [], [], [], [], [], [], [], [], [], [], [], [], [], [], [], [], [], [], [], [], [], [], [], [], [], [], [], [], [], [], [], [], [], [], [], [], [], [], [], [], [], [], [], [], [], [], [], [], [], [], [], [], [], [], [], [], [], [], [], [], [], [], [], [], [], [], [], [], [], [], [], [], [], [], [], [(1285, .aload_n 1, 0, 0), (1286, .aload_n 0, 0, 0), (1287, .iload_n 3, 0, 0), (1288, .iconst 1, 1, 0), (1289, .iadd, 0, 0), (1290, .iaload, 0, 0), (1291, .invokevirtual 168, 0, 1390), (1294, .aload_n 2, 0, 0), (1295, .aload_n 0, 0, 0)], [(1296, .iload_n 3, 0, 0), (1297, .iconst 1, 1, 0), (1298, .iadd, 0, 0), (1299, .iaload, 0, 0), (1300, .invokevirtual 171, 0, 2310), (1303, .if_icmp .eq 55, 0, 1358)], [], [], [(1358, .iinc 3 6, 6, 0)], [(1361, .goto (-1343), 0, 18)]]
theorem qp_kc37_ok : qp_ok 14 code qp_kc37 := qp_ok_of (by decide +kernel)
set_option maxRecDepth 8000 in
theorem lw_c37 (C : lw_C p s m meth c G ad0 b L xs) (hL : L ≤ 3072) (hi : i + 6 ≤ L) (hR : zR I J) (ih : ∀ I J, zR I J → lw_V p l e s m below meth c G ad0 b (18, lw_L (qn i + 6), [], qp_mk I J)) : lw_V p l e s m below meth c G ad0 b (1285, lw_L (qn i), [], qp_mk I J) := by
  have ok := qp_kc37_ok
  obtain ⟨v, I1, J1, I2, J2, e1, e2, hz⟩ := sim_count (xs (i + 1)) I J hR
  refine lw_run C ok 5 (x' := (1290, lw_L (qn i), [.int (qn i + 1), .ref 2000, .ref 0], qp_mk I J)) (by with_unfolding_all rfl) trivial ?_
  refine lw_ld C ok rfl (lw_in (a := 1) hi hL (by omega)).1 ?_
  rw [show (qn i + 1).toNatClampNeg = i + 1 from (lw_in (a := 1) hi hL (by omega)).2]
  refine lw_cV C ok (d' := 100) (rest := []) (oj := 0) qp_f139 rfl rfl (gX_count l G (xs (i + 1)) I J e1 (by decide)) rfl rfl rfl rfl (by omega) ?_
  refine lw_run C ok 5 (x' := (1299, lw_L (qn i), [.int (qn i + 1), .ref 2000, .ref 36, .int v], qp_mk I1 J1)) (by with_unfolding_all rfl) trivial ?_
  refine lw_ld C ok rfl (lw_in (a := 1) hi hL (by omega)).1 ?_
  rw [show (qn i + 1).toNatClampNeg = i + 1 from (lw_in (a := 1) hi hL (by omega)).2]
  refine lw_cV C ok (d' := 100) (rest := [.int v]) (oj := 10) qp_f231 rfl rfl (gM_count l G (xs (i + 1)) I1 J1 e2 (by decide)) rfl rfl rfl rfl (by omega) ?_
  refine lw_br C ok (f := v = v) (xt := (1358, lw_L (qn i), [], qp_mk I2 J2)) (xf := (1306, lw_L (qn i), [], qp_mk I2 J2)) (by with_unfolding_all rfl) (fun _ => ?_) (fun h => absurd rfl h)
  refine lw_run C ok 2 (x' := (18, lw_L (qn i + 6), [], qp_mk I2 J2)) (by with_unfolding_all rfl) trivial ?_
  exact ih I2 J2 hz
def qp_kc38 : List (List (Nat × Instr × Int32 × Nat)) := [[], [], [], [], [], [], [], [], [], [], [], [], [], [], [], [], [], [], [], [], [], [], [], [], [], [], [], [], [], [], [], [], [], [], [], [], [], [], [], [], [], [], [], [], [], [], [], [], [], [], [], [], [], [], [], [], [], [], [], [], [], [], [], [], [], [], [], [], [], [], [], [], [], [], [], [], [], [], [], [], [], [(1308, .aload_n 1, 0, 0), (1309, .invokevirtual 172, 0, 1430)], [(1312, .aload_n 2, 0, 0), (1313, .invokevirtual 175, 0, 2360), (1316, .if_icmp .eq 42, 0, 1358)], [], [(1358, .iinc 3 6, 6, 0)], [(1361, .goto (-1343), 0, 18)]]
theorem qp_kc38_ok : qp_ok 14 code qp_kc38 := qp_ok_of (by decide +kernel)
set_option maxRecDepth 8000 in
theorem lw_c38 (C : lw_C p s m meth c G ad0 b L xs) (hL : L ≤ 3072) (hi : i + 6 ≤ L) (hR : zR I J) (ih : ∀ I J, zR I J → lw_V p l e s m below meth c G ad0 b (18, lw_L (qn i + 6), [], qp_mk I J)) : lw_V p l e s m below meth c G ad0 b (1308, lw_L (qn i), [], qp_mk I J) := by
  have ok := qp_kc38_ok
  obtain ⟨v, I1, J1, I2, J2, e1, e2, hz⟩ := sim_finding I J hR
  refine lw_run C ok 1 (x' := (1309, lw_L (qn i), [.ref 0], qp_mk I J)) (by with_unfolding_all rfl) trivial ?_
  refine lw_cV C ok (d' := 100) (rest := []) (oj := 0) qp_f143 rfl rfl (gX_finding l G  I J e1 (by decide)) rfl rfl rfl rfl (by omega) ?_
  refine lw_run C ok 1 (x' := (1313, lw_L (qn i), [.ref 36, .int v], qp_mk I1 J1)) (by with_unfolding_all rfl) trivial ?_
  refine lw_cV C ok (d' := 100) (rest := [.int v]) (oj := 10) qp_f236 rfl rfl (gM_finding l G  I1 J1 e2 (by decide)) rfl rfl rfl rfl (by omega) ?_
  refine lw_br C ok (f := v = v) (xt := (1358, lw_L (qn i), [], qp_mk I2 J2)) (xf := (1319, lw_L (qn i), [], qp_mk I2 J2)) (by with_unfolding_all rfl) (fun _ => ?_) (fun h => absurd rfl h)
  refine lw_run C ok 2 (x' := (18, lw_L (qn i + 6), [], qp_mk I2 J2)) (by with_unfolding_all rfl) trivial ?_
  exact ih I2 J2 hz
def qp_kc39 : List (List (Nat × Instr × Int32 × Nat)) := [[], [], [], [], [], [], [], [], [], [], [], [], [], [], [], [], [], [], [], [], [], [], [], [], [], [], [], [], [], [], [], [], [], [], [], [], [], [], [], [], [], [], [], [], [], [], [], [], [], [], [], [], [], [], [], [], [], [], [], [], [], [], [], [], [], [], [], [], [], [], [], [], [], [], [], [], [], [], [], [], [], [], [(1321, .aload_n 1, 0, 0), (1322, .aload_n 0, 0, 0), (1323, .iload_n 3, 0, 0), (1324, .iconst 1, 1, 0), (1325, .iadd, 0, 0), (1326, .iaload, 0, 0), (1327, .invokevirtual 176, 0, 1440)], [(1330, .aload_n 2, 0, 0), (1331, .aload_n 0, 0, 0), (1332, .iload_n 3, 0, 0), (1333, .iconst 1, 1, 0), (1334, .iadd, 0, 0), (1335, .iaload, 0, 0), (1336, .invokevirtual 179, 0, 2370), (1339, .if_icmp .eq 19, 0, 1358)], [(1358, .iinc 3 6, 6, 0)], [(1361, .goto (-1343), 0, 18)]]
theorem qp_kc39_ok : qp_ok 14 code qp_kc39 := qp_ok_of (by decide +kernel)
set_option maxRecDepth 8000 in
theorem lw_c39 (C : lw_C p s m meth c G ad0 b L xs) (hL : L ≤ 3072) (hi : i + 6 ≤ L) (hR : zR I J) (ih : ∀ I J, zR I J → lw_V p l e s m below meth c G ad0 b (18, lw_L (qn i + 6), [], qp_mk I J)) : lw_V p l e s m below meth c G ad0 b (1321, lw_L (qn i), [], qp_mk I J) := by
  have ok := qp_kc39_ok
  obtain ⟨v, I1, J1, I2, J2, e1, e2, hz⟩ := sim_findings (xs (i + 1)) I J hR
  refine lw_run C ok 5 (x' := (1326, lw_L (qn i), [.int (qn i + 1), .ref 2000, .ref 0], qp_mk I J)) (by with_unfolding_all rfl) trivial ?_
  refine lw_ld C ok rfl (lw_in (a := 1) hi hL (by omega)).1 ?_
  rw [show (qn i + 1).toNatClampNeg = i + 1 from (lw_in (a := 1) hi hL (by omega)).2]
  refine lw_cV C ok (d' := 100) (rest := []) (oj := 0) qp_f144 rfl rfl (gX_findings l G (xs (i + 1)) I J e1 (by decide)) rfl rfl rfl rfl (by omega) ?_
  refine lw_run C ok 5 (x' := (1335, lw_L (qn i), [.int (qn i + 1), .ref 2000, .ref 36, .int v], qp_mk I1 J1)) (by with_unfolding_all rfl) trivial ?_
  refine lw_ld C ok rfl (lw_in (a := 1) hi hL (by omega)).1 ?_
  rw [show (qn i + 1).toNatClampNeg = i + 1 from (lw_in (a := 1) hi hL (by omega)).2]
  refine lw_cV C ok (d' := 100) (rest := [.int v]) (oj := 10) qp_f237 rfl rfl (gM_findings l G (xs (i + 1)) I1 J1 e2 (by decide)) rfl rfl rfl rfl (by omega) ?_
  refine lw_br C ok (f := v = v) (xt := (1358, lw_L (qn i), [], qp_mk I2 J2)) (xf := (1342, lw_L (qn i), [], qp_mk I2 J2)) (by with_unfolding_all rfl) (fun _ => ?_) (fun h => absurd rfl h)
  refine lw_run C ok 2 (x' := (18, lw_L (qn i + 6), [], qp_mk I2 J2)) (by with_unfolding_all rfl) trivial ?_
  exact ih I2 J2 hz
def qp_kc40 : List (List (Nat × Instr × Int32 × Nat)) := [[], [], [], [], [], [], [], [], [], [], [], [], [], [], [], [], [], [], [], [], [], [], [], [], [], [], [], [], [], [], [], [], [], [], [], [], [], [], [], [], [], [], [], [], [], [], [], [], [], [], [], [], [], [], [], [], [], [], [], [], [], [], [], [], [], [], [], [], [], [], [], [], [], [], [], [], [], [], [], [], [], [], [], [], [(1344, .aload_n 1, 0, 0), (1345, .invokevirtual 180, 0, 1450), (1348, .aload_n 2, 0, 0), (1349, .invokevirtual 183, 0, 2380), (1352, .lcmp, 0, 0), (1353, .ifCond .eq 5, 0, 1358), (1358, .iinc 3 6, 6, 0)], [(1361, .goto (-1343), 0, 18)]]
theorem qp_kc40_ok : qp_ok 14 code qp_kc40 := qp_ok_of (by decide +kernel)
set_option maxRecDepth 8000 in
theorem lw_c40 (C : lw_C p s m meth c G ad0 b L xs) (hL : L ≤ 3072) (hi : i + 6 ≤ L) (hR : zR I J) (ih : ∀ I J, zR I J → lw_V p l e s m below meth c G ad0 b (18, lw_L (qn i + 6), [], qp_mk I J)) : lw_V p l e s m below meth c G ad0 b (1344, lw_L (qn i), [], qp_mk I J) := by
  have ok := qp_kc40_ok
  obtain ⟨v, I1, J1, I2, J2, e1, e2, hz⟩ := sim_digest I J hR
  refine lw_run C ok 1 (x' := (1345, lw_L (qn i), [.ref 0], qp_mk I J)) (by with_unfolding_all rfl) trivial ?_
  refine lw_cV C ok (d' := 100) (rest := []) (oj := 0) qp_f145 rfl rfl (gX_digest l G  I J e1 (by decide)) rfl rfl rfl rfl (by omega) ?_
  refine lw_run C ok 1 (x' := (1349, lw_L (qn i), [.ref 36, .long v], qp_mk I1 J1)) (by with_unfolding_all rfl) trivial ?_
  refine lw_cV C ok (d' := 100) (rest := [.long v]) (oj := 10) qp_f238 rfl rfl (gM_digest l G  I1 J1 e2 (by decide)) rfl rfl rfl rfl (by omega) ?_
  refine lw_run C ok 1 (x' := (1353, lw_L (qn i), [.int (lg_cmp v v)], qp_mk I2 J2)) (by with_unfolding_all rfl) trivial ?_
  refine lw_br C ok (f := lg_cmp v v = 0) (xt := (1358, lw_L (qn i), [], qp_mk I2 J2)) (xf := (1356, lw_L (qn i), [], qp_mk I2 J2)) (by with_unfolding_all rfl) (fun _ => ?_) (fun h => absurd lg_self h)
  refine lw_run C ok 2 (x' := (18, lw_L (qn i + 6), [], qp_mk I2 J2)) (by with_unfolding_all rfl) trivial ?_
  exact ih I2 J2 hz
end LC

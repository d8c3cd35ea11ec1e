/-! THE LAW'S CALLS, further -/
section LC
variable {p : Program} {l : Launch} {e : Env} {s : State} {m : MethodId} {below : List Frame} {meth : Method} {c : Code} {G : qp_G} {ad0 : Nat → Nat} {b L : Nat} {xs : Nat → Int32} {I : Nat → Nat → Int32} {J : Nat → Nat → Int64} {i : Nat}
def qp_kc14 : List (List (Nat × Instr × Int32 × Nat)) := [[], [], [], [], [], [], [], [], [], [], [], [], [], [], [], [], [], [], [], [], [], [], [], [], [], [], [], [], [], [], [], [], [], [], [], [], [], [], [], [], [], [], [(674, .aload_n 1, 0, 0), (675, .aload_n 0, 0, 0), (676, .iload_n 3, 0, 0), (677, .iconst 1, 1, 0), (678, .iadd, 0, 0), (679, .iaload, 0, 0), (680, .invokevirtual 73, 0, 820), (683, .aload_n 2, 0, 0), (684, .aload_n 0, 0, 0), (685, .iload_n 3, 0, 0), (686, .iconst 1, 1, 0), (687, .iadd, 0, 0)], [(688, .iaload, 0, 0), (689, .invokevirtual 76, 0, 1920), (692, .if_icmp .eq 666, 0, 1358)], [], [], [], [], [], [], [], [], [], [], [], [], [], [], [], [], [], [], [], [], [], [], [], [], [], [], [], [], [], [], [], [], [], [], [], [], [], [], [], [], [(1358, .iinc 3 6, 6, 0)], [(1361, .goto (-1343), 0, 18)]]
theorem qp_kc14_ok : qp_ok 14 code qp_kc14 := qp_ok_of (by decide +kernel)
set_option maxRecDepth 8000 in
theorem lw_c14 (C : lw_C p s m meth c G ad0 b L xs) (hL : L ≤ 3072) (hi : i + 6 ≤ L) (hR : zR I J) (ih : ∀ I J, zR I J → lw_V p l e s m below meth c G ad0 b (18, lw_L (qn i + 6), [], qp_mk I J)) : lw_V p l e s m below meth c G ad0 b (674, lw_L (qn i), [], qp_mk I J) := by
  have ok := qp_kc14_ok
  obtain ⟨v, I1, J1, I2, J2, e1, e2, hz⟩ := sim_loaves (xs (i + 1)) I J hR
  refine lw_run C ok 5 (x' := (679, lw_L (qn i), [.int (qn i + 1), .ref 2000, .ref 0], qp_mk I J)) (by with_unfolding_all rfl) trivial ?_
  refine lw_ld C ok rfl (lw_in (a := 1) hi hL (by omega)).1 ?_
  rw [show (qn i + 1).toNatClampNeg = i + 1 from (lw_in (a := 1) hi hL (by omega)).2]
  refine lw_cV C ok (d' := 100) (rest := []) (oj := 0) qp_f82 rfl rfl (gX_loaves l G (xs (i + 1)) I J e1 (by decide)) rfl rfl rfl rfl (by omega) ?_
  refine lw_run C ok 5 (x' := (688, lw_L (qn i), [.int (qn i + 1), .ref 2000, .ref 36, .int v], qp_mk I1 J1)) (by with_unfolding_all rfl) trivial ?_
  refine lw_ld C ok rfl (lw_in (a := 1) hi hL (by omega)).1 ?_
  rw [show (qn i + 1).toNatClampNeg = i + 1 from (lw_in (a := 1) hi hL (by omega)).2]
  refine lw_cV C ok (d' := 100) (rest := [.int v]) (oj := 10) qp_f192 rfl rfl (gM_loaves l G (xs (i + 1)) I1 J1 e2 (by decide)) rfl rfl rfl rfl (by omega) ?_
  refine lw_br C ok (f := v = v) (xt := (1358, lw_L (qn i), [], qp_mk I2 J2)) (xf := (695, lw_L (qn i), [], qp_mk I2 J2)) (by with_unfolding_all rfl) (fun _ => ?_) (fun h => absurd rfl h)
  refine lw_run C ok 2 (x' := (18, lw_L (qn i + 6), [], qp_mk I2 J2)) (by with_unfolding_all rfl) trivial ?_
  exact ih I2 J2 hz
def qp_kc15 : List (List (Nat × Instr × Int32 × Nat)) := [[], [], [], [], [], [], [], [], [], [], [], [], [], [], [], [], [], [], [], [], [], [], [], [], [], [], [], [], [], [], [], [], [], [], [], [], [], [], [], [], [], [], [], [(697, .aload_n 1, 0, 0), (698, .aload_n 0, 0, 0), (699, .iload_n 3, 0, 0), (700, .iconst 1, 1, 0), (701, .iadd, 0, 0), (702, .iaload, 0, 0), (703, .invokevirtual 77, 0, 830)], [(706, .aload_n 2, 0, 0), (707, .aload_n 0, 0, 0), (708, .iload_n 3, 0, 0), (709, .iconst 1, 1, 0), (710, .iadd, 0, 0), (711, .iaload, 0, 0), (712, .invokevirtual 80, 0, 1930), (715, .if_icmp .eq 643, 0, 1358)], [], [], [], [], [], [], [], [], [], [], [], [], [], [], [], [], [], [], [], [], [], [], [], [], [], [], [], [], [], [], [], [], [], [], [], [], [], [], [], [(1358, .iinc 3 6, 6, 0)], [(1361, .goto (-1343), 0, 18)]]
theorem qp_kc15_ok : qp_ok 14 code qp_kc15 := qp_ok_of (by decide +kernel)
set_option maxRecDepth 8000 in
theorem lw_c15 (C : lw_C p s m meth c G ad0 b L xs) (hL : L ≤ 3072) (hi : i + 6 ≤ L) (hR : zR I J) (ih : ∀ I J, zR I J → lw_V p l e s m below meth c G ad0 b (18, lw_L (qn i + 6), [], qp_mk I J)) : lw_V p l e s m below meth c G ad0 b (697, lw_L (qn i), [], qp_mk I J) := by
  have ok := qp_kc15_ok
  obtain ⟨v, I1, J1, I2, J2, e1, e2, hz⟩ := sim_undo (xs (i + 1)) I J hR
  refine lw_run C ok 5 (x' := (702, lw_L (qn i), [.int (qn i + 1), .ref 2000, .ref 0], qp_mk I J)) (by with_unfolding_all rfl) trivial ?_
  refine lw_ld C ok rfl (lw_in (a := 1) hi hL (by omega)).1 ?_
  rw [show (qn i + 1).toNatClampNeg = i + 1 from (lw_in (a := 1) hi hL (by omega)).2]
  refine lw_cV C ok (d' := 100) (rest := []) (oj := 0) qp_f83 rfl rfl (gX_undo l G (xs (i + 1)) I J e1 (by decide)) rfl rfl rfl rfl (by omega) ?_
  refine lw_run C ok 5 (x' := (711, lw_L (qn i), [.int (qn i + 1), .ref 2000, .ref 36, .int v], qp_mk I1 J1)) (by with_unfolding_all rfl) trivial ?_
  refine lw_ld C ok rfl (lw_in (a := 1) hi hL (by omega)).1 ?_
  rw [show (qn i + 1).toNatClampNeg = i + 1 from (lw_in (a := 1) hi hL (by omega)).2]
  refine lw_cV C ok (d' := 100) (rest := [.int v]) (oj := 10) qp_f193 rfl rfl (gM_undo l G (xs (i + 1)) I1 J1 e2 (by decide)) rfl rfl rfl rfl (by omega) ?_
  refine lw_br C ok (f := v = v) (xt := (1358, lw_L (qn i), [], qp_mk I2 J2)) (xf := (718, lw_L (qn i), [], qp_mk I2 J2)) (by with_unfolding_all rfl) (fun _ => ?_) (fun h => absurd rfl h)
  refine lw_run C ok 2 (x' := (18, lw_L (qn i + 6), [], qp_mk I2 J2)) (by with_unfolding_all rfl) trivial ?_
  exact ih I2 J2 hz
def qp_kc16 : List (List (Nat × Instr × Int32 × Nat)) := [[], [], [], [], [], [], [], [], [], [], [], [], [], [], [], [], [], [], [], [], [], [], [], [], [], [], [], [], [], [], [], [], [], [], [], [], [], [], [], [], [], [], [], [], [], [(720, .aload_n 1, 0, 0), (721, .aload_n 0, 0, 0), (722, .iload_n 3, 0, 0), (723, .iconst 1, 1, 0), (724, .iadd, 0, 0), (725, .iaload, 0, 0), (726, .invokevirtual 81, 0, 850), (729, .aload_n 2, 0, 0), (730, .aload_n 0, 0, 0), (731, .iload_n 3, 0, 0), (732, .iconst 1, 1, 0), (733, .iadd, 0, 0), (734, .iaload, 0, 0), (735, .invokevirtual 84, 0, 1940)], [(738, .if_icmp .eq 620, 0, 1358)], [], [], [], [], [], [], [], [], [], [], [], [], [], [], [], [], [], [], [], [], [], [], [], [], [], [], [], [], [], [], [], [], [], [], [], [], [], [(1358, .iinc 3 6, 6, 0)], [(1361, .goto (-1343), 0, 18)]]
theorem qp_kc16_ok : qp_ok 14 code qp_kc16 := qp_ok_of (by decide +kernel)
set_option maxRecDepth 8000 in
theorem lw_c16 (C : lw_C p s m meth c G ad0 b L xs) (hL : L ≤ 3072) (hi : i + 6 ≤ L) (hR : zR I J) (ih : ∀ I J, zR I J → lw_V p l e s m below meth c G ad0 b (18, lw_L (qn i + 6), [], qp_mk I J)) : lw_V p l e s m below meth c G ad0 b (720, lw_L (qn i), [], qp_mk I J) := by
  have ok := qp_kc16_ok
  obtain ⟨v, I1, J1, I2, J2, e1, e2, hz⟩ := sim_keep (xs (i + 1)) I J hR
  refine lw_run C ok 5 (x' := (725, lw_L (qn i), [.int (qn i + 1), .ref 2000, .ref 0], qp_mk I J)) (by with_unfolding_all rfl) trivial ?_
  refine lw_ld C ok rfl (lw_in (a := 1) hi hL (by omega)).1 ?_
  rw [show (qn i + 1).toNatClampNeg = i + 1 from (lw_in (a := 1) hi hL (by omega)).2]
  refine lw_cV C ok (d' := 100) (rest := []) (oj := 0) qp_f85 rfl rfl (gX_keep l G (xs (i + 1)) I J e1 (by decide)) rfl rfl rfl rfl (by omega) ?_
  refine lw_run C ok 5 (x' := (734, lw_L (qn i), [.int (qn i + 1), .ref 2000, .ref 36, .int v], qp_mk I1 J1)) (by with_unfolding_all rfl) trivial ?_
  refine lw_ld C ok rfl (lw_in (a := 1) hi hL (by omega)).1 ?_
  rw [show (qn i + 1).toNatClampNeg = i + 1 from (lw_in (a := 1) hi hL (by omega)).2]
  refine lw_cV C ok (d' := 100) (rest := [.int v]) (oj := 10) qp_f194 rfl rfl (gM_keep l G (xs (i + 1)) I1 J1 e2 (by decide)) rfl rfl rfl rfl (by omega) ?_
  refine lw_br C ok (f := v = v) (xt := (1358, lw_L (qn i), [], qp_mk I2 J2)) (xf := (741, lw_L (qn i), [], qp_mk I2 J2)) (by with_unfolding_all rfl) (fun _ => ?_) (fun h => absurd rfl h)
  refine lw_run C ok 2 (x' := (18, lw_L (qn i + 6), [], qp_mk I2 J2)) (by with_unfolding_all rfl) trivial ?_
  exact ih I2 J2 hz
def qp_kc17 : List (List (Nat × Instr × Int32 × Nat)) := [[], [], [], [], [], [], [], [], [], [], [], [], [], [], [], [], [], [], [], [], [], [], [], [], [], [], [], [], [], [], [], [], [], [], [], [], [], [], [], [], [], [], [], [], [], [], [(743, .aload_n 1, 0, 0), (744, .aload_n 0, 0, 0), (745, .iload_n 3, 0, 0), (746, .iconst 1, 1, 0), (747, .iadd, 0, 0), (748, .iaload, 0, 0), (749, .invokevirtual 85, 0, 870)], [(752, .aload_n 2, 0, 0), (753, .aload_n 0, 0, 0), (754, .iload_n 3, 0, 0), (755, .iconst 1, 1, 0), (756, .iadd, 0, 0), (757, .iaload, 0, 0), (758, .invokevirtual 88, 0, 1960), (761, .if_icmp .eq 597, 0, 1358)], [], [], [], [], [], [], [], [], [], [], [], [], [], [], [], [], [], [], [], [], [], [], [], [], [], [], [], [], [], [], [], [], [], [], [], [], [(1358, .iinc 3 6, 6, 0)], [(1361, .goto (-1343), 0, 18)]]
theorem qp_kc17_ok : qp_ok 14 code qp_kc17 := qp_ok_of (by decide +kernel)
set_option maxRecDepth 8000 in
theorem lw_c17 (C : lw_C p s m meth c G ad0 b L xs) (hL : L ≤ 3072) (hi : i + 6 ≤ L) (hR : zR I J) (ih : ∀ I J, zR I J → lw_V p l e s m below meth c G ad0 b (18, lw_L (qn i + 6), [], qp_mk I J)) : lw_V p l e s m below meth c G ad0 b (743, lw_L (qn i), [], qp_mk I J) := by
  have ok := qp_kc17_ok
  obtain ⟨v, I1, J1, I2, J2, e1, e2, hz⟩ := sim_on (xs (i + 1)) I J hR
  refine lw_run C ok 5 (x' := (748, lw_L (qn i), [.int (qn i + 1), .ref 2000, .ref 0], qp_mk I J)) (by with_unfolding_all rfl) trivial ?_
  refine lw_ld C ok rfl (lw_in (a := 1) hi hL (by omega)).1 ?_
  rw [show (qn i + 1).toNatClampNeg = i + 1 from (lw_in (a := 1) hi hL (by omega)).2]
  refine lw_cV C ok (d' := 100) (rest := []) (oj := 0) qp_f87 rfl rfl (gX_on l G (xs (i + 1)) I J e1 (by decide)) rfl rfl rfl rfl (by omega) ?_
  refine lw_run C ok 5 (x' := (757, lw_L (qn i), [.int (qn i + 1), .ref 2000, .ref 36, .int v], qp_mk I1 J1)) (by with_unfolding_all rfl) trivial ?_
  refine lw_ld C ok rfl (lw_in (a := 1) hi hL (by omega)).1 ?_
  rw [show (qn i + 1).toNatClampNeg = i + 1 from (lw_in (a := 1) hi hL (by omega)).2]
  refine lw_cV C ok (d' := 100) (rest := [.int v]) (oj := 10) qp_f196 rfl rfl (gM_on l G (xs (i + 1)) I1 J1 e2 (by decide)) rfl rfl rfl rfl (by omega) ?_
  refine lw_br C ok (f := v = v) (xt := (1358, lw_L (qn i), [], qp_mk I2 J2)) (xf := (764, lw_L (qn i), [], qp_mk I2 J2)) (by with_unfolding_all rfl) (fun _ => ?_) (fun h => absurd rfl h)
  refine lw_run C ok 2 (x' := (18, lw_L (qn i + 6), [], qp_mk I2 J2)) (by with_unfolding_all rfl) trivial ?_
  exact ih I2 J2 hz
def qp_kc18 : List (List (Nat × Instr × Int32 × Nat)) := [[], [], [], [], [], [], [], [], [], [], [], [], [], [], [], [], [], [], [], [], [], [], [], [], [], [], [], [], [], [], [], [], [], [], [], [], [], [], [], [], [], [], [], [], [], [], [], [(766, .aload_n 1, 0, 0), (767, .aload_n 0, 0, 0)], [(768, .iload_n 3, 0, 0), (769, .iconst 1, 1, 0), (770, .iadd, 0, 0), (771, .iaload, 0, 0), (772, .invokevirtual 89, 0, 880), (775, .aload_n 2, 0, 0), (776, .aload_n 0, 0, 0), (777, .iload_n 3, 0, 0), (778, .iconst 1, 1, 0), (779, .iadd, 0, 0), (780, .iaload, 0, 0), (781, .invokevirtual 92, 0, 1970)], [(784, .if_icmp .eq 574, 0, 1358)], [], [], [], [], [], [], [], [], [], [], [], [], [], [], [], [], [], [], [], [], [], [], [], [], [], [], [], [], [], [], [], [], [], [], [(1358, .iinc 3 6, 6, 0)], [(1361, .goto (-1343), 0, 18)]]
theorem qp_kc18_ok : qp_ok 14 code qp_kc18 := qp_ok_of (by decide +kernel)
set_option maxRecDepth 8000 in
theorem lw_c18 (C : lw_C p s m meth c G ad0 b L xs) (hL : L ≤ 3072) (hi : i + 6 ≤ L) (hR : zR I J) (ih : ∀ I J, zR I J → lw_V p l e s m below meth c G ad0 b (18, lw_L (qn i + 6), [], qp_mk I J)) : lw_V p l e s m below meth c G ad0 b (766, lw_L (qn i), [], qp_mk I J) := by
  have ok := qp_kc18_ok
  obtain ⟨v, I1, J1, I2, J2, e1, e2, hz⟩ := sim_who (xs (i + 1)) I J hR
  refine lw_run C ok 5 (x' := (771, lw_L (qn i), [.int (qn i + 1), .ref 2000, .ref 0], qp_mk I J)) (by with_unfolding_all rfl) trivial ?_
  refine lw_ld C ok rfl (lw_in (a := 1) hi hL (by omega)).1 ?_
  rw [show (qn i + 1).toNatClampNeg = i + 1 from (lw_in (a := 1) hi hL (by omega)).2]
  refine lw_cV C ok (d' := 100) (rest := []) (oj := 0) qp_f88 rfl rfl (gX_who l G (xs (i + 1)) I J e1 (by decide)) rfl rfl rfl rfl (by omega) ?_
  refine lw_run C ok 5 (x' := (780, lw_L (qn i), [.int (qn i + 1), .ref 2000, .ref 36, .int v], qp_mk I1 J1)) (by with_unfolding_all rfl) trivial ?_
  refine lw_ld C ok rfl (lw_in (a := 1) hi hL (by omega)).1 ?_
  rw [show (qn i + 1).toNatClampNeg = i + 1 from (lw_in (a := 1) hi hL (by omega)).2]
  refine lw_cV C ok (d' := 100) (rest := [.int v]) (oj := 10) qp_f197 rfl rfl (gM_who l G (xs (i + 1)) I1 J1 e2 (by decide)) rfl rfl rfl rfl (by omega) ?_
  refine lw_br C ok (f := v = v) (xt := (1358, lw_L (qn i), [], qp_mk I2 J2)) (xf := (787, lw_L (qn i), [], qp_mk I2 J2)) (by with_unfolding_all rfl) (fun _ => ?_) (fun h => absurd rfl h)
  refine lw_run C ok 2 (x' := (18, lw_L (qn i + 6), [], qp_mk I2 J2)) (by with_unfolding_all rfl) trivial ?_
  exact ih I2 J2 hz
def qp_kc19 : List (List (Nat × Instr × Int32 × Nat)) := [[], [], [], [], [], [], [], [], [], [], [], [], [], [], [], [], [], [], [], [], [], [], [], [], [], [], [], [], [], [], [], [], [], [], [], [], [], [], [], [], [], [], [], [], [], [], [], [], [], [(789, .aload_n 1, 0, 0), (790, .aload_n 0, 0, 0), (791, .iload_n 3, 0, 0), (792, .iconst 1, 1, 0), (793, .iadd, 0, 0), (794, .iaload, 0, 0), (795, .aload_n 0, 0, 0), (796, .iload_n 3, 0, 0), (797, .iconst 2, 2, 0), (798, .iadd, 0, 0), (799, .iaload, 0, 0)], [(800, .invokevirtual 93, 0, 890), (803, .aload_n 2, 0, 0), (804, .aload_n 0, 0, 0), (805, .iload_n 3, 0, 0), (806, .iconst 1, 1, 0), (807, .iadd, 0, 0), (808, .iaload, 0, 0), (809, .aload_n 0, 0, 0), (810, .iload_n 3, 0, 0), (811, .iconst 2, 2, 0), (812, .iadd, 0, 0), (813, .iaload, 0, 0), (814, .invokevirtual 96, 0, 1980)], [(817, .if_icmp .eq 541, 0, 1358)], [], [], [], [], [], [], [], [], [], [], [], [], [], [], [], [], [], [], [], [], [], [], [], [], [], [], [], [], [], [], [], [], [(1358, .iinc 3 6, 6, 0)], [(1361, .goto (-1343), 0, 18)]]
theorem qp_kc19_ok : qp_ok 14 code qp_kc19 := qp_ok_of (by decide +kernel)
set_option maxRecDepth 8000 in
theorem lw_c19 (C : lw_C p s m meth c G ad0 b L xs) (hL : L ≤ 3072) (hi : i + 6 ≤ L) (hR : zR I J) (ih : ∀ I J, zR I J → lw_V p l e s m below meth c G ad0 b (18, lw_L (qn i + 6), [], qp_mk I J)) : lw_V p l e s m below meth c G ad0 b (789, lw_L (qn i), [], qp_mk I J) := by
  have ok := qp_kc19_ok
  obtain ⟨v, I1, J1, I2, J2, e1, e2, hz⟩ := sim_sold (xs (i + 1)) (xs (i + 2)) I J hR
  refine lw_run C ok 5 (x' := (794, lw_L (qn i), [.int (qn i + 1), .ref 2000, .ref 0], qp_mk I J)) (by with_unfolding_all rfl) trivial ?_
  refine lw_ld C ok rfl (lw_in (a := 1) hi hL (by omega)).1 ?_
  rw [show (qn i + 1).toNatClampNeg = i + 1 from (lw_in (a := 1) hi hL (by omega)).2]
  refine lw_run C ok 4 (x' := (799, lw_L (qn i), [.int (qn i + 2), .ref 2000, .int (xs (i + 1)), .ref 0], qp_mk I J)) (by with_unfolding_all rfl) trivial ?_
  refine lw_ld C ok rfl (lw_in (a := 2) hi hL (by omega)).1 ?_
  rw [show (qn i + 2).toNatClampNeg = i + 2 from (lw_in (a := 2) hi hL (by omega)).2]
  refine lw_cV C ok (d' := 100) (rest := []) (oj := 0) qp_f89 rfl rfl (gX_sold l G (xs (i + 1)) (xs (i + 2)) I J e1 (by decide)) rfl rfl rfl rfl (by omega) ?_
  refine lw_run C ok 5 (x' := (808, lw_L (qn i), [.int (qn i + 1), .ref 2000, .ref 36, .int v], qp_mk I1 J1)) (by with_unfolding_all rfl) trivial ?_
  refine lw_ld C ok rfl (lw_in (a := 1) hi hL (by omega)).1 ?_
  rw [show (qn i + 1).toNatClampNeg = i + 1 from (lw_in (a := 1) hi hL (by omega)).2]
  refine lw_run C ok 4 (x' := (813, lw_L (qn i), [.int (qn i + 2), .ref 2000, .int (xs (i + 1)), .ref 36, .int v], qp_mk I1 J1)) (by with_unfolding_all rfl) trivial ?_
  refine lw_ld C ok rfl (lw_in (a := 2) hi hL (by omega)).1 ?_
  rw [show (qn i + 2).toNatClampNeg = i + 2 from (lw_in (a := 2) hi hL (by omega)).2]
  refine lw_cV C ok (d' := 100) (rest := [.int v]) (oj := 10) qp_f198 rfl rfl (gM_sold l G (xs (i + 1)) (xs (i + 2)) I1 J1 e2 (by decide)) rfl rfl rfl rfl (by omega) ?_
  refine lw_br C ok (f := v = v) (xt := (1358, lw_L (qn i), [], qp_mk I2 J2)) (xf := (820, lw_L (qn i), [], qp_mk I2 J2)) (by with_unfolding_all rfl) (fun _ => ?_) (fun h => absurd rfl h)
  refine lw_run C ok 2 (x' := (18, lw_L (qn i + 6), [], qp_mk I2 J2)) (by with_unfolding_all rfl) trivial ?_
  exact ih I2 J2 hz
def qp_kc20 : List (List (Nat × Instr × Int32 × Nat)) := [[], [], [], [], [], [], [], [], [], [], [], [], [], [], [], [], [], [], [], [], [], [], [], [], [], [], [], [], [], [], [], [], [], [], [], [], [], [], [], [], [], [], [], [], [], [], [], [], [], [], [], [(822, .aload_n 1, 0, 0), (823, .aload_n 0, 0, 0), (824, .iload_n 3, 0, 0), (825, .iconst 1, 1, 0), (826, .iadd, 0, 0), (827, .iaload, 0, 0), (828, .aload_n 0, 0, 0), (829, .iload_n 3, 0, 0), (830, .iconst 2, 2, 0), (831, .iadd, 0, 0)], [(832, .iaload, 0, 0), (833, .invokevirtual 97, 0, 910), (836, .aload_n 2, 0, 0), (837, .aload_n 0, 0, 0), (838, .iload_n 3, 0, 0), (839, .iconst 1, 1, 0), (840, .iadd, 0, 0), (841, .iaload, 0, 0), (842, .aload_n 0, 0, 0), (843, .iload_n 3, 0, 0), (844, .iconst 2, 2, 0), (845, .iadd, 0, 0), (846, .iaload, 0, 0), (847, .invokevirtual 100, 0, 1990)], [(850, .if_icmp .eq 508, 0, 1358)], [], [], [], [], [], [], [], [], [], [], [], [], [], [], [], [], [], [], [], [], [], [], [], [], [], [], [], [], [], [], [(1358, .iinc 3 6, 6, 0)], [(1361, .goto (-1343), 0, 18)]]
theorem qp_kc20_ok : qp_ok 14 code qp_kc20 := qp_ok_of (by decide +kernel)
set_option maxRecDepth 8000 in
theorem lw_c20 (C : lw_C p s m meth c G ad0 b L xs) (hL : L ≤ 3072) (hi : i + 6 ≤ L) (hR : zR I J) (ih : ∀ I J, zR I J → lw_V p l e s m below meth c G ad0 b (18, lw_L (qn i + 6), [], qp_mk I J)) : lw_V p l e s m below meth c G ad0 b (822, lw_L (qn i), [], qp_mk I J) := by
  have ok := qp_kc20_ok
  obtain ⟨v, I1, J1, I2, J2, e1, e2, hz⟩ := sim_wants (xs (i + 1)) (xs (i + 2)) I J hR
  refine lw_run C ok 5 (x' := (827, lw_L (qn i), [.int (qn i + 1), .ref 2000, .ref 0], qp_mk I J)) (by with_unfolding_all rfl) trivial ?_
  refine lw_ld C ok rfl (lw_in (a := 1) hi hL (by omega)).1 ?_
  rw [show (qn i + 1).toNatClampNeg = i + 1 from (lw_in (a := 1) hi hL (by omega)).2]
  refine lw_run C ok 4 (x' := (832, lw_L (qn i), [.int (qn i + 2), .ref 2000, .int (xs (i + 1)), .ref 0], qp_mk I J)) (by with_unfolding_all rfl) trivial ?_
  refine lw_ld C ok rfl (lw_in (a := 2) hi hL (by omega)).1 ?_
  rw [show (qn i + 2).toNatClampNeg = i + 2 from (lw_in (a := 2) hi hL (by omega)).2]
  refine lw_cV C ok (d' := 100) (rest := []) (oj := 0) qp_f91 rfl rfl (gX_wants l G (xs (i + 1)) (xs (i + 2)) I J e1 (by decide)) rfl rfl rfl rfl (by omega) ?_
  refine lw_run C ok 5 (x' := (841, lw_L (qn i), [.int (qn i + 1), .ref 2000, .ref 36, .int v], qp_mk I1 J1)) (by with_unfolding_all rfl) trivial ?_
  refine lw_ld C ok rfl (lw_in (a := 1) hi hL (by omega)).1 ?_
  rw [show (qn i + 1).toNatClampNeg = i + 1 from (lw_in (a := 1) hi hL (by omega)).2]
  refine lw_run C ok 4 (x' := (846, lw_L (qn i), [.int (qn i + 2), .ref 2000, .int (xs (i + 1)), .ref 36, .int v], qp_mk I1 J1)) (by with_unfolding_all rfl) trivial ?_
  refine lw_ld C ok rfl (lw_in (a := 2) hi hL (by omega)).1 ?_
  rw [show (qn i + 2).toNatClampNeg = i + 2 from (lw_in (a := 2) hi hL (by omega)).2]
  refine lw_cV C ok (d' := 100) (rest := [.int v]) (oj := 10) qp_f199 rfl rfl (gM_wants l G (xs (i + 1)) (xs (i + 2)) I1 J1 e2 (by decide)) rfl rfl rfl rfl (by omega) ?_
  refine lw_br C ok (f := v = v) (xt := (1358, lw_L (qn i), [], qp_mk I2 J2)) (xf := (853, lw_L (qn i), [], qp_mk I2 J2)) (by with_unfolding_all rfl) (fun _ => ?_) (fun h => absurd rfl h)
  refine lw_run C ok 2 (x' := (18, lw_L (qn i + 6), [], qp_mk I2 J2)) (by with_unfolding_all rfl) trivial ?_
  exact ih I2 J2 hz
end LC

/-! THE LAW'S CALLS, further -/
section LC
variable {p : Program} {l : Launch} {e : Env} {s : State} {m : MethodId} {below : List Frame} {meth : Method} {c : Code} {G : qp_G} {ad0 : Nat → Nat} {b L : Nat} {xs : Nat → Int32} {I : Nat → Nat → Int32} {J : Nat → Nat → Int64} {i : Nat}
def qp_kc21 : List (List (Nat × Instr × Int32 × Nat)) := [[], [], [], [], [], [], [], [], [], [], [], [], [], [], [], [], [], [], [], [], [], [], [], [], [], [], [], [], [], [], [], [], [], [], [], [], [], [], [], [], [], [], [], [], [], [], [], [], [], [], [], [], [], [(855, .aload_n 1, 0, 0), (856, .aload_n 0, 0, 0), (857, .iload_n 3, 0, 0), (858, .iconst 1, 1, 0), (859, .iadd, 0, 0), (860, .iaload, 0, 0), (861, .aload_n 0, 0, 0), (862, .iload_n 3, 0, 0), (863, .iconst 2, 2, 0)], [(864, .iadd, 0, 0), (865, .iaload, 0, 0), (866, .invokevirtual 101, 0, 920), (869, .aload_n 2, 0, 0), (870, .aload_n 0, 0, 0), (871, .iload_n 3, 0, 0), (872, .iconst 1, 1, 0), (873, .iadd, 0, 0), (874, .iaload, 0, 0), (875, .aload_n 0, 0, 0), (876, .iload_n 3, 0, 0), (877, .iconst 2, 2, 0), (878, .iadd, 0, 0), (879, .iaload, 0, 0)], [(880, .invokevirtual 104, 0, 2000), (883, .if_icmp .eq 475, 0, 1358)], [], [], [], [], [], [], [], [], [], [], [], [], [], [], [], [], [], [], [], [], [], [], [], [], [], [], [], [], [(1358, .iinc 3 6, 6, 0)], [(1361, .goto (-1343), 0, 18)]]
theorem qp_kc21_ok : qp_ok 14 code qp_kc21 := qp_ok_of (by decide +kernel)
set_option maxRecDepth 8000 in
theorem lw_c21 (C : lw_C p s m meth c G ad0 b L xs) (hL : L ≤ 3072) (hi : i + 6 ≤ L) (hR : zR I J) (ih : ∀ I J, zR I J → lw_V p l e s m below meth c G ad0 b (18, lw_L (qn i + 6), [], qp_mk I J)) : lw_V p l e s m below meth c G ad0 b (855, lw_L (qn i), [], qp_mk I J) := by
  have ok := qp_kc21_ok
  obtain ⟨v, I1, J1, I2, J2, e1, e2, hz⟩ := sim_gets (xs (i + 1)) (xs (i + 2)) I J hR
  refine lw_run C ok 5 (x' := (860, lw_L (qn i), [.int (qn i + 1), .ref 2000, .ref 0], qp_mk I J)) (by with_unfolding_all rfl) trivial ?_
  refine lw_ld C ok rfl (lw_in (a := 1) hi hL (by omega)).1 ?_
  rw [show (qn i + 1).toNatClampNeg = i + 1 from (lw_in (a := 1) hi hL (by omega)).2]
  refine lw_run C ok 4 (x' := (865, lw_L (qn i), [.int (qn i + 2), .ref 2000, .int (xs (i + 1)), .ref 0], qp_mk I J)) (by with_unfolding_all rfl) trivial ?_
  refine lw_ld C ok rfl (lw_in (a := 2) hi hL (by omega)).1 ?_
  rw [show (qn i + 2).toNatClampNeg = i + 2 from (lw_in (a := 2) hi hL (by omega)).2]
  refine lw_cV C ok (d' := 100) (rest := []) (oj := 0) qp_f92 rfl rfl (gX_gets l G (xs (i + 1)) (xs (i + 2)) I J e1 (by decide)) rfl rfl rfl rfl (by omega) ?_
  refine lw_run C ok 5 (x' := (874, lw_L (qn i), [.int (qn i + 1), .ref 2000, .ref 36, .int v], qp_mk I1 J1)) (by with_unfolding_all rfl) trivial ?_
  refine lw_ld C ok rfl (lw_in (a := 1) hi hL (by omega)).1 ?_
  rw [show (qn i + 1).toNatClampNeg = i + 1 from (lw_in (a := 1) hi hL (by omega)).2]
  refine lw_run C ok 4 (x' := (879, lw_L (qn i), [.int (qn i + 2), .ref 2000, .int (xs (i + 1)), .ref 36, .int v], qp_mk I1 J1)) (by with_unfolding_all rfl) trivial ?_
  refine lw_ld C ok rfl (lw_in (a := 2) hi hL (by omega)).1 ?_
  rw [show (qn i + 2).toNatClampNeg = i + 2 from (lw_in (a := 2) hi hL (by omega)).2]
  refine lw_cV C ok (d' := 100) (rest := [.int v]) (oj := 10) qp_f200 rfl rfl (gM_gets l G (xs (i + 1)) (xs (i + 2)) I1 J1 e2 (by decide)) rfl rfl rfl rfl (by omega) ?_
  refine lw_br C ok (f := v = v) (xt := (1358, lw_L (qn i), [], qp_mk I2 J2)) (xf := (886, lw_L (qn i), [], qp_mk I2 J2)) (by with_unfolding_all rfl) (fun _ => ?_) (fun h => absurd rfl h)
  refine lw_run C ok 2 (x' := (18, lw_L (qn i + 6), [], qp_mk I2 J2)) (by with_unfolding_all rfl) trivial ?_
  exact ih I2 J2 hz
def qp_kc22 : List (List (Nat × Instr × Int32 × Nat)) := [[], [], [], [], [], [], [], [], [], [], [], [], [], [], [], [], [], [], [], [], [], [], [], [], [], [], [], [], [], [], [], [], [], [], [], [], [], [], [], [], [], [], [], [], [], [], [], [], [], [], [], [], [], [], [], [(888, .aload_n 1, 0, 0), (889, .aload_n 0, 0, 0), (890, .iload_n 3, 0, 0), (891, .iconst 1, 1, 0), (892, .iadd, 0, 0), (893, .iaload, 0, 0), (894, .invokevirtual 105, 0, 940)], [(897, .aload_n 2, 0, 0), (898, .aload_n 0, 0, 0), (899, .iload_n 3, 0, 0), (900, .iconst 1, 1, 0), (901, .iadd, 0, 0), (902, .iaload, 0, 0), (903, .invokevirtual 108, 0, 2030), (906, .if_icmp .eq 452, 0, 1358)], [], [], [], [], [], [], [], [], [], [], [], [], [], [], [], [], [], [], [], [], [], [], [], [], [], [], [], [(1358, .iinc 3 6, 6, 0)], [(1361, .goto (-1343), 0, 18)]]
theorem qp_kc22_ok : qp_ok 14 code qp_kc22 := qp_ok_of (by decide +kernel)
set_option maxRecDepth 8000 in
theorem lw_c22 (C : lw_C p s m meth c G ad0 b L xs) (hL : L ≤ 3072) (hi : i + 6 ≤ L) (hR : zR I J) (ih : ∀ I J, zR I J → lw_V p l e s m below meth c G ad0 b (18, lw_L (qn i + 6), [], qp_mk I J)) : lw_V p l e s m below meth c G ad0 b (888, lw_L (qn i), [], qp_mk I J) := by
  have ok := qp_kc22_ok
  obtain ⟨v, I1, J1, I2, J2, e1, e2, hz⟩ := sim_best (xs (i + 1)) I J hR
  refine lw_run C ok 5 (x' := (893, lw_L (qn i), [.int (qn i + 1), .ref 2000, .ref 0], qp_mk I J)) (by with_unfolding_all rfl) trivial ?_
  refine lw_ld C ok rfl (lw_in (a := 1) hi hL (by omega)).1 ?_
  rw [show (qn i + 1).toNatClampNeg = i + 1 from (lw_in (a := 1) hi hL (by omega)).2]
  refine lw_cV C ok (d' := 100) (rest := []) (oj := 0) qp_f94 rfl rfl (gX_best l G (xs (i + 1)) I J e1 (by decide)) rfl rfl rfl rfl (by omega) ?_
  refine lw_run C ok 5 (x' := (902, lw_L (qn i), [.int (qn i + 1), .ref 2000, .ref 36, .int v], qp_mk I1 J1)) (by with_unfolding_all rfl) trivial ?_
  refine lw_ld C ok rfl (lw_in (a := 1) hi hL (by omega)).1 ?_
  rw [show (qn i + 1).toNatClampNeg = i + 1 from (lw_in (a := 1) hi hL (by omega)).2]
  refine lw_cV C ok (d' := 100) (rest := [.int v]) (oj := 10) qp_f203 rfl rfl (gM_best l G (xs (i + 1)) I1 J1 e2 (by decide)) rfl rfl rfl rfl (by omega) ?_
  refine lw_br C ok (f := v = v) (xt := (1358, lw_L (qn i), [], qp_mk I2 J2)) (xf := (909, lw_L (qn i), [], qp_mk I2 J2)) (by with_unfolding_all rfl) (fun _ => ?_) (fun h => absurd rfl h)
  refine lw_run C ok 2 (x' := (18, lw_L (qn i + 6), [], qp_mk I2 J2)) (by with_unfolding_all rfl) trivial ?_
  exact ih I2 J2 hz
def qp_kc23 : List (List (Nat × Instr × Int32 × Nat)) := [[], [], [], [], [], [], [], [], [], [], [], [], [], [], [], [], [], [], [], [], [], [], [], [], [], [], [], [], [], [], [], [], [], [], [], [], [], [], [], [], [], [], [], [], [], [], [], [], [], [], [], [], [], [], [], [], [(911, .aload_n 1, 0, 0)], [(912, .aload_n 0, 0, 0), (913, .iload_n 3, 0, 0), (914, .iconst 1, 1, 0), (915, .iadd, 0, 0), (916, .iaload, 0, 0), (917, .invokevirtual 109, 0, 950), (920, .aload_n 2, 0, 0), (921, .aload_n 0, 0, 0), (922, .iload_n 3, 0, 0), (923, .iconst 1, 1, 0), (924, .iadd, 0, 0), (925, .iaload, 0, 0), (926, .invokevirtual 112, 0, 2040)], [(929, .if_icmp .eq 429, 0, 1358)], [], [], [], [], [], [], [], [], [], [], [], [], [], [], [], [], [], [], [], [], [], [], [], [], [], [(1358, .iinc 3 6, 6, 0)], [(1361, .goto (-1343), 0, 18)]]
theorem qp_kc23_ok : qp_ok 14 code qp_kc23 := qp_ok_of (by decide +kernel)
set_option maxRecDepth 8000 in
theorem lw_c23 (C : lw_C p s m meth c G ad0 b L xs) (hL : L ≤ 3072) (hi : i + 6 ≤ L) (hR : zR I J) (ih : ∀ I J, zR I J → lw_V p l e s m below meth c G ad0 b (18, lw_L (qn i + 6), [], qp_mk I J)) : lw_V p l e s m below meth c G ad0 b (911, lw_L (qn i), [], qp_mk I J) := by
  have ok := qp_kc23_ok
  obtain ⟨v, I1, J1, I2, J2, e1, e2, hz⟩ := sim_falls (xs (i + 1)) I J hR
  refine lw_run C ok 5 (x' := (916, lw_L (qn i), [.int (qn i + 1), .ref 2000, .ref 0], qp_mk I J)) (by with_unfolding_all rfl) trivial ?_
  refine lw_ld C ok rfl (lw_in (a := 1) hi hL (by omega)).1 ?_
  rw [show (qn i + 1).toNatClampNeg = i + 1 from (lw_in (a := 1) hi hL (by omega)).2]
  refine lw_cV C ok (d' := 100) (rest := []) (oj := 0) qp_f95 rfl rfl (gX_falls l G (xs (i + 1)) I J e1 (by decide)) rfl rfl rfl rfl (by omega) ?_
  refine lw_run C ok 5 (x' := (925, lw_L (qn i), [.int (qn i + 1), .ref 2000, .ref 36, .int v], qp_mk I1 J1)) (by with_unfolding_all rfl) trivial ?_
  refine lw_ld C ok rfl (lw_in (a := 1) hi hL (by omega)).1 ?_
  rw [show (qn i + 1).toNatClampNeg = i + 1 from (lw_in (a := 1) hi hL (by omega)).2]
  refine lw_cV C ok (d' := 100) (rest := [.int v]) (oj := 10) qp_f204 rfl rfl (gM_falls l G (xs (i + 1)) I1 J1 e2 (by decide)) rfl rfl rfl rfl (by omega) ?_
  refine lw_br C ok (f := v = v) (xt := (1358, lw_L (qn i), [], qp_mk I2 J2)) (xf := (932, lw_L (qn i), [], qp_mk I2 J2)) (by with_unfolding_all rfl) (fun _ => ?_) (fun h => absurd rfl h)
  refine lw_run C ok 2 (x' := (18, lw_L (qn i + 6), [], qp_mk I2 J2)) (by with_unfolding_all rfl) trivial ?_
  exact ih I2 J2 hz
def qp_kc24 : List (List (Nat × Instr × Int32 × Nat)) := [[], [], [], [], [], [], [], [], [], [], [], [], [], [], [], [], [], [], [], [], [], [], [], [], [], [], [], [], [], [], [], [], [], [], [], [], [], [], [], [], [], [], [], [], [], [], [], [], [], [], [], [], [], [], [], [], [], [], [(934, .aload_n 1, 0, 0), (935, .aload_n 0, 0, 0), (936, .iload_n 3, 0, 0), (937, .iconst 1, 1, 0), (938, .iadd, 0, 0), (939, .iaload, 0, 0), (940, .aload_n 0, 0, 0), (941, .iload_n 3, 0, 0), (942, .iconst 2, 2, 0), (943, .iadd, 0, 0)], [(944, .iaload, 0, 0), (945, .aload_n 0, 0, 0), (946, .iload_n 3, 0, 0), (947, .iconst 3, 3, 0), (948, .iadd, 0, 0), (949, .iaload, 0, 0), (950, .aload_n 0, 0, 0), (951, .iload_n 3, 0, 0), (952, .iconst 4, 4, 0), (953, .iadd, 0, 0), (954, .iaload, 0, 0), (955, .invokevirtual 113, 0, 960), (958, .aload_n 2, 0, 0), (959, .aload_n 0, 0, 0)], [(960, .iload_n 3, 0, 0), (961, .iconst 1, 1, 0), (962, .iadd, 0, 0), (963, .iaload, 0, 0), (964, .aload_n 0, 0, 0), (965, .iload_n 3, 0, 0), (966, .iconst 2, 2, 0), (967, .iadd, 0, 0), (968, .iaload, 0, 0), (969, .aload_n 0, 0, 0), (970, .iload_n 3, 0, 0), (971, .iconst 3, 3, 0), (972, .iadd, 0, 0), (973, .iaload, 0, 0), (974, .aload_n 0, 0, 0), (975, .iload_n 3, 0, 0)], [(976, .iconst 4, 4, 0), (977, .iadd, 0, 0), (978, .iaload, 0, 0), (979, .invokevirtual 117, 0, 2050), (982, .if_icmp .eq 376, 0, 1358)], [], [], [], [], [], [], [], [], [], [], [], [], [], [], [], [], [], [], [], [], [], [], [(1358, .iinc 3 6, 6, 0)], [(1361, .goto (-1343), 0, 18)]]
theorem qp_kc24_ok : qp_ok 14 code qp_kc24 := qp_ok_of (by decide +kernel)
set_option maxRecDepth 8000 in
theorem lw_c24 (C : lw_C p s m meth c G ad0 b L xs) (hL : L ≤ 3072) (hi : i + 6 ≤ L) (hR : zR I J) (ih : ∀ I J, zR I J → lw_V p l e s m below meth c G ad0 b (18, lw_L (qn i + 6), [], qp_mk I J)) : lw_V p l e s m below meth c G ad0 b (934, lw_L (qn i), [], qp_mk I J) := by
  have ok := qp_kc24_ok
  obtain ⟨v, I1, J1, I2, J2, e1, e2, hz⟩ := sim_wish (xs (i + 1)) (xs (i + 2)) (xs (i + 3)) (xs (i + 4)) I J hR
  refine lw_run C ok 5 (x' := (939, lw_L (qn i), [.int (qn i + 1), .ref 2000, .ref 0], qp_mk I J)) (by with_unfolding_all rfl) trivial ?_
  refine lw_ld C ok rfl (lw_in (a := 1) hi hL (by omega)).1 ?_
  rw [show (qn i + 1).toNatClampNeg = i + 1 from (lw_in (a := 1) hi hL (by omega)).2]
  refine lw_run C ok 4 (x' := (944, lw_L (qn i), [.int (qn i + 2), .ref 2000, .int (xs (i + 1)), .ref 0], qp_mk I J)) (by with_unfolding_all rfl) trivial ?_
  refine lw_ld C ok rfl (lw_in (a := 2) hi hL (by omega)).1 ?_
  rw [show (qn i + 2).toNatClampNeg = i + 2 from (lw_in (a := 2) hi hL (by omega)).2]
  refine lw_run C ok 4 (x' := (949, lw_L (qn i), [.int (qn i + 3), .ref 2000, .int (xs (i + 2)), .int (xs (i + 1)), .ref 0], qp_mk I J)) (by with_unfolding_all rfl) trivial ?_
  refine lw_ld C ok rfl (lw_in (a := 3) hi hL (by omega)).1 ?_
  rw [show (qn i + 3).toNatClampNeg = i + 3 from (lw_in (a := 3) hi hL (by omega)).2]
  refine lw_run C ok 4 (x' := (954, lw_L (qn i), [.int (qn i + 4), .ref 2000, .int (xs (i + 3)), .int (xs (i + 2)), .int (xs (i + 1)), .ref 0], qp_mk I J)) (by with_unfolding_all rfl) trivial ?_
  refine lw_ld C ok rfl (lw_in (a := 4) hi hL (by omega)).1 ?_
  rw [show (qn i + 4).toNatClampNeg = i + 4 from (lw_in (a := 4) hi hL (by omega)).2]
  refine lw_cV C ok (d' := 100) (rest := []) (oj := 0) qp_f96 rfl rfl (gX_wish l G (xs (i + 1)) (xs (i + 2)) (xs (i + 3)) (xs (i + 4)) I J e1 (by decide)) rfl rfl rfl rfl (by omega) ?_
  refine lw_run C ok 5 (x' := (963, lw_L (qn i), [.int (qn i + 1), .ref 2000, .ref 36, .int v], qp_mk I1 J1)) (by with_unfolding_all rfl) trivial ?_
  refine lw_ld C ok rfl (lw_in (a := 1) hi hL (by omega)).1 ?_
  rw [show (qn i + 1).toNatClampNeg = i + 1 from (lw_in (a := 1) hi hL (by omega)).2]
  refine lw_run C ok 4 (x' := (968, lw_L (qn i), [.int (qn i + 2), .ref 2000, .int (xs (i + 1)), .ref 36, .int v], qp_mk I1 J1)) (by with_unfolding_all rfl) trivial ?_
  refine lw_ld C ok rfl (lw_in (a := 2) hi hL (by omega)).1 ?_
  rw [show (qn i + 2).toNatClampNeg = i + 2 from (lw_in (a := 2) hi hL (by omega)).2]
  refine lw_run C ok 4 (x' := (973, lw_L (qn i), [.int (qn i + 3), .ref 2000, .int (xs (i + 2)), .int (xs (i + 1)), .ref 36, .int v], qp_mk I1 J1)) (by with_unfolding_all rfl) trivial ?_
  refine lw_ld C ok rfl (lw_in (a := 3) hi hL (by omega)).1 ?_
  rw [show (qn i + 3).toNatClampNeg = i + 3 from (lw_in (a := 3) hi hL (by omega)).2]
  refine lw_run C ok 4 (x' := (978, lw_L (qn i), [.int (qn i + 4), .ref 2000, .int (xs (i + 3)), .int (xs (i + 2)), .int (xs (i + 1)), .ref 36, .int v], qp_mk I1 J1)) (by with_unfolding_all rfl) trivial ?_
  refine lw_ld C ok rfl (lw_in (a := 4) hi hL (by omega)).1 ?_
  rw [show (qn i + 4).toNatClampNeg = i + 4 from (lw_in (a := 4) hi hL (by omega)).2]
  refine lw_cV C ok (d' := 100) (rest := [.int v]) (oj := 10) qp_f205 rfl rfl (gM_wish l G (xs (i + 1)) (xs (i + 2)) (xs (i + 3)) (xs (i + 4)) I1 J1 e2 (by decide)) rfl rfl rfl rfl (by omega) ?_
  refine lw_br C ok (f := v = v) (xt := (1358, lw_L (qn i), [], qp_mk I2 J2)) (xf := (985, lw_L (qn i), [], qp_mk I2 J2)) (by with_unfolding_all rfl) (fun _ => ?_) (fun h => absurd rfl h)
  refine lw_run C ok 2 (x' := (18, lw_L (qn i + 6), [], qp_mk I2 J2)) (by with_unfolding_all rfl) trivial ?_
  exact ih I2 J2 hz
def qp_kc25 : List (List (Nat × Instr × Int32 × Nat)) := [[], [], [], [], [], [], [], [], [], [], [], [], [], [], [], [], [], [], [], [], [], [], [], [], [], [], [], [], [], [], [], [], [], [], [], [], [], [], [], [], [], [], [], [], [], [], [], [], [], [], [], [], [], [], [], [], [], [], [], [], [], [(987, .aload_n 1, 0, 0), (988, .aload_n 0, 0, 0), (989, .iload_n 3, 0, 0), (990, .iconst 1, 1, 0), (991, .iadd, 0, 0)], [(992, .iaload, 0, 0), (993, .invokevirtual 118, 0, 1040), (996, .aload_n 2, 0, 0), (997, .aload_n 0, 0, 0), (998, .iload_n 3, 0, 0), (999, .iconst 1, 1, 0), (1000, .iadd, 0, 0), (1001, .iaload, 0, 0), (1002, .invokevirtual 121, 0, 2070), (1005, .if_icmp .eq 353, 0, 1358)], [], [], [], [], [], [], [], [], [], [], [], [], [], [], [], [], [], [], [], [], [], [(1358, .iinc 3 6, 6, 0)], [(1361, .goto (-1343), 0, 18)]]
theorem qp_kc25_ok : qp_ok 14 code qp_kc25 := qp_ok_of (by decide +kernel)
set_option maxRecDepth 8000 in
theorem lw_c25 (C : lw_C p s m meth c G ad0 b L xs) (hL : L ≤ 3072) (hi : i + 6 ≤ L) (hR : zR I J) (ih : ∀ I J, zR I J → lw_V p l e s m below meth c G ad0 b (18, lw_L (qn i + 6), [], qp_mk I J)) : lw_V p l e s m below meth c G ad0 b (987, lw_L (qn i), [], qp_mk I J) := by
  have ok := qp_kc25_ok
  obtain ⟨v, I1, J1, I2, J2, e1, e2, hz⟩ := sim_lines (xs (i + 1)) I J hR
  refine lw_run C ok 5 (x' := (992, lw_L (qn i), [.int (qn i + 1), .ref 2000, .ref 0], qp_mk I J)) (by with_unfolding_all rfl) trivial ?_
  refine lw_ld C ok rfl (lw_in (a := 1) hi hL (by omega)).1 ?_
  rw [show (qn i + 1).toNatClampNeg = i + 1 from (lw_in (a := 1) hi hL (by omega)).2]
  refine lw_cV C ok (d' := 100) (rest := []) (oj := 0) qp_f104 rfl rfl (gX_lines l G (xs (i + 1)) I J e1 (by decide)) rfl rfl rfl rfl (by omega) ?_
  refine lw_run C ok 5 (x' := (1001, lw_L (qn i), [.int (qn i + 1), .ref 2000, .ref 36, .int v], qp_mk I1 J1)) (by with_unfolding_all rfl) trivial ?_
  refine lw_ld C ok rfl (lw_in (a := 1) hi hL (by omega)).1 ?_
  rw [show (qn i + 1).toNatClampNeg = i + 1 from (lw_in (a := 1) hi hL (by omega)).2]
  refine lw_cV C ok (d' := 100) (rest := [.int v]) (oj := 10) qp_f207 rfl rfl (gM_lines l G (xs (i + 1)) I1 J1 e2 (by decide)) rfl rfl rfl rfl (by omega) ?_
  refine lw_br C ok (f := v = v) (xt := (1358, lw_L (qn i), [], qp_mk I2 J2)) (xf := (1008, lw_L (qn i), [], qp_mk I2 J2)) (by with_unfolding_all rfl) (fun _ => ?_) (fun h => absurd rfl h)
  refine lw_run C ok 2 (x' := (18, lw_L (qn i + 6), [], qp_mk I2 J2)) (by with_unfolding_all rfl) trivial ?_
  exact ih I2 J2 hz
def qp_kc26 : List (List (Nat × Instr × Int32 × Nat)) := [[], [], [], [], [], [], [], [], [], [], [], [], [], [], [], [], [], [], [], [], [], [], [], [], [], [], [], [], [], [], [], [], [], [], [], [], [], [], [], [], [], [], [], [], [], [], [], [], [], [], [], [], [], [], [], [], [], [], [], [], [], [], [], [(1010, .aload_n 1, 0, 0), (1011, .aload_n 0, 0, 0), (1012, .iload_n 3, 0, 0), (1013, .iconst 1, 1, 0), (1014, .iadd, 0, 0), (1015, .iaload, 0, 0), (1016, .aload_n 0, 0, 0), (1017, .iload_n 3, 0, 0), (1018, .iconst 2, 2, 0), (1019, .iadd, 0, 0), (1020, .iaload, 0, 0), (1021, .invokevirtual 122, 0, 1130)], [(1024, .aload_n 2, 0, 0), (1025, .aload_n 0, 0, 0), (1026, .iload_n 3, 0, 0), (1027, .iconst 1, 1, 0), (1028, .iadd, 0, 0), (1029, .iaload, 0, 0), (1030, .aload_n 0, 0, 0), (1031, .iload_n 3, 0, 0), (1032, .iconst 2, 2, 0), (1033, .iadd, 0, 0), (1034, .iaload, 0, 0), (1035, .invokevirtual 125, 0, 2130), (1038, .if_icmp .eq 320, 0, 1358)], [], [], [], [], [], [], [], [], [], [], [], [], [], [], [], [], [], [], [], [(1358, .iinc 3 6, 6, 0)], [(1361, .goto (-1343), 0, 18)]]
theorem qp_kc26_ok : qp_ok 14 code qp_kc26 := qp_ok_of (by decide +kernel)
set_option maxRecDepth 8000 in
theorem lw_c26 (C : lw_C p s m meth c G ad0 b L xs) (hL : L ≤ 3072) (hi : i + 6 ≤ L) (hR : zR I J) (ih : ∀ I J, zR I J → lw_V p l e s m below meth c G ad0 b (18, lw_L (qn i + 6), [], qp_mk I J)) : lw_V p l e s m below meth c G ad0 b (1010, lw_L (qn i), [], qp_mk I J) := by
  have ok := qp_kc26_ok
  obtain ⟨v, I1, J1, I2, J2, e1, e2, hz⟩ := sim_can (xs (i + 1)) (xs (i + 2)) I J hR
  refine lw_run C ok 5 (x' := (1015, lw_L (qn i), [.int (qn i + 1), .ref 2000, .ref 0], qp_mk I J)) (by with_unfolding_all rfl) trivial ?_
  refine lw_ld C ok rfl (lw_in (a := 1) hi hL (by omega)).1 ?_
  rw [show (qn i + 1).toNatClampNeg = i + 1 from (lw_in (a := 1) hi hL (by omega)).2]
  refine lw_run C ok 4 (x' := (1020, lw_L (qn i), [.int (qn i + 2), .ref 2000, .int (xs (i + 1)), .ref 0], qp_mk I J)) (by with_unfolding_all rfl) trivial ?_
  refine lw_ld C ok rfl (lw_in (a := 2) hi hL (by omega)).1 ?_
  rw [show (qn i + 2).toNatClampNeg = i + 2 from (lw_in (a := 2) hi hL (by omega)).2]
  refine lw_cV C ok (d' := 100) (rest := []) (oj := 0) qp_f113 rfl rfl (gX_can l G (xs (i + 1)) (xs (i + 2)) I J e1 (by decide)) rfl rfl rfl rfl (by omega) ?_
  refine lw_run C ok 5 (x' := (1029, lw_L (qn i), [.int (qn i + 1), .ref 2000, .ref 36, .int v], qp_mk I1 J1)) (by with_unfolding_all rfl) trivial ?_
  refine lw_ld C ok rfl (lw_in (a := 1) hi hL (by omega)).1 ?_
  rw [show (qn i + 1).toNatClampNeg = i + 1 from (lw_in (a := 1) hi hL (by omega)).2]
  refine lw_run C ok 4 (x' := (1034, lw_L (qn i), [.int (qn i + 2), .ref 2000, .int (xs (i + 1)), .ref 36, .int v], qp_mk I1 J1)) (by with_unfolding_all rfl) trivial ?_
  refine lw_ld C ok rfl (lw_in (a := 2) hi hL (by omega)).1 ?_
  rw [show (qn i + 2).toNatClampNeg = i + 2 from (lw_in (a := 2) hi hL (by omega)).2]
  refine lw_cV C ok (d' := 100) (rest := [.int v]) (oj := 10) qp_f213 rfl rfl (gM_can l G (xs (i + 1)) (xs (i + 2)) I1 J1 e2 (by decide)) rfl rfl rfl rfl (by omega) ?_
  refine lw_br C ok (f := v = v) (xt := (1358, lw_L (qn i), [], qp_mk I2 J2)) (xf := (1041, lw_L (qn i), [], qp_mk I2 J2)) (by with_unfolding_all rfl) (fun _ => ?_) (fun h => absurd rfl h)
  refine lw_run C ok 2 (x' := (18, lw_L (qn i + 6), [], qp_mk I2 J2)) (by with_unfolding_all rfl) trivial ?_
  exact ih I2 J2 hz
def qp_kc27 : List (List (Nat × Instr × Int32 × Nat)) := [[], [], [], [], [], [], [], [], [], [], [], [], [], [], [], [], [], [], [], [], [], [], [], [], [], [], [], [], [], [], [], [], [], [], [], [], [], [], [], [], [], [], [], [], [], [], [], [], [], [], [], [], [], [], [], [], [], [], [], [], [], [], [], [], [], [(1043, .aload_n 1, 0, 0), (1044, .aload_n 0, 0, 0), (1045, .iload_n 3, 0, 0), (1046, .iconst 1, 1, 0), (1047, .iadd, 0, 0), (1048, .iaload, 0, 0), (1049, .invokevirtual 126, 0, 1150), (1052, .aload_n 2, 0, 0), (1053, .aload_n 0, 0, 0), (1054, .iload_n 3, 0, 0), (1055, .iconst 1, 1, 0)], [(1056, .iadd, 0, 0), (1057, .iaload, 0, 0), (1058, .invokevirtual 129, 0, 2140), (1061, .if_icmp .eq 297, 0, 1358)], [], [], [], [], [], [], [], [], [], [], [], [], [], [], [], [], [], [(1358, .iinc 3 6, 6, 0)], [(1361, .goto (-1343), 0, 18)]]
theorem qp_kc27_ok : qp_ok 14 code qp_kc27 := qp_ok_of (by decide +kernel)
set_option maxRecDepth 8000 in
theorem lw_c27 (C : lw_C p s m meth c G ad0 b L xs) (hL : L ≤ 3072) (hi : i + 6 ≤ L) (hR : zR I J) (ih : ∀ I J, zR I J → lw_V p l e s m below meth c G ad0 b (18, lw_L (qn i + 6), [], qp_mk I J)) : lw_V p l e s m below meth c G ad0 b (1043, lw_L (qn i), [], qp_mk I J) := by
  have ok := qp_kc27_ok
  obtain ⟨v, I1, J1, I2, J2, e1, e2, hz⟩ := sim_next (xs (i + 1)) I J hR
  refine lw_run C ok 5 (x' := (1048, lw_L (qn i), [.int (qn i + 1), .ref 2000, .ref 0], qp_mk I J)) (by with_unfolding_all rfl) trivial ?_
  refine lw_ld C ok rfl (lw_in (a := 1) hi hL (by omega)).1 ?_
  rw [show (qn i + 1).toNatClampNeg = i + 1 from (lw_in (a := 1) hi hL (by omega)).2]
  refine lw_cV C ok (d' := 100) (rest := []) (oj := 0) qp_f115 rfl rfl (gX_next l G (xs (i + 1)) I J e1 (by decide)) rfl rfl rfl rfl (by omega) ?_
  refine lw_run C ok 5 (x' := (1057, lw_L (qn i), [.int (qn i + 1), .ref 2000, .ref 36, .int v], qp_mk I1 J1)) (by with_unfolding_all rfl) trivial ?_
  refine lw_ld C ok rfl (lw_in (a := 1) hi hL (by omega)).1 ?_
  rw [show (qn i + 1).toNatClampNeg = i + 1 from (lw_in (a := 1) hi hL (by omega)).2]
  refine lw_cV C ok (d' := 100) (rest := [.int v]) (oj := 10) qp_f214 rfl rfl (gM_next l G (xs (i + 1)) I1 J1 e2 (by decide)) rfl rfl rfl rfl (by omega) ?_
  refine lw_br C ok (f := v = v) (xt := (1358, lw_L (qn i), [], qp_mk I2 J2)) (xf := (1064, lw_L (qn i), [], qp_mk I2 J2)) (by with_unfolding_all rfl) (fun _ => ?_) (fun h => absurd rfl h)
  refine lw_run C ok 2 (x' := (18, lw_L (qn i + 6), [], qp_mk I2 J2)) (by with_unfolding_all rfl) trivial ?_
  exact ih I2 J2 hz
end LC

/-! THE LAW'S CALLS, further -/
section LC
variable {p : Program} {l : Launch} {e : Env} {s : State} {m : MethodId} {below : List Frame} {meth : Method} {c : Code} {G : qp_G} {ad0 : Nat → Nat} {b L : Nat} {xs : Nat → Int32} {I : Nat → Nat → Int32} {J : Nat → Nat → Int64} {i : Nat}
def qp_kc7 : List (List (Nat × Instr × Int32 × Nat)) := [[], [], [], [], [], [], [], [], [], [], [], [], [], [], [], [], [], [], [], [], [], [], [], [], [], [], [], [], [(463, .aload_n 1, 0, 0)], [(464, .aload_n 0, 0, 0), (465, .iload_n 3, 0, 0), (466, .iconst 1, 1, 0), (467, .iadd, 0, 0), (468, .iaload, 0, 0), (469, .aload_n 0, 0, 0), (470, .iload_n 3, 0, 0), (471, .iconst 2, 2, 0), (472, .iadd, 0, 0), (473, .iaload, 0, 0), (474, .aload_n 0, 0, 0), (475, .iload_n 3, 0, 0), (476, .iconst 3, 3, 0), (477, .iadd, 0, 0), (478, .iaload, 0, 0), (479, .invokevirtual 45, 0, 350)], [(482, .aload_n 2, 0, 0), (483, .aload_n 0, 0, 0), (484, .iload_n 3, 0, 0), (485, .iconst 1, 1, 0), (486, .iadd, 0, 0), (487, .iaload, 0, 0), (488, .aload_n 0, 0, 0), (489, .iload_n 3, 0, 0), (490, .iconst 2, 2, 0), (491, .iadd, 0, 0), (492, .iaload, 0, 0), (493, .aload_n 0, 0, 0), (494, .iload_n 3, 0, 0), (495, .iconst 3, 3, 0)], [(496, .iadd, 0, 0), (497, .iaload, 0, 0), (498, .invokevirtual 48, 0, 1600), (501, .if_icmp .eq 857, 0, 1358)], [], [], [], [], [], [], [], [], [], [], [], [], [], [], [], [], [], [], [], [], [], [], [], [], [], [], [], [], [], [], [], [], [], [], [], [], [], [], [], [], [], [], [], [], [], [], [], [], [], [], [], [], [(1358, .iinc 3 6, 6, 0)], [(1361, .goto (-1343), 0, 18)]]
theorem qp_kc7_ok : qp_ok 14 code qp_kc7 := qp_ok_of (by decide +kernel)
set_option maxRecDepth 8000 in
theorem lw_c7 (C : lw_C p s m meth c G ad0 b L xs) (hL : L ≤ 3072) (hi : i + 6 ≤ L) (hR : zR I J) (ih : ∀ I J, zR I J → lw_V p l e s m below meth c G ad0 b (18, lw_L (qn i + 6), [], qp_mk I J)) : lw_V p l e s m below meth c G ad0 b (463, lw_L (qn i), [], qp_mk I J) := by
  have ok := qp_kc7_ok
  obtain ⟨v, I1, J1, I2, J2, e1, e2, hz⟩ := sim_put (xs (i + 1)) (xs (i + 2)) (xs (i + 3)) I J hR
  refine lw_run C ok 5 (x' := (468, lw_L (qn i), [.int (qn i + 1), .ref 2000, .ref 0], qp_mk I J)) (by with_unfolding_all rfl) trivial ?_
  refine lw_ld C ok rfl (lw_in (a := 1) hi hL (by omega)).1 ?_
  rw [show (qn i + 1).toNatClampNeg = i + 1 from (lw_in (a := 1) hi hL (by omega)).2]
  refine lw_run C ok 4 (x' := (473, lw_L (qn i), [.int (qn i + 2), .ref 2000, .int (xs (i + 1)), .ref 0], qp_mk I J)) (by with_unfolding_all rfl) trivial ?_
  refine lw_ld C ok rfl (lw_in (a := 2) hi hL (by omega)).1 ?_
  rw [show (qn i + 2).toNatClampNeg = i + 2 from (lw_in (a := 2) hi hL (by omega)).2]
  refine lw_run C ok 4 (x' := (478, lw_L (qn i), [.int (qn i + 3), .ref 2000, .int (xs (i + 2)), .int (xs (i + 1)), .ref 0], qp_mk I J)) (by with_unfolding_all rfl) trivial ?_
  refine lw_ld C ok rfl (lw_in (a := 3) hi hL (by omega)).1 ?_
  rw [show (qn i + 3).toNatClampNeg = i + 3 from (lw_in (a := 3) hi hL (by omega)).2]
  refine lw_cV C ok (d' := 100) (rest := []) (oj := 0) qp_f35 rfl rfl (gX_put l G (xs (i + 1)) (xs (i + 2)) (xs (i + 3)) I J e1 (by decide)) rfl rfl rfl rfl (by omega) ?_
  refine lw_run C ok 5 (x' := (487, lw_L (qn i), [.int (qn i + 1), .ref 2000, .ref 36, .int v], qp_mk I1 J1)) (by with_unfolding_all rfl) trivial ?_
  refine lw_ld C ok rfl (lw_in (a := 1) hi hL (by omega)).1 ?_
  rw [show (qn i + 1).toNatClampNeg = i + 1 from (lw_in (a := 1) hi hL (by omega)).2]
  refine lw_run C ok 4 (x' := (492, lw_L (qn i), [.int (qn i + 2), .ref 2000, .int (xs (i + 1)), .ref 36, .int v], qp_mk I1 J1)) (by with_unfolding_all rfl) trivial ?_
  refine lw_ld C ok rfl (lw_in (a := 2) hi hL (by omega)).1 ?_
  rw [show (qn i + 2).toNatClampNeg = i + 2 from (lw_in (a := 2) hi hL (by omega)).2]
  refine lw_run C ok 4 (x' := (497, lw_L (qn i), [.int (qn i + 3), .ref 2000, .int (xs (i + 2)), .int (xs (i + 1)), .ref 36, .int v], qp_mk I1 J1)) (by with_unfolding_all rfl) trivial ?_
  refine lw_ld C ok rfl (lw_in (a := 3) hi hL (by omega)).1 ?_
  rw [show (qn i + 3).toNatClampNeg = i + 3 from (lw_in (a := 3) hi hL (by omega)).2]
  refine lw_cV C ok (d' := 100) (rest := [.int v]) (oj := 10) qp_f160 rfl rfl (gM_put l G (xs (i + 1)) (xs (i + 2)) (xs (i + 3)) I1 J1 e2 (by decide)) rfl rfl rfl rfl (by omega) ?_
  refine lw_br C ok (f := v = v) (xt := (1358, lw_L (qn i), [], qp_mk I2 J2)) (xf := (504, lw_L (qn i), [], qp_mk I2 J2)) (by with_unfolding_all rfl) (fun _ => ?_) (fun h => absurd rfl h)
  refine lw_run C ok 2 (x' := (18, lw_L (qn i + 6), [], qp_mk I2 J2)) (by with_unfolding_all rfl) trivial ?_
  exact ih I2 J2 hz
def qp_kc8 : List (List (Nat × Instr × Int32 × Nat)) := [[], [], [], [], [], [], [], [], [], [], [], [], [], [], [], [], [], [], [], [], [], [], [], [], [], [], [], [], [], [], [], [(506, .aload_n 1, 0, 0), (507, .aload_n 0, 0, 0), (508, .iload_n 3, 0, 0), (509, .iconst 1, 1, 0), (510, .iadd, 0, 0), (511, .iaload, 0, 0)], [(512, .invokevirtual 49, 0, 360), (515, .aload_n 2, 0, 0), (516, .aload_n 0, 0, 0), (517, .iload_n 3, 0, 0), (518, .iconst 1, 1, 0), (519, .iadd, 0, 0), (520, .iaload, 0, 0), (521, .invokevirtual 52, 0, 1610), (524, .if_icmp .eq 834, 0, 1358)], [], [], [], [], [], [], [], [], [], [], [], [], [], [], [], [], [], [], [], [], [], [], [], [], [], [], [], [], [], [], [], [], [], [], [], [], [], [], [], [], [], [], [], [], [], [], [], [], [], [], [], [(1358, .iinc 3 6, 6, 0)], [(1361, .goto (-1343), 0, 18)]]
theorem qp_kc8_ok : qp_ok 14 code qp_kc8 := qp_ok_of (by decide +kernel)
set_option maxRecDepth 8000 in
theorem lw_c8 (C : lw_C p s m meth c G ad0 b L xs) (hL : L ≤ 3072) (hi : i + 6 ≤ L) (hR : zR I J) (ih : ∀ I J, zR I J → lw_V p l e s m below meth c G ad0 b (18, lw_L (qn i + 6), [], qp_mk I J)) : lw_V p l e s m below meth c G ad0 b (506, lw_L (qn i), [], qp_mk I J) := by
  have ok := qp_kc8_ok
  obtain ⟨v, I1, J1, I2, J2, e1, e2, hz⟩ := sim_fault (xs (i + 1)) I J hR
  refine lw_run C ok 5 (x' := (511, lw_L (qn i), [.int (qn i + 1), .ref 2000, .ref 0], qp_mk I J)) (by with_unfolding_all rfl) trivial ?_
  refine lw_ld C ok rfl (lw_in (a := 1) hi hL (by omega)).1 ?_
  rw [show (qn i + 1).toNatClampNeg = i + 1 from (lw_in (a := 1) hi hL (by omega)).2]
  refine lw_cV C ok (d' := 100) (rest := []) (oj := 0) qp_f36 rfl rfl (gX_fault l G (xs (i + 1)) I J e1 (by decide)) rfl rfl rfl rfl (by omega) ?_
  refine lw_run C ok 5 (x' := (520, lw_L (qn i), [.int (qn i + 1), .ref 2000, .ref 36, .int v], qp_mk I1 J1)) (by with_unfolding_all rfl) trivial ?_
  refine lw_ld C ok rfl (lw_in (a := 1) hi hL (by omega)).1 ?_
  rw [show (qn i + 1).toNatClampNeg = i + 1 from (lw_in (a := 1) hi hL (by omega)).2]
  refine lw_cV C ok (d' := 100) (rest := [.int v]) (oj := 10) qp_f161 rfl rfl (gM_fault l G (xs (i + 1)) I1 J1 e2 (by decide)) rfl rfl rfl rfl (by omega) ?_
  refine lw_br C ok (f := v = v) (xt := (1358, lw_L (qn i), [], qp_mk I2 J2)) (xf := (527, lw_L (qn i), [], qp_mk I2 J2)) (by with_unfolding_all rfl) (fun _ => ?_) (fun h => absurd rfl h)
  refine lw_run C ok 2 (x' := (18, lw_L (qn i + 6), [], qp_mk I2 J2)) (by with_unfolding_all rfl) trivial ?_
  exact ih I2 J2 hz
def qp_kc9 : List (List (Nat × Instr × Int32 × Nat)) := [[], [], [], [], [], [], [], [], [], [], [], [], [], [], [], [], [], [], [], [], [], [], [], [], [], [], [], [], [], [], [], [], [], [(529, .aload_n 1, 0, 0), (530, .aload_n 0, 0, 0), (531, .iload_n 3, 0, 0), (532, .iconst 1, 1, 0), (533, .iadd, 0, 0), (534, .iaload, 0, 0), (535, .invokevirtual 53, 0, 450), (538, .aload_n 2, 0, 0), (539, .aload_n 0, 0, 0), (540, .iload_n 3, 0, 0), (541, .iconst 1, 1, 0), (542, .iadd, 0, 0), (543, .iaload, 0, 0)], [(544, .invokevirtual 56, 0, 1690), (547, .if_icmp .eq 811, 0, 1358)], [], [], [], [], [], [], [], [], [], [], [], [], [], [], [], [], [], [], [], [], [], [], [], [], [], [], [], [], [], [], [], [], [], [], [], [], [], [], [], [], [], [], [], [], [], [], [], [], [], [(1358, .iinc 3 6, 6, 0)], [(1361, .goto (-1343), 0, 18)]]
theorem qp_kc9_ok : qp_ok 14 code qp_kc9 := qp_ok_of (by decide +kernel)
set_option maxRecDepth 8000 in
theorem lw_c9 (C : lw_C p s m meth c G ad0 b L xs) (hL : L ≤ 3072) (hi : i + 6 ≤ L) (hR : zR I J) (ih : ∀ I J, zR I J → lw_V p l e s m below meth c G ad0 b (18, lw_L (qn i + 6), [], qp_mk I J)) : lw_V p l e s m below meth c G ad0 b (529, lw_L (qn i), [], qp_mk I J) := by
  have ok := qp_kc9_ok
  obtain ⟨v, I1, J1, I2, J2, e1, e2, hz⟩ := sim_line (xs (i + 1)) I J hR
  refine lw_run C ok 5 (x' := (534, lw_L (qn i), [.int (qn i + 1), .ref 2000, .ref 0], qp_mk I J)) (by with_unfolding_all rfl) trivial ?_
  refine lw_ld C ok rfl (lw_in (a := 1) hi hL (by omega)).1 ?_
  rw [show (qn i + 1).toNatClampNeg = i + 1 from (lw_in (a := 1) hi hL (by omega)).2]
  refine lw_cV C ok (d' := 100) (rest := []) (oj := 0) qp_f45 rfl rfl (gX_line l G (xs (i + 1)) I J e1 (by decide)) rfl rfl rfl rfl (by omega) ?_
  refine lw_run C ok 5 (x' := (543, lw_L (qn i), [.int (qn i + 1), .ref 2000, .ref 36, .int v], qp_mk I1 J1)) (by with_unfolding_all rfl) trivial ?_
  refine lw_ld C ok rfl (lw_in (a := 1) hi hL (by omega)).1 ?_
  rw [show (qn i + 1).toNatClampNeg = i + 1 from (lw_in (a := 1) hi hL (by omega)).2]
  refine lw_cV C ok (d' := 100) (rest := [.int v]) (oj := 10) qp_f169 rfl rfl (gM_line l G (xs (i + 1)) I1 J1 e2 (by decide)) rfl rfl rfl rfl (by omega) ?_
  refine lw_br C ok (f := v = v) (xt := (1358, lw_L (qn i), [], qp_mk I2 J2)) (xf := (550, lw_L (qn i), [], qp_mk I2 J2)) (by with_unfolding_all rfl) (fun _ => ?_) (fun h => absurd rfl h)
  refine lw_run C ok 2 (x' := (18, lw_L (qn i + 6), [], qp_mk I2 J2)) (by with_unfolding_all rfl) trivial ?_
  exact ih I2 J2 hz
def qp_kc10 : List (List (Nat × Instr × Int32 × Nat)) := [[], [], [], [], [], [], [], [], [], [], [], [], [], [], [], [], [], [], [], [], [], [], [], [], [], [], [], [], [], [], [], [], [], [], [(552, .aload_n 1, 0, 0), (553, .aload_n 0, 0, 0), (554, .iload_n 3, 0, 0), (555, .iconst 1, 1, 0), (556, .iadd, 0, 0), (557, .iaload, 0, 0), (558, .aload_n 0, 0, 0), (559, .iload_n 3, 0, 0)], [(560, .iconst 2, 2, 0), (561, .iadd, 0, 0), (562, .iaload, 0, 0), (563, .invokevirtual 57, 0, 520), (566, .aload_n 2, 0, 0), (567, .aload_n 0, 0, 0), (568, .iload_n 3, 0, 0), (569, .iconst 1, 1, 0), (570, .iadd, 0, 0), (571, .iaload, 0, 0), (572, .aload_n 0, 0, 0), (573, .iload_n 3, 0, 0), (574, .iconst 2, 2, 0), (575, .iadd, 0, 0)], [(576, .iaload, 0, 0), (577, .invokevirtual 60, 0, 1710), (580, .if_icmp .eq 778, 0, 1358)], [], [], [], [], [], [], [], [], [], [], [], [], [], [], [], [], [], [], [], [], [], [], [], [], [], [], [], [], [], [], [], [], [], [], [], [], [], [], [], [], [], [], [], [], [], [], [], [(1358, .iinc 3 6, 6, 0)], [(1361, .goto (-1343), 0, 18)]]
theorem qp_kc10_ok : qp_ok 14 code qp_kc10 := qp_ok_of (by decide +kernel)
set_option maxRecDepth 8000 in
theorem lw_c10 (C : lw_C p s m meth c G ad0 b L xs) (hL : L ≤ 3072) (hi : i + 6 ≤ L) (hR : zR I J) (ih : ∀ I J, zR I J → lw_V p l e s m below meth c G ad0 b (18, lw_L (qn i + 6), [], qp_mk I J)) : lw_V p l e s m below meth c G ad0 b (552, lw_L (qn i), [], qp_mk I J) := by
  have ok := qp_kc10_ok
  obtain ⟨v, I1, J1, I2, J2, e1, e2, hz⟩ := sim_one (xs (i + 1)) (xs (i + 2)) I J hR
  refine lw_run C ok 5 (x' := (557, lw_L (qn i), [.int (qn i + 1), .ref 2000, .ref 0], qp_mk I J)) (by with_unfolding_all rfl) trivial ?_
  refine lw_ld C ok rfl (lw_in (a := 1) hi hL (by omega)).1 ?_
  rw [show (qn i + 1).toNatClampNeg = i + 1 from (lw_in (a := 1) hi hL (by omega)).2]
  refine lw_run C ok 4 (x' := (562, lw_L (qn i), [.int (qn i + 2), .ref 2000, .int (xs (i + 1)), .ref 0], qp_mk I J)) (by with_unfolding_all rfl) trivial ?_
  refine lw_ld C ok rfl (lw_in (a := 2) hi hL (by omega)).1 ?_
  rw [show (qn i + 2).toNatClampNeg = i + 2 from (lw_in (a := 2) hi hL (by omega)).2]
  refine lw_cV C ok (d' := 100) (rest := []) (oj := 0) qp_f52 rfl rfl (gX_one l G (xs (i + 1)) (xs (i + 2)) I J e1 (by decide)) rfl rfl rfl rfl (by omega) ?_
  refine lw_run C ok 5 (x' := (571, lw_L (qn i), [.int (qn i + 1), .ref 2000, .ref 36, .int v], qp_mk I1 J1)) (by with_unfolding_all rfl) trivial ?_
  refine lw_ld C ok rfl (lw_in (a := 1) hi hL (by omega)).1 ?_
  rw [show (qn i + 1).toNatClampNeg = i + 1 from (lw_in (a := 1) hi hL (by omega)).2]
  refine lw_run C ok 4 (x' := (576, lw_L (qn i), [.int (qn i + 2), .ref 2000, .int (xs (i + 1)), .ref 36, .int v], qp_mk I1 J1)) (by with_unfolding_all rfl) trivial ?_
  refine lw_ld C ok rfl (lw_in (a := 2) hi hL (by omega)).1 ?_
  rw [show (qn i + 2).toNatClampNeg = i + 2 from (lw_in (a := 2) hi hL (by omega)).2]
  refine lw_cV C ok (d' := 100) (rest := [.int v]) (oj := 10) qp_f171 rfl rfl (gM_one l G (xs (i + 1)) (xs (i + 2)) I1 J1 e2 (by decide)) rfl rfl rfl rfl (by omega) ?_
  refine lw_br C ok (f := v = v) (xt := (1358, lw_L (qn i), [], qp_mk I2 J2)) (xf := (583, lw_L (qn i), [], qp_mk I2 J2)) (by with_unfolding_all rfl) (fun _ => ?_) (fun h => absurd rfl h)
  refine lw_run C ok 2 (x' := (18, lw_L (qn i + 6), [], qp_mk I2 J2)) (by with_unfolding_all rfl) trivial ?_
  exact ih I2 J2 hz
def qp_kc11 : List (List (Nat × Instr × Int32 × Nat)) := [[], [], [], [], [], [], [], [], [], [], [], [], [], [], [], [], [], [], [], [], [], [], [], [], [], [], [], [], [], [], [], [], [], [], [], [], [(585, .aload_n 1, 0, 0), (586, .aload_n 0, 0, 0), (587, .iload_n 3, 0, 0), (588, .iconst 1, 1, 0), (589, .iadd, 0, 0), (590, .iaload, 0, 0), (591, .aload_n 0, 0, 0)], [(592, .iload_n 3, 0, 0), (593, .iconst 2, 2, 0), (594, .iadd, 0, 0), (595, .iaload, 0, 0), (596, .invokevirtual 61, 0, 690), (599, .aload_n 2, 0, 0), (600, .aload_n 0, 0, 0), (601, .iload_n 3, 0, 0), (602, .iconst 1, 1, 0), (603, .iadd, 0, 0), (604, .iaload, 0, 0), (605, .aload_n 0, 0, 0), (606, .iload_n 3, 0, 0), (607, .iconst 2, 2, 0)], [(608, .iadd, 0, 0), (609, .iaload, 0, 0), (610, .invokevirtual 64, 0, 1810), (613, .if_icmp .eq 745, 0, 1358)], [], [], [], [], [], [], [], [], [], [], [], [], [], [], [], [], [], [], [], [], [], [], [], [], [], [], [], [], [], [], [], [], [], [], [], [], [], [], [], [], [], [], [], [], [], [(1358, .iinc 3 6, 6, 0)], [(1361, .goto (-1343), 0, 18)]]
theorem qp_kc11_ok : qp_ok 14 code qp_kc11 := qp_ok_of (by decide +kernel)
set_option maxRecDepth 8000 in
theorem lw_c11 (C : lw_C p s m meth c G ad0 b L xs) (hL : L ≤ 3072) (hi : i + 6 ≤ L) (hR : zR I J) (ih : ∀ I J, zR I J → lw_V p l e s m below meth c G ad0 b (18, lw_L (qn i + 6), [], qp_mk I J)) : lw_V p l e s m below meth c G ad0 b (585, lw_L (qn i), [], qp_mk I J) := by
  have ok := qp_kc11_ok
  obtain ⟨v, I1, J1, I2, J2, e1, e2, hz⟩ := sim_mark (xs (i + 1)) (xs (i + 2)) I J hR
  refine lw_run C ok 5 (x' := (590, lw_L (qn i), [.int (qn i + 1), .ref 2000, .ref 0], qp_mk I J)) (by with_unfolding_all rfl) trivial ?_
  refine lw_ld C ok rfl (lw_in (a := 1) hi hL (by omega)).1 ?_
  rw [show (qn i + 1).toNatClampNeg = i + 1 from (lw_in (a := 1) hi hL (by omega)).2]
  refine lw_run C ok 4 (x' := (595, lw_L (qn i), [.int (qn i + 2), .ref 2000, .int (xs (i + 1)), .ref 0], qp_mk I J)) (by with_unfolding_all rfl) trivial ?_
  refine lw_ld C ok rfl (lw_in (a := 2) hi hL (by omega)).1 ?_
  rw [show (qn i + 2).toNatClampNeg = i + 2 from (lw_in (a := 2) hi hL (by omega)).2]
  refine lw_cV C ok (d' := 100) (rest := []) (oj := 0) qp_f69 rfl rfl (gX_mark l G (xs (i + 1)) (xs (i + 2)) I J e1 (by decide)) rfl rfl rfl rfl (by omega) ?_
  refine lw_run C ok 5 (x' := (604, lw_L (qn i), [.int (qn i + 1), .ref 2000, .ref 36, .int v], qp_mk I1 J1)) (by with_unfolding_all rfl) trivial ?_
  refine lw_ld C ok rfl (lw_in (a := 1) hi hL (by omega)).1 ?_
  rw [show (qn i + 1).toNatClampNeg = i + 1 from (lw_in (a := 1) hi hL (by omega)).2]
  refine lw_run C ok 4 (x' := (609, lw_L (qn i), [.int (qn i + 2), .ref 2000, .int (xs (i + 1)), .ref 36, .int v], qp_mk I1 J1)) (by with_unfolding_all rfl) trivial ?_
  refine lw_ld C ok rfl (lw_in (a := 2) hi hL (by omega)).1 ?_
  rw [show (qn i + 2).toNatClampNeg = i + 2 from (lw_in (a := 2) hi hL (by omega)).2]
  refine lw_cV C ok (d' := 100) (rest := [.int v]) (oj := 10) qp_f181 rfl rfl (gM_mark l G (xs (i + 1)) (xs (i + 2)) I1 J1 e2 (by decide)) rfl rfl rfl rfl (by omega) ?_
  refine lw_br C ok (f := v = v) (xt := (1358, lw_L (qn i), [], qp_mk I2 J2)) (xf := (616, lw_L (qn i), [], qp_mk I2 J2)) (by with_unfolding_all rfl) (fun _ => ?_) (fun h => absurd rfl h)
  refine lw_run C ok 2 (x' := (18, lw_L (qn i + 6), [], qp_mk I2 J2)) (by with_unfolding_all rfl) trivial ?_
  exact ih I2 J2 hz
def qp_kc12 : List (List (Nat × Instr × Int32 × Nat)) := [[], [], [], [], [], [], [], [], [], [], [], [], [], [], [], [], [], [], [], [], [], [], [], [], [], [], [], [], [], [], [], [], [], [], [], [], [], [], [(618, .aload_n 1, 0, 0), (619, .aload_n 0, 0, 0), (620, .iload_n 3, 0, 0), (621, .iconst 1, 1, 0), (622, .iadd, 0, 0), (623, .iaload, 0, 0)], [(624, .aload_n 0, 0, 0), (625, .iload_n 3, 0, 0), (626, .iconst 2, 2, 0), (627, .iadd, 0, 0), (628, .iaload, 0, 0), (629, .invokevirtual 65, 0, 720), (632, .aload_n 2, 0, 0), (633, .aload_n 0, 0, 0), (634, .iload_n 3, 0, 0), (635, .iconst 1, 1, 0), (636, .iadd, 0, 0), (637, .iaload, 0, 0), (638, .aload_n 0, 0, 0), (639, .iload_n 3, 0, 0)], [(640, .iconst 2, 2, 0), (641, .iadd, 0, 0), (642, .iaload, 0, 0), (643, .invokevirtual 68, 0, 1840), (646, .if_icmp .eq 712, 0, 1358)], [], [], [], [], [], [], [], [], [], [], [], [], [], [], [], [], [], [], [], [], [], [], [], [], [], [], [], [], [], [], [], [], [], [], [], [], [], [], [], [], [], [], [], [(1358, .iinc 3 6, 6, 0)], [(1361, .goto (-1343), 0, 18)]]
theorem qp_kc12_ok : qp_ok 14 code qp_kc12 := qp_ok_of (by decide +kernel)
set_option maxRecDepth 8000 in
theorem lw_c12 (C : lw_C p s m meth c G ad0 b L xs) (hL : L ≤ 3072) (hi : i + 6 ≤ L) (hR : zR I J) (ih : ∀ I J, zR I J → lw_V p l e s m below meth c G ad0 b (18, lw_L (qn i + 6), [], qp_mk I J)) : lw_V p l e s m below meth c G ad0 b (618, lw_L (qn i), [], qp_mk I J) := by
  have ok := qp_kc12_ok
  obtain ⟨v, I1, J1, I2, J2, e1, e2, hz⟩ := sim_ticket (xs (i + 1)) (xs (i + 2)) I J hR
  refine lw_run C ok 5 (x' := (623, lw_L (qn i), [.int (qn i + 1), .ref 2000, .ref 0], qp_mk I J)) (by with_unfolding_all rfl) trivial ?_
  refine lw_ld C ok rfl (lw_in (a := 1) hi hL (by omega)).1 ?_
  rw [show (qn i + 1).toNatClampNeg = i + 1 from (lw_in (a := 1) hi hL (by omega)).2]
  refine lw_run C ok 4 (x' := (628, lw_L (qn i), [.int (qn i + 2), .ref 2000, .int (xs (i + 1)), .ref 0], qp_mk I J)) (by with_unfolding_all rfl) trivial ?_
  refine lw_ld C ok rfl (lw_in (a := 2) hi hL (by omega)).1 ?_
  rw [show (qn i + 2).toNatClampNeg = i + 2 from (lw_in (a := 2) hi hL (by omega)).2]
  refine lw_cV C ok (d' := 100) (rest := []) (oj := 0) qp_f72 rfl rfl (gX_ticket l G (xs (i + 1)) (xs (i + 2)) I J e1 (by decide)) rfl rfl rfl rfl (by omega) ?_
  refine lw_run C ok 5 (x' := (637, lw_L (qn i), [.int (qn i + 1), .ref 2000, .ref 36, .int v], qp_mk I1 J1)) (by with_unfolding_all rfl) trivial ?_
  refine lw_ld C ok rfl (lw_in (a := 1) hi hL (by omega)).1 ?_
  rw [show (qn i + 1).toNatClampNeg = i + 1 from (lw_in (a := 1) hi hL (by omega)).2]
  refine lw_run C ok 4 (x' := (642, lw_L (qn i), [.int (qn i + 2), .ref 2000, .int (xs (i + 1)), .ref 36, .int v], qp_mk I1 J1)) (by with_unfolding_all rfl) trivial ?_
  refine lw_ld C ok rfl (lw_in (a := 2) hi hL (by omega)).1 ?_
  rw [show (qn i + 2).toNatClampNeg = i + 2 from (lw_in (a := 2) hi hL (by omega)).2]
  refine lw_cV C ok (d' := 100) (rest := [.int v]) (oj := 10) qp_f184 rfl rfl (gM_ticket l G (xs (i + 1)) (xs (i + 2)) I1 J1 e2 (by decide)) rfl rfl rfl rfl (by omega) ?_
  refine lw_br C ok (f := v = v) (xt := (1358, lw_L (qn i), [], qp_mk I2 J2)) (xf := (649, lw_L (qn i), [], qp_mk I2 J2)) (by with_unfolding_all rfl) (fun _ => ?_) (fun h => absurd rfl h)
  refine lw_run C ok 2 (x' := (18, lw_L (qn i + 6), [], qp_mk I2 J2)) (by with_unfolding_all rfl) trivial ?_
  exact ih I2 J2 hz
def qp_kc13 : List (List (Nat × Instr × Int32 × Nat)) := [[], [], [], [], [], [], [], [], [], [], [], [], [], [], [], [], [], [], [], [], [], [], [], [], [], [], [], [], [], [], [], [], [], [], [], [], [], [], [], [], [(651, .aload_n 1, 0, 0), (652, .aload_n 0, 0, 0), (653, .iload_n 3, 0, 0), (654, .iconst 1, 1, 0), (655, .iadd, 0, 0)], [(656, .iaload, 0, 0), (657, .invokevirtual 69, 0, 800), (660, .aload_n 2, 0, 0), (661, .aload_n 0, 0, 0), (662, .iload_n 3, 0, 0), (663, .iconst 1, 1, 0), (664, .iadd, 0, 0), (665, .iaload, 0, 0), (666, .invokevirtual 72, 0, 1900), (669, .if_icmp .eq 689, 0, 1358)], [], [], [], [], [], [], [], [], [], [], [], [], [], [], [], [], [], [], [], [], [], [], [], [], [], [], [], [], [], [], [], [], [], [], [], [], [], [], [], [], [], [], [(1358, .iinc 3 6, 6, 0)], [(1361, .goto (-1343), 0, 18)]]
theorem qp_kc13_ok : qp_ok 14 code qp_kc13 := qp_ok_of (by decide +kernel)
set_option maxRecDepth 8000 in
theorem lw_c13 (C : lw_C p s m meth c G ad0 b L xs) (hL : L ≤ 3072) (hi : i + 6 ≤ L) (hR : zR I J) (ih : ∀ I J, zR I J → lw_V p l e s m below meth c G ad0 b (18, lw_L (qn i + 6), [], qp_mk I J)) : lw_V p l e s m below meth c G ad0 b (651, lw_L (qn i), [], qp_mk I J) := by
  have ok := qp_kc13_ok
  obtain ⟨v, I1, J1, I2, J2, e1, e2, hz⟩ := sim_back (xs (i + 1)) I J hR
  refine lw_run C ok 5 (x' := (656, lw_L (qn i), [.int (qn i + 1), .ref 2000, .ref 0], qp_mk I J)) (by with_unfolding_all rfl) trivial ?_
  refine lw_ld C ok rfl (lw_in (a := 1) hi hL (by omega)).1 ?_
  rw [show (qn i + 1).toNatClampNeg = i + 1 from (lw_in (a := 1) hi hL (by omega)).2]
  refine lw_cV C ok (d' := 100) (rest := []) (oj := 0) qp_f80 rfl rfl (gX_back l G (xs (i + 1)) I J e1 (by decide)) rfl rfl rfl rfl (by omega) ?_
  refine lw_run C ok 5 (x' := (665, lw_L (qn i), [.int (qn i + 1), .ref 2000, .ref 36, .int v], qp_mk I1 J1)) (by with_unfolding_all rfl) trivial ?_
  refine lw_ld C ok rfl (lw_in (a := 1) hi hL (by omega)).1 ?_
  rw [show (qn i + 1).toNatClampNeg = i + 1 from (lw_in (a := 1) hi hL (by omega)).2]
  refine lw_cV C ok (d' := 100) (rest := [.int v]) (oj := 10) qp_f190 rfl rfl (gM_back l G (xs (i + 1)) I1 J1 e2 (by decide)) rfl rfl rfl rfl (by omega) ?_
  refine lw_br C ok (f := v = v) (xt := (1358, lw_L (qn i), [], qp_mk I2 J2)) (xf := (672, lw_L (qn i), [], qp_mk I2 J2)) (by with_unfolding_all rfl) (fun _ => ?_) (fun h => absurd rfl h)
  refine lw_run C ok 2 (x' := (18, lw_L (qn i + 6), [], qp_mk I2 J2)) (by with_unfolding_all rfl) trivial ?_
  exact ih I2 J2 hz
end LC

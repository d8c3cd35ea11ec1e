/-! THE LAW'S LOOP AND ITS START -/
section LS
variable {p : Program} {l : Launch} {e : Env} {s : State} {m : MethodId} {below : List Frame} {meth : Method} {c : Code} {G : qp_G} {ad0 : Nat → Nat} {b L : Nat} {xs : Nat → Int32}
theorem lw_pc {pc pc' : Nat} (h : pc = pc') {Lo : List (Option Value)} {st : List Value} {M : qp_M} (k : lw_V p l e s m below meth c G ad0 b (pc', Lo, st, M)) : lw_V p l e s m below meth c G ad0 b (pc, Lo, st, M) := by
  subst h; exact k
theorem lw_which (C : lw_C p s m meth c G ad0 b L xs) (hL : L ≤ 3072) {I : Nat → Nat → Int32} {J : Nat → Nat → Int64} {i : Nat} (hi : i + 6 ≤ L) (hR : zR I J) (ih : ∀ I J, zR I J → lw_V p l e s m below meth c G ad0 b (18, lw_L (qn i + 6), [], qp_mk I J)) :
    ∀ k : Nat, k < 41 → ∀ x : Int32, x = qn k → lw_V p l e s m below meth c G ad0 b (qp_swt 1325 0 40 #[179, 212, 255, 288, 311, 374, 397, 430, 473, 496, 519, 552, 585, 618, 641, 664, 687, 710, 733, 756, 789, 822, 855, 878, 901, 954, 977, 1010, 1033, 1056, 1079, 1122, 1155, 1178, 1211, 1224, 1238, 1252, 1275, 1288, 1311] 33 x, lw_L (qn i), [], qp_mk I J) := by
  intro k hk x hx
  subst hx
  exact match k, hk with
    | 0, _ => lw_pc (by decide +kernel) (lw_c0 C hL hi hR ih)
    | 1, _ => lw_pc (by decide +kernel) (lw_c1 C hL hi hR ih)
    | 2, _ => lw_pc (by decide +kernel) (lw_c2 C hL hi hR ih)
    | 3, _ => lw_pc (by decide +kernel) (lw_c3 C hL hi hR ih)
    | 4, _ => lw_pc (by decide +kernel) (lw_c4 C hL hi hR ih)
    | 5, _ => lw_pc (by decide +kernel) (lw_c5 C hL hi hR ih)
    | 6, _ => lw_pc (by decide +kernel) (lw_c6 C hL hi hR ih)
    | 7, _ => lw_pc (by decide +kernel) (lw_c7 C hL hi hR ih)
    | 8, _ => lw_pc (by decide +kernel) (lw_c8 C hL hi hR ih)
    | 9, _ => lw_pc (by decide +kernel) (lw_c9 C hL hi hR ih)
    | 10, _ => lw_pc (by decide +kernel) (lw_c10 C hL hi hR ih)
    | 11, _ => lw_pc (by decide +kernel) (lw_c11 C hL hi hR ih)
    | 12, _ => lw_pc (by decide +kernel) (lw_c12 C hL hi hR ih)
    | 13, _ => lw_pc (by decide +kernel) (lw_c13 C hL hi hR ih)
    | 14, _ => lw_pc (by decide +kernel) (lw_c14 C hL hi hR ih)
    | 15, _ => lw_pc (by decide +kernel) (lw_c15 C hL hi hR ih)
    | 16, _ => lw_pc (by decide +kernel) (lw_c16 C hL hi hR ih)
    | 17, _ => lw_pc (by decide +kernel) (lw_c17 C hL hi hR ih)
    | 18, _ => lw_pc (by decide +kernel) (lw_c18 C hL hi hR ih)
    | 19, _ => lw_pc (by decide +kernel) (lw_c19 C hL hi hR ih)
    | 20, _ => lw_pc (by decide +kernel) (lw_c20 C hL hi hR ih)
    | 21, _ => lw_pc (by decide +kernel) (lw_c21 C hL hi hR ih)
    | 22, _ => lw_pc (by decide +kernel) (lw_c22 C hL hi hR ih)
    | 23, _ => lw_pc (by decide +kernel) (lw_c23 C hL hi hR ih)
    | 24, _ => lw_pc (by decide +kernel) (lw_c24 C hL hi hR ih)
    | 25, _ => lw_pc (by decide +kernel) (lw_c25 C hL hi hR ih)
    | 26, _ => lw_pc (by decide +kernel) (lw_c26 C hL hi hR ih)
    | 27, _ => lw_pc (by decide +kernel) (lw_c27 C hL hi hR ih)
    | 28, _ => lw_pc (by decide +kernel) (lw_c28 C hL hi hR ih)
    | 29, _ => lw_pc (by decide +kernel) (lw_c29 C hL hi hR ih)
    | 30, _ => lw_pc (by decide +kernel) (lw_c30 C hL hi hR ih)
    | 31, _ => lw_pc (by decide +kernel) (lw_c31 C hL hi hR ih)
    | 32, _ => lw_pc (by decide +kernel) (lw_c32 C hL hi hR ih)
    | 33, _ => lw_pc (by decide +kernel) (lw_c33 C hL hi hR ih)
    | 34, _ => lw_pc (by decide +kernel) (lw_c34 C hL hi hR ih)
    | 35, _ => lw_pc (by decide +kernel) (lw_c35 C hL hi hR ih)
    | 36, _ => lw_pc (by decide +kernel) (lw_c36 C hL hi hR ih)
    | 37, _ => lw_pc (by decide +kernel) (lw_c37 C hL hi hR ih)
    | 38, _ => lw_pc (by decide +kernel) (lw_c38 C hL hi hR ih)
    | 39, _ => lw_pc (by decide +kernel) (lw_c39 C hL hi hR ih)
    | 40, _ => lw_pc (by decide +kernel) (lw_c40 C hL hi hR ih)
    | _ + 41, h => absurd h (by omega)
def qp_kcL : List (List (Nat × Instr × Int32 × Nat)) := [[(0, .new 7, 0, 0), (3, .dup, 0, 0), (4, .invokespecial 9, 0, 2), (7, .astore_n 1, 0, 0), (8, .new 10, 0, 10), (11, .dup, 0, 0), (12, .invokespecial 12, 0, 1472), (15, .astore_n 2, 0, 0)], [(16, .iconst 0, 0, 0), (17, .istore_n 3, 0, 0), (18, .iload_n 3, 0, 0), (19, .aload_n 0, 0, 0), (20, .arraylength, 0, 0), (21, .bipush 6, 6, 0), (23, .isub, 0, 0), (24, .if_icmp .gt 1340, 0, 1364), (27, .aload_n 0, 0, 0), (28, .iload_n 3, 0, 0), (29, .iaload, 0, 0), (30, .bipush 63, 63, 0)], [(32, .iand, 0, 0), (33, .tableswitch 1325 0 40 #[179, 212, 255, 288, 311, 374, 397, 430, 473, 496, 519, 552, 585, 618, 641, 664, 687, 710, 733, 756, 789, 822, 855, 878, 901, 954, 977, 1010, 1033, 1056, 1079, 1122, 1155, 1178, 1211, 1224, 1238, 1252, 1275, 1288, 1311], 0, 179)], [], [], [], [], [], [], [], [], [], [], [], [], [], [], [], [], [], [], [], [], [], [], [], [], [], [], [], [], [], [], [], [], [], [], [], [], [], [], [], [], [], [], [], [], [], [], [], [], [], [], [], [], [], [], [], [], [], [], [], [], [], [], [], [], [], [], [], [], [], [], [], [], [], [], [], [], [], [], [], [], [], [(1358, .iinc 3 6, 6, 0)], [(1361, .goto (-1343), 0, 18), (1364, .iconst 1, 1, 0), (1365, .ireturn, 0, 0)]]
theorem qp_kcL_ok : qp_ok 14 code qp_kcL := qp_ok_of (by decide +kernel)
theorem q_subL {m n : Nat} (hm : m ≤ 10000) (hn : n ≤ 10000) : (qn m - qn n).toInt = (m : Int) - n := by
  rw [Int32.toInt_sub, qn_toInt (by omega), qn_toInt (by omega)]
  exact Int.bmod_eq_of_le (by omega) (by omega)
set_option maxRecDepth 8000 in
theorem lw_loop (C : lw_C p s m meth c G ad0 b L xs) (hL : L ≤ 3072) : ∀ (n i : Nat) (I : Nat → Nat → Int32) (J : Nat → Nat → Int64), L < i + 6 * n + 6 → i ≤ L + 6 → zR I J → lw_V p l e s m below meth c G ad0 b (18, lw_L (qn i), [], qp_mk I J) := by
  have ok := qp_kcL_ok
  intro n
  induction n with
  | zero =>
    intro i I J hn hi hR
    refine lw_run C ok 2 (x' := (20, lw_L (qn i), [.ref 2000, .int (qn i)], qp_mk I J)) (by with_unfolding_all rfl) trivial ?_
    refine lw_al C ok rfl ?_
    refine lw_run C ok 2 (x' := (24, lw_L (qn i), [.int (qn L - 6), .int (qn i)], qp_mk I J)) (by with_unfolding_all rfl) trivial ?_
    refine lw_br C ok (f := qn L - 6 < qn i) (xt := (1364, lw_L (qn i), [], qp_mk I J)) (xf := (27, lw_L (qn i), [], qp_mk I J)) (by with_unfolding_all rfl) (fun _ => ?_) (fun h => absurd ?_ h)
    · refine lw_run C ok 1 (x' := (1365, lw_L (qn i), [.int 1], qp_mk I J)) (by with_unfolding_all rfl) trivial ?_
      exact lw_end C ok rfl
    · show qn L - qn 6 < qn i
      rw [Int32.lt_iff_toInt_lt, q_subL (by omega) (by omega), qn_toInt (by omega)]
      omega
  | succ n ihn =>
    intro i I J hn hi hR
    refine lw_run C ok 2 (x' := (20, lw_L (qn i), [.ref 2000, .int (qn i)], qp_mk I J)) (by with_unfolding_all rfl) trivial ?_
    refine lw_al C ok rfl ?_
    refine lw_run C ok 2 (x' := (24, lw_L (qn i), [.int (qn L - 6), .int (qn i)], qp_mk I J)) (by with_unfolding_all rfl) trivial ?_
    refine lw_br C ok (f := qn L - 6 < qn i) (xt := (1364, lw_L (qn i), [], qp_mk I J)) (xf := (27, lw_L (qn i), [], qp_mk I J)) (by with_unfolding_all rfl) (fun _ => ?_) (fun h => ?_)
    · refine lw_run C ok 1 (x' := (1365, lw_L (qn i), [.int 1], qp_mk I J)) (by with_unfolding_all rfl) trivial ?_
      exact lw_end C ok rfl
    · have hiL : i + 6 ≤ L := by
        have h' : ¬ qn L - qn 6 < qn i := h
        rw [Int32.lt_iff_toInt_lt, q_subL (by omega) (by omega), qn_toInt (by omega)] at h'
        omega
      have ih : ∀ I J, zR I J → lw_V p l e s m below meth c G ad0 b (18, lw_L (qn i + 6), [], qp_mk I J) := by
        intro I J hz
        rw [show qn i + 6 = qn (i + 6) from qn_add i 6]
        exact ihn (i + 6) I J (by omega) (by omega) hz
      refine lw_run C ok 2 (x' := (29, lw_L (qn i), [.int (qn i), .ref 2000], qp_mk I J)) (by with_unfolding_all rfl) trivial ?_
      refine lw_ld C ok rfl (vp_in_iff.mpr (by rw [qn_toInt (by omega)]; omega)) ?_
      rw [qn_nat (by omega)]
      refine lw_run C ok 3 (x' := (qp_swt 1325 0 40 #[179, 212, 255, 288, 311, 374, 397, 430, 473, 496, 519, 552, 585, 618, 641, 664, 687, 710, 733, 756, 789, 822, 855, 878, 901, 954, 977, 1010, 1033, 1056, 1079, 1122, 1155, 1178, 1211, 1224, 1238, 1252, 1275, 1288, 1311] 33 (xs i &&& 63), lw_L (qn i), [], qp_mk I J)) (by with_unfolding_all rfl) trivial ?_
      rcases qn_cs 41 (by omega) (xs i &&& 63) with ⟨k, hk, ek⟩ | ⟨-, hx⟩
      · exact lw_which C hL hiL hR ih k hk _ ek
      · have h40 : xs i &&& 63 < 0 ∨ (40 : Int32) < xs i &&& 63 := by
          rcases hx with hx | hx
          · exact Or.inl hx
          · refine Or.inr ?_
            rw [Int32.le_iff_toInt_le, qn_toInt (by omega)] at hx
            rw [Int32.lt_iff_toInt_lt]
            have : (40 : Int32).toInt = 40 := rfl
            omega
        refine lw_pc (qp_swt_df (lo' := 0) (hi' := 40) (pc' := 1358) ⟨rfl, rfl⟩ (by decide +kernel) h40) ?_
        refine lw_run C ok 2 (x' := (18, lw_L (qn i + 6), [], qp_mk I J)) (by with_unfolding_all rfl) trivial ?_
        exact ih I J hR
set_option maxRecDepth 8000 in
theorem lw_body (C : lw_C p s m meth c G ad0 b L xs) (hL : L ≤ 3072) : lw_V p l e s m below meth c G ad0 b (0, [some (.ref 2000), none, none, none], [], (cI0, cJ0, cP0, qp_S0, 0, 0)) := by
  have ok := qp_kcL_ok
  refine lw_new C ok (t := 0) (n := 0) (q := 0) rfl (fun _ => rfl) (fun _ => rfl) (fun _ => rfl) rfl (by decide +kernel) ?_
  show lw_V p l e s m below meth c G ad0 b (3, [some (.ref 2000), none, none, none], [.ref 0], (cI0, cJ0, cP0, qp_S0, 1, 14))
  refine lw_run C ok 1 (x' := (4, [some (.ref 2000), none, none, none], [.ref 0, .ref 0], (cI0, cJ0, cP0, qp_S0, 1, 14))) (by with_unfolding_all rfl) trivial ?_
  refine lw_cI C ok (d' := 100) (rest := [.ref 0]) (n := 1) (q := 14) qp_f0 rfl rfl qp_r0.1 (cG1 l G (by decide)) rfl rfl rfl (by omega) (by decide +kernel) (by decide +kernel) ?_
  show lw_V p l e s m below meth c G ad0 b (7, [some (.ref 2000), none, none, none], [.ref 0], (cI16, cJ1, cP41, qp_S0, 36, 2984))
  refine lw_run C ok 1 (x' := (8, [some (.ref 2000), some (.ref 0), none, none], [], (cI16, cJ1, cP41, qp_S0, 36, 2984))) (by with_unfolding_all rfl) trivial ?_
  refine lw_new C ok (t := 10) (n := 36) (q := 2984) rfl (fun _ => rfl) (fun _ => rfl) (fun _ => rfl) rfl (by decide +kernel) ?_
  show lw_V p l e s m below meth c G ad0 b (11, [some (.ref 2000), some (.ref 0), none, none], [.ref 36], (cI16, cJ1, cP41, qp_S0, 37, 3011))
  refine lw_run C ok 1 (x' := (12, [some (.ref 2000), some (.ref 0), none, none], [.ref 36, .ref 36], (cI16, cJ1, cP41, qp_S0, 37, 3011))) (by with_unfolding_all rfl) trivial ?_
  refine lw_cI C ok (d' := 100) (rest := [.ref 36]) (n := 37) (q := 3011) qp_f147 rfl rfl qp_r147.1 (cG20 l G (by decide)) rfl rfl rfl (by omega) (by decide +kernel) (by decide +kernel) ?_
  refine lw_mk cP_P0 ?_
  refine lw_run C ok 3 (x' := (18, lw_L (qn 0), [], qp_mk cI26 cJ2)) (by with_unfolding_all rfl) trivial ?_
  exact lw_loop C hL 600 0 cI26 cJ2 (by omega) (by omega) c_zR
end LS
theorem lw_kn {s : State} {args : Array Value} (hts : ∀ w ∈ qp_tb, w.before args s = true) : ∃ G : qp_G, va_K G.1 qp_cl (qp_tys G) s := by
  have hk : ∀ t, ∃ (cC : ClassId) (iS : Nat → Nat), t < 11 → u_Kn s (qp_R t) (qp_T t) (qp_N t) cC iS := by
    intro t
    by_cases h : t < 11
    · obtain ⟨cC, iS, hu⟩ := u_known hts (qp_mU h) (hts _ (qp_mI h))
      exact ⟨cC, iS, fun _ => hu⟩
    · exact ⟨0, fun _ => 0, fun q => absurd q h⟩
  obtain ⟨cA, kA, compA, a1, a2, a3⟩ := Cond.arrayClass_spec (hts _ qp_mA1)
  obtain ⟨cB, kB, compB, b1, b2, b3⟩ := Cond.arrayClass_spec (hts _ qp_mA2)
  refine ⟨((fun t => Classical.choose (hk t), fun t => Classical.choose (Classical.choose_spec (hk t))), cA, cB), fun t q hq => ?_, fun k q hq => ?_⟩
  · by_cases h : t < 11
    · rw [qp_cl_at h] at hq
      cases hq
      exact Classical.choose_spec (Classical.choose_spec (hk t)) h
    · rw [List.getElem?_eq_none (by simp [qp_cl]; omega)] at hq
      cases hq
  · match k, hq with
    | 0, hq =>
      cases hq
      exact ⟨fun n z => ⟨fun k h => (by cases h), kA, a2, compA, a3⟩, a1⟩
    | 1, hq =>
      cases hq
      exact ⟨fun n z => ⟨fun k h => (by cases h), kB, b2, compB, b3⟩, b1⟩
    | k + 2, hq => cases hq
theorem lw_let {s : State} {args : Array Value} (hts : ∀ w ∈ lw_tbl, w.before args s = true) (hg : (Jvm.Cond.and given_1 narrow_1).before args s = true) :
    ∃ t : Nat, va_Z "QueuePlaces" "LETTERS" "[I" (.ref t) (fun q => s.heap.size ≤ q) s s.heap ∧ va_T .int t 6 (fun j => .int (qp_let j)) (fun q => s.heap.size ≤ q) s s.heap := by
  have hs := flat_of_before _ hg
  have hA : ∀ a : Nat, a < s.heap.size → ¬ s.heap.size ≤ a := fun a h => by omega
  obtain ⟨t, h1, h2⟩ := va_Tof (tm := .static "QueuePlaces" "LETTERS" "[I") (ty := .int) (N := 6) (f := fun j => .int (qp_let j)) (A := fun q => s.heap.size ≤ q) (by omega) (hs _ (by decide +kernel)) (va_eqt (z := 6) (hs _ (by decide +kernel))) (fun j hj => by
    rcases (show j = 0 ∨ j = 1 ∨ j = 2 ∨ j = 3 ∨ j = 4 ∨ j = 5 by omega) with rfl | rfl | rfl | rfl | rfl | rfl
    · exact va_eqt (z := 112) (hs _ (by decide +kernel))
    · exact va_eqt (z := 115) (hs _ (by decide +kernel))
    · exact va_eqt (z := 99) (hs _ (by decide +kernel))
    · exact va_eqt (z := 117) (hs _ (by decide +kernel))
    · exact va_eqt (z := 103) (hs _ (by decide +kernel))
    · exact va_eqt (z := 111) (hs _ (by decide +kernel))) hA
  exact ⟨t, va_Zof (hts _ (by decide +kernel)) (hts _ (by decide +kernel)) h1 hA, h2⟩
theorem lw_nest {s : State} {args : Array Value} (hts : ∀ w ∈ lw_tbl, w.before args s = true) : ∀ w ∈ qp_nest, va_Nw w s := by
  have ht : ∀ w ∈ qp_nest, w.onTables = true := by decide +kernel
  intro w hw
  have h1 := hw
  rw [qp_wn] at h1
  obtain ⟨i, -, h2⟩ := List.mem_filterMap.mp h1
  exact va_Nw.of (ht w hw) (hts w (List.mem_of_getElem? h2))
/-- from the entry, for every script of at most 3072 ints, the law comes to its end with true -/
theorem whole_start {p : Program} {e : Env} {s : State} {m : MethodId} {below : List Frame} {meth : Method} {c : Code} (l : Launch) (hflags : l.flags = flags0) {b L : Nat} {xs : Nat → Int32} (hL : L ≤ 3072) (C0 : lw_At p s m meth c b L xs) : W p l e room_1 s m #[Value.ref b] below meth c s.heap [] 0 0 (lw_Z below #[Value.ref b] s) (entryFrame m ([Value.ref b] : List Value).toArray 4) := by
  obtain ⟨hx, hb, hret, hml, hown, hts, hX, hbl, hlk, hgv⟩ := C0
  have htb : ∀ w ∈ qp_tb, w.before #[Value.ref b] s = true := fun w hw => hts w (qp_tb_good hw).1
  obtain ⟨G, hK⟩ := lw_kn htb
  obtain ⟨t, hZ, hT⟩ := lw_let hts hgv
  obtain ⟨ad0, e1, e2⟩ : ∃ ad0 : Nat → Nat, ad0 1000 = t ∧ ad0 2000 = b := ⟨fun k => if k = 1000 then t else b, if_pos rfl, if_neg (by decide)⟩
  have C : lw_C p s m meth c G ad0 b L xs := ⟨⟨hx, hb, hml, hown, htb, fun h => (by cases h), hK, fun q hq => hq, by rw [e1]; exact ⟨hZ, hT⟩, lw_nest hts⟩, e2, hX, hbl, hret, hlk⟩
  have k := lw_body (l := l) (e := e) (below := below) C hL
  rw [lg_entry_eq]
  have hl := lv_entry ([Value.ref b] : List Value) (n := 4) (Nat.le_of_ble_eq_true (by with_unfolding_all rfl))
  have hLs : qp_Ls ((lg_sl ([Value.ref b] : List Value) ++ List.replicate (4 - (lg_sl ([Value.ref b] : List Value)).length) Slot.unset).toArray) 4 ad0 [some (.ref 2000), none, none, none] := by
    refine ⟨hl.1, hl.2.1, rfl, fun i v hi => ?_⟩
    match i, hi with
    | 0, hi =>
      cases hi
      show _ = some (Slot.val (.ref (ad0 2000)))
      rw [e2]
      exact hl.2.2 (0, .ref b) (by simp [lv_args])
    | 1, hi => cases hi
    | 2, hi => cases hi
    | 3, hi => cases hi
    | i + 4, hi => cases hi
  exact k ad0 s.heap [] _ (fun _ _ => rfl) ⟨Nat.le_refl _, Nat.le_refl _, Nat.zero_le _⟩ (fun k q hq => by have h : ([] : va_W)[k]? = some q := hq; simp at h) ⟨fun i j p q hi => (by have h : ([] : va_W)[i]? = some p := hi; simp at h), fun k q hq => (by have h : ([] : va_W)[k]? = some q := hq; simp at h)⟩ va_S.rf hLs

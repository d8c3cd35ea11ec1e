/-! THE LAW FROM ITS ENTRY -/
section LZ
variable {l : Launch} {G : qp_G}
theorem lw_newO_E {pc ix t n q : Nat} {v : Int32} {Lo : List (Option Value)} {st : List Value} {I : Nat → Nat → Int32} {J : Nat → Nat → Int64} {P : Nat → Nat → Option Nat} (hf : qp_ft8 qp_kL pc = some (.new ix, v, t)) (hI : ∀ j, I n j = 0) (hJ : ∀ j, J n j = 0) (hP : ∀ j, P n j = none) (hS : qp_S0 n = (t, qp_N t))
    (hc : (qp_fit (600000, 7302250) (I, J, P, qp_S0, n + 1, q + qp_N t) && qp_knw (pc, Lo, st, (I, J, P, qp_S0, n, q))) = true)
    (k : lw_E l G (pc + 3, Lo, .ref n :: st, (I, J, P, qp_S0, n + 1, q + qp_N t))) : lw_E l G (pc, Lo, st, (I, J, P, qp_S0, n, q)) := by
  have e := qc_mk1 (q := q) hI hJ hP hS
  rw [← e] at k hc
  exact lw_run_E qp_okL 1 (f := ((qp_fit (600000, 7302250) (qp_mk1 (I, J, P, qp_S0, n, q) t (qp_N t)) && qp_knw (pc, Lo, st, (I, J, P, qp_S0, n, q))) = true) ∧ True) (c' := (pc + 3, Lo, .ref n :: st, qp_mk1 (I, J, P, qp_S0, n, q) t (qp_N t))) (by unfold qp_run; rw [show qp_ft8 qp_kL (pc, Lo, st, (I, J, P, qp_S0, n, q)).1 = _ from hf]; rfl) trivial ⟨hc, trivial⟩ k
theorem lw_cI_E {pc d' mj ix t r na oj n q n1 q1 mc' ms' : Nat} {v : Int32} {Lo : List (Option Value)} {st rest av : List Value} {I I1 : Nat → Nat → Int32} {J J1 : Nat → Nat → Int64} {P P1 : Nat → Nat → Option Nat}
    (hj : qp_fv mj na oj 2) (hf : qp_ft8 qp_kL pc = some (.invokespecial ix, v, t)) (hmi : (Nat.beq t (10 * mj + 2) || Nat.beq t (10 * mj + 4)) = true) (hr : qp_rt mj = none) (hM : qp_Met l G d' mj (.ref r :: av) (I, J, P, qp_S0, n, q) mc' ms' (qc_R none (I1, J1, P1, qp_S0, n1, q1))) (hal : qp_len av = na) (hst : st = av.reverse ++ .ref r :: rest) (hcat : Nat.ble (qp_cat rest) 8 = true) (hd : d' ≤ 1000)
    (hn : (Nat.ble (n - 0 + mc') 600000 && Nat.ble (q - 0 + ms') 7302250) = true) (hkl : qp_kl n Lo rest = true)
    (k : lw_E l G (pc + 3, Lo, rest, (I1, J1, P1, qp_S0, n1, q1))) : lw_E l G (pc, Lo, st, (I, J, P, qp_S0, n, q)) := by
  obtain ⟨j1, j2, j3, j4⟩ := hj
  obtain ⟨n1', n2'⟩ := qp_and hn
  intro p e s m below meth cd ad0 b' X hr' hl'
  refine qp_callI_W X qp_okL hf ?_ j1 ⟨by unfold qp_sta; rw [j4]; rfl, by unfold qp_ini; rw [j4]; rfl⟩ hr hM (by rw [j2, ← hal, qp_len_eq]) hst hcat ⟨by show d' + 1 ≤ 2048; omega, by show 64 * (d' + 1) ≤ 84000; omega, Nat.le_of_ble_eq_true n1', Nat.le_of_ble_eq_true n2'⟩ (Or.inr hkl) (fun r' M' h1 _ _ => ?_)
  · rcases (Bool.or_eq_true _ _).mp hmi with q | q
    · exact Or.inl (Nat.eq_of_beq_eq_true q)
    · exact Or.inr (Nat.eq_of_beq_eq_true q)
  · obtain ⟨rfl, rfl⟩ := h1
    exact k p e s m below meth cd ad0 b' X hr' hl'
theorem qp_S0_lt : ∀ r, (qp_S0 r).1 < 50 ∨ (qp_S0 r).1 = 50 ∨ (qp_S0 r).1 = 51 := by
  have h : ∀ r, r < 41 → (qp_S0 r).1 < 50 ∨ (qp_S0 r).1 = 50 ∨ (qp_S0 r).1 = 51 := by decide +kernel
  have hl : qp_S0L.length = 41 := by decide +kernel
  intro r
  by_cases hr : r < 41
  · exact h r hr
  · refine Or.inl ?_
    unfold qp_S0
    rw [qp_nth_eq, List.getElem?_eq_none (by omega)]
    exact (by decide : (0 : Nat) < 50)
theorem qp_w_P {G : qp_G} {I : Nat → Nat → Int32} {J : Nat → Nat → Int64} {P P' : Nat → Nat → Option Nat} {n q : Nat} {ad : Nat → Nat} (h : ∀ r, r < n → (qp_S0 r).1 < 50 → ∀ k, k < (qp_S0 r).2 → P r k = P' r k) : qp_w G (I, J, P, qp_S0, n, q) ad = qp_w G (I, J, P', qp_S0, n, q) ad := by
  unfold qp_w
  refine List.map_congr_left (fun r hr => ?_)
  have hr' := List.mem_range.mp hr
  congr 1
  by_cases c1 : (qp_S0 r).1 = 50
  · rw [qp_e_int c1, qp_e_int c1]
  · by_cases c2 : (qp_S0 r).1 = 51
    · rw [qp_e_boo c2, qp_e_boo c2]
    · have d1 : Nat.beq (qp_S0 r).1 50 = false := Bool.eq_false_iff.mpr (fun q => c1 (Nat.eq_of_beq_eq_true q))
      have d2 : Nat.beq (qp_S0 r).1 51 = false := Bool.eq_false_iff.mpr (fun q => c2 (Nat.eq_of_beq_eq_true q))
      have key : ∀ k, k < (qp_S0 r).2 → qp_get (I, J, P, qp_S0, n, q) (qp_S0 r).1 r k = qp_get (I, J, P', qp_S0, n, q) (qp_S0 r).1 r k := by
        intro k hk
        by_cases c3 : (qp_S0 r).1 < 50
        · exact qp_get_ne rfl rfl (h r hr' c3 k hk)
        · have hS := qp_S0_lt r
          omega
      unfold qp_e
      dsimp only
      rw [d1, d2]
      show Sum.inr (_, qp_fs _ ad r) = Sum.inr (_, qp_fs _ ad r)
      congr 2
      unfold qp_fs
      refine List.map_congr_left (fun k hk => ?_)
      exact congrArg (qp_tr ad) (key k (List.mem_range.mp hk))
theorem cP_P0 : ∀ r, r < 36 → (qp_S0 r).1 < 50 → ∀ k, k < (qp_S0 r).2 → cP41 r k = qp_P0 r k := by decide +kernel
theorem lw_mk_E {pc : Nat} {Lo : List (Option Value)} {st : List Value} {I : Nat → Nat → Int32} {J : Nat → Nat → Int64} {P : Nat → Nat → Option Nat} (h : ∀ r, r < 36 → (qp_S0 r).1 < 50 → ∀ k, k < (qp_S0 r).2 → P r k = qp_P0 r k) (k : lw_E l G (pc, Lo, st, qp_mk I J)) : lw_E l G (pc, Lo, st, (I, J, P, qp_S0, 36, 2984)) := by
  intro p e s m below meth cd ad0 b X hr hlk ad H locs ls g1 g3 hP hD hS hl
  have ew := qp_w_P (G := G) (I := I) (J := J) (q := 2984) (ad := ad) h
  exact k p e s m below meth cd ad0 b X hr hlk ad H locs ls g1 g3 (by show va_P G.1 qp_cl (qp_w G (I, J, qp_P0, qp_S0, 36, 2984) ad) H; rw [← ew]; exact hP) (by show va_D _ (qp_w G (I, J, qp_P0, qp_S0, 36, 2984) ad); rw [← ew]; exact hD) hS hl
theorem c_xSz : xSz (qp_zI cI16 36) := by
  have h2 : ∀ r, r < 6 → cI16 2 r = -qn 1 := by decide +kernel
  have h5 : ∀ r, r < 4 → cI16 5 r = -qn 1 := by decide +kernel
  have h : xSz cI16 := ⟨⟨rfl, rfl, rfl⟩, fun r hr => Or.inl (h2 r hr), fun t ht => Or.inl (h5 t ht)⟩
  exact xSz_eq h (fun c hc => qp_zI_ne (by omega))
set_option maxRecDepth 8000 in
theorem lw_body (hG : G.2.2.2.2.1 ≤ 260) : lw_E l G (0, [some (.ref 2000), none, none, none, none, none, none, none, none, none, none, none, none, none, none, none, none, none, none, none, none, none, none, none, none, none, none, none, none, none, none, none], [], (cI0, cJ0, cP0, qp_S0, 0, 0)) := by
  refine lw_newO_E (t := 0) (n := 0) (q := 0) rfl (fun _ => rfl) (fun _ => rfl) (fun _ => rfl) rfl (by decide +kernel) ?_
  show lw_E l G (3, [some (.ref 2000), none, none, none, none, none, none, none, none, none, none, none, none, none, none, none, none, none, none, none, none, none, none, none, none, none, none, none, none, none, none, none], [.ref 0], (cI0, cJ0, cP0, qp_S0, 1, 14))
  refine lw_run_E qp_okL 1 (c' := (4, [some (.ref 2000), none, none, none, none, none, none, none, none, none, none, none, none, none, none, none, none, none, none, none, none, none, none, none, none, none, none, none, none, none, none, none], [.ref 0, .ref 0], (cI0, cJ0, cP0, qp_S0, 1, 14))) (by with_unfolding_all rfl) trivial trivial ?_
  refine lw_cI_E (d' := 100) (rest := [.ref 0]) (n := 1) (q := 14) qp_f0 rfl rfl qp_r0.1 (cG1 l G (by decide)) rfl rfl rfl (by omega) (by decide +kernel) (by decide +kernel) ?_
  refine lw_mk_E cP_P0 ?_
  refine lw_run_E qp_okL 2 (c' := (10, [some (.ref 2000), some (.ref 0), none, none, none, none, none, none, none, none, none, none, none, none, none, none, none, none, none, none, none, none, none, none, none, none, none, none, none, none, none, none], [.int 34], qp_mk cI16 cJ1)) (by with_unfolding_all rfl) trivial trivial ?_
  refine lw_new_E (n := 34) (st := []) rfl rfl (by decide) (by with_unfolding_all rfl) ?_
  refine lw_run_E qp_okL 1 (c' := (13, [some (.ref 2000), some (.ref 0), some (.ref 36), none, none, none, none, none, none, none, none, none, none, none, none, none, none, none, none, none, none, none, none, none, none, none, none, none, none, none, none, none], [], qp_mkE 37 3018 (qp_zI cI16 36) (qp_zJ cJ1 36))) (by with_unfolding_all rfl) trivial trivial ?_
  exact gW_law_b13 (qp_zI cI16 36) (qp_zJ cJ1 36) (wb13 hG c_xSz)
end LZ
theorem lw_kn {s : State} {args : Array Value} (hts : ∀ w ∈ qp_tb, w.before args s = true) (sc : Nat × Nat × (Nat → Int32)) : ∃ G : qp_G, va_K G.1 qp_cl (qp_tys G) s ∧ G.2.2.2 = sc := by
  have hk : ∀ t, ∃ (cC : ClassId) (iS : Nat → Nat), t < 10 → u_Kn s (qp_R t) (qp_T t) (qp_N t) cC iS := by
    intro t
    by_cases h : t < 10
    · obtain ⟨cC, iS, hu⟩ := u_known hts (qp_mU h) (hts _ (qp_mI h))
      exact ⟨cC, iS, fun _ => hu⟩
    · exact ⟨0, fun _ => 0, fun q => absurd q h⟩
  obtain ⟨cA, kA, compA, a1, a2, a3⟩ := Cond.arrayClass_spec (hts _ qp_mA1)
  obtain ⟨cB, kB, compB, b1, b2, b3⟩ := Cond.arrayClass_spec (hts _ qp_mA2)
  refine ⟨((fun t => Classical.choose (hk t), fun t => Classical.choose (Classical.choose_spec (hk t))), cA, cB, sc), ⟨fun t q hq => ?_, fun k q hq => ?_⟩, rfl⟩
  · by_cases h : t < 10
    · rw [qp_cl_at h] at hq
      cases hq
      exact Classical.choose_spec (Classical.choose_spec (hk t)) h
    · rw [List.getElem?_eq_none (by simp [qp_cl]; omega)] at hq
      cases hq
  · match k, hq with
    | 0, hq =>
      cases hq
      exact ⟨fun n z => ⟨fun k h => (by cases h), kA, a2, compA, a3⟩, a1⟩
    | 1, hq =>
      cases hq
      exact ⟨fun n z => ⟨fun k h => (by cases h), kB, b2, compB, b3⟩, b1⟩
    | k + 2, hq => cases hq
theorem lw_let {s : State} {args : Array Value} (hts : ∀ w ∈ lw_tbl, w.before args s = true) (hg : (Jvm.Cond.and given_1 narrow_1).before args s = true) :
    ∃ t : Nat, va_Z "QueuePlaces" "LETTERS" "[I" (.ref t) (fun q => s.heap.size ≤ q) s s.heap ∧ va_T .int t 6 (fun j => .int (qp_let j)) (fun q => s.heap.size ≤ q) s s.heap := by
  have hs := flat_of_before _ hg
  have hA : ∀ a : Nat, a < s.heap.size → ¬ s.heap.size ≤ a := fun a h => by omega
  obtain ⟨t, h1, h2⟩ := va_Tof (tm := .static "QueuePlaces" "LETTERS" "[I") (ty := .int) (N := 6) (f := fun j => .int (qp_let j)) (A := fun q => s.heap.size ≤ q) (by omega) (hs _ (by decide +kernel)) (va_eqt (z := 6) (hs _ (by decide +kernel))) (fun j hj => by
    rcases (show j = 0 ∨ j = 1 ∨ j = 2 ∨ j = 3 ∨ j = 4 ∨ j = 5 by omega) with rfl | rfl | rfl | rfl | rfl | rfl
    · exact va_eqt (z := 112) (hs _ (by decide +kernel))
    · exact va_eqt (z := 115) (hs _ (by decide +kernel))
    · exact va_eqt (z := 99) (hs _ (by decide +kernel))
    · exact va_eqt (z := 117) (hs _ (by decide +kernel))
    · exact va_eqt (z := 103) (hs _ (by decide +kernel))
    · exact va_eqt (z := 111) (hs _ (by decide +kernel))) hA
  exact ⟨t, va_Zof (hts _ (by decide +kernel)) (hts _ (by decide +kernel)) h1 hA, h2⟩
theorem lw_nest {s : State} {args : Array Value} (hts : ∀ w ∈ lw_tbl, w.before args s = true) : ∀ w ∈ qp_nest, va_Nw w s := by
  have ht : ∀ w ∈ qp_nest, w.onTables = true := by decide +kernel
  intro w hw
  have h1 := hw
  rw [qp_wn] at h1
  obtain ⟨i, -, h2⟩ := List.mem_filterMap.mp h1
  exact va_Nw.of (ht w hw) (hts w (List.mem_of_getElem? h2))
/-- from the entry, for every script of at most 260 ints, the law comes to its end with true -/
theorem whole_start {p : Program} {e : Env} {s : State} {m : MethodId} {below : List Frame} {meth : Method} {c : Code} (l : Launch) (hflags : l.flags = flags0) {b L : Nat} {xs : Nat → Int32} (hL : L ≤ 260) (C0 : lw_At p s m meth c b L xs) : W p l e room_1 s m #[Value.ref b] below meth c s.heap [] 0 0 (lw_Z below #[Value.ref b] s) (entryFrame m ([Value.ref b] : List Value).toArray 32) := by
  obtain ⟨hx, hb, hret, hml, hown, hts, hX, hbl, hlk, hgv⟩ := C0
  have htb : ∀ w ∈ qp_tb, w.before #[Value.ref b] s = true := fun w hw => hts w (qp_tb_good hw).1
  obtain ⟨G, hK, hGs⟩ := lw_kn htb (b, L, xs)
  obtain ⟨t, hZ, hT⟩ := lw_let hts hgv
  obtain ⟨ad0, e1, e2⟩ : ∃ ad0 : Nat → Nat, ad0 1000 = t ∧ ad0 2000 = b := ⟨fun k => if k = 1000 then t else b, if_pos rfl, if_neg (by decide)⟩
  have hSc : va_T .int (ad0 2000) G.2.2.2.2.1 (fun j => .int (G.2.2.2.2.2 j)) (fun q => s.heap.size ≤ q) s s.heap := by
    rw [e2, hGs]
    obtain ⟨scr, x1, x2, x3, x4, x5⟩ := hX
    exact ⟨scr, x1, x2, x3, Nat.le_of_eq x4.symm, by rw [x4], x5, by show ¬ s.heap.size ≤ b; omega⟩
  have X : qp_X p s m #[Value.ref b] meth c G 13 code 32 false (fun q => s.heap.size ≤ q) ad0 := ⟨hx, hb, hml, hown, htb, fun h => (by cases h), hK, fun q hq => hq, by rw [e1]; exact ⟨hZ, hT, hSc⟩, lw_nest hts⟩
  have k := lw_body (l := l) (G := G) (by rw [hGs]; exact hL) p e s m below meth c ad0 b X hret hlk
  rw [lg_entry_eq]
  have hl := lv_entry ([Value.ref b] : List Value) (n := 32) (Nat.le_of_ble_eq_true (by with_unfolding_all rfl))
  have hLs : qp_Ls ((lg_sl ([Value.ref b] : List Value) ++ List.replicate (32 - (lg_sl ([Value.ref b] : List Value)).length) Slot.unset).toArray) 32 ad0 [some (.ref 2000), none, none, none, none, none, none, none, none, none, none, none, none, none, none, none, none, none, none, none, none, none, none, none, none, none, none, none, none, none, none, none] := by
    refine ⟨hl.1, hl.2.1, rfl, fun i v hi => ?_⟩
    match i, hi with
    | 0, hi =>
      cases hi
      show _ = some (Slot.val (.ref (ad0 2000)))
      rw [e2]
      exact hl.2.2 (0, .ref b) (by simp [lv_args])
    | i + 1, hi =>
      have h2 : (List.replicate 31 (none : Option Value))[i]? = some (some v) := hi
      have := List.eq_of_mem_replicate (List.mem_of_getElem? h2)
      cases this
  exact k ad0 s.heap [] _ (fun _ _ => rfl) ⟨Nat.le_refl _, Nat.le_refl _, Nat.zero_le _⟩ (fun k q hq => by have h : ([] : va_W)[k]? = some q := hq; simp at h) ⟨fun i j p q hi => (by have h : ([] : va_W)[i]? = some p := hi; simp at h), fun k q hq => (by have h : ([] : va_W)[k]? = some q := hq; simp at h)⟩ va_S.rf hLs

/-! THE FIRST MEMORY; THE LAW'S RULES -/
theorem qp_S0_lt : ∀ r, (qp_S0 r).1 < 50 ∨ (qp_S0 r).1 = 50 ∨ (qp_S0 r).1 = 51 := by
  have h : ∀ r, r < 58 → (qp_S0 r).1 < 50 ∨ (qp_S0 r).1 = 50 ∨ (qp_S0 r).1 = 51 := by decide +kernel
  have hl : qp_S0L.length = 58 := by decide +kernel
  intro r
  by_cases hr : r < 58
  · exact h r hr
  · refine Or.inl ?_
    unfold qp_S0
    rw [qp_nth_eq, List.getElem?_eq_none (by omega)]
    exact (by decide : (0 : Nat) < 50)
theorem qp_w_P {G : qp_G} {I : Nat → Nat → Int32} {J : Nat → Nat → Int64} {P P' : Nat → Nat → Option Nat} {n q : Nat} {ad : Nat → Nat} (h : ∀ r, r < n → (qp_S0 r).1 < 50 → ∀ k, k < (qp_S0 r).2 → P r k = P' r k) : qp_w G (I, J, P, qp_S0, n, q) ad = qp_w G (I, J, P', qp_S0, n, q) ad := by
  unfold qp_w
  refine List.map_congr_left (fun r hr => ?_)
  have hr' := List.mem_range.mp hr
  congr 1
  by_cases c1 : (qp_S0 r).1 = 50
  · rw [qp_e_int c1, qp_e_int c1]
  · by_cases c2 : (qp_S0 r).1 = 51
    · rw [qp_e_boo c2, qp_e_boo c2]
    · have d1 : Nat.beq (qp_S0 r).1 50 = false := Bool.eq_false_iff.mpr (fun q => c1 (Nat.eq_of_beq_eq_true q))
      have d2 : Nat.beq (qp_S0 r).1 51 = false := Bool.eq_false_iff.mpr (fun q => c2 (Nat.eq_of_beq_eq_true q))
      have key : ∀ k, k < (qp_S0 r).2 → qp_get (I, J, P, qp_S0, n, q) (qp_S0 r).1 r k = qp_get (I, J, P', qp_S0, n, q) (qp_S0 r).1 r k := by
        intro k hk
        by_cases c3 : (qp_S0 r).1 < 50
        · exact qp_get_ne rfl rfl (h r hr' c3 k hk)
        · unfold qp_get
          have : qp_ft (qp_S0 r).1 k = qp_ft (qp_S0 r).1 k := rfl
          have hS := qp_S0_lt r
          omega
      unfold qp_e
      dsimp only
      rw [d1, d2]
      show Sum.inr (_, qp_fs _ ad r) = Sum.inr (_, qp_fs _ ad r)
      congr 2
      unfold qp_fs
      refine List.map_congr_left (fun k hk => ?_)
      exact congrArg (qp_tr ad) (key k (List.mem_range.mp hk))
theorem cP_P0 : ∀ r, r < 58 → (qp_S0 r).1 < 50 → ∀ k, k < (qp_S0 r).2 → cP62 r k = qp_P0 r k := by decide +kernel
theorem c_rows : cI26 41 = cI26 2 ∧ cI26 40 = cI26 3 ∧ cI26 43 = cI26 5 ∧ cI26 42 = cI26 6 ∧ cI26 44 = cI26 35 := ⟨funext fun j => by with_unfolding_all rfl, rfl, funext fun j => by with_unfolding_all rfl, rfl, rfl⟩
theorem c_zR : zR cI26 cJ2 := by
  refine ⟨0, 0, fun _ => 0, fun _ => 0, [], fun _ => none, ⟨by omega, by omega, fun i hi => absurd hi (Nat.not_lt_zero i), ⟨Nat.zero_le _, trivial⟩, fun k _ d hd => by cases hd⟩, ⟨⟨rfl, rfl, rfl⟩, c_rows, ⟨rfl, rfl, rfl, rfl⟩, ?_, ?_⟩, ⟨rfl, fun i hi => absurd hi (Nat.not_lt_zero i), rfl, rfl, rfl, rfl, rfl, fun p hp => absurd hp (Nat.not_lt_zero p), fun p hp => absurd hp (Nat.not_lt_zero p)⟩, ?_, ⟨rfl, fun i hi => absurd hi (Nat.not_lt_zero i), rfl, fun p hp => absurd hp (Nat.not_lt_zero p), rfl, rfl, rfl, fun p hp => absurd hp (Nat.not_lt_zero p), fun p hp => absurd hp (Nat.not_lt_zero p)⟩, ?_⟩
  · have h : ∀ r, r < 6 → cI26 2 r = -qn 1 := by decide +kernel
    exact fun r hr => Or.inl (h r hr)
  · have h : ∀ r, r < 4 → cI26 5 r = -qn 1 := by decide +kernel
    exact fun r hr => Or.inl (h r hr)
  · have h : ∀ r, r < 3 → cI26 8 r = -qn 1 := by decide +kernel
    exact fun k hk => ⟨fun _ => h k hk, fun d hd => by cases hd⟩
  · exact fun k hk => ⟨fun _ => rfl, fun d hd => by cases hd⟩
/-- the law's judgement; what stands round it -/
def lw_V (p : Program) (l : Launch) (e : Env) (s : State) (m : MethodId) (below : List Frame) (meth : Method) (c : Code) (G : qp_G) (ad0 : Nat → Nat) (b : Nat) (x : qp_C) : Prop := qp_V p l e room_1 s m #[Value.ref b] below meth c G 4 (fun q => s.heap.size ≤ q) 0 0 ad0 (lw_Z below #[Value.ref b] s) x
def lw_C (p : Program) (s : State) (m : MethodId) (meth : Method) (c : Code) (G : qp_G) (ad0 : Nat → Nat) (b L : Nat) (xs : Nat → Int32) : Prop := qp_X p s m #[Value.ref b] meth c G 14 code 4 false (fun q => s.heap.size ≤ q) (ad0 1000) ∧ ad0 2000 = b ∧ va_X b L xs s s.heap ∧ b < s.heap.size ∧ meth.sig.returnType = ret ∧ meth.locks = false
theorem qp_okL : qp_ok 14 code qp_kL := qp_ok_of qp_hL
section LW
variable {p : Program} {l : Launch} {e : Env} {s : State} {m : MethodId} {below : List Frame} {meth : Method} {c : Code} {G : qp_G} {ad0 : Nat → Nat} {b L : Nat} {xs : Nat → Int32}
theorem lw_run (C : lw_C p s m meth c G ad0 b L xs) {K : List (List (Nat × Instr × Int32 × Nat))} (hK : qp_ok 14 code K) (n : Nat) {x x' : qp_C} {f : Prop} (h : qp_run (600000, 7302250) 14 false K n x = some (f, x')) (hf : f) (k : lw_V p l e s m below meth c G ad0 b x') : lw_V p l e s m below meth c G ad0 b x :=
  qp_run_W C.1 hK ⟨by show 600000 ≤ 0 + 600000; omega, by show 7302250 ≤ 0 + 7302250; omega⟩ ⟨by show 1 ≤ 2048; omega, by show 40 ≤ 84000; omega⟩ n h hf k
theorem lw_br (C : lw_C p s m meth c G ad0 b L xs) {K : List (List (Nat × Instr × Int32 × Nat))} (hK : qp_ok 14 code K) {x xt xf : qp_C} {f : Prop} (h : qp_br K x = some (f, xt, xf)) (kt : f → lw_V p l e s m below meth c G ad0 b xt) (kf : ¬ f → lw_V p l e s m below meth c G ad0 b xf) : lw_V p l e s m below meth c G ad0 b x := qp_br_W C.1 hK h kt kf
theorem lw_ld (C : lw_C p s m meth c G ad0 b L xs) {K : List (List (Nat × Instr × Int32 × Nat))} (hK : qp_ok 14 code K) {pc t : Nat} {v i : Int32} {Lo : List (Option Value)} {st : List Value} {M : qp_M} (hf : qp_ft8 K pc = some (.iaload, v, t)) (hi : vp_in i L) (k : lw_V p l e s m below meth c G ad0 b (pc + 1, Lo, .int (xs i.toNatClampNeg) :: st, M)) : lw_V p l e s m below meth c G ad0 b (pc, Lo, .int i :: .ref 2000 :: st, M) := by
  obtain ⟨X, h2, hX, hb, -⟩ := C
  intro ad H locs ls g1 g3 hP hD hS hl
  have h9 : M.2.2.2.2.1 ≤ 900 := g3.2.2
  have ea : ad 2000 = b := (g1 2000 (Or.inr (by show M.2.2.2.2.1 ≤ 2000; omega))).trans h2
  have k0 := k ad H locs ls g1 g3 hP hD hS hl
  show W p l e room_1 s m #[Value.ref b] below meth c H locs _ _ _ (F0 m pc ls (.int i :: .ref (ad 2000) :: st.map (qp_tr ad)))
  rw [ea]
  exact va_sld X.1 X.2.1 hX hb (by show ¬ s.heap.size ≤ b; omega) hS hi (hK _ _ hf).1 k0
theorem lw_al (C : lw_C p s m meth c G ad0 b L xs) {K : List (List (Nat × Instr × Int32 × Nat))} (hK : qp_ok 14 code K) {pc t : Nat} {v : Int32} {Lo : List (Option Value)} {st : List Value} {M : qp_M} (hf : qp_ft8 K pc = some (.arraylength, v, t)) (k : lw_V p l e s m below meth c G ad0 b (pc + 1, Lo, .int (qn L) :: st, M)) : lw_V p l e s m below meth c G ad0 b (pc, Lo, .ref 2000 :: st, M) := by
  obtain ⟨X, h2, hX, hb, -⟩ := C
  intro ad H locs ls g1 g3 hP hD hS hl
  have h9 : M.2.2.2.2.1 ≤ 900 := g3.2.2
  have ea : ad 2000 = b := (g1 2000 (Or.inr (by show M.2.2.2.2.1 ≤ 2000; omega))).trans h2
  have k0 := k ad H locs ls g1 g3 hP hD hS hl
  show W p l e room_1 s m #[Value.ref b] below meth c H locs _ _ _ (F0 m pc ls (.ref (ad 2000) :: st.map (qp_tr ad)))
  rw [ea]
  exact va_slen X.1 X.2.1 hX hb (by show ¬ s.heap.size ≤ b; omega) hS (hK _ _ hf).1 k0
theorem lw_end (C : lw_C p s m meth c G ad0 b L xs) {K : List (List (Nat × Instr × Int32 × Nat))} (hK : qp_ok 14 code K) {pc t : Nat} {v : Int32} {Lo : List (Option Value)} {I : Nat → Nat → Int32} {J : Nat → Nat → Int64} (hf : qp_ft8 K pc = some (.ireturn, v, t)) : lw_V p l e s m below meth c G ad0 b (pc, Lo, [.int 1], qp_mk I J) := by
  obtain ⟨X, h2, hX, hb, hr, hlk⟩ := C
  intro ad H locs ls g1 g3 hP hD hS hl
  refine va_forget hS.2.2 ?_
  refine W.widen (k := 600000) (n := 7302250) (by show 58 - 0 ≤ 600000; omega) (by show 4071 - 0 ≤ 7302250; omega) ?_
  exact lw_ret X.1 X.2.1 hr hlk (hK _ _ hf).1
theorem lw_cV (C : lw_C p s m meth c G ad0 b L xs) {K : List (List (Nat × Instr × Int32 × Nat))} (hK : qp_ok 14 code K) {pc d' mj ix t r na oj : Nat} {v : Int32} {Lo : List (Option Value)} {st rest av : List Value} {I I' : Nat → Nat → Int32} {J J' : Nat → Nat → Int64} {rv : Option Value}
    (hj : qp_fv mj na oj 0) (hf : qp_ft8 K pc = some (.invokevirtual ix, v, t)) (hmi : Nat.beq t (10 * mj) = true) (hM : qp_Met l G d' mj (.ref r :: av) (qp_mk I J) 0 0 (qp_R8 rv I' J')) (hal : qp_len av = na) (hst : st = av.reverse ++ .ref r :: rest) (hb8 : (Nat.blt r 58 && (Nat.beq (qp_S0 r).1 oj && Nat.blt oj 11)) = true) (hcat : Nat.ble (qp_cat rest) 8 = true) (hd : d' ≤ 1000)
    (k : lw_V p l e s m below meth c G ad0 b (pc + 3, Lo, rv.toList ++ rest, qp_mk I' J')) : lw_V p l e s m below meth c G ad0 b (pc, Lo, st, qp_mk I J) := by
  obtain ⟨j1, j2, j3, j4⟩ := hj
  obtain ⟨b1, b2⟩ := qp_and hb8
  obtain ⟨b3, b4⟩ := qp_and b2
  refine qp_callV_W C.1 hK hf (Or.inl (Nat.eq_of_beq_eq_true hmi)) j1 ⟨by unfold qp_sta; rw [j4]; rfl, by unfold qp_ini; rw [j4]; rfl⟩ hM (by rw [j2, ← hal, qp_len_eq]) hst (by rw [j3, b3, Bool.and_true]; exact b1) (by rw [j3]; exact qp_blt b4) hcat ⟨by show d' + 1 ≤ 2048; omega, by show 64 * (d' + 1) ≤ 84000; omega, by show 58 - 0 + 0 ≤ 600000; omega, by show 4071 - 0 + 0 ≤ 7302250; omega⟩ (Or.inl rfl) (fun r' M' h1 _ _ => ?_)
  obtain ⟨rfl, rfl⟩ := h1
  exact k
theorem lw_new (C : lw_C p s m meth c G ad0 b L xs) {K : List (List (Nat × Instr × Int32 × Nat))} (hK : qp_ok 14 code K) {pc ix t n q : Nat} {v : Int32} {Lo : List (Option Value)} {st : List Value} {I : Nat → Nat → Int32} {J : Nat → Nat → Int64} {P : Nat → Nat → Option Nat} (hf : qp_ft8 K pc = some (.new ix, v, t)) (hI : ∀ j, I n j = 0) (hJ : ∀ j, J n j = 0) (hP : ∀ j, P n j = none) (hS : qp_S0 n = (t, qp_N t))
    (hc : (qp_fit (600000, 7302250) (I, J, P, qp_S0, n + 1, q + qp_N t) && qp_knw (pc, Lo, st, (I, J, P, qp_S0, n, q))) = true)
    (k : lw_V p l e s m below meth c G ad0 b (pc + 3, Lo, .ref n :: st, (I, J, P, qp_S0, n + 1, q + qp_N t))) : lw_V p l e s m below meth c G ad0 b (pc, Lo, st, (I, J, P, qp_S0, n, q)) := by
  have e := qc_mk1 (q := q) hI hJ hP hS
  rw [← e] at k hc
  exact lw_run C hK 1 (f := ((qp_fit (600000, 7302250) (qp_mk1 (I, J, P, qp_S0, n, q) t (qp_N t)) && qp_knw (pc, Lo, st, (I, J, P, qp_S0, n, q))) = true) ∧ True) (x' := (pc + 3, Lo, .ref n :: st, qp_mk1 (I, J, P, qp_S0, n, q) t (qp_N t))) (by unfold qp_run; rw [show qp_ft8 K (pc, Lo, st, (I, J, P, qp_S0, n, q)).1 = _ from hf]; rfl) ⟨hc, trivial⟩ k
theorem lw_cI (C : lw_C p s m meth c G ad0 b L xs) {K : List (List (Nat × Instr × Int32 × Nat))} (hK : qp_ok 14 code K) {pc d' mj ix t r na oj n q n1 q1 mc' ms' : Nat} {v : Int32} {Lo : List (Option Value)} {st rest av : List Value} {I I1 : Nat → Nat → Int32} {J J1 : Nat → Nat → Int64} {P P1 : Nat → Nat → Option Nat}
    (hj : qp_fv mj na oj 2) (hf : qp_ft8 K pc = some (.invokespecial ix, v, t)) (hmi : (Nat.beq t (10 * mj + 2) || Nat.beq t (10 * mj + 4)) = true) (hr : qp_rt mj = none) (hM : qp_Met l G d' mj (.ref r :: av) (I, J, P, qp_S0, n, q) mc' ms' (qc_R none (I1, J1, P1, qp_S0, n1, q1))) (hal : qp_len av = na) (hst : st = av.reverse ++ .ref r :: rest) (hcat : Nat.ble (qp_cat rest) 8 = true) (hd : d' ≤ 1000)
    (hn : (Nat.ble (n - 0 + mc') 600000 && Nat.ble (q - 0 + ms') 7302250) = true) (hkl : qp_kl n Lo rest = true)
    (k : lw_V p l e s m below meth c G ad0 b (pc + 3, Lo, rest, (I1, J1, P1, qp_S0, n1, q1))) : lw_V p l e s m below meth c G ad0 b (pc, Lo, st, (I, J, P, qp_S0, n, q)) := by
  obtain ⟨j1, j2, j3, j4⟩ := hj
  obtain ⟨n1', n2'⟩ := qp_and hn
  refine qp_callI_W C.1 hK hf ?_ j1 ⟨by unfold qp_sta; rw [j4]; rfl, by unfold qp_ini; rw [j4]; rfl⟩ hr hM (by rw [j2, ← hal, qp_len_eq]) hst hcat ⟨by show d' + 1 ≤ 2048; omega, by show 64 * (d' + 1) ≤ 84000; omega, Nat.le_of_ble_eq_true n1', Nat.le_of_ble_eq_true n2'⟩ (Or.inr hkl) (fun r' M' h1 _ _ => ?_)
  · rcases (Bool.or_eq_true _ _).mp hmi with q | q
    · exact Or.inl (Nat.eq_of_beq_eq_true q)
    · exact Or.inr (Nat.eq_of_beq_eq_true q)
  · obtain ⟨rfl, rfl⟩ := h1
    exact k
/-- the memory is one that the calls are about -/
theorem lw_mk {pc : Nat} {Lo : List (Option Value)} {st : List Value} {I : Nat → Nat → Int32} {J : Nat → Nat → Int64} {P : Nat → Nat → Option Nat} (h : ∀ r, r < 58 → (qp_S0 r).1 < 50 → ∀ k, k < (qp_S0 r).2 → P r k = qp_P0 r k) (k : lw_V p l e s m below meth c G ad0 b (pc, Lo, st, qp_mk I J)) : lw_V p l e s m below meth c G ad0 b (pc, Lo, st, (I, J, P, qp_S0, 58, 4071)) := by
  intro ad H locs ls g1 g3 hP hD hS hl
  have ew := qp_w_P (G := G) (I := I) (J := J) (q := 4071) (ad := ad) h
  exact k ad H locs ls g1 g3 (by show va_P G.1 qp_cl (qp_w G (I, J, qp_P0, qp_S0, 58, 4071) ad) H; rw [← ew]; exact hP) (by show va_D _ (qp_w G (I, J, qp_P0, qp_S0, 58, 4071) ad); rw [← ew]; exact hD) hS hl
end LW

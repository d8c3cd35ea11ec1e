/-! THE CONSTRUCTOR: the memory of 36 cells out of nothing -/
def qc_R (v : Option Value) (M1 : qp_M) : Option Value → qp_M → Prop := fun r M => r = v ∧ M = M1
theorem qc_mk1 {I : Nat → Nat → Int32} {J : Nat → Nat → Int64} {P : Nat → Nat → Option Nat} {n q tag k : Nat} (hI : ∀ j, I n j = 0) (hJ : ∀ j, J n j = 0) (hP : ∀ j, P n j = none) (hS : qp_S0 n = (tag, k)) : qp_mk1 (I, J, P, qp_S0, n, q) tag k = (I, J, P, qp_S0, n + 1, q + k) := by
  have b : ∀ k', Nat.beq n k' = true → n = k' := fun k' h => Nat.eq_of_beq_eq_true h
  unfold qp_mk1
  refine Prod.ext (funext fun k' => funext fun j => ?_) (Prod.ext (funext fun k' => funext fun j => ?_) (Prod.ext (funext fun k' => funext fun j => ?_) (Prod.ext (funext fun k' => ?_) rfl)))
  · dsimp only
    cases h : Nat.beq n k' with
    | true => rw [← b k' h, hI]; rfl
    | false => rfl
  · dsimp only
    cases h : Nat.beq n k' with
    | true => rw [← b k' h, hJ]; rfl
    | false => rfl
  · dsimp only
    cases h : Nat.beq n k' with
    | true => rw [← b k' h, hP]; rfl
    | false => rfl
  · dsimp only
    rw [qp_up1_if]
    by_cases h : n = k'
    · rw [if_pos h, ← h, hS]
    · rw [if_neg h]
section QC
variable {l : Launch} {G : qp_G} {d mi : Nat} {Q : Option Value → qp_M → Prop} {K : List (List (Nat × Instr × Int32 × Nat))} {I I0 I1 : Nat → Nat → Int32} {J J0 J1 : Nat → Nat → Int64} {P Pa P1 : Nat → Nat → Option Nat} {n0 q0 mc ms : Nat}
theorem qc_new (hK : qp_ok (qp_o mi) (qp_b mi) K) {pc ix t n q : Nat} {v : Int32} {L : List (Option Value)} {st : List Value} (hf : qp_ft8 K pc = some (.new ix, v, t)) (hI : ∀ j, I n j = 0) (hJ : ∀ j, J n j = 0) (hP : ∀ j, P n j = none) (hS : qp_S0 n = (t, qp_N t))
    (hc : (qp_fit (n0 + mc, q0 + ms) (I, J, P, qp_S0, n + 1, q + qp_N t) && qp_knw (pc, L, st, (I, J, P, qp_S0, n, q))) = true) (hd : Nat.ble 1 d = true)
    (k : qp_E l G d mi (I0, J0, Pa, qp_S0, n0, q0) mc ms Q (pc + 3, L, .ref n :: st, (I, J, P, qp_S0, n + 1, q + qp_N t))) : qp_E l G d mi (I0, J0, Pa, qp_S0, n0, q0) mc ms Q (pc, L, st, (I, J, P, qp_S0, n, q)) := by
  have e := qc_mk1 (q := q) hI hJ hP hS
  rw [← e] at k hc
  exact qp_run_E hK 1 (f := ((qp_fit (n0 + mc, q0 + ms) (qp_mk1 (I, J, P, qp_S0, n, q) t (qp_N t)) && qp_knw (pc, L, st, (I, J, P, qp_S0, n, q))) = true) ∧ True) (c' := (pc + 3, L, .ref n :: st, qp_mk1 (I, J, P, qp_S0, n, q) t (qp_N t))) (by unfold qp_run; rw [show qp_ft8 K (pc, L, st, (I, J, P, qp_S0, n, q)).1 = _ from hf]; rfl) hd ⟨hc, trivial⟩ k
theorem qc_newI (hK : qp_ok (qp_o mi) (qp_b mi) K) {pc t n q k : Nat} {v x : Int32} {L : List (Option Value)} {st : List Value} (hf : qp_ft8 K pc = some (.newarray .int, v, t)) (hx : ¬ x < 0 ∧ x.toNatClampNeg = k ∧ Nat.ble k 100000 = true) (hI : ∀ j, I n j = 0) (hJ : ∀ j, J n j = 0) (hP : ∀ j, P n j = none) (hS : qp_S0 n = (50, k))
    (hc : (qp_fit (n0 + mc, q0 + ms) (I, J, P, qp_S0, n + 1, q + k) && qp_knw (pc, L, .int x :: st, (I, J, P, qp_S0, n, q))) = true) (hd : Nat.ble 1 d = true)
    (kk : qp_E l G d mi (I0, J0, Pa, qp_S0, n0, q0) mc ms Q (pc + 2, L, .ref n :: st, (I, J, P, qp_S0, n + 1, q + k))) : qp_E l G d mi (I0, J0, Pa, qp_S0, n0, q0) mc ms Q (pc, L, .int x :: st, (I, J, P, qp_S0, n, q)) := by
  have e := qc_mk1 (q := q) hI hJ hP hS
  rw [← e, ← hx.2.1] at kk hc
  exact qp_run_E hK 1 (f := (¬ x < 0 ∧ x.toNatClampNeg ≤ 100000 ∧ (qp_fit (n0 + mc, q0 + ms) (qp_mk1 (I, J, P, qp_S0, n, q) 50 x.toNatClampNeg) && qp_knw (pc, L, .int x :: st, (I, J, P, qp_S0, n, q))) = true) ∧ True) (c' := (pc + 2, L, .ref n :: st, qp_mk1 (I, J, P, qp_S0, n, q) 50 x.toNatClampNeg)) (by unfold qp_run; rw [show qp_ft8 K (pc, L, .int x :: st, (I, J, P, qp_S0, n, q)).1 = _ from hf]; rfl) hd ⟨⟨hx.1, by rw [hx.2.1]; exact Nat.le_of_ble_eq_true hx.2.2, hc⟩, trivial⟩ kk
theorem qc_newB (hK : qp_ok (qp_o mi) (qp_b mi) K) {pc t n q k : Nat} {v x : Int32} {L : List (Option Value)} {st : List Value} (hf : qp_ft8 K pc = some (.newarray .boolean, v, t)) (hx : ¬ x < 0 ∧ x.toNatClampNeg = k ∧ Nat.ble k 100000 = true) (hI : ∀ j, I n j = 0) (hJ : ∀ j, J n j = 0) (hP : ∀ j, P n j = none) (hS : qp_S0 n = (51, k))
    (hc : (qp_fit (n0 + mc, q0 + ms) (I, J, P, qp_S0, n + 1, q + k) && qp_knw (pc, L, .int x :: st, (I, J, P, qp_S0, n, q))) = true) (hd : Nat.ble 1 d = true)
    (kk : qp_E l G d mi (I0, J0, Pa, qp_S0, n0, q0) mc ms Q (pc + 2, L, .ref n :: st, (I, J, P, qp_S0, n + 1, q + k))) : qp_E l G d mi (I0, J0, Pa, qp_S0, n0, q0) mc ms Q (pc, L, .int x :: st, (I, J, P, qp_S0, n, q)) := by
  have e := qc_mk1 (q := q) hI hJ hP hS
  rw [← e, ← hx.2.1] at kk hc
  exact qp_run_E hK 1 (f := (¬ x < 0 ∧ x.toNatClampNeg ≤ 100000 ∧ (qp_fit (n0 + mc, q0 + ms) (qp_mk1 (I, J, P, qp_S0, n, q) 51 x.toNatClampNeg) && qp_knw (pc, L, .int x :: st, (I, J, P, qp_S0, n, q))) = true) ∧ True) (c' := (pc + 2, L, .ref n :: st, qp_mk1 (I, J, P, qp_S0, n, q) 51 x.toNatClampNeg)) (by unfold qp_run; rw [show qp_ft8 K (pc, L, .int x :: st, (I, J, P, qp_S0, n, q)).1 = _ from hf]; rfl) hd ⟨⟨hx.1, by rw [hx.2.1]; exact Nat.le_of_ble_eq_true hx.2.2, hc⟩, trivial⟩ kk
theorem qc_cI (hK : qp_ok (qp_o mi) (qp_b mi) K) {pc d' mj ix t b na oj n q n1 q1 mc' ms' : Nat} {v : Int32} {L : List (Option Value)} {st rest av : List Value}
    (hj : qp_fv mj na oj 2) (hf : qp_ft8 K pc = some (.invokespecial ix, v, t)) (hmi : (Nat.beq t (10 * mj + 2) || Nat.beq t (10 * mj + 4)) = true) (hr : qp_rt mj = none) (hM : qp_Met l G d' mj (.ref b :: av) (I, J, P, qp_S0, n, q) mc' ms' (qc_R none (I1, J1, P1, qp_S0, n1, q1))) (hal : qp_len av = na) (hst : st = av.reverse ++ .ref b :: rest) (hcat : Nat.ble (qp_cat rest) 8 = true) (hd : d' + 1 ≤ d)
    (hn : (Nat.ble (n - n0 + mc') mc && Nat.ble (q - q0 + ms') ms) = true) (hkl : qp_kl n L rest = true)
    (k : qp_E l G d mi (I0, J0, Pa, qp_S0, n0, q0) mc ms Q (pc + 3, L, rest, (I1, J1, P1, qp_S0, n1, q1))) : qp_E l G d mi (I0, J0, Pa, qp_S0, n0, q0) mc ms Q (pc, L, st, (I, J, P, qp_S0, n, q)) := by
  obtain ⟨j1, j2, j3, j4⟩ := hj
  obtain ⟨n1', n2'⟩ := qp_and hn
  refine qp_callI_E hK hf ?_ j1 ⟨by unfold qp_sta; rw [j4]; rfl, by unfold qp_ini; rw [j4]; rfl⟩ hr (by rw [j2, ← hal, qp_len_eq]) hM hst hcat ⟨hd, Nat.le_of_ble_eq_true n1', Nat.le_of_ble_eq_true n2'⟩ (Or.inr hkl) (fun r M' h1 _ _ => ?_)
  · rcases (Bool.or_eq_true _ _).mp hmi with q | q
    · exact Or.inl (Nat.eq_of_beq_eq_true q)
    · exact Or.inr (Nat.eq_of_beq_eq_true q)
  · obtain ⟨rfl, rfl⟩ := h1
    exact k
theorem qc_cS (hK : qp_ok (qp_o mi) (qp_b mi) K) {pc d' mj ix t na oj n q : Nat} {v : Int32} {rv : Value} {L : List (Option Value)} {st rest av : List Value}
    (hj : qp_fv mj na oj 1) (hf : qp_ft8 K pc = some (.invokestatic ix, v, t)) (hmi : Nat.beq t (10 * mj + 1) = true) (hM : qp_Met l G d' mj av (I, J, P, qp_S0, n, q) 0 0 (qc_R (some rv) (I, J, P, qp_S0, n, q))) (hal : qp_len av = na) (hst : st = av.reverse ++ rest) (hcat : Nat.ble (qp_cat rest) 8 = true) (hd : d' + 1 ≤ d) (hn : (Nat.ble (n - n0 + 0) mc && Nat.ble (q - q0 + 0) ms) = true)
    (k : qp_E l G d mi (I0, J0, Pa, qp_S0, n0, q0) mc ms Q (pc + 3, L, rv :: rest, (I, J, P, qp_S0, n, q))) : qp_E l G d mi (I0, J0, Pa, qp_S0, n0, q0) mc ms Q (pc, L, st, (I, J, P, qp_S0, n, q)) := by
  obtain ⟨j1, j2, j3, j4⟩ := hj
  obtain ⟨n1', n2'⟩ := qp_and hn
  refine qp_callS_E hK hf (Or.inl (Nat.eq_of_beq_eq_true hmi)) j1 (by unfold qp_sta; rw [j4]; rfl) (by rw [j2, ← hal, qp_len_eq]) hM hst hcat ⟨hd, Nat.le_of_ble_eq_true n1', Nat.le_of_ble_eq_true n2'⟩ (Or.inl rfl) (fun r M' h1 _ _ => ?_)
  obtain ⟨rfl, rfl⟩ := h1
  exact k
end QC
def cI0 : Nat → Nat → Int32 := fun _ _ => 0
def cJ0 : Nat → Nat → Int64 := fun _ _ => 0
def cP0 : Nat → Nat → Option Nat := fun _ _ => none

def cI1 : Nat → Nat → Int32 := qp_up cI0 1 0 40
set_option maxRecDepth 8000 in
theorem cG3 (l : Launch) (G : qp_G) {d : Nat} (hd : 1 ≤ d) : qp_Met l G d 2 [.int 6, .int 0] (cI1, cJ0, cP0, qp_S0, 2, 17) 0 0 (qc_R (some (.int 6)) (cI1, cJ0, cP0, qp_S0, 2, 17)) := by
  have hd1 : Nat.ble 1 d = true := Nat.ble_eq_true_of_le (Nat.le_trans (by decide) hd)
  refine qp_Met_of (by decide) (by rw [qp_r2.2]; rfl) [some (.int 6), some (.int 0)] (by rw [qp_r2.2]; rfl) ?_
  refine qp_run_E qp_ok2 2 (c' := (2, [some (.int 6), some (.int 0)], [.int 0, .int 6], (cI1, cJ0, cP0, qp_S0, 2, 17))) (by with_unfolding_all rfl) hd1 trivial ?_
  refine qp_br_E qp_ok2 (f := (6 : Int32) < (0 : Int32)) (ct := (9, [some (.int 6), some (.int 0)], [], (cI1, cJ0, cP0, qp_S0, 2, 17))) (cf := (5, [some (.int 6), some (.int 0)], [], (cI1, cJ0, cP0, qp_S0, 2, 17))) (by with_unfolding_all rfl) (fun h1 => absurd h1 (by decide)) (fun _ => ?_)
  refine qp_run_E qp_ok2 2 (c' := (10, [some (.int 6), some (.int 0)], [.int 6], (cI1, cJ0, cP0, qp_S0, 2, 17))) (by with_unfolding_all rfl) hd1 trivial ?_
  exact qp_retI_E qp_ok2 rfl qp_r2.1 ⟨rfl, rfl⟩ ⟨rfl, rfl⟩
def cP1 : Nat → Nat → Option Nat := qp_up cP0 1 1 (some 2)
set_option maxRecDepth 8000 in
theorem cG4 (l : Launch) (G : qp_G) {d : Nat} (hd : 1 ≤ d) : qp_Met l G d 2 [.int (6 * 40), .int 0] (cI1, cJ0, cP1, qp_S0, 3, 23) 0 0 (qc_R (some (.int (6 * 40))) (cI1, cJ0, cP1, qp_S0, 3, 23)) := by
  have hd1 : Nat.ble 1 d = true := Nat.ble_eq_true_of_le (Nat.le_trans (by decide) hd)
  refine qp_Met_of (by decide) (by rw [qp_r2.2]; rfl) [some (.int (6 * 40)), some (.int 0)] (by rw [qp_r2.2]; rfl) ?_
  refine qp_run_E qp_ok2 2 (c' := (2, [some (.int (6 * 40)), some (.int 0)], [.int 0, .int (6 * 40)], (cI1, cJ0, cP1, qp_S0, 3, 23))) (by with_unfolding_all rfl) hd1 trivial ?_
  refine qp_br_E qp_ok2 (f := ((6 * 40) : Int32) < (0 : Int32)) (ct := (9, [some (.int (6 * 40)), some (.int 0)], [], (cI1, cJ0, cP1, qp_S0, 3, 23))) (cf := (5, [some (.int (6 * 40)), some (.int 0)], [], (cI1, cJ0, cP1, qp_S0, 3, 23))) (by with_unfolding_all rfl) (fun h1 => absurd h1 (by decide)) (fun _ => ?_)
  refine qp_run_E qp_ok2 2 (c' := (10, [some (.int (6 * 40)), some (.int 0)], [.int (6 * 40)], (cI1, cJ0, cP1, qp_S0, 3, 23))) (by with_unfolding_all rfl) hd1 trivial ?_
  exact qp_retI_E qp_ok2 rfl qp_r2.1 ⟨rfl, rfl⟩ ⟨rfl, rfl⟩
def cP2 : Nat → Nat → Option Nat := qp_up cP1 1 2 (some 3)
def cI2 : Nat → Nat → Int32 := qp_up cI1 2 (Int32.toNatClampNeg 0) (-1)
def cI3 : Nat → Nat → Int32 := qp_up cI2 2 (Int32.toNatClampNeg (0 + 1)) (-1)
def cI4 : Nat → Nat → Int32 := qp_up cI3 2 (Int32.toNatClampNeg ((0 + 1) + 1)) (-1)
def cI5 : Nat → Nat → Int32 := qp_up cI4 2 (Int32.toNatClampNeg (((0 + 1) + 1) + 1)) (-1)
def cI6 : Nat → Nat → Int32 := qp_up cI5 2 (Int32.toNatClampNeg ((((0 + 1) + 1) + 1) + 1)) (-1)
def cI7 : Nat → Nat → Int32 := qp_up cI6 2 (Int32.toNatClampNeg (((((0 + 1) + 1) + 1) + 1) + 1)) (-1)
set_option maxRecDepth 8000 in
theorem cG2 (l : Launch) (G : qp_G) {d : Nat} (hd : 2 ≤ d) : qp_Met l G d 1 [.ref 1, .int 6, .int 40] (cI0, cJ0, cP0, qp_S0, 2, 17) 2 246 (qc_R none (cI7, cJ0, cP2, qp_S0, 4, 263)) := by
  have hd1 : Nat.ble 1 d = true := Nat.ble_eq_true_of_le (Nat.le_trans (by decide) hd)
  refine qp_Met_of (by decide) (by rw [qp_r1.2]; rfl) [some (.ref 1), some (.int 6), some (.int 40), none] (by rw [qp_r1.2]; rfl) ?_
  refine qp_run_E qp_ok1 5 (c' := (9, [some (.ref 1), some (.int 6), some (.int 40), none], [], (cI1, cJ0, cP0, qp_S0, 2, 17))) (by with_unfolding_all rfl) hd1 trivial ?_
  refine qp_run_E qp_ok1 3 (c' := (12, [some (.ref 1), some (.int 6), some (.int 40), none], [.int 0, .int 6, .ref 1], (cI1, cJ0, cP0, qp_S0, 2, 17))) (by with_unfolding_all rfl) hd1 trivial ?_
  refine qc_cS qp_ok1 (rest := [.ref 1]) (n := 2) (q := 17) qp_f2 rfl rfl (cG3 l G (Nat.le_refl 1)) rfl rfl rfl (Nat.le_trans (by decide) hd) (by decide +kernel) ?_
  show qp_E l G d 1 (cI0, cJ0, cP0, qp_S0, 2, 17) 2 246 _ (15, [some (.ref 1), some (.int 6), some (.int 40), none], [.int 6, .ref 1], (cI1, cJ0, cP0, qp_S0, 2, 17))
  refine qc_newI qp_ok1 (n := 2) (q := 17) (k := 6) rfl ⟨by decide, by decide, rfl⟩ (fun _ => rfl) (fun _ => rfl) (fun _ => rfl) rfl (by decide +kernel) hd1 ?_
  show qp_E l G d 1 (cI0, cJ0, cP0, qp_S0, 2, 17) 2 246 _ (17, [some (.ref 1), some (.int 6), some (.int 40), none], [.ref 2, .ref 1], (cI1, cJ0, cP0, qp_S0, 3, 23))
  refine qp_run_E qp_ok1 1 (c' := (20, [some (.ref 1), some (.int 6), some (.int 40), none], [], (cI1, cJ0, cP1, qp_S0, 3, 23))) (by with_unfolding_all rfl) hd1 trivial ?_
  refine qp_run_E qp_ok1 5 (c' := (25, [some (.ref 1), some (.int 6), some (.int 40), none], [.int 0, .int (6 * 40), .ref 1], (cI1, cJ0, cP1, qp_S0, 3, 23))) (by with_unfolding_all rfl) hd1 trivial ?_
  refine qc_cS qp_ok1 (rest := [.ref 1]) (n := 3) (q := 23) qp_f2 rfl rfl (cG4 l G (Nat.le_refl 1)) rfl rfl rfl (Nat.le_trans (by decide) hd) (by decide +kernel) ?_
  show qp_E l G d 1 (cI0, cJ0, cP0, qp_S0, 2, 17) 2 246 _ (28, [some (.ref 1), some (.int 6), some (.int 40), none], [.int (6 * 40), .ref 1], (cI1, cJ0, cP1, qp_S0, 3, 23))
  refine qc_newI qp_ok1 (n := 3) (q := 23) (k := 240) rfl ⟨by decide, by decide, rfl⟩ (fun _ => rfl) (fun _ => rfl) (fun _ => rfl) rfl (by decide +kernel) hd1 ?_
  show qp_E l G d 1 (cI0, cJ0, cP0, qp_S0, 2, 17) 2 246 _ (30, [some (.ref 1), some (.int 6), some (.int 40), none], [.ref 3, .ref 1], (cI1, cJ0, cP1, qp_S0, 4, 263))
  refine qp_run_E qp_ok1 1 (c' := (33, [some (.ref 1), some (.int 6), some (.int 40), none], [], (cI1, cJ0, cP2, qp_S0, 4, 263))) (by with_unfolding_all rfl) hd1 trivial ?_
  refine qp_run_E qp_ok1 6 (c' := (41, [some (.ref 1), some (.int 6), some (.int 40), some (.int 0)], [.int 6, .int 0], (cI1, cJ0, cP2, qp_S0, 4, 263))) (by with_unfolding_all rfl) hd1 trivial ?_
  refine qp_br_E qp_ok1 (f := (6 : Int32) ≤ (0 : Int32)) (ct := (57, [some (.ref 1), some (.int 6), some (.int 40), some (.int 0)], [], (cI1, cJ0, cP2, qp_S0, 4, 263))) (cf := (44, [some (.ref 1), some (.int 6), some (.int 40), some (.int 0)], [], (cI1, cJ0, cP2, qp_S0, 4, 263))) (by with_unfolding_all rfl) (fun h1 => absurd h1 (by decide)) (fun _ => ?_)
  refine qp_run_E qp_ok1 5 (f := (vp_in 0 6 ∧ True)) (c' := (51, [some (.ref 1), some (.int 6), some (.int 40), some (.int 0)], [], (cI2, cJ0, cP2, qp_S0, 4, 263))) (by with_unfolding_all rfl) hd1 ⟨vp_in_iff.mpr (by decide), trivial⟩ ?_
  refine qp_run_E qp_ok1 6 (c' := (41, [some (.ref 1), some (.int 6), some (.int 40), some (.int (0 + 1))], [.int 6, .int (0 + 1)], (cI2, cJ0, cP2, qp_S0, 4, 263))) (by with_unfolding_all rfl) hd1 trivial ?_
  refine qp_br_E qp_ok1 (f := (6 : Int32) ≤ ((0 + 1) : Int32)) (ct := (57, [some (.ref 1), some (.int 6), some (.int 40), some (.int (0 + 1))], [], (cI2, cJ0, cP2, qp_S0, 4, 263))) (cf := (44, [some (.ref 1), some (.int 6), some (.int 40), some (.int (0 + 1))], [], (cI2, cJ0, cP2, qp_S0, 4, 263))) (by with_unfolding_all rfl) (fun h1 => absurd h1 (by decide)) (fun _ => ?_)
  refine qp_run_E qp_ok1 5 (f := (vp_in (0 + 1) 6 ∧ True)) (c' := (51, [some (.ref 1), some (.int 6), some (.int 40), some (.int (0 + 1))], [], (cI3, cJ0, cP2, qp_S0, 4, 263))) (by with_unfolding_all rfl) hd1 ⟨vp_in_iff.mpr (by decide), trivial⟩ ?_
  refine qp_run_E qp_ok1 6 (c' := (41, [some (.ref 1), some (.int 6), some (.int 40), some (.int ((0 + 1) + 1))], [.int 6, .int ((0 + 1) + 1)], (cI3, cJ0, cP2, qp_S0, 4, 263))) (by with_unfolding_all rfl) hd1 trivial ?_
  refine qp_br_E qp_ok1 (f := (6 : Int32) ≤ (((0 + 1) + 1) : Int32)) (ct := (57, [some (.ref 1), some (.int 6), some (.int 40), some (.int ((0 + 1) + 1))], [], (cI3, cJ0, cP2, qp_S0, 4, 263))) (cf := (44, [some (.ref 1), some (.int 6), some (.int 40), some (.int ((0 + 1) + 1))], [], (cI3, cJ0, cP2, qp_S0, 4, 263))) (by with_unfolding_all rfl) (fun h1 => absurd h1 (by decide)) (fun _ => ?_)
  refine qp_run_E qp_ok1 5 (f := (vp_in ((0 + 1) + 1) 6 ∧ True)) (c' := (51, [some (.ref 1), some (.int 6), some (.int 40), some (.int ((0 + 1) + 1))], [], (cI4, cJ0, cP2, qp_S0, 4, 263))) (by with_unfolding_all rfl) hd1 ⟨vp_in_iff.mpr (by decide), trivial⟩ ?_
  refine qp_run_E qp_ok1 6 (c' := (41, [some (.ref 1), some (.int 6), some (.int 40), some (.int (((0 + 1) + 1) + 1))], [.int 6, .int (((0 + 1) + 1) + 1)], (cI4, cJ0, cP2, qp_S0, 4, 263))) (by with_unfolding_all rfl) hd1 trivial ?_
  refine qp_br_E qp_ok1 (f := (6 : Int32) ≤ ((((0 + 1) + 1) + 1) : Int32)) (ct := (57, [some (.ref 1), some (.int 6), some (.int 40), some (.int (((0 + 1) + 1) + 1))], [], (cI4, cJ0, cP2, qp_S0, 4, 263))) (cf := (44, [some (.ref 1), some (.int 6), some (.int 40), some (.int (((0 + 1) + 1) + 1))], [], (cI4, cJ0, cP2, qp_S0, 4, 263))) (by with_unfolding_all rfl) (fun h1 => absurd h1 (by decide)) (fun _ => ?_)
  refine qp_run_E qp_ok1 5 (f := (vp_in (((0 + 1) + 1) + 1) 6 ∧ True)) (c' := (51, [some (.ref 1), some (.int 6), some (.int 40), some (.int (((0 + 1) + 1) + 1))], [], (cI5, cJ0, cP2, qp_S0, 4, 263))) (by with_unfolding_all rfl) hd1 ⟨vp_in_iff.mpr (by decide), trivial⟩ ?_
  refine qp_run_E qp_ok1 6 (c' := (41, [some (.ref 1), some (.int 6), some (.int 40), some (.int ((((0 + 1) + 1) + 1) + 1))], [.int 6, .int ((((0 + 1) + 1) + 1) + 1)], (cI5, cJ0, cP2, qp_S0, 4, 263))) (by with_unfolding_all rfl) hd1 trivial ?_
  refine qp_br_E qp_ok1 (f := (6 : Int32) ≤ (((((0 + 1) + 1) + 1) + 1) : Int32)) (ct := (57, [some (.ref 1), some (.int 6), some (.int 40), some (.int ((((0 + 1) + 1) + 1) + 1))], [], (cI5, cJ0, cP2, qp_S0, 4, 263))) (cf := (44, [some (.ref 1), some (.int 6), some (.int 40), some (.int ((((0 + 1) + 1) + 1) + 1))], [], (cI5, cJ0, cP2, qp_S0, 4, 263))) (by with_unfolding_all rfl) (fun h1 => absurd h1 (by decide)) (fun _ => ?_)
  refine qp_run_E qp_ok1 5 (f := (vp_in ((((0 + 1) + 1) + 1) + 1) 6 ∧ True)) (c' := (51, [some (.ref 1), some (.int 6), some (.int 40), some (.int ((((0 + 1) + 1) + 1) + 1))], [], (cI6, cJ0, cP2, qp_S0, 4, 263))) (by with_unfolding_all rfl) hd1 ⟨vp_in_iff.mpr (by decide), trivial⟩ ?_
  refine qp_run_E qp_ok1 6 (c' := (41, [some (.ref 1), some (.int 6), some (.int 40), some (.int (((((0 + 1) + 1) + 1) + 1) + 1))], [.int 6, .int (((((0 + 1) + 1) + 1) + 1) + 1)], (cI6, cJ0, cP2, qp_S0, 4, 263))) (by with_unfolding_all rfl) hd1 trivial ?_
  refine qp_br_E qp_ok1 (f := (6 : Int32) ≤ ((((((0 + 1) + 1) + 1) + 1) + 1) : Int32)) (ct := (57, [some (.ref 1), some (.int 6), some (.int 40), some (.int (((((0 + 1) + 1) + 1) + 1) + 1))], [], (cI6, cJ0, cP2, qp_S0, 4, 263))) (cf := (44, [some (.ref 1), some (.int 6), some (.int 40), some (.int (((((0 + 1) + 1) + 1) + 1) + 1))], [], (cI6, cJ0, cP2, qp_S0, 4, 263))) (by with_unfolding_all rfl) (fun h1 => absurd h1 (by decide)) (fun _ => ?_)
  refine qp_run_E qp_ok1 5 (f := (vp_in (((((0 + 1) + 1) + 1) + 1) + 1) 6 ∧ True)) (c' := (51, [some (.ref 1), some (.int 6), some (.int 40), some (.int (((((0 + 1) + 1) + 1) + 1) + 1))], [], (cI7, cJ0, cP2, qp_S0, 4, 263))) (by with_unfolding_all rfl) hd1 ⟨vp_in_iff.mpr (by decide), trivial⟩ ?_
  refine qp_run_E qp_ok1 6 (c' := (41, [some (.ref 1), some (.int 6), some (.int 40), some (.int ((((((0 + 1) + 1) + 1) + 1) + 1) + 1))], [.int 6, .int ((((((0 + 1) + 1) + 1) + 1) + 1) + 1)], (cI7, cJ0, cP2, qp_S0, 4, 263))) (by with_unfolding_all rfl) hd1 trivial ?_
  refine qp_br_E qp_ok1 (f := (6 : Int32) ≤ (((((((0 + 1) + 1) + 1) + 1) + 1) + 1) : Int32)) (ct := (57, [some (.ref 1), some (.int 6), some (.int 40), some (.int ((((((0 + 1) + 1) + 1) + 1) + 1) + 1))], [], (cI7, cJ0, cP2, qp_S0, 4, 263))) (cf := (44, [some (.ref 1), some (.int 6), some (.int 40), some (.int ((((((0 + 1) + 1) + 1) + 1) + 1) + 1))], [], (cI7, cJ0, cP2, qp_S0, 4, 263))) (by with_unfolding_all rfl) (fun _ => ?_) (fun h1 => absurd (by decide) h1)
  exact qp_retV_E qp_ok1 rfl qp_r1.1 ⟨rfl, rfl⟩ ⟨rfl, rfl⟩
def cP3 : Nat → Nat → Option Nat := qp_up cP2 0 0 (some 1)
def cI8 : Nat → Nat → Int32 := qp_up cI7 4 0 60
set_option maxRecDepth 8000 in
theorem cG6 (l : Launch) (G : qp_G) {d : Nat} (hd : 1 ≤ d) : qp_Met l G d 2 [.int 4, .int 0] (cI8, cJ0, cP3, qp_S0, 5, 266) 0 0 (qc_R (some (.int 4)) (cI8, cJ0, cP3, qp_S0, 5, 266)) := by
  have hd1 : Nat.ble 1 d = true := Nat.ble_eq_true_of_le (Nat.le_trans (by decide) hd)
  refine qp_Met_of (by decide) (by rw [qp_r2.2]; rfl) [some (.int 4), some (.int 0)] (by rw [qp_r2.2]; rfl) ?_
  refine qp_run_E qp_ok2 2 (c' := (2, [some (.int 4), some (.int 0)], [.int 0, .int 4], (cI8, cJ0, cP3, qp_S0, 5, 266))) (by with_unfolding_all rfl) hd1 trivial ?_
  refine qp_br_E qp_ok2 (f := (4 : Int32) < (0 : Int32)) (ct := (9, [some (.int 4), some (.int 0)], [], (cI8, cJ0, cP3, qp_S0, 5, 266))) (cf := (5, [some (.int 4), some (.int 0)], [], (cI8, cJ0, cP3, qp_S0, 5, 266))) (by with_unfolding_all rfl) (fun h1 => absurd h1 (by decide)) (fun _ => ?_)
  refine qp_run_E qp_ok2 2 (c' := (10, [some (.int 4), some (.int 0)], [.int 4], (cI8, cJ0, cP3, qp_S0, 5, 266))) (by with_unfolding_all rfl) hd1 trivial ?_
  exact qp_retI_E qp_ok2 rfl qp_r2.1 ⟨rfl, rfl⟩ ⟨rfl, rfl⟩
def cP4 : Nat → Nat → Option Nat := qp_up cP3 4 1 (some 5)
set_option maxRecDepth 8000 in
theorem cG7 (l : Launch) (G : qp_G) {d : Nat} (hd : 1 ≤ d) : qp_Met l G d 2 [.int (4 * 60), .int 0] (cI8, cJ0, cP4, qp_S0, 6, 270) 0 0 (qc_R (some (.int (4 * 60))) (cI8, cJ0, cP4, qp_S0, 6, 270)) := by
  have hd1 : Nat.ble 1 d = true := Nat.ble_eq_true_of_le (Nat.le_trans (by decide) hd)
  refine qp_Met_of (by decide) (by rw [qp_r2.2]; rfl) [some (.int (4 * 60)), some (.int 0)] (by rw [qp_r2.2]; rfl) ?_
  refine qp_run_E qp_ok2 2 (c' := (2, [some (.int (4 * 60)), some (.int 0)], [.int 0, .int (4 * 60)], (cI8, cJ0, cP4, qp_S0, 6, 270))) (by with_unfolding_all rfl) hd1 trivial ?_
  refine qp_br_E qp_ok2 (f := ((4 * 60) : Int32) < (0 : Int32)) (ct := (9, [some (.int (4 * 60)), some (.int 0)], [], (cI8, cJ0, cP4, qp_S0, 6, 270))) (cf := (5, [some (.int (4 * 60)), some (.int 0)], [], (cI8, cJ0, cP4, qp_S0, 6, 270))) (by with_unfolding_all rfl) (fun h1 => absurd h1 (by decide)) (fun _ => ?_)
  refine qp_run_E qp_ok2 2 (c' := (10, [some (.int (4 * 60)), some (.int 0)], [.int (4 * 60)], (cI8, cJ0, cP4, qp_S0, 6, 270))) (by with_unfolding_all rfl) hd1 trivial ?_
  exact qp_retI_E qp_ok2 rfl qp_r2.1 ⟨rfl, rfl⟩ ⟨rfl, rfl⟩
def cP5 : Nat → Nat → Option Nat := qp_up cP4 4 2 (some 6)
def cI9 : Nat → Nat → Int32 := qp_up cI8 5 (Int32.toNatClampNeg 0) (-1)
def cI10 : Nat → Nat → Int32 := qp_up cI9 5 (Int32.toNatClampNeg (0 + 1)) (-1)
def cI11 : Nat → Nat → Int32 := qp_up cI10 5 (Int32.toNatClampNeg ((0 + 1) + 1)) (-1)
def cI12 : Nat → Nat → Int32 := qp_up cI11 5 (Int32.toNatClampNeg (((0 + 1) + 1) + 1)) (-1)
set_option maxRecDepth 8000 in
theorem cG5 (l : Launch) (G : qp_G) {d : Nat} (hd : 2 ≤ d) : qp_Met l G d 1 [.ref 4, .int 4, .int 60] (cI7, cJ0, cP3, qp_S0, 5, 266) 2 244 (qc_R none (cI12, cJ0, cP5, qp_S0, 7, 510)) := by
  have hd1 : Nat.ble 1 d = true := Nat.ble_eq_true_of_le (Nat.le_trans (by decide) hd)
  refine qp_Met_of (by decide) (by rw [qp_r1.2]; rfl) [some (.ref 4), some (.int 4), some (.int 60), none] (by rw [qp_r1.2]; rfl) ?_
  refine qp_run_E qp_ok1 5 (c' := (9, [some (.ref 4), some (.int 4), some (.int 60), none], [], (cI8, cJ0, cP3, qp_S0, 5, 266))) (by with_unfolding_all rfl) hd1 trivial ?_
  refine qp_run_E qp_ok1 3 (c' := (12, [some (.ref 4), some (.int 4), some (.int 60), none], [.int 0, .int 4, .ref 4], (cI8, cJ0, cP3, qp_S0, 5, 266))) (by with_unfolding_all rfl) hd1 trivial ?_
  refine qc_cS qp_ok1 (rest := [.ref 4]) (n := 5) (q := 266) qp_f2 rfl rfl (cG6 l G (Nat.le_refl 1)) rfl rfl rfl (Nat.le_trans (by decide) hd) (by decide +kernel) ?_
  show qp_E l G d 1 (cI7, cJ0, cP3, qp_S0, 5, 266) 2 244 _ (15, [some (.ref 4), some (.int 4), some (.int 60), none], [.int 4, .ref 4], (cI8, cJ0, cP3, qp_S0, 5, 266))
  refine qc_newI qp_ok1 (n := 5) (q := 266) (k := 4) rfl ⟨by decide, by decide, rfl⟩ (fun _ => rfl) (fun _ => rfl) (fun _ => rfl) rfl (by decide +kernel) hd1 ?_
  show qp_E l G d 1 (cI7, cJ0, cP3, qp_S0, 5, 266) 2 244 _ (17, [some (.ref 4), some (.int 4), some (.int 60), none], [.ref 5, .ref 4], (cI8, cJ0, cP3, qp_S0, 6, 270))
  refine qp_run_E qp_ok1 1 (c' := (20, [some (.ref 4), some (.int 4), some (.int 60), none], [], (cI8, cJ0, cP4, qp_S0, 6, 270))) (by with_unfolding_all rfl) hd1 trivial ?_
  refine qp_run_E qp_ok1 5 (c' := (25, [some (.ref 4), some (.int 4), some (.int 60), none], [.int 0, .int (4 * 60), .ref 4], (cI8, cJ0, cP4, qp_S0, 6, 270))) (by with_unfolding_all rfl) hd1 trivial ?_
  refine qc_cS qp_ok1 (rest := [.ref 4]) (n := 6) (q := 270) qp_f2 rfl rfl (cG7 l G (Nat.le_refl 1)) rfl rfl rfl (Nat.le_trans (by decide) hd) (by decide +kernel) ?_
  show qp_E l G d 1 (cI7, cJ0, cP3, qp_S0, 5, 266) 2 244 _ (28, [some (.ref 4), some (.int 4), some (.int 60), none], [.int (4 * 60), .ref 4], (cI8, cJ0, cP4, qp_S0, 6, 270))
  refine qc_newI qp_ok1 (n := 6) (q := 270) (k := 240) rfl ⟨by decide, by decide, rfl⟩ (fun _ => rfl) (fun _ => rfl) (fun _ => rfl) rfl (by decide +kernel) hd1 ?_
  show qp_E l G d 1 (cI7, cJ0, cP3, qp_S0, 5, 266) 2 244 _ (30, [some (.ref 4), some (.int 4), some (.int 60), none], [.ref 6, .ref 4], (cI8, cJ0, cP4, qp_S0, 7, 510))
  refine qp_run_E qp_ok1 1 (c' := (33, [some (.ref 4), some (.int 4), some (.int 60), none], [], (cI8, cJ0, cP5, qp_S0, 7, 510))) (by with_unfolding_all rfl) hd1 trivial ?_
  refine qp_run_E qp_ok1 6 (c' := (41, [some (.ref 4), some (.int 4), some (.int 60), some (.int 0)], [.int 4, .int 0], (cI8, cJ0, cP5, qp_S0, 7, 510))) (by with_unfolding_all rfl) hd1 trivial ?_
  refine qp_br_E qp_ok1 (f := (4 : Int32) ≤ (0 : Int32)) (ct := (57, [some (.ref 4), some (.int 4), some (.int 60), some (.int 0)], [], (cI8, cJ0, cP5, qp_S0, 7, 510))) (cf := (44, [some (.ref 4), some (.int 4), some (.int 60), some (.int 0)], [], (cI8, cJ0, cP5, qp_S0, 7, 510))) (by with_unfolding_all rfl) (fun h1 => absurd h1 (by decide)) (fun _ => ?_)
  refine qp_run_E qp_ok1 5 (f := (vp_in 0 4 ∧ True)) (c' := (51, [some (.ref 4), some (.int 4), some (.int 60), some (.int 0)], [], (cI9, cJ0, cP5, qp_S0, 7, 510))) (by with_unfolding_all rfl) hd1 ⟨vp_in_iff.mpr (by decide), trivial⟩ ?_
  refine qp_run_E qp_ok1 6 (c' := (41, [some (.ref 4), some (.int 4), some (.int 60), some (.int (0 + 1))], [.int 4, .int (0 + 1)], (cI9, cJ0, cP5, qp_S0, 7, 510))) (by with_unfolding_all rfl) hd1 trivial ?_
  refine qp_br_E qp_ok1 (f := (4 : Int32) ≤ ((0 + 1) : Int32)) (ct := (57, [some (.ref 4), some (.int 4), some (.int 60), some (.int (0 + 1))], [], (cI9, cJ0, cP5, qp_S0, 7, 510))) (cf := (44, [some (.ref 4), some (.int 4), some (.int 60), some (.int (0 + 1))], [], (cI9, cJ0, cP5, qp_S0, 7, 510))) (by with_unfolding_all rfl) (fun h1 => absurd h1 (by decide)) (fun _ => ?_)
  refine qp_run_E qp_ok1 5 (f := (vp_in (0 + 1) 4 ∧ True)) (c' := (51, [some (.ref 4), some (.int 4), some (.int 60), some (.int (0 + 1))], [], (cI10, cJ0, cP5, qp_S0, 7, 510))) (by with_unfolding_all rfl) hd1 ⟨vp_in_iff.mpr (by decide), trivial⟩ ?_
  refine qp_run_E qp_ok1 6 (c' := (41, [some (.ref 4), some (.int 4), some (.int 60), some (.int ((0 + 1) + 1))], [.int 4, .int ((0 + 1) + 1)], (cI10, cJ0, cP5, qp_S0, 7, 510))) (by with_unfolding_all rfl) hd1 trivial ?_
  refine qp_br_E qp_ok1 (f := (4 : Int32) ≤ (((0 + 1) + 1) : Int32)) (ct := (57, [some (.ref 4), some (.int 4), some (.int 60), some (.int ((0 + 1) + 1))], [], (cI10, cJ0, cP5, qp_S0, 7, 510))) (cf := (44, [some (.ref 4), some (.int 4), some (.int 60), some (.int ((0 + 1) + 1))], [], (cI10, cJ0, cP5, qp_S0, 7, 510))) (by with_unfolding_all rfl) (fun h1 => absurd h1 (by decide)) (fun _ => ?_)
  refine qp_run_E qp_ok1 5 (f := (vp_in ((0 + 1) + 1) 4 ∧ True)) (c' := (51, [some (.ref 4), some (.int 4), some (.int 60), some (.int ((0 + 1) + 1))], [], (cI11, cJ0, cP5, qp_S0, 7, 510))) (by with_unfolding_all rfl) hd1 ⟨vp_in_iff.mpr (by decide), trivial⟩ ?_
  refine qp_run_E qp_ok1 6 (c' := (41, [some (.ref 4), some (.int 4), some (.int 60), some (.int (((0 + 1) + 1) + 1))], [.int 4, .int (((0 + 1) + 1) + 1)], (cI11, cJ0, cP5, qp_S0, 7, 510))) (by with_unfolding_all rfl) hd1 trivial ?_
  refine qp_br_E qp_ok1 (f := (4 : Int32) ≤ ((((0 + 1) + 1) + 1) : Int32)) (ct := (57, [some (.ref 4), some (.int 4), some (.int 60), some (.int (((0 + 1) + 1) + 1))], [], (cI11, cJ0, cP5, qp_S0, 7, 510))) (cf := (44, [some (.ref 4), some (.int 4), some (.int 60), some (.int (((0 + 1) + 1) + 1))], [], (cI11, cJ0, cP5, qp_S0, 7, 510))) (by with_unfolding_all rfl) (fun h1 => absurd h1 (by decide)) (fun _ => ?_)
  refine qp_run_E qp_ok1 5 (f := (vp_in (((0 + 1) + 1) + 1) 4 ∧ True)) (c' := (51, [some (.ref 4), some (.int 4), some (.int 60), some (.int (((0 + 1) + 1) + 1))], [], (cI12, cJ0, cP5, qp_S0, 7, 510))) (by with_unfolding_all rfl) hd1 ⟨vp_in_iff.mpr (by decide), trivial⟩ ?_
  refine qp_run_E qp_ok1 6 (c' := (41, [some (.ref 4), some (.int 4), some (.int 60), some (.int ((((0 + 1) + 1) + 1) + 1))], [.int 4, .int ((((0 + 1) + 1) + 1) + 1)], (cI12, cJ0, cP5, qp_S0, 7, 510))) (by with_unfolding_all rfl) hd1 trivial ?_
  refine qp_br_E qp_ok1 (f := (4 : Int32) ≤ (((((0 + 1) + 1) + 1) + 1) : Int32)) (ct := (57, [some (.ref 4), some (.int 4), some (.int 60), some (.int ((((0 + 1) + 1) + 1) + 1))], [], (cI12, cJ0, cP5, qp_S0, 7, 510))) (cf := (44, [some (.ref 4), some (.int 4), some (.int 60), some (.int ((((0 + 1) + 1) + 1) + 1))], [], (cI12, cJ0, cP5, qp_S0, 7, 510))) (by with_unfolding_all rfl) (fun _ => ?_) (fun h1 => absurd (by decide) h1)
  exact qp_retV_E qp_ok1 rfl qp_r1.1 ⟨rfl, rfl⟩ ⟨rfl, rfl⟩
def cP6 : Nat → Nat → Option Nat := qp_up cP5 0 1 (some 4)
def cI13 : Nat → Nat → Int32 := qp_up cI12 7 0 40
set_option maxRecDepth 8000 in
theorem cG9 (l : Launch) (G : qp_G) {d : Nat} (hd : 1 ≤ d) : qp_Met l G d 2 [.int 3, .int 0] (cI13, cJ0, cP6, qp_S0, 8, 513) 0 0 (qc_R (some (.int 3)) (cI13, cJ0, cP6, qp_S0, 8, 513)) := by
  have hd1 : Nat.ble 1 d = true := Nat.ble_eq_true_of_le (Nat.le_trans (by decide) hd)
  refine qp_Met_of (by decide) (by rw [qp_r2.2]; rfl) [some (.int 3), some (.int 0)] (by rw [qp_r2.2]; rfl) ?_
  refine qp_run_E qp_ok2 2 (c' := (2, [some (.int 3), some (.int 0)], [.int 0, .int 3], (cI13, cJ0, cP6, qp_S0, 8, 513))) (by with_unfolding_all rfl) hd1 trivial ?_
  refine qp_br_E qp_ok2 (f := (3 : Int32) < (0 : Int32)) (ct := (9, [some (.int 3), some (.int 0)], [], (cI13, cJ0, cP6, qp_S0, 8, 513))) (cf := (5, [some (.int 3), some (.int 0)], [], (cI13, cJ0, cP6, qp_S0, 8, 513))) (by with_unfolding_all rfl) (fun h1 => absurd h1 (by decide)) (fun _ => ?_)
  refine qp_run_E qp_ok2 2 (c' := (10, [some (.int 3), some (.int 0)], [.int 3], (cI13, cJ0, cP6, qp_S0, 8, 513))) (by with_unfolding_all rfl) hd1 trivial ?_
  exact qp_retI_E qp_ok2 rfl qp_r2.1 ⟨rfl, rfl⟩ ⟨rfl, rfl⟩
def cP7 : Nat → Nat → Option Nat := qp_up cP6 7 1 (some 8)
set_option maxRecDepth 8000 in
theorem cG10 (l : Launch) (G : qp_G) {d : Nat} (hd : 1 ≤ d) : qp_Met l G d 2 [.int (3 * 40), .int 0] (cI13, cJ0, cP7, qp_S0, 9, 516) 0 0 (qc_R (some (.int (3 * 40))) (cI13, cJ0, cP7, qp_S0, 9, 516)) := by
  have hd1 : Nat.ble 1 d = true := Nat.ble_eq_true_of_le (Nat.le_trans (by decide) hd)
  refine qp_Met_of (by decide) (by rw [qp_r2.2]; rfl) [some (.int (3 * 40)), some (.int 0)] (by rw [qp_r2.2]; rfl) ?_
  refine qp_run_E qp_ok2 2 (c' := (2, [some (.int (3 * 40)), some (.int 0)], [.int 0, .int (3 * 40)], (cI13, cJ0, cP7, qp_S0, 9, 516))) (by with_unfolding_all rfl) hd1 trivial ?_
  refine qp_br_E qp_ok2 (f := ((3 * 40) : Int32) < (0 : Int32)) (ct := (9, [some (.int (3 * 40)), some (.int 0)], [], (cI13, cJ0, cP7, qp_S0, 9, 516))) (cf := (5, [some (.int (3 * 40)), some (.int 0)], [], (cI13, cJ0, cP7, qp_S0, 9, 516))) (by with_unfolding_all rfl) (fun h1 => absurd h1 (by decide)) (fun _ => ?_)
  refine qp_run_E qp_ok2 2 (c' := (10, [some (.int (3 * 40)), some (.int 0)], [.int (3 * 40)], (cI13, cJ0, cP7, qp_S0, 9, 516))) (by with_unfolding_all rfl) hd1 trivial ?_
  exact qp_retI_E qp_ok2 rfl qp_r2.1 ⟨rfl, rfl⟩ ⟨rfl, rfl⟩
def cP8 : Nat → Nat → Option Nat := qp_up cP7 7 2 (some 9)
def cI14 : Nat → Nat → Int32 := qp_up cI13 8 (Int32.toNatClampNeg 0) (-1)
def cI15 : Nat → Nat → Int32 := qp_up cI14 8 (Int32.toNatClampNeg (0 + 1)) (-1)
def cI16 : Nat → Nat → Int32 := qp_up cI15 8 (Int32.toNatClampNeg ((0 + 1) + 1)) (-1)
set_option maxRecDepth 8000 in
theorem cG8 (l : Launch) (G : qp_G) {d : Nat} (hd : 2 ≤ d) : qp_Met l G d 1 [.ref 7, .int 3, .int 40] (cI12, cJ0, cP6, qp_S0, 8, 513) 2 123 (qc_R none (cI16, cJ0, cP8, qp_S0, 10, 636)) := by
  have hd1 : Nat.ble 1 d = true := Nat.ble_eq_true_of_le (Nat.le_trans (by decide) hd)
  refine qp_Met_of (by decide) (by rw [qp_r1.2]; rfl) [some (.ref 7), some (.int 3), some (.int 40), none] (by rw [qp_r1.2]; rfl) ?_
  refine qp_run_E qp_ok1 5 (c' := (9, [some (.ref 7), some (.int 3), some (.int 40), none], [], (cI13, cJ0, cP6, qp_S0, 8, 513))) (by with_unfolding_all rfl) hd1 trivial ?_
  refine qp_run_E qp_ok1 3 (c' := (12, [some (.ref 7), some (.int 3), some (.int 40), none], [.int 0, .int 3, .ref 7], (cI13, cJ0, cP6, qp_S0, 8, 513))) (by with_unfolding_all rfl) hd1 trivial ?_
  refine qc_cS qp_ok1 (rest := [.ref 7]) (n := 8) (q := 513) qp_f2 rfl rfl (cG9 l G (Nat.le_refl 1)) rfl rfl rfl (Nat.le_trans (by decide) hd) (by decide +kernel) ?_
  show qp_E l G d 1 (cI12, cJ0, cP6, qp_S0, 8, 513) 2 123 _ (15, [some (.ref 7), some (.int 3), some (.int 40), none], [.int 3, .ref 7], (cI13, cJ0, cP6, qp_S0, 8, 513))
  refine qc_newI qp_ok1 (n := 8) (q := 513) (k := 3) rfl ⟨by decide, by decide, rfl⟩ (fun _ => rfl) (fun _ => rfl) (fun _ => rfl) rfl (by decide +kernel) hd1 ?_
  show qp_E l G d 1 (cI12, cJ0, cP6, qp_S0, 8, 513) 2 123 _ (17, [some (.ref 7), some (.int 3), some (.int 40), none], [.ref 8, .ref 7], (cI13, cJ0, cP6, qp_S0, 9, 516))
  refine qp_run_E qp_ok1 1 (c' := (20, [some (.ref 7), some (.int 3), some (.int 40), none], [], (cI13, cJ0, cP7, qp_S0, 9, 516))) (by with_unfolding_all rfl) hd1 trivial ?_
  refine qp_run_E qp_ok1 5 (c' := (25, [some (.ref 7), some (.int 3), some (.int 40), none], [.int 0, .int (3 * 40), .ref 7], (cI13, cJ0, cP7, qp_S0, 9, 516))) (by with_unfolding_all rfl) hd1 trivial ?_
  refine qc_cS qp_ok1 (rest := [.ref 7]) (n := 9) (q := 516) qp_f2 rfl rfl (cG10 l G (Nat.le_refl 1)) rfl rfl rfl (Nat.le_trans (by decide) hd) (by decide +kernel) ?_
  show qp_E l G d 1 (cI12, cJ0, cP6, qp_S0, 8, 513) 2 123 _ (28, [some (.ref 7), some (.int 3), some (.int 40), none], [.int (3 * 40), .ref 7], (cI13, cJ0, cP7, qp_S0, 9, 516))
  refine qc_newI qp_ok1 (n := 9) (q := 516) (k := 120) rfl ⟨by decide, by decide, rfl⟩ (fun _ => rfl) (fun _ => rfl) (fun _ => rfl) rfl (by decide +kernel) hd1 ?_
  show qp_E l G d 1 (cI12, cJ0, cP6, qp_S0, 8, 513) 2 123 _ (30, [some (.ref 7), some (.int 3), some (.int 40), none], [.ref 9, .ref 7], (cI13, cJ0, cP7, qp_S0, 10, 636))
  refine qp_run_E qp_ok1 1 (c' := (33, [some (.ref 7), some (.int 3), some (.int 40), none], [], (cI13, cJ0, cP8, qp_S0, 10, 636))) (by with_unfolding_all rfl) hd1 trivial ?_
  refine qp_run_E qp_ok1 6 (c' := (41, [some (.ref 7), some (.int 3), some (.int 40), some (.int 0)], [.int 3, .int 0], (cI13, cJ0, cP8, qp_S0, 10, 636))) (by with_unfolding_all rfl) hd1 trivial ?_
  refine qp_br_E qp_ok1 (f := (3 : Int32) ≤ (0 : Int32)) (ct := (57, [some (.ref 7), some (.int 3), some (.int 40), some (.int 0)], [], (cI13, cJ0, cP8, qp_S0, 10, 636))) (cf := (44, [some (.ref 7), some (.int 3), some (.int 40), some (.int 0)], [], (cI13, cJ0, cP8, qp_S0, 10, 636))) (by with_unfolding_all rfl) (fun h1 => absurd h1 (by decide)) (fun _ => ?_)
  refine qp_run_E qp_ok1 5 (f := (vp_in 0 3 ∧ True)) (c' := (51, [some (.ref 7), some (.int 3), some (.int 40), some (.int 0)], [], (cI14, cJ0, cP8, qp_S0, 10, 636))) (by with_unfolding_all rfl) hd1 ⟨vp_in_iff.mpr (by decide), trivial⟩ ?_
  refine qp_run_E qp_ok1 6 (c' := (41, [some (.ref 7), some (.int 3), some (.int 40), some (.int (0 + 1))], [.int 3, .int (0 + 1)], (cI14, cJ0, cP8, qp_S0, 10, 636))) (by with_unfolding_all rfl) hd1 trivial ?_
  refine qp_br_E qp_ok1 (f := (3 : Int32) ≤ ((0 + 1) : Int32)) (ct := (57, [some (.ref 7), some (.int 3), some (.int 40), some (.int (0 + 1))], [], (cI14, cJ0, cP8, qp_S0, 10, 636))) (cf := (44, [some (.ref 7), some (.int 3), some (.int 40), some (.int (0 + 1))], [], (cI14, cJ0, cP8, qp_S0, 10, 636))) (by with_unfolding_all rfl) (fun h1 => absurd h1 (by decide)) (fun _ => ?_)
  refine qp_run_E qp_ok1 5 (f := (vp_in (0 + 1) 3 ∧ True)) (c' := (51, [some (.ref 7), some (.int 3), some (.int 40), some (.int (0 + 1))], [], (cI15, cJ0, cP8, qp_S0, 10, 636))) (by with_unfolding_all rfl) hd1 ⟨vp_in_iff.mpr (by decide), trivial⟩ ?_
  refine qp_run_E qp_ok1 6 (c' := (41, [some (.ref 7), some (.int 3), some (.int 40), some (.int ((0 + 1) + 1))], [.int 3, .int ((0 + 1) + 1)], (cI15, cJ0, cP8, qp_S0, 10, 636))) (by with_unfolding_all rfl) hd1 trivial ?_
  refine qp_br_E qp_ok1 (f := (3 : Int32) ≤ (((0 + 1) + 1) : Int32)) (ct := (57, [some (.ref 7), some (.int 3), some (.int 40), some (.int ((0 + 1) + 1))], [], (cI15, cJ0, cP8, qp_S0, 10, 636))) (cf := (44, [some (.ref 7), some (.int 3), some (.int 40), some (.int ((0 + 1) + 1))], [], (cI15, cJ0, cP8, qp_S0, 10, 636))) (by with_unfolding_all rfl) (fun h1 => absurd h1 (by decide)) (fun _ => ?_)
  refine qp_run_E qp_ok1 5 (f := (vp_in ((0 + 1) + 1) 3 ∧ True)) (c' := (51, [some (.ref 7), some (.int 3), some (.int 40), some (.int ((0 + 1) + 1))], [], (cI16, cJ0, cP8, qp_S0, 10, 636))) (by with_unfolding_all rfl) hd1 ⟨vp_in_iff.mpr (by decide), trivial⟩ ?_
  refine qp_run_E qp_ok1 6 (c' := (41, [some (.ref 7), some (.int 3), some (.int 40), some (.int (((0 + 1) + 1) + 1))], [.int 3, .int (((0 + 1) + 1) + 1)], (cI16, cJ0, cP8, qp_S0, 10, 636))) (by with_unfolding_all rfl) hd1 trivial ?_
  refine qp_br_E qp_ok1 (f := (3 : Int32) ≤ ((((0 + 1) + 1) + 1) : Int32)) (ct := (57, [some (.ref 7), some (.int 3), some (.int 40), some (.int (((0 + 1) + 1) + 1))], [], (cI16, cJ0, cP8, qp_S0, 10, 636))) (cf := (44, [some (.ref 7), some (.int 3), some (.int 40), some (.int (((0 + 1) + 1) + 1))], [], (cI16, cJ0, cP8, qp_S0, 10, 636))) (by with_unfolding_all rfl) (fun _ => ?_) (fun h1 => absurd (by decide) h1)
  exact qp_retV_E qp_ok1 rfl qp_r1.1 ⟨rfl, rfl⟩ ⟨rfl, rfl⟩
def cP9 : Nat → Nat → Option Nat := qp_up cP8 0 2 (some 7)
def cP10 : Nat → Nat → Option Nat := qp_up cP9 11 2 (some 12)
def cP11 : Nat → Nat → Option Nat := qp_up cP10 11 3 (some 13)
set_option maxRecDepth 8000 in
theorem cG12 (l : Launch) (G : qp_G) {d : Nat} (hd : 1 ≤ d) : qp_Met l G d 4 [.ref 11] (cI16, cJ0, cP9, qp_S0, 12, 644) 2 12 (qc_R none (cI16, cJ0, cP11, qp_S0, 14, 656)) := by
  have hd1 : Nat.ble 1 d = true := Nat.ble_eq_true_of_le (Nat.le_trans (by decide) hd)
  refine qp_Met_of (by decide) (by rw [qp_r4.2]; rfl) [some (.ref 11)] (by rw [qp_r4.2]; rfl) ?_
  refine qp_run_E qp_ok4 4 (c' := (7, [some (.ref 11)], [.int 6, .ref 11], (cI16, cJ0, cP9, qp_S0, 12, 644))) (by with_unfolding_all rfl) hd1 trivial ?_
  refine qc_newI qp_ok4 (n := 12) (q := 644) (k := 6) rfl ⟨by decide, by decide, rfl⟩ (fun _ => rfl) (fun _ => rfl) (fun _ => rfl) rfl (by decide +kernel) hd1 ?_
  show qp_E l G d 4 (cI16, cJ0, cP9, qp_S0, 12, 644) 2 12 _ (9, [some (.ref 11)], [.ref 12, .ref 11], (cI16, cJ0, cP9, qp_S0, 13, 650))
  refine qp_run_E qp_ok4 1 (c' := (12, [some (.ref 11)], [], (cI16, cJ0, cP10, qp_S0, 13, 650))) (by with_unfolding_all rfl) hd1 trivial ?_
  refine qp_run_E qp_ok4 2 (c' := (15, [some (.ref 11)], [.int 6, .ref 11], (cI16, cJ0, cP10, qp_S0, 13, 650))) (by with_unfolding_all rfl) hd1 trivial ?_
  refine qc_newI qp_ok4 (n := 13) (q := 650) (k := 6) rfl ⟨by decide, by decide, rfl⟩ (fun _ => rfl) (fun _ => rfl) (fun _ => rfl) rfl (by decide +kernel) hd1 ?_
  show qp_E l G d 4 (cI16, cJ0, cP9, qp_S0, 12, 644) 2 12 _ (17, [some (.ref 11)], [.ref 13, .ref 11], (cI16, cJ0, cP10, qp_S0, 14, 656))
  refine qp_run_E qp_ok4 1 (c' := (20, [some (.ref 11)], [], (cI16, cJ0, cP11, qp_S0, 14, 656))) (by with_unfolding_all rfl) hd1 trivial ?_
  exact qp_retV_E qp_ok4 rfl qp_r4.1 ⟨rfl, rfl⟩ ⟨rfl, rfl⟩
def cP12 : Nat → Nat → Option Nat := qp_up cP11 10 0 (some 11)
def cP13 : Nat → Nat → Option Nat := qp_up cP12 10 1 (some 4)
set_option maxRecDepth 8000 in
theorem cG11 (l : Launch) (G : qp_G) {d : Nat} (hd : 2 ≤ d) : qp_Met l G d 3 [.ref 10, .ref 4] (cI16, cJ0, cP9, qp_S0, 11, 640) 3 16 (qc_R none (cI16, cJ0, cP13, qp_S0, 14, 656)) := by
  have hd1 : Nat.ble 1 d = true := Nat.ble_eq_true_of_le (Nat.le_trans (by decide) hd)
  refine qp_Met_of (by decide) (by rw [qp_r3.2]; rfl) [some (.ref 10), some (.ref 4)] (by rw [qp_r3.2]; rfl) ?_
  refine qp_run_E qp_ok3 3 (c' := (5, [some (.ref 10), some (.ref 4)], [.ref 10], (cI16, cJ0, cP9, qp_S0, 11, 640))) (by with_unfolding_all rfl) hd1 trivial ?_
  refine qc_new qp_ok3 (t := 3) (n := 11) (q := 640) rfl (fun _ => rfl) (fun _ => rfl) (fun _ => rfl) rfl (by decide +kernel) hd1 ?_
  show qp_E l G d 3 (cI16, cJ0, cP9, qp_S0, 11, 640) 3 16 _ (8, [some (.ref 10), some (.ref 4)], [.ref 11, .ref 10], (cI16, cJ0, cP9, qp_S0, 12, 644))
  refine qp_run_E qp_ok3 1 (c' := (9, [some (.ref 10), some (.ref 4)], [.ref 11, .ref 11, .ref 10], (cI16, cJ0, cP9, qp_S0, 12, 644))) (by with_unfolding_all rfl) hd1 trivial ?_
  refine qc_cI qp_ok3 (rest := [.ref 11, .ref 10]) (n := 12) (q := 644) (n1 := 14) (q1 := 656) qp_f4 rfl rfl qp_r4.1 (cG12 l G (Nat.le_refl 1)) rfl rfl rfl (Nat.le_trans (by decide) hd) (by decide +kernel) (by decide +kernel) ?_
  show qp_E l G d 3 (cI16, cJ0, cP9, qp_S0, 11, 640) 3 16 _ (12, [some (.ref 10), some (.ref 4)], [.ref 11, .ref 10], (cI16, cJ0, cP11, qp_S0, 14, 656))
  refine qp_run_E qp_ok3 1 (c' := (15, [some (.ref 10), some (.ref 4)], [], (cI16, cJ0, cP12, qp_S0, 14, 656))) (by with_unfolding_all rfl) hd1 trivial ?_
  refine qp_run_E qp_ok3 3 (c' := (20, [some (.ref 10), some (.ref 4)], [], (cI16, cJ0, cP13, qp_S0, 14, 656))) (by with_unfolding_all rfl) hd1 trivial ?_
  exact qp_retV_E qp_ok3 rfl qp_r3.1 ⟨rfl, rfl⟩ ⟨rfl, rfl⟩
def cP14 : Nat → Nat → Option Nat := qp_up cP13 0 3 (some 10)
def cP15 : Nat → Nat → Option Nat := qp_up cP14 15 2 (some 16)
def cP16 : Nat → Nat → Option Nat := qp_up cP15 15 3 (some 17)
set_option maxRecDepth 8000 in
theorem cG14 (l : Launch) (G : qp_G) {d : Nat} (hd : 1 ≤ d) : qp_Met l G d 4 [.ref 15] (cI16, cJ0, cP14, qp_S0, 16, 668) 2 12 (qc_R none (cI16, cJ0, cP16, qp_S0, 18, 680)) := by
  have hd1 : Nat.ble 1 d = true := Nat.ble_eq_true_of_le (Nat.le_trans (by decide) hd)
  refine qp_Met_of (by decide) (by rw [qp_r4.2]; rfl) [some (.ref 15)] (by rw [qp_r4.2]; rfl) ?_
  refine qp_run_E qp_ok4 4 (c' := (7, [some (.ref 15)], [.int 6, .ref 15], (cI16, cJ0, cP14, qp_S0, 16, 668))) (by with_unfolding_all rfl) hd1 trivial ?_
  refine qc_newI qp_ok4 (n := 16) (q := 668) (k := 6) rfl ⟨by decide, by decide, rfl⟩ (fun _ => rfl) (fun _ => rfl) (fun _ => rfl) rfl (by decide +kernel) hd1 ?_
  show qp_E l G d 4 (cI16, cJ0, cP14, qp_S0, 16, 668) 2 12 _ (9, [some (.ref 15)], [.ref 16, .ref 15], (cI16, cJ0, cP14, qp_S0, 17, 674))
  refine qp_run_E qp_ok4 1 (c' := (12, [some (.ref 15)], [], (cI16, cJ0, cP15, qp_S0, 17, 674))) (by with_unfolding_all rfl) hd1 trivial ?_
  refine qp_run_E qp_ok4 2 (c' := (15, [some (.ref 15)], [.int 6, .ref 15], (cI16, cJ0, cP15, qp_S0, 17, 674))) (by with_unfolding_all rfl) hd1 trivial ?_
  refine qc_newI qp_ok4 (n := 17) (q := 674) (k := 6) rfl ⟨by decide, by decide, rfl⟩ (fun _ => rfl) (fun _ => rfl) (fun _ => rfl) rfl (by decide +kernel) hd1 ?_
  show qp_E l G d 4 (cI16, cJ0, cP14, qp_S0, 16, 668) 2 12 _ (17, [some (.ref 15)], [.ref 17, .ref 15], (cI16, cJ0, cP15, qp_S0, 18, 680))
  refine qp_run_E qp_ok4 1 (c' := (20, [some (.ref 15)], [], (cI16, cJ0, cP16, qp_S0, 18, 680))) (by with_unfolding_all rfl) hd1 trivial ?_
  exact qp_retV_E qp_ok4 rfl qp_r4.1 ⟨rfl, rfl⟩ ⟨rfl, rfl⟩
def cP17 : Nat → Nat → Option Nat := qp_up cP16 14 0 (some 15)
def cP18 : Nat → Nat → Option Nat := qp_up cP17 18 6 (some 19)
def cP19 : Nat → Nat → Option Nat := qp_up cP18 18 7 (some 20)
def cP20 : Nat → Nat → Option Nat := qp_up cP19 18 8 (some 21)
def cP21 : Nat → Nat → Option Nat := qp_up cP20 18 9 (some 22)
def cP22 : Nat → Nat → Option Nat := qp_up cP21 18 2 (some 15)
set_option maxRecDepth 8000 in
theorem cG15 (l : Launch) (G : qp_G) {d : Nat} (hd : 1 ≤ d) : qp_Met l G d 6 [.ref 18, .ref 15] (cI16, cJ0, cP17, qp_S0, 19, 690) 4 24 (qc_R none (cI16, cJ0, cP22, qp_S0, 23, 714)) := by
  have hd1 : Nat.ble 1 d = true := Nat.ble_eq_true_of_le (Nat.le_trans (by decide) hd)
  refine qp_Met_of (by decide) (by rw [qp_r6.2]; rfl) [some (.ref 18), some (.ref 15)] (by rw [qp_r6.2]; rfl) ?_
  refine qp_run_E qp_ok6 4 (c' := (7, [some (.ref 18), some (.ref 15)], [.int 6, .ref 18], (cI16, cJ0, cP17, qp_S0, 19, 690))) (by with_unfolding_all rfl) hd1 trivial ?_
  refine qc_newI qp_ok6 (n := 19) (q := 690) (k := 6) rfl ⟨by decide, by decide, rfl⟩ (fun _ => rfl) (fun _ => rfl) (fun _ => rfl) rfl (by decide +kernel) hd1 ?_
  show qp_E l G d 6 (cI16, cJ0, cP17, qp_S0, 19, 690) 4 24 _ (9, [some (.ref 18), some (.ref 15)], [.ref 19, .ref 18], (cI16, cJ0, cP17, qp_S0, 20, 696))
  refine qp_run_E qp_ok6 1 (c' := (12, [some (.ref 18), some (.ref 15)], [], (cI16, cJ0, cP18, qp_S0, 20, 696))) (by with_unfolding_all rfl) hd1 trivial ?_
  refine qp_run_E qp_ok6 2 (c' := (15, [some (.ref 18), some (.ref 15)], [.int 6, .ref 18], (cI16, cJ0, cP18, qp_S0, 20, 696))) (by with_unfolding_all rfl) hd1 trivial ?_
  refine qc_newI qp_ok6 (n := 20) (q := 696) (k := 6) rfl ⟨by decide, by decide, rfl⟩ (fun _ => rfl) (fun _ => rfl) (fun _ => rfl) rfl (by decide +kernel) hd1 ?_
  show qp_E l G d 6 (cI16, cJ0, cP17, qp_S0, 19, 690) 4 24 _ (17, [some (.ref 18), some (.ref 15)], [.ref 20, .ref 18], (cI16, cJ0, cP18, qp_S0, 21, 702))
  refine qp_run_E qp_ok6 1 (c' := (20, [some (.ref 18), some (.ref 15)], [], (cI16, cJ0, cP19, qp_S0, 21, 702))) (by with_unfolding_all rfl) hd1 trivial ?_
  refine qp_run_E qp_ok6 2 (c' := (23, [some (.ref 18), some (.ref 15)], [.int 6, .ref 18], (cI16, cJ0, cP19, qp_S0, 21, 702))) (by with_unfolding_all rfl) hd1 trivial ?_
  refine qc_newI qp_ok6 (n := 21) (q := 702) (k := 6) rfl ⟨by decide, by decide, rfl⟩ (fun _ => rfl) (fun _ => rfl) (fun _ => rfl) rfl (by decide +kernel) hd1 ?_
  show qp_E l G d 6 (cI16, cJ0, cP17, qp_S0, 19, 690) 4 24 _ (25, [some (.ref 18), some (.ref 15)], [.ref 21, .ref 18], (cI16, cJ0, cP19, qp_S0, 22, 708))
  refine qp_run_E qp_ok6 1 (c' := (28, [some (.ref 18), some (.ref 15)], [], (cI16, cJ0, cP20, qp_S0, 22, 708))) (by with_unfolding_all rfl) hd1 trivial ?_
  refine qp_run_E qp_ok6 2 (c' := (31, [some (.ref 18), some (.ref 15)], [.int 6, .ref 18], (cI16, cJ0, cP20, qp_S0, 22, 708))) (by with_unfolding_all rfl) hd1 trivial ?_
  refine qc_newI qp_ok6 (n := 22) (q := 708) (k := 6) rfl ⟨by decide, by decide, rfl⟩ (fun _ => rfl) (fun _ => rfl) (fun _ => rfl) rfl (by decide +kernel) hd1 ?_
  show qp_E l G d 6 (cI16, cJ0, cP17, qp_S0, 19, 690) 4 24 _ (33, [some (.ref 18), some (.ref 15)], [.ref 22, .ref 18], (cI16, cJ0, cP20, qp_S0, 23, 714))
  refine qp_run_E qp_ok6 1 (c' := (36, [some (.ref 18), some (.ref 15)], [], (cI16, cJ0, cP21, qp_S0, 23, 714))) (by with_unfolding_all rfl) hd1 trivial ?_
  refine qp_run_E qp_ok6 3 (c' := (41, [some (.ref 18), some (.ref 15)], [], (cI16, cJ0, cP22, qp_S0, 23, 714))) (by with_unfolding_all rfl) hd1 trivial ?_
  exact qp_retV_E qp_ok6 rfl qp_r6.1 ⟨rfl, rfl⟩ ⟨rfl, rfl⟩
def cP23 : Nat → Nat → Option Nat := qp_up cP22 14 1 (some 18)
def cP24 : Nat → Nat → Option Nat := qp_up cP23 14 6 (some 23)
def cP25 : Nat → Nat → Option Nat := qp_up cP24 14 7 (some 24)
set_option maxRecDepth 8000 in
theorem cG13 (l : Launch) (G : qp_G) {d : Nat} (hd : 2 ≤ d) : qp_Met l G d 5 [.ref 14] (cI16, cJ0, cP14, qp_S0, 15, 664) 10 102 (qc_R none (cI16, cJ0, cP25, qp_S0, 25, 766)) := by
  have hd1 : Nat.ble 1 d = true := Nat.ble_eq_true_of_le (Nat.le_trans (by decide) hd)
  refine qp_Met_of (by decide) (by rw [qp_r5.2]; rfl) [some (.ref 14)] (by rw [qp_r5.2]; rfl) ?_
  refine qp_run_E qp_ok5 3 (c' := (5, [some (.ref 14)], [.ref 14], (cI16, cJ0, cP14, qp_S0, 15, 664))) (by with_unfolding_all rfl) hd1 trivial ?_
  refine qc_new qp_ok5 (t := 3) (n := 15) (q := 664) rfl (fun _ => rfl) (fun _ => rfl) (fun _ => rfl) rfl (by decide +kernel) hd1 ?_
  show qp_E l G d 5 (cI16, cJ0, cP14, qp_S0, 15, 664) 10 102 _ (8, [some (.ref 14)], [.ref 15, .ref 14], (cI16, cJ0, cP14, qp_S0, 16, 668))
  refine qp_run_E qp_ok5 1 (c' := (9, [some (.ref 14)], [.ref 15, .ref 15, .ref 14], (cI16, cJ0, cP14, qp_S0, 16, 668))) (by with_unfolding_all rfl) hd1 trivial ?_
  refine qc_cI qp_ok5 (rest := [.ref 15, .ref 14]) (n := 16) (q := 668) (n1 := 18) (q1 := 680) qp_f4 rfl rfl qp_r4.1 (cG14 l G (Nat.le_refl 1)) rfl rfl rfl (Nat.le_trans (by decide) hd) (by decide +kernel) (by decide +kernel) ?_
  show qp_E l G d 5 (cI16, cJ0, cP14, qp_S0, 15, 664) 10 102 _ (12, [some (.ref 14)], [.ref 15, .ref 14], (cI16, cJ0, cP16, qp_S0, 18, 680))
  refine qp_run_E qp_ok5 1 (c' := (15, [some (.ref 14)], [], (cI16, cJ0, cP17, qp_S0, 18, 680))) (by with_unfolding_all rfl) hd1 trivial ?_
  refine qp_run_E qp_ok5 1 (c' := (16, [some (.ref 14)], [.ref 14], (cI16, cJ0, cP17, qp_S0, 18, 680))) (by with_unfolding_all rfl) hd1 trivial ?_
  refine qc_new qp_ok5 (t := 5) (n := 18) (q := 680) rfl (fun _ => rfl) (fun _ => rfl) (fun _ => rfl) rfl (by decide +kernel) hd1 ?_
  show qp_E l G d 5 (cI16, cJ0, cP14, qp_S0, 15, 664) 10 102 _ (19, [some (.ref 14)], [.ref 18, .ref 14], (cI16, cJ0, cP17, qp_S0, 19, 690))
  refine qp_run_E qp_ok5 3 (c' := (24, [some (.ref 14)], [.ref 15, .ref 18, .ref 18, .ref 14], (cI16, cJ0, cP17, qp_S0, 19, 690))) (by with_unfolding_all rfl) hd1 trivial ?_
  refine qc_cI qp_ok5 (rest := [.ref 18, .ref 14]) (n := 19) (q := 690) (n1 := 23) (q1 := 714) qp_f6 rfl rfl qp_r6.1 (cG15 l G (Nat.le_refl 1)) rfl rfl rfl (Nat.le_trans (by decide) hd) (by decide +kernel) (by decide +kernel) ?_
  show qp_E l G d 5 (cI16, cJ0, cP14, qp_S0, 15, 664) 10 102 _ (27, [some (.ref 14)], [.ref 18, .ref 14], (cI16, cJ0, cP22, qp_S0, 23, 714))
  refine qp_run_E qp_ok5 1 (c' := (30, [some (.ref 14)], [], (cI16, cJ0, cP23, qp_S0, 23, 714))) (by with_unfolding_all rfl) hd1 trivial ?_
  refine qp_run_E qp_ok5 2 (c' := (33, [some (.ref 14)], [.int 12, .ref 14], (cI16, cJ0, cP23, qp_S0, 23, 714))) (by with_unfolding_all rfl) hd1 trivial ?_
  refine qc_newI qp_ok5 (n := 23) (q := 714) (k := 12) rfl ⟨by decide, by decide, rfl⟩ (fun _ => rfl) (fun _ => rfl) (fun _ => rfl) rfl (by decide +kernel) hd1 ?_
  show qp_E l G d 5 (cI16, cJ0, cP14, qp_S0, 15, 664) 10 102 _ (35, [some (.ref 14)], [.ref 23, .ref 14], (cI16, cJ0, cP23, qp_S0, 24, 726))
  refine qp_run_E qp_ok5 1 (c' := (38, [some (.ref 14)], [], (cI16, cJ0, cP24, qp_S0, 24, 726))) (by with_unfolding_all rfl) hd1 trivial ?_
  refine qp_run_E qp_ok5 2 (c' := (41, [some (.ref 14)], [.int 40, .ref 14], (cI16, cJ0, cP24, qp_S0, 24, 726))) (by with_unfolding_all rfl) hd1 trivial ?_
  refine qc_newI qp_ok5 (n := 24) (q := 726) (k := 40) rfl ⟨by decide, by decide, rfl⟩ (fun _ => rfl) (fun _ => rfl) (fun _ => rfl) rfl (by decide +kernel) hd1 ?_
  show qp_E l G d 5 (cI16, cJ0, cP14, qp_S0, 15, 664) 10 102 _ (43, [some (.ref 14)], [.ref 24, .ref 14], (cI16, cJ0, cP24, qp_S0, 25, 766))
  refine qp_run_E qp_ok5 1 (c' := (46, [some (.ref 14)], [], (cI16, cJ0, cP25, qp_S0, 25, 766))) (by with_unfolding_all rfl) hd1 trivial ?_
  exact qp_retV_E qp_ok5 rfl qp_r5.1 ⟨rfl, rfl⟩ ⟨rfl, rfl⟩
def cP26 : Nat → Nat → Option Nat := qp_up cP25 0 4 (some 14)
def cP27 : Nat → Nat → Option Nat := qp_up cP26 25 1 (some 26)
def cP28 : Nat → Nat → Option Nat := qp_up cP27 25 2 (some 27)
def cP29 : Nat → Nat → Option Nat := qp_up cP28 25 3 (some 28)
def cP30 : Nat → Nat → Option Nat := qp_up cP29 25 0 (some 14)
set_option maxRecDepth 8000 in
theorem cG16 (l : Launch) (G : qp_G) {d : Nat} (hd : 1 ≤ d) : qp_Met l G d 7 [.ref 25, .ref 14] (cI16, cJ0, cP26, qp_S0, 26, 772) 3 2160 (qc_R none (cI16, cJ0, cP30, qp_S0, 29, 2932)) := by
  have hd1 : Nat.ble 1 d = true := Nat.ble_eq_true_of_le (Nat.le_trans (by decide) hd)
  refine qp_Met_of (by decide) (by rw [qp_r7.2]; rfl) [some (.ref 25), some (.ref 14)] (by rw [qp_r7.2]; rfl) ?_
  refine qp_run_E qp_ok7 4 (c' := (8, [some (.ref 25), some (.ref 14)], [.int 720, .ref 25], (cI16, cJ0, cP26, qp_S0, 26, 772))) (by with_unfolding_all rfl) hd1 trivial ?_
  refine qc_newI qp_ok7 (n := 26) (q := 772) (k := 720) rfl ⟨by decide, by decide, rfl⟩ (fun _ => rfl) (fun _ => rfl) (fun _ => rfl) rfl (by decide +kernel) hd1 ?_
  show qp_E l G d 7 (cI16, cJ0, cP26, qp_S0, 26, 772) 3 2160 _ (10, [some (.ref 25), some (.ref 14)], [.ref 26, .ref 25], (cI16, cJ0, cP26, qp_S0, 27, 1492))
  refine qp_run_E qp_ok7 1 (c' := (13, [some (.ref 25), some (.ref 14)], [], (cI16, cJ0, cP27, qp_S0, 27, 1492))) (by with_unfolding_all rfl) hd1 trivial ?_
  refine qp_run_E qp_ok7 2 (c' := (17, [some (.ref 25), some (.ref 14)], [.int 720, .ref 25], (cI16, cJ0, cP27, qp_S0, 27, 1492))) (by with_unfolding_all rfl) hd1 trivial ?_
  refine qc_newI qp_ok7 (n := 27) (q := 1492) (k := 720) rfl ⟨by decide, by decide, rfl⟩ (fun _ => rfl) (fun _ => rfl) (fun _ => rfl) rfl (by decide +kernel) hd1 ?_
  show qp_E l G d 7 (cI16, cJ0, cP26, qp_S0, 26, 772) 3 2160 _ (19, [some (.ref 25), some (.ref 14)], [.ref 27, .ref 25], (cI16, cJ0, cP27, qp_S0, 28, 2212))
  refine qp_run_E qp_ok7 1 (c' := (22, [some (.ref 25), some (.ref 14)], [], (cI16, cJ0, cP28, qp_S0, 28, 2212))) (by with_unfolding_all rfl) hd1 trivial ?_
  refine qp_run_E qp_ok7 2 (c' := (26, [some (.ref 25), some (.ref 14)], [.int 720, .ref 25], (cI16, cJ0, cP28, qp_S0, 28, 2212))) (by with_unfolding_all rfl) hd1 trivial ?_
  refine qc_newB qp_ok7 (n := 28) (q := 2212) (k := 720) rfl ⟨by decide, by decide, rfl⟩ (fun _ => rfl) (fun _ => rfl) (fun _ => rfl) rfl (by decide +kernel) hd1 ?_
  show qp_E l G d 7 (cI16, cJ0, cP26, qp_S0, 26, 772) 3 2160 _ (28, [some (.ref 25), some (.ref 14)], [.ref 28, .ref 25], (cI16, cJ0, cP28, qp_S0, 29, 2932))
  refine qp_run_E qp_ok7 1 (c' := (31, [some (.ref 25), some (.ref 14)], [], (cI16, cJ0, cP29, qp_S0, 29, 2932))) (by with_unfolding_all rfl) hd1 trivial ?_
  refine qp_run_E qp_ok7 3 (c' := (36, [some (.ref 25), some (.ref 14)], [], (cI16, cJ0, cP30, qp_S0, 29, 2932))) (by with_unfolding_all rfl) hd1 trivial ?_
  exact qp_retV_E qp_ok7 rfl qp_r7.1 ⟨rfl, rfl⟩ ⟨rfl, rfl⟩
def cP31 : Nat → Nat → Option Nat := qp_up cP30 0 5 (some 25)
def cP32 : Nat → Nat → Option Nat := qp_up cP31 29 2 (some 30)
def cP33 : Nat → Nat → Option Nat := qp_up cP32 29 3 (some 31)
def cP34 : Nat → Nat → Option Nat := qp_up cP33 29 4 (some 32)
def cP35 : Nat → Nat → Option Nat := qp_up cP34 29 1 (some 14)
set_option maxRecDepth 8000 in
theorem cG17 (l : Launch) (G : qp_G) {d : Nat} (hd : 1 ≤ d) : qp_Met l G d 8 [.ref 29, .ref 14] (cI16, cJ0, cP31, qp_S0, 30, 2937) 3 36 (qc_R none (cI16, cJ0, cP35, qp_S0, 33, 2973)) := by
  have hd1 : Nat.ble 1 d = true := Nat.ble_eq_true_of_le (Nat.le_trans (by decide) hd)
  refine qp_Met_of (by decide) (by rw [qp_r8.2]; rfl) [some (.ref 29), some (.ref 14)] (by rw [qp_r8.2]; rfl) ?_
  refine qp_run_E qp_ok8 4 (c' := (7, [some (.ref 29), some (.ref 14)], [.int 6, .ref 29], (cI16, cJ0, cP31, qp_S0, 30, 2937))) (by with_unfolding_all rfl) hd1 trivial ?_
  refine qc_newI qp_ok8 (n := 30) (q := 2937) (k := 6) rfl ⟨by decide, by decide, rfl⟩ (fun _ => rfl) (fun _ => rfl) (fun _ => rfl) rfl (by decide +kernel) hd1 ?_
  show qp_E l G d 8 (cI16, cJ0, cP31, qp_S0, 30, 2937) 3 36 _ (9, [some (.ref 29), some (.ref 14)], [.ref 30, .ref 29], (cI16, cJ0, cP31, qp_S0, 31, 2943))
  refine qp_run_E qp_ok8 1 (c' := (12, [some (.ref 29), some (.ref 14)], [], (cI16, cJ0, cP32, qp_S0, 31, 2943))) (by with_unfolding_all rfl) hd1 trivial ?_
  refine qp_run_E qp_ok8 2 (c' := (15, [some (.ref 29), some (.ref 14)], [.int 6, .ref 29], (cI16, cJ0, cP32, qp_S0, 31, 2943))) (by with_unfolding_all rfl) hd1 trivial ?_
  refine qc_newI qp_ok8 (n := 31) (q := 2943) (k := 6) rfl ⟨by decide, by decide, rfl⟩ (fun _ => rfl) (fun _ => rfl) (fun _ => rfl) rfl (by decide +kernel) hd1 ?_
  show qp_E l G d 8 (cI16, cJ0, cP31, qp_S0, 30, 2937) 3 36 _ (17, [some (.ref 29), some (.ref 14)], [.ref 31, .ref 29], (cI16, cJ0, cP32, qp_S0, 32, 2949))
  refine qp_run_E qp_ok8 1 (c' := (20, [some (.ref 29), some (.ref 14)], [], (cI16, cJ0, cP33, qp_S0, 32, 2949))) (by with_unfolding_all rfl) hd1 trivial ?_
  refine qp_run_E qp_ok8 2 (c' := (23, [some (.ref 29), some (.ref 14)], [.int 24, .ref 29], (cI16, cJ0, cP33, qp_S0, 32, 2949))) (by with_unfolding_all rfl) hd1 trivial ?_
  refine qc_newI qp_ok8 (n := 32) (q := 2949) (k := 24) rfl ⟨by decide, by decide, rfl⟩ (fun _ => rfl) (fun _ => rfl) (fun _ => rfl) rfl (by decide +kernel) hd1 ?_
  show qp_E l G d 8 (cI16, cJ0, cP31, qp_S0, 30, 2937) 3 36 _ (25, [some (.ref 29), some (.ref 14)], [.ref 32, .ref 29], (cI16, cJ0, cP33, qp_S0, 33, 2973))
  refine qp_run_E qp_ok8 1 (c' := (28, [some (.ref 29), some (.ref 14)], [], (cI16, cJ0, cP34, qp_S0, 33, 2973))) (by with_unfolding_all rfl) hd1 trivial ?_
  refine qp_run_E qp_ok8 3 (c' := (33, [some (.ref 29), some (.ref 14)], [], (cI16, cJ0, cP35, qp_S0, 33, 2973))) (by with_unfolding_all rfl) hd1 trivial ?_
  exact qp_retV_E qp_ok8 rfl qp_r8.1 ⟨rfl, rfl⟩ ⟨rfl, rfl⟩
def cP36 : Nat → Nat → Option Nat := qp_up cP35 0 6 (some 29)
def cP37 : Nat → Nat → Option Nat := qp_up cP36 33 0 (some 14)
set_option maxRecDepth 8000 in
theorem cG18 (l : Launch) (G : qp_G) {d : Nat} (hd : 1 ≤ d) : qp_Met l G d 9 [.ref 33, .ref 14] (cI16, cJ0, cP36, qp_S0, 34, 2976) 0 0 (qc_R none (cI16, cJ0, cP37, qp_S0, 34, 2976)) := by
  have hd1 : Nat.ble 1 d = true := Nat.ble_eq_true_of_le (Nat.le_trans (by decide) hd)
  refine qp_Met_of (by decide) (by rw [qp_r9.2]; rfl) [some (.ref 33), some (.ref 14)] (by rw [qp_r9.2]; rfl) ?_
  refine qp_run_E qp_ok9 5 (c' := (9, [some (.ref 33), some (.ref 14)], [], (cI16, cJ0, cP37, qp_S0, 34, 2976))) (by with_unfolding_all rfl) hd1 trivial ?_
  exact qp_retV_E qp_ok9 rfl qp_r9.1 ⟨rfl, rfl⟩ ⟨rfl, rfl⟩
def cP38 : Nat → Nat → Option Nat := qp_up cP37 0 7 (some 33)
def cP39 : Nat → Nat → Option Nat := qp_up cP38 34 0 (some 14)
set_option maxRecDepth 8000 in
theorem cG19 (l : Launch) (G : qp_G) {d : Nat} (hd : 1 ≤ d) : qp_Met l G d 10 [.ref 34, .ref 14] (cI16, cJ0, cP38, qp_S0, 35, 2978) 0 0 (qc_R none (cI16, cJ0, cP39, qp_S0, 35, 2978)) := by
  have hd1 : Nat.ble 1 d = true := Nat.ble_eq_true_of_le (Nat.le_trans (by decide) hd)
  refine qp_Met_of (by decide) (by rw [qp_r10.2]; rfl) [some (.ref 34), some (.ref 14)] (by rw [qp_r10.2]; rfl) ?_
  refine qp_run_E qp_ok10 5 (c' := (9, [some (.ref 34), some (.ref 14)], [], (cI16, cJ0, cP39, qp_S0, 35, 2978))) (by with_unfolding_all rfl) hd1 trivial ?_
  exact qp_retV_E qp_ok10 rfl qp_r10.1 ⟨rfl, rfl⟩ ⟨rfl, rfl⟩
def cP40 : Nat → Nat → Option Nat := qp_up cP39 0 8 (some 34)
def cP41 : Nat → Nat → Option Nat := qp_up cP40 0 9 (some 35)
def cJ1 : Nat → Nat → Int64 := qp_up cJ0 0 13 1
set_option maxRecDepth 8000 in
theorem cG1 (l : Launch) (G : qp_G) {d : Nat} (hd : 3 ≤ d) : qp_Met l G d 0 [.ref 0] (cI0, cJ0, cP0, qp_S0, 1, 14) 35 2970 (qc_R none (cI16, cJ1, cP41, qp_S0, 36, 2984)) := by
  have hd1 : Nat.ble 1 d = true := Nat.ble_eq_true_of_le (Nat.le_trans (by decide) hd)
  refine qp_Met_of (by decide) (by rw [qp_r0.2]; rfl) [some (.ref 0)] (by rw [qp_r0.2]; rfl) ?_
  refine qp_run_E qp_ok0 3 (c' := (5, [some (.ref 0)], [.ref 0], (cI0, cJ0, cP0, qp_S0, 1, 14))) (by with_unfolding_all rfl) hd1 trivial ?_
  refine qc_new qp_ok0 (t := 1) (n := 1) (q := 14) rfl (fun _ => rfl) (fun _ => rfl) (fun _ => rfl) rfl (by decide +kernel) hd1 ?_
  show qp_E l G d 0 (cI0, cJ0, cP0, qp_S0, 1, 14) 35 2970 _ (8, [some (.ref 0)], [.ref 1, .ref 0], (cI0, cJ0, cP0, qp_S0, 2, 17))
  refine qp_run_E qp_ok0 3 (c' := (13, [some (.ref 0)], [.int 40, .int 6, .ref 1, .ref 1, .ref 0], (cI0, cJ0, cP0, qp_S0, 2, 17))) (by with_unfolding_all rfl) hd1 trivial ?_
  refine qc_cI qp_ok0 (rest := [.ref 1, .ref 0]) (n := 2) (q := 17) (n1 := 4) (q1 := 263) qp_f1 rfl rfl qp_r1.1 (cG2 l G (Nat.le_refl 2)) rfl rfl rfl (Nat.le_trans (by decide) hd) (by decide +kernel) (by decide +kernel) ?_
  show qp_E l G d 0 (cI0, cJ0, cP0, qp_S0, 1, 14) 35 2970 _ (16, [some (.ref 0)], [.ref 1, .ref 0], (cI7, cJ0, cP2, qp_S0, 4, 263))
  refine qp_run_E qp_ok0 1 (c' := (19, [some (.ref 0)], [], (cI7, cJ0, cP3, qp_S0, 4, 263))) (by with_unfolding_all rfl) hd1 trivial ?_
  refine qp_run_E qp_ok0 1 (c' := (20, [some (.ref 0)], [.ref 0], (cI7, cJ0, cP3, qp_S0, 4, 263))) (by with_unfolding_all rfl) hd1 trivial ?_
  refine qc_new qp_ok0 (t := 1) (n := 4) (q := 263) rfl (fun _ => rfl) (fun _ => rfl) (fun _ => rfl) rfl (by decide +kernel) hd1 ?_
  show qp_E l G d 0 (cI0, cJ0, cP0, qp_S0, 1, 14) 35 2970 _ (23, [some (.ref 0)], [.ref 4, .ref 0], (cI7, cJ0, cP3, qp_S0, 5, 266))
  refine qp_run_E qp_ok0 3 (c' := (27, [some (.ref 0)], [.int 60, .int 4, .ref 4, .ref 4, .ref 0], (cI7, cJ0, cP3, qp_S0, 5, 266))) (by with_unfolding_all rfl) hd1 trivial ?_
  refine qc_cI qp_ok0 (rest := [.ref 4, .ref 0]) (n := 5) (q := 266) (n1 := 7) (q1 := 510) qp_f1 rfl rfl qp_r1.1 (cG5 l G (Nat.le_refl 2)) rfl rfl rfl (Nat.le_trans (by decide) hd) (by decide +kernel) (by decide +kernel) ?_
  show qp_E l G d 0 (cI0, cJ0, cP0, qp_S0, 1, 14) 35 2970 _ (30, [some (.ref 0)], [.ref 4, .ref 0], (cI12, cJ0, cP5, qp_S0, 7, 510))
  refine qp_run_E qp_ok0 1 (c' := (33, [some (.ref 0)], [], (cI12, cJ0, cP6, qp_S0, 7, 510))) (by with_unfolding_all rfl) hd1 trivial ?_
  refine qp_run_E qp_ok0 1 (c' := (34, [some (.ref 0)], [.ref 0], (cI12, cJ0, cP6, qp_S0, 7, 510))) (by with_unfolding_all rfl) hd1 trivial ?_
  refine qc_new qp_ok0 (t := 1) (n := 7) (q := 510) rfl (fun _ => rfl) (fun _ => rfl) (fun _ => rfl) rfl (by decide +kernel) hd1 ?_
  show qp_E l G d 0 (cI0, cJ0, cP0, qp_S0, 1, 14) 35 2970 _ (37, [some (.ref 0)], [.ref 7, .ref 0], (cI12, cJ0, cP6, qp_S0, 8, 513))
  refine qp_run_E qp_ok0 3 (c' := (41, [some (.ref 0)], [.int 40, .int 3, .ref 7, .ref 7, .ref 0], (cI12, cJ0, cP6, qp_S0, 8, 513))) (by with_unfolding_all rfl) hd1 trivial ?_
  refine qc_cI qp_ok0 (rest := [.ref 7, .ref 0]) (n := 8) (q := 513) (n1 := 10) (q1 := 636) qp_f1 rfl rfl qp_r1.1 (cG8 l G (Nat.le_refl 2)) rfl rfl rfl (Nat.le_trans (by decide) hd) (by decide +kernel) (by decide +kernel) ?_
  show qp_E l G d 0 (cI0, cJ0, cP0, qp_S0, 1, 14) 35 2970 _ (44, [some (.ref 0)], [.ref 7, .ref 0], (cI16, cJ0, cP8, qp_S0, 10, 636))
  refine qp_run_E qp_ok0 1 (c' := (47, [some (.ref 0)], [], (cI16, cJ0, cP9, qp_S0, 10, 636))) (by with_unfolding_all rfl) hd1 trivial ?_
  refine qp_run_E qp_ok0 1 (c' := (48, [some (.ref 0)], [.ref 0], (cI16, cJ0, cP9, qp_S0, 10, 636))) (by with_unfolding_all rfl) hd1 trivial ?_
  refine qc_new qp_ok0 (t := 2) (n := 10) (q := 636) rfl (fun _ => rfl) (fun _ => rfl) (fun _ => rfl) rfl (by decide +kernel) hd1 ?_
  show qp_E l G d 0 (cI0, cJ0, cP0, qp_S0, 1, 14) 35 2970 _ (51, [some (.ref 0)], [.ref 10, .ref 0], (cI16, cJ0, cP9, qp_S0, 11, 640))
  refine qp_run_E qp_ok0 3 (c' := (56, [some (.ref 0)], [.ref 4, .ref 10, .ref 10, .ref 0], (cI16, cJ0, cP9, qp_S0, 11, 640))) (by with_unfolding_all rfl) hd1 trivial ?_
  refine qc_cI qp_ok0 (rest := [.ref 10, .ref 0]) (n := 11) (q := 640) (n1 := 14) (q1 := 656) qp_f3 rfl rfl qp_r3.1 (cG11 l G (Nat.le_refl 2)) rfl rfl rfl (Nat.le_trans (by decide) hd) (by decide +kernel) (by decide +kernel) ?_
  show qp_E l G d 0 (cI0, cJ0, cP0, qp_S0, 1, 14) 35 2970 _ (59, [some (.ref 0)], [.ref 10, .ref 0], (cI16, cJ0, cP13, qp_S0, 14, 656))
  refine qp_run_E qp_ok0 1 (c' := (62, [some (.ref 0)], [], (cI16, cJ0, cP14, qp_S0, 14, 656))) (by with_unfolding_all rfl) hd1 trivial ?_
  refine qp_run_E qp_ok0 1 (c' := (63, [some (.ref 0)], [.ref 0], (cI16, cJ0, cP14, qp_S0, 14, 656))) (by with_unfolding_all rfl) hd1 trivial ?_
  refine qc_new qp_ok0 (t := 4) (n := 14) (q := 656) rfl (fun _ => rfl) (fun _ => rfl) (fun _ => rfl) rfl (by decide +kernel) hd1 ?_
  show qp_E l G d 0 (cI0, cJ0, cP0, qp_S0, 1, 14) 35 2970 _ (66, [some (.ref 0)], [.ref 14, .ref 0], (cI16, cJ0, cP14, qp_S0, 15, 664))
  refine qp_run_E qp_ok0 1 (c' := (67, [some (.ref 0)], [.ref 14, .ref 14, .ref 0], (cI16, cJ0, cP14, qp_S0, 15, 664))) (by with_unfolding_all rfl) hd1 trivial ?_
  refine qc_cI qp_ok0 (rest := [.ref 14, .ref 0]) (n := 15) (q := 664) (n1 := 25) (q1 := 766) qp_f5 rfl rfl qp_r5.1 (cG13 l G (Nat.le_refl 2)) rfl rfl rfl (Nat.le_trans (by decide) hd) (by decide +kernel) (by decide +kernel) ?_
  show qp_E l G d 0 (cI0, cJ0, cP0, qp_S0, 1, 14) 35 2970 _ (70, [some (.ref 0)], [.ref 14, .ref 0], (cI16, cJ0, cP25, qp_S0, 25, 766))
  refine qp_run_E qp_ok0 1 (c' := (73, [some (.ref 0)], [], (cI16, cJ0, cP26, qp_S0, 25, 766))) (by with_unfolding_all rfl) hd1 trivial ?_
  refine qp_run_E qp_ok0 1 (c' := (74, [some (.ref 0)], [.ref 0], (cI16, cJ0, cP26, qp_S0, 25, 766))) (by with_unfolding_all rfl) hd1 trivial ?_
  refine qc_new qp_ok0 (t := 6) (n := 25) (q := 766) rfl (fun _ => rfl) (fun _ => rfl) (fun _ => rfl) rfl (by decide +kernel) hd1 ?_
  show qp_E l G d 0 (cI0, cJ0, cP0, qp_S0, 1, 14) 35 2970 _ (77, [some (.ref 0)], [.ref 25, .ref 0], (cI16, cJ0, cP26, qp_S0, 26, 772))
  refine qp_run_E qp_ok0 3 (c' := (82, [some (.ref 0)], [.ref 14, .ref 25, .ref 25, .ref 0], (cI16, cJ0, cP26, qp_S0, 26, 772))) (by with_unfolding_all rfl) hd1 trivial ?_
  refine qc_cI qp_ok0 (rest := [.ref 25, .ref 0]) (n := 26) (q := 772) (n1 := 29) (q1 := 2932) qp_f7 rfl rfl qp_r7.1 (cG16 l G (Nat.le_refl 1)) rfl rfl rfl (Nat.le_trans (by decide) hd) (by decide +kernel) (by decide +kernel) ?_
  show qp_E l G d 0 (cI0, cJ0, cP0, qp_S0, 1, 14) 35 2970 _ (85, [some (.ref 0)], [.ref 25, .ref 0], (cI16, cJ0, cP30, qp_S0, 29, 2932))
  refine qp_run_E qp_ok0 1 (c' := (88, [some (.ref 0)], [], (cI16, cJ0, cP31, qp_S0, 29, 2932))) (by with_unfolding_all rfl) hd1 trivial ?_
  refine qp_run_E qp_ok0 1 (c' := (89, [some (.ref 0)], [.ref 0], (cI16, cJ0, cP31, qp_S0, 29, 2932))) (by with_unfolding_all rfl) hd1 trivial ?_
  refine qc_new qp_ok0 (t := 7) (n := 29) (q := 2932) rfl (fun _ => rfl) (fun _ => rfl) (fun _ => rfl) rfl (by decide +kernel) hd1 ?_
  show qp_E l G d 0 (cI0, cJ0, cP0, qp_S0, 1, 14) 35 2970 _ (92, [some (.ref 0)], [.ref 29, .ref 0], (cI16, cJ0, cP31, qp_S0, 30, 2937))
  refine qp_run_E qp_ok0 3 (c' := (97, [some (.ref 0)], [.ref 14, .ref 29, .ref 29, .ref 0], (cI16, cJ0, cP31, qp_S0, 30, 2937))) (by with_unfolding_all rfl) hd1 trivial ?_
  refine qc_cI qp_ok0 (rest := [.ref 29, .ref 0]) (n := 30) (q := 2937) (n1 := 33) (q1 := 2973) qp_f8 rfl rfl qp_r8.1 (cG17 l G (Nat.le_refl 1)) rfl rfl rfl (Nat.le_trans (by decide) hd) (by decide +kernel) (by decide +kernel) ?_
  show qp_E l G d 0 (cI0, cJ0, cP0, qp_S0, 1, 14) 35 2970 _ (100, [some (.ref 0)], [.ref 29, .ref 0], (cI16, cJ0, cP35, qp_S0, 33, 2973))
  refine qp_run_E qp_ok0 1 (c' := (103, [some (.ref 0)], [], (cI16, cJ0, cP36, qp_S0, 33, 2973))) (by with_unfolding_all rfl) hd1 trivial ?_
  refine qp_run_E qp_ok0 1 (c' := (104, [some (.ref 0)], [.ref 0], (cI16, cJ0, cP36, qp_S0, 33, 2973))) (by with_unfolding_all rfl) hd1 trivial ?_
  refine qc_new qp_ok0 (t := 8) (n := 33) (q := 2973) rfl (fun _ => rfl) (fun _ => rfl) (fun _ => rfl) rfl (by decide +kernel) hd1 ?_
  show qp_E l G d 0 (cI0, cJ0, cP0, qp_S0, 1, 14) 35 2970 _ (107, [some (.ref 0)], [.ref 33, .ref 0], (cI16, cJ0, cP36, qp_S0, 34, 2976))
  refine qp_run_E qp_ok0 3 (c' := (112, [some (.ref 0)], [.ref 14, .ref 33, .ref 33, .ref 0], (cI16, cJ0, cP36, qp_S0, 34, 2976))) (by with_unfolding_all rfl) hd1 trivial ?_
  refine qc_cI qp_ok0 (rest := [.ref 33, .ref 0]) (n := 34) (q := 2976) (n1 := 34) (q1 := 2976) qp_f9 rfl rfl qp_r9.1 (cG18 l G (Nat.le_refl 1)) rfl rfl rfl (Nat.le_trans (by decide) hd) (by decide +kernel) (by decide +kernel) ?_
  show qp_E l G d 0 (cI0, cJ0, cP0, qp_S0, 1, 14) 35 2970 _ (115, [some (.ref 0)], [.ref 33, .ref 0], (cI16, cJ0, cP37, qp_S0, 34, 2976))
  refine qp_run_E qp_ok0 1 (c' := (118, [some (.ref 0)], [], (cI16, cJ0, cP38, qp_S0, 34, 2976))) (by with_unfolding_all rfl) hd1 trivial ?_
  refine qp_run_E qp_ok0 1 (c' := (119, [some (.ref 0)], [.ref 0], (cI16, cJ0, cP38, qp_S0, 34, 2976))) (by with_unfolding_all rfl) hd1 trivial ?_
  refine qc_new qp_ok0 (t := 9) (n := 34) (q := 2976) rfl (fun _ => rfl) (fun _ => rfl) (fun _ => rfl) rfl (by decide +kernel) hd1 ?_
  show qp_E l G d 0 (cI0, cJ0, cP0, qp_S0, 1, 14) 35 2970 _ (122, [some (.ref 0)], [.ref 34, .ref 0], (cI16, cJ0, cP38, qp_S0, 35, 2978))
  refine qp_run_E qp_ok0 3 (c' := (127, [some (.ref 0)], [.ref 14, .ref 34, .ref 34, .ref 0], (cI16, cJ0, cP38, qp_S0, 35, 2978))) (by with_unfolding_all rfl) hd1 trivial ?_
  refine qc_cI qp_ok0 (rest := [.ref 34, .ref 0]) (n := 35) (q := 2978) (n1 := 35) (q1 := 2978) qp_f10 rfl rfl qp_r10.1 (cG19 l G (Nat.le_refl 1)) rfl rfl rfl (Nat.le_trans (by decide) hd) (by decide +kernel) (by decide +kernel) ?_
  show qp_E l G d 0 (cI0, cJ0, cP0, qp_S0, 1, 14) 35 2970 _ (130, [some (.ref 0)], [.ref 34, .ref 0], (cI16, cJ0, cP39, qp_S0, 35, 2978))
  refine qp_run_E qp_ok0 1 (c' := (133, [some (.ref 0)], [], (cI16, cJ0, cP40, qp_S0, 35, 2978))) (by with_unfolding_all rfl) hd1 trivial ?_
  refine qp_run_E qp_ok0 2 (c' := (136, [some (.ref 0)], [.int 6, .ref 0], (cI16, cJ0, cP40, qp_S0, 35, 2978))) (by with_unfolding_all rfl) hd1 trivial ?_
  refine qc_newI qp_ok0 (n := 35) (q := 2978) (k := 6) rfl ⟨by decide, by decide, rfl⟩ (fun _ => rfl) (fun _ => rfl) (fun _ => rfl) rfl (by decide +kernel) hd1 ?_
  show qp_E l G d 0 (cI0, cJ0, cP0, qp_S0, 1, 14) 35 2970 _ (138, [some (.ref 0)], [.ref 35, .ref 0], (cI16, cJ0, cP40, qp_S0, 36, 2984))
  refine qp_run_E qp_ok0 1 (c' := (141, [some (.ref 0)], [], (cI16, cJ0, cP41, qp_S0, 36, 2984))) (by with_unfolding_all rfl) hd1 trivial ?_
  refine qp_run_E qp_ok0 3 (c' := (146, [some (.ref 0)], [], (cI16, cJ1, cP41, qp_S0, 36, 2984))) (by with_unfolding_all rfl) hd1 trivial ?_
  exact qp_retV_E qp_ok0 rfl qp_r0.1 ⟨rfl, rfl⟩ ⟨rfl, rfl⟩

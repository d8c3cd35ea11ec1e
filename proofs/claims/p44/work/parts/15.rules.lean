/-! THE LAW'S JUDGEMENT -/
def lw_E (l : Launch) (G : qp_G) (x : qp_C) : Prop := ∀ (p : Program) (e : Env) (s : State) (m : MethodId) (below : List Frame) (meth : Method) (cd : Code) (ad0 : Nat → Nat) (b : Nat), qp_X p s m #[Value.ref b] meth cd G 13 code 32 false (fun q => s.heap.size ≤ q) ad0 → meth.sig.returnType = ret → meth.locks = false → qp_V p l e room_1 s m #[Value.ref b] below meth cd G 32 (fun q => s.heap.size ≤ q) 0 0 ad0 (lw_Z below #[Value.ref b] s) x
theorem qp_okL : qp_ok 13 code qp_kL := qp_ok_of qp_hL
section LWE
variable {l : Launch} {G : qp_G} {K : List (List (Nat × Instr × Int32 × Nat))}
theorem lw_run_E (hK : qp_ok 13 code K) (n : Nat) {c c' : qp_C} {f : Prop} (h : qp_run (600000, 7302250) 13 false K n c = some (f, c')) (_ : True) (hf : f) (k : lw_E l G c') : lw_E l G c := by
  intro p e s m below meth cd ad0 b X hr hl
  exact qp_run_W X hK ⟨by show 600000 ≤ 0 + 600000; omega, by show 7302250 ≤ 0 + 7302250; omega⟩ ⟨by show 1 ≤ 2048; omega, by show 40 ≤ 84000; omega⟩ n h hf (k p e s m below meth cd ad0 b X hr hl)
theorem lw_br_E (hK : qp_ok 13 code K) {c ct cf : qp_C} {f : Prop} (h : qp_br K c = some (f, ct, cf)) (kt : f → lw_E l G ct) (kf : ¬ f → lw_E l G cf) : lw_E l G c := by
  intro p e s m below meth cd ad0 b X hr hl
  exact qp_br_W X hK h (fun q => kt q p e s m below meth cd ad0 b X hr hl) (fun q => kf q p e s m below meth cd ad0 b X hr hl)
theorem lw_E_fg (bl : List Bool) {pc : Nat} {L : List (Option Value)} {st : List Value} {M : qp_M} (k : lw_E l G (pc, qp_msk bl L, st, M)) : lw_E l G (pc, L, st, M) := by
  intro p e s m below meth cd ad0 b X hr hlk ad H locs ls g1 g2 hP hD hS hls
  exact k p e s m below meth cd ad0 b X hr hlk ad H locs ls g1 g2 hP hD hS ⟨hls.1, hls.2.1, (qp_msk_len bl L).trans hls.2.2.1, fun i v q => hls.2.2.2 i v (qp_msk_at bl L i v q)⟩
theorem lw_cV (hK : qp_ok 13 code K) {pc d' mj ix t b na oj cc qq : Nat} {v : Int32} {L : List (Option Value)} {st rest av : List Value} {I I' : Nat → Nat → Int32} {J J' : Nat → Nat → Int64} {rv : Option Value}
    (hj : qp_fv mj na oj 0) (hf : qp_ft8 K pc = some (.invokevirtual ix, v, t)) (hmi : (Nat.beq t (10 * mj) || Nat.beq t (10 * mj + 3)) = true) (hM : qp_Met l G d' mj (.ref b :: av) (qp_mkE cc qq I J) 0 0 (qp_R8E cc qq rv I' J')) (hal : qp_len av = na) (hst : st = av.reverse ++ .ref b :: rest) (hb8 : (Nat.blt b cc && (Nat.beq (qp_S0 b).1 oj && Nat.blt oj 10)) = true) (hcat : (Nat.ble (qp_cat rest) 8 && (Nat.ble cc 900 && Nat.ble qq 9000)) = true) (hd : d' + 1 ≤ 1000)
    (k : lw_E l G (pc + 3, L, rv.toList ++ rest, qp_mkE cc qq I' J')) : lw_E l G (pc, L, st, qp_mkE cc qq I J) := by
  obtain ⟨j1, j2, j3, j4⟩ := hj
  obtain ⟨b1, b2⟩ := qp_and hb8
  obtain ⟨b3, b4⟩ := qp_and b2
  obtain ⟨q1, q2⟩ := qp_and hcat
  obtain ⟨q3, q4⟩ := qp_and q2
  have q3 := Nat.le_of_ble_eq_true q3
  have q4 := Nat.le_of_ble_eq_true q4
  intro p e s m below meth cd ad0 b' X hr hl
  refine qp_callV_W X hK hf ?_ j1 ⟨by unfold qp_sta; rw [j4]; rfl, by unfold qp_ini; rw [j4]; rfl⟩ hM (by rw [j2, ← hal, qp_len_eq]) hst (by rw [j3, b3, Bool.and_true]; exact b1) (by rw [j3]; exact qp_blt b4) q1 ⟨by show d' + 1 ≤ 2048; omega, by show 64 * (d' + 1) ≤ 84000; omega, by show cc - 0 + 0 ≤ 600000; omega, by show qq - 0 + 0 ≤ 7302250; omega⟩ (Or.inl rfl) (fun r' M' h1 _ _ => ?_)
  · rcases (Bool.or_eq_true _ _).mp hmi with q | q
    · exact Or.inl (Nat.eq_of_beq_eq_true q)
    · exact Or.inr (Nat.eq_of_beq_eq_true q)
  · obtain ⟨rfl, rfl⟩ := h1
    exact k p e s m below meth cd ad0 b' X hr hl
theorem lw_cS (hK : qp_ok 13 code K) {pc d' mj ix t na oj cc qq : Nat} {v : Int32} {L : List (Option Value)} {st rest av : List Value} {I I' : Nat → Nat → Int32} {J J' : Nat → Nat → Int64} {rv : Option Value}
    (hj : qp_fv mj na oj 1) (hf : qp_ft8 K pc = some (.invokestatic ix, v, t)) (hmi : (Nat.beq t (10 * mj + 1) || Nat.beq t (10 * mj + 7)) = true) (hM : qp_Met l G d' mj av (qp_mkE cc qq I J) 0 0 (qp_R8E cc qq rv I' J')) (hal : qp_len av = na) (hst : st = av.reverse ++ rest) (hcat : (Nat.ble (qp_cat rest) 8 && (Nat.ble cc 900 && Nat.ble qq 9000)) = true) (hd : d' + 1 ≤ 1000)
    (k : lw_E l G (pc + 3, L, rv.toList ++ rest, qp_mkE cc qq I' J')) : lw_E l G (pc, L, st, qp_mkE cc qq I J) := by
  obtain ⟨j1, j2, j3, j4⟩ := hj
  obtain ⟨q1, q2⟩ := qp_and hcat
  obtain ⟨q3, q4⟩ := qp_and q2
  have q3 := Nat.le_of_ble_eq_true q3
  have q4 := Nat.le_of_ble_eq_true q4
  intro p e s m below meth cd ad0 b' X hr hl
  refine qp_callS_W X hK hf ((Bool.or_eq_true _ _).mp hmi |>.imp Nat.eq_of_beq_eq_true Nat.eq_of_beq_eq_true) j1 (by unfold qp_sta; rw [j4]; rfl) hM (by rw [j2, ← hal, qp_len_eq]) hst q1 ⟨by show d' + 1 ≤ 2048; omega, by show 64 * (d' + 1) ≤ 84000; omega, by show cc - 0 + 0 ≤ 600000; omega, by show qq - 0 + 0 ≤ 7302250; omega⟩ (Or.inl rfl) (fun r' M' h1 _ _ => ?_)
  obtain ⟨rfl, rfl⟩ := h1
  exact k p e s m below meth cd ad0 b' X hr hl
theorem lw_end_E {pc t cc qq : Nat} {v v' : Int32} {L : List (Option Value)} {I : Nat → Nat → Int32} {J : Nat → Nat → Int64} (hcq : (Nat.ble cc 900 && Nat.ble qq 9000) = true) (hf : qp_ft8 qp_kL pc = some (.ireturn, v', t)) (hv : v = 1) : lw_E l G (pc, L, [.int v], qp_mkE cc qq I J) := by
  subst hv
  obtain ⟨q3, q4⟩ := qp_and hcq
  have q3 := Nat.le_of_ble_eq_true q3
  have q4 := Nat.le_of_ble_eq_true q4
  intro p e s m below meth cd ad0 b X hr hlk ad H locs ls g1 g3 hP hD hS hl
  refine va_forget hS.2.2 ?_
  refine W.widen (k := 600000) (n := 7302250) (by show cc - 0 ≤ 600000; omega) (by show qq - 0 ≤ 7302250; omega) ?_
  exact lw_ret X.1 X.2.1 hr hlk (qp_okL _ _ hf).1
def qp_zI (I : Nat → Nat → Int32) (c : Nat) : Nat → Nat → Int32 := fun k j => bif Nat.beq c k then 0 else I k j
def qp_zJ (J : Nat → Nat → Int64) (c : Nat) : Nat → Nat → Int64 := fun k j => bif Nat.beq c k then 0 else J k j
theorem qp_mk1_E {I : Nat → Nat → Int32} {J : Nat → Nat → Int64} {c q n : Nat} (hS : qp_S0 c = (50, n)) (hc : 36 ≤ c) : qp_mk1 (qp_mkE c q I J) 50 n = qp_mkE (c + 1) (q + n) (qp_zI I c) (qp_zJ J c) := by
  have hP : (fun k j => bif Nat.beq c k then none else qp_P0 k j) = qp_P0 := by
    funext k j
    cases hb : Nat.beq c k with
    | false => rfl
    | true =>
      have := Nat.eq_of_beq_eq_true hb
      subst this
      show none = qp_P0 c j
      unfold qp_P0
      rw [qp_nth_eq, List.getElem?_eq_none (by show qp_P0L.length ≤ c; have : qp_P0L.length = 36 := by decide +kernel
                                               omega)]
  have hS' : qp_up1 qp_S0 c (50, n) = qp_S0 := by
    funext k
    unfold qp_up1
    cases hb : Nat.beq c k with
    | false => rfl
    | true => rw [← Nat.eq_of_beq_eq_true hb, hS]; rfl
  show (_, _, (fun k j => bif Nat.beq c k then none else qp_P0 k j), qp_up1 qp_S0 c (50, n), c + 1, q + n) = _
  rw [hP, hS']; rfl
theorem lw_new_E {pc t cc qq n : Nat} {v : Int32} {L : List (Option Value)} {st : List Value} {I : Nat → Nat → Int32} {J : Nat → Nat → Int64} (hf : qp_ft8 qp_kL pc = some (.newarray .int, v, t)) (hS : qp_S0 cc = (50, n)) (hc : 36 ≤ cc ∧ cc < 41 ∧ n < 100) (hkn : (qp_fit (600000, 7302250) (qp_mk1 (qp_mkE cc qq I J) 50 (Int32.ofNat n).toNatClampNeg) && qp_knw (pc, L, .int (Int32.ofNat n) :: st, qp_mkE cc qq I J)) = true) (k : lw_E l G (pc + 2, L, .ref cc :: st, qp_mkE (cc + 1) (qq + n) (qp_zI I cc) (qp_zJ J cc))) : lw_E l G (pc, L, .int (Int32.ofNat n) :: st, qp_mkE cc qq I J) := by
  have hn : (Int32.ofNat n).toNatClampNeg = n := by
    have h1 : (Int32.ofNat n).toInt = (n : Int) := nI_toInt (by omega)
    show (Int32.ofNat n).toInt.toNat = n
    rw [h1]; rfl
  refine lw_run_E qp_okL 1 (c' := (pc + 2, L, .ref cc :: st, qp_mk1 (qp_mkE cc qq I J) 50 (Int32.ofNat n).toNatClampNeg)) (f := (¬ Int32.ofNat n < 0 ∧ (Int32.ofNat n).toNatClampNeg ≤ 100000 ∧ (qp_fit (600000, 7302250) (qp_mk1 (qp_mkE cc qq I J) 50 (Int32.ofNat n).toNatClampNeg) && qp_knw (pc, L, .int (Int32.ofNat n) :: st, qp_mkE cc qq I J)) = true) ∧ True) ?_ trivial ⟨⟨?_, by rw [hn]; omega, hkn⟩, trivial⟩ ?_
  · unfold qp_run
    dsimp only
    rw [hf]
    rfl
  · have h1 : (Int32.ofNat n).toInt = (n : Int) := nI_toInt (by omega)
    rw [Int32.lt_iff_toInt_lt, h1]
    have e0 : (0 : Int32).toInt = 0 := rfl
    rw [e0]; omega
  · rw [hn, qp_mk1_E hS hc.1]; exact k
end LWE

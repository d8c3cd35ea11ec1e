/-! THE LAW'S CALLS, one by one: both answer alike, the loop goes on -/
section LC
variable {p : Program} {l : Launch} {e : Env} {s : State} {m : MethodId} {below : List Frame} {meth : Method} {c : Code} {G : qp_G} {ad0 : Nat → Nat} {b L : Nat} {xs : Nat → Int32} {I : Nat → Nat → Int32} {J : Nat → Nat → Int64} {i : Nat}
/-- the law's locals -/
abbrev lw_L (i : Int32) : List (Option Value) := [some (.ref 2000), some (.ref 0), some (.ref 36), some (.int i)]
theorem lw_in {a : Nat} (hi : i + 6 ≤ L) (hL : L ≤ 3072) (ha : a < 6) : vp_in (qn i + qn a) L ∧ (qn i + qn a).toNatClampNeg = i + a := by
  rw [qn_add]
  refine ⟨vp_in_iff.mpr ?_, qn_nat (by omega)⟩
  rw [qn_toInt (by omega)]
  omega
theorem lg_self {v : Int64} : lg_cmp v v = 0 := by
  unfold lg_cmp
  simp
set_option maxRecDepth 8000 in
theorem lw_c0 (C : lw_C p s m meth c G ad0 b L xs) (hL : L ≤ 3072) (hi : i + 6 ≤ L) (hR : zR I J) (ih : ∀ I J, zR I J → lw_V p l e s m below meth c G ad0 b (18, lw_L (qn i + 6), [], qp_mk I J)) : lw_V p l e s m below meth c G ad0 b (212, lw_L (qn i), [], qp_mk I J) := by
  obtain ⟨v, I1, J1, I2, J2, e1, e2, hz⟩ := sim_row (xs (i + 1)) (xs (i + 2)) I J hR
  refine lw_run C 5 (x' := (217, lw_L (qn i), [.int (qn i + 1), .ref 2000, .ref 0], qp_mk I J)) (by with_unfolding_all rfl) trivial ?_
  refine lw_ld C rfl (lw_in (a := 1) hi hL (by omega)).1 ?_
  rw [show (qn i + 1).toNatClampNeg = i + 1 from (lw_in (a := 1) hi hL (by omega)).2]
  refine lw_run C 4 (x' := (222, lw_L (qn i), [.int (qn i + 2), .ref 2000, .int (xs (i + 1)), .ref 0], qp_mk I J)) (by with_unfolding_all rfl) trivial ?_
  refine lw_ld C rfl (lw_in (a := 2) hi hL (by omega)).1 ?_
  rw [show (qn i + 2).toNatClampNeg = i + 2 from (lw_in (a := 2) hi hL (by omega)).2]
  refine lw_cV C (d' := 100) (rest := []) (oj := 0) qp_f11 rfl rfl (gX_row l G (xs (i + 1)) (xs (i + 2)) I J e1 (by decide)) rfl rfl rfl rfl (by omega) ?_
  refine lw_run C 5 (x' := (231, lw_L (qn i), [.int (qn i + 1), .ref 2000, .ref 36, .int v], qp_mk I1 J1)) (by with_unfolding_all rfl) trivial ?_
  refine lw_ld C rfl (lw_in (a := 1) hi hL (by omega)).1 ?_
  rw [show (qn i + 1).toNatClampNeg = i + 1 from (lw_in (a := 1) hi hL (by omega)).2]
  refine lw_run C 4 (x' := (236, lw_L (qn i), [.int (qn i + 2), .ref 2000, .int (xs (i + 1)), .ref 36, .int v], qp_mk I1 J1)) (by with_unfolding_all rfl) trivial ?_
  refine lw_ld C rfl (lw_in (a := 2) hi hL (by omega)).1 ?_
  rw [show (qn i + 2).toNatClampNeg = i + 2 from (lw_in (a := 2) hi hL (by omega)).2]
  refine lw_cV C (d' := 100) (rest := [.int v]) (oj := 10) qp_f147 rfl rfl (gM_row l G (xs (i + 1)) (xs (i + 2)) I1 J1 e2 (by decide)) rfl rfl rfl rfl (by omega) ?_
  refine lw_br C (f := v = v) (xt := (1358, lw_L (qn i), [], qp_mk I2 J2)) (xf := (243, lw_L (qn i), [], qp_mk I2 J2)) (by with_unfolding_all rfl) (fun _ => ?_) (fun h => absurd rfl h)
  refine lw_run C 2 (x' := (18, lw_L (qn i + 6), [], qp_mk I2 J2)) (by with_unfolding_all rfl) trivial ?_
  exact ih I2 J2 hz
end LC

/-! methods as functions: 16.f 0 -/
def fS_isNumber_1 (p1 : Int32) (I : Nat → Nat → Int32) (J : Nat → Nat → Int64) : Option (Int32 × (Nat → Nat → Int32) × (Nat → Nat → Int64)) :=
  if p1 < 0 then (
    some (0, I, J)
  ) else (
    if 6 ≤ p1 then (
      some (0, I, J)
    ) else (
      some (1, I, J)
    )
  )
set_option maxRecDepth 8000 in
theorem gS_isNumber_1 (l : Launch) (G : qp_G) (p1 : Int32) (I : Nat → Nat → Int32) (J : Nat → Nat → Int64) {v : Int32} {I' : Nat → Nat → Int32} {J' : Nat → Nat → Int64} (h : fS_isNumber_1 p1 I J = some (v, I', J')) {d : Nat} (hd : 1 ≤ d) : qp_Met l G d 13 [.ref 1, .int p1] (qp_mk I J) 0 0 (qp_R8 (some (.int v)) I' J') := by
  have hd1 : Nat.ble 1 d = true := Nat.ble_eq_true_of_le (Nat.le_trans (by decide) hd)
  refine qp_Met_of (by decide) (by rw [qp_r13.2]; rfl) [some (.ref 1), some (.int p1)] (by rw [qp_r13.2]; rfl) ?_
  unfold fS_isNumber_1 at h
  refine qp_run_E qp_ok13 1 (c' := (1, [some (.ref 1), some (.int p1)], [.int p1], qp_mk I J)) (by with_unfolding_all rfl) hd1 trivial ?_
  refine qp_br_E qp_ok13 (f := p1 < 0) (ct := (17, [some (.ref 1), some (.int p1)], [], qp_mk I J)) (cf := (4, [some (.ref 1), some (.int p1)], [], qp_mk I J)) (by with_unfolding_all rfl) (fun h1 => ?_) (fun h1 => ?_)
  · replace h := qp_ift h1 h
    refine qp_run_E qp_ok13 1 (c' := (18, [some (.ref 1), some (.int p1)], [.int 0], qp_mk I J)) (by with_unfolding_all rfl) hd1 trivial ?_
    obtain ⟨rfl, rfl, rfl⟩ := qp_some3 h
    exact qp_retZ_E qp_ok13 rfl qp_r13.1 rfl ⟨rfl, rfl⟩ ⟨rfl, rfl⟩
  · replace h := qp_iff h1 h
    refine qp_run_E qp_ok13 4 (c' := (10, [some (.ref 1), some (.int p1)], [.int 6, .int p1], qp_mk I J)) (by with_unfolding_all rfl) hd1 trivial ?_
    refine qp_br_E qp_ok13 (f := 6 ≤ p1) (ct := (17, [some (.ref 1), some (.int p1)], [], qp_mk I J)) (cf := (13, [some (.ref 1), some (.int p1)], [], qp_mk I J)) (by with_unfolding_all rfl) (fun h2 => ?_) (fun h2 => ?_)
    · replace h := qp_ift h2 h
      refine qp_run_E qp_ok13 1 (c' := (18, [some (.ref 1), some (.int p1)], [.int 0], qp_mk I J)) (by with_unfolding_all rfl) hd1 trivial ?_
      obtain ⟨rfl, rfl, rfl⟩ := qp_some3 h
      exact qp_retZ_E qp_ok13 rfl qp_r13.1 rfl ⟨rfl, rfl⟩ ⟨rfl, rfl⟩
    · replace h := qp_iff h2 h
      refine qp_run_E qp_ok13 2 (c' := (18, [some (.ref 1), some (.int p1)], [.int 1], qp_mk I J)) (by with_unfolding_all rfl) hd1 trivial ?_
      obtain ⟨rfl, rfl, rfl⟩ := qp_some3 h
      exact qp_retZ_E qp_ok13 rfl qp_r13.1 rfl ⟨rfl, rfl⟩ ⟨rfl, rfl⟩
def fS_hasPlace_1 (p1 : Int32) (p2 : Int32) (I : Nat → Nat → Int32) (J : Nat → Nat → Int64) : Option (Int32 × (Nat → Nat → Int32) × (Nat → Nat → Int64)) :=
  qp_bd (fS_isNumber_1 p1 I J) fun v1 I1 J1 =>
  if v1 = 0 then (
    some (0, I1, J1)
  ) else (
    if p2 < 0 then (
      some (0, I1, J1)
    ) else (
      qp_gd ((0 ≤ p1 ∧ p1 < 6)) <|
      if (I1 2 (Int32.toNatClampNeg p1)) ≤ p2 then (
        some (0, I1, J1)
      ) else (
        some (1, I1, J1)
      )
    )
  )
set_option maxRecDepth 8000 in
theorem gS_hasPlace_1 (l : Launch) (G : qp_G) (p1 : Int32) (p2 : Int32) (I : Nat → Nat → Int32) (J : Nat → Nat → Int64) {v : Int32} {I' : Nat → Nat → Int32} {J' : Nat → Nat → Int64} (h : fS_hasPlace_1 p1 p2 I J = some (v, I', J')) {d : Nat} (hd : 2 ≤ d) : qp_Met l G d 17 [.ref 1, .int p1, .int p2] (qp_mk I J) 0 0 (qp_R8 (some (.int v)) I' J') := by
  have hd1 : Nat.ble 1 d = true := Nat.ble_eq_true_of_le (Nat.le_trans (by decide) hd)
  refine qp_Met_of (by decide) (by rw [qp_r17.2]; rfl) [some (.ref 1), some (.int p1), some (.int p2)] (by rw [qp_r17.2]; rfl) ?_
  unfold fS_hasPlace_1 at h
  refine qp_run_E qp_ok17 2 (c' := (2, [some (.ref 1), some (.int p1), some (.int p2)], [.int p1, .ref 1], qp_mk I J)) (by with_unfolding_all rfl) hd1 trivial ?_
  obtain ⟨v1, I1, J1, e1, h⟩ := qp_bd_s h
  refine qp_cV qp_ok17 (rest := []) (oj := 1) qp_f13 rfl rfl (gS_isNumber_1 l G p1 I J e1 (Nat.le_refl 1)) rfl rfl rfl rfl (Nat.le_trans (by decide) hd) ?_
  refine qp_br_E qp_ok17 (f := v1 = 0) (ct := (26, [some (.ref 1), some (.int p1), some (.int p2)], [], qp_mk I1 J1)) (cf := (8, [some (.ref 1), some (.int p1), some (.int p2)], [], qp_mk I1 J1)) (by with_unfolding_all rfl) (fun h1 => ?_) (fun h1 => ?_)
  · replace h := qp_ift h1 h
    refine qp_run_E qp_ok17 1 (c' := (27, [some (.ref 1), some (.int p1), some (.int p2)], [.int 0], qp_mk I1 J1)) (by with_unfolding_all rfl) hd1 trivial ?_
    obtain ⟨rfl, rfl, rfl⟩ := qp_some3 h
    exact qp_retZ_E qp_ok17 rfl qp_r17.1 rfl ⟨rfl, rfl⟩ ⟨rfl, rfl⟩
  · replace h := qp_iff h1 h
    refine qp_run_E qp_ok17 1 (c' := (9, [some (.ref 1), some (.int p1), some (.int p2)], [.int p2], qp_mk I1 J1)) (by with_unfolding_all rfl) hd1 trivial ?_
    refine qp_br_E qp_ok17 (f := p2 < 0) (ct := (26, [some (.ref 1), some (.int p1), some (.int p2)], [], qp_mk I1 J1)) (cf := (12, [some (.ref 1), some (.int p1), some (.int p2)], [], qp_mk I1 J1)) (by with_unfolding_all rfl) (fun h2 => ?_) (fun h2 => ?_)
    · replace h := qp_ift h2 h
      refine qp_run_E qp_ok17 1 (c' := (27, [some (.ref 1), some (.int p1), some (.int p2)], [.int 0], qp_mk I1 J1)) (by with_unfolding_all rfl) hd1 trivial ?_
      obtain ⟨rfl, rfl, rfl⟩ := qp_some3 h
      exact qp_retZ_E qp_ok17 rfl qp_r17.1 rfl ⟨rfl, rfl⟩ ⟨rfl, rfl⟩
    · replace h := qp_iff h2 h
      obtain ⟨h3, h⟩ := qp_gd_s h
      refine qp_run_E qp_ok17 5 (f := vp_in p1 6 ∧ True) (c' := (19, [some (.ref 1), some (.int p1), some (.int p2)], [.int (I1 2 (Int32.toNatClampNeg p1)), .int p2], qp_mk I1 J1)) (by with_unfolding_all rfl) hd1 ⟨(qp_vin (c := 6) (by decide) h3.1 h3.2), trivial⟩ ?_
      refine qp_br_E qp_ok17 (f := (I1 2 (Int32.toNatClampNeg p1)) ≤ p2) (ct := (26, [some (.ref 1), some (.int p1), some (.int p2)], [], qp_mk I1 J1)) (cf := (22, [some (.ref 1), some (.int p1), some (.int p2)], [], qp_mk I1 J1)) (by with_unfolding_all rfl) (fun h4 => ?_) (fun h4 => ?_)
      · replace h := qp_ift h4 h
        refine qp_run_E qp_ok17 1 (c' := (27, [some (.ref 1), some (.int p1), some (.int p2)], [.int 0], qp_mk I1 J1)) (by with_unfolding_all rfl) hd1 trivial ?_
        obtain ⟨rfl, rfl, rfl⟩ := qp_some3 h
        exact qp_retZ_E qp_ok17 rfl qp_r17.1 rfl ⟨rfl, rfl⟩ ⟨rfl, rfl⟩
      · replace h := qp_iff h4 h
        refine qp_run_E qp_ok17 2 (c' := (27, [some (.ref 1), some (.int p1), some (.int p2)], [.int 1], qp_mk I1 J1)) (by with_unfolding_all rfl) hd1 trivial ?_
        obtain ⟨rfl, rfl, rfl⟩ := qp_some3 h
        exact qp_retZ_E qp_ok17 rfl qp_r17.1 rfl ⟨rfl, rfl⟩ ⟨rfl, rfl⟩
def fS_set_1 (p1 : Int32) (p2 : Int32) (p3 : Int32) (I : Nat → Nat → Int32) (J : Nat → Nat → Int64) : Option (Unit × (Nat → Nat → Int32) × (Nat → Nat → Int64)) :=
  qp_bd (fS_hasPlace_1 p1 p2 I J) fun v1 I1 J1 =>
  if v1 = 0 then (
    some ((), I1, J1)
  ) else (
    if ((p1 * (I 1 0)) + p2) < 0 then (
      some ((), I1, J1)
    ) else (
      if 240 ≤ ((p1 * (I 1 0)) + p2) then (
        some ((), I1, J1)
      ) else (
        qp_gd ((0 ≤ ((p1 * (I 1 0)) + p2) ∧ ((p1 * (I 1 0)) + p2) < 240)) <|
        some ((), (qp_up I1 3 (Int32.toNatClampNeg ((p1 * (I 1 0)) + p2)) p3), J1)
      )
    )
  )
set_option maxRecDepth 8000 in
theorem gS_set_1 (l : Launch) (G : qp_G) (p1 : Int32) (p2 : Int32) (p3 : Int32) (I : Nat → Nat → Int32) (J : Nat → Nat → Int64) {v : Unit} {I' : Nat → Nat → Int32} {J' : Nat → Nat → Int64} (h : fS_set_1 p1 p2 p3 I J = some (v, I', J')) {d : Nat} (hd : 3 ≤ d) : qp_Met l G d 16 [.ref 1, .int p1, .int p2, .int p3] (qp_mk I J) 0 0 (qp_R8 none I' J') := by
  have hd1 : Nat.ble 1 d = true := Nat.ble_eq_true_of_le (Nat.le_trans (by decide) hd)
  refine qp_Met_of (by decide) (by rw [qp_r16.2]; rfl) [some (.ref 1), some (.int p1), some (.int p2), some (.int p3), none] (by rw [qp_r16.2]; rfl) ?_
  unfold fS_set_1 at h
  refine qp_run_E qp_ok16 10 (c' := (13, [some (.ref 1), some (.int p1), some (.int p2), some (.int p3), some (.int ((p1 * (I 1 0)) + p2))], [.int p2, .int p1, .ref 1], qp_mk I J)) (by with_unfolding_all rfl) hd1 trivial ?_
  obtain ⟨v1, I1, J1, e1, h⟩ := qp_bd_s h
  refine qp_cV qp_ok16 (rest := []) (oj := 1) qp_f17 rfl rfl (gS_hasPlace_1 l G p1 p2 I J e1 (Nat.le_refl 2)) rfl rfl rfl rfl (Nat.le_trans (by decide) hd) ?_
  refine qp_br_E qp_ok16 (f := v1 = 0) (ct := (42, [some (.ref 1), some (.int p1), some (.int p2), some (.int p3), some (.int ((p1 * (I 1 0)) + p2))], [], qp_mk I1 J1)) (cf := (19, [some (.ref 1), some (.int p1), some (.int p2), some (.int p3), some (.int ((p1 * (I 1 0)) + p2))], [], qp_mk I1 J1)) (by with_unfolding_all rfl) (fun h1 => ?_) (fun h1 => ?_)
  · replace h := qp_ift h1 h
    obtain ⟨rfl, rfl, rfl⟩ := qp_some3 h
    exact qp_retV_E qp_ok16 rfl qp_r16.1 ⟨rfl, rfl⟩ ⟨rfl, rfl⟩
  · replace h := qp_iff h1 h
    refine qp_run_E qp_ok16 1 (c' := (21, [some (.ref 1), some (.int p1), some (.int p2), some (.int p3), some (.int ((p1 * (I 1 0)) + p2))], [.int ((p1 * (I 1 0)) + p2)], qp_mk I1 J1)) (by with_unfolding_all rfl) hd1 trivial ?_
    refine qp_br_E qp_ok16 (f := ((p1 * (I 1 0)) + p2) < 0) (ct := (42, [some (.ref 1), some (.int p1), some (.int p2), some (.int p3), some (.int ((p1 * (I 1 0)) + p2))], [], qp_mk I1 J1)) (cf := (24, [some (.ref 1), some (.int p1), some (.int p2), some (.int p3), some (.int ((p1 * (I 1 0)) + p2))], [], qp_mk I1 J1)) (by with_unfolding_all rfl) (fun h2 => ?_) (fun h2 => ?_)
    · replace h := qp_ift h2 h
      obtain ⟨rfl, rfl, rfl⟩ := qp_some3 h
      exact qp_retV_E qp_ok16 rfl qp_r16.1 ⟨rfl, rfl⟩ ⟨rfl, rfl⟩
    · replace h := qp_iff h2 h
      refine qp_run_E qp_ok16 4 (c' := (31, [some (.ref 1), some (.int p1), some (.int p2), some (.int p3), some (.int ((p1 * (I 1 0)) + p2))], [.int 240, .int ((p1 * (I 1 0)) + p2)], qp_mk I1 J1)) (by with_unfolding_all rfl) hd1 trivial ?_
      refine qp_br_E qp_ok16 (f := 240 ≤ ((p1 * (I 1 0)) + p2)) (ct := (42, [some (.ref 1), some (.int p1), some (.int p2), some (.int p3), some (.int ((p1 * (I 1 0)) + p2))], [], qp_mk I1 J1)) (cf := (34, [some (.ref 1), some (.int p1), some (.int p2), some (.int p3), some (.int ((p1 * (I 1 0)) + p2))], [], qp_mk I1 J1)) (by with_unfolding_all rfl) (fun h3 => ?_) (fun h3 => ?_)
      · replace h := qp_ift h3 h
        obtain ⟨rfl, rfl, rfl⟩ := qp_some3 h
        exact qp_retV_E qp_ok16 rfl qp_r16.1 ⟨rfl, rfl⟩ ⟨rfl, rfl⟩
      · replace h := qp_iff h3 h
        obtain ⟨h4, h⟩ := qp_gd_s h
        refine qp_run_E qp_ok16 5 (f := vp_in ((p1 * (I 1 0)) + p2) 240 ∧ True) (c' := (42, [some (.ref 1), some (.int p1), some (.int p2), some (.int p3), some (.int ((p1 * (I 1 0)) + p2))], [], qp_mk (qp_up I1 3 (Int32.toNatClampNeg ((p1 * (I 1 0)) + p2)) p3) J1)) (by with_unfolding_all rfl) hd1 ⟨(qp_vin (c := 240) (by decide) h4.1 h4.2), trivial⟩ ?_
        obtain ⟨rfl, rfl, rfl⟩ := qp_some3 h
        exact qp_retV_E qp_ok16 rfl qp_r16.1 ⟨rfl, rfl⟩ ⟨rfl, rfl⟩
def fS_fresh_1_b30  : Nat → Int32 → Int32 → Int32 → Int32 → (Nat → Nat → Int32) → (Nat → Nat → Int64) → Option (Unit × (Nat → Nat → Int32) × (Nat → Nat → Int64))
  | 0, _, _, _, _, _, _ => none
  | n + 1, a1, a2, a3, a4, I, J =>
    if a2 ≤ a4 then (
      some ((), I, J)
    ) else (
      qp_bd (fS_set_1 a1 a4 a3 I J) fun _u I1 J1 =>
      fS_fresh_1_b30 n a1 a2 a3 (a4 + 1) I1 J1
    )
set_option maxRecDepth 8000 in
theorem gS_fresh_1_b30 {l : Launch} {G : qp_G} {d : Nat} (hd : 4 ≤ d) {r : (Unit × (Nat → Nat → Int32) × (Nat → Nat → Int64))} {I0 : Nat → Nat → Int32} {J0 : Nat → Nat → Int64}   : ∀ (n : Nat) (a1 : Int32) (a2 : Int32) (a3 : Int32) (a4 : Int32) (I : Nat → Nat → Int32) (J : Nat → Nat → Int64), fS_fresh_1_b30  n a1 a2 a3 a4 I J = some r → qp_E l G d 15 (qp_mk I0 J0) 0 0 (qp_R8 none r.2.1 r.2.2) (30, [some (.ref 1), some (.int a1), some (.int a2), some (.int a3), some (.int a4)], [], qp_mk I J) := by
  have hd1 : Nat.ble 1 d = true := Nat.ble_eq_true_of_le (Nat.le_trans (by decide) hd)
  intro n
  induction n with
  | zero => intro a1 a2 a3 a4 I J h; exact absurd h (by simp [fS_fresh_1_b30])
  | succ n ih =>
    intro a1 a2 a3 a4 I J h
    rw [fS_fresh_1_b30] at h
    refine qp_run_E qp_ok15 2 (c' := (33, [some (.ref 1), some (.int a1), some (.int a2), some (.int a3), some (.int a4)], [.int a2, .int a4], qp_mk I J)) (by with_unfolding_all rfl) hd1 trivial ?_
    refine qp_br_E qp_ok15 (f := a2 ≤ a4) (ct := (50, [some (.ref 1), some (.int a1), some (.int a2), some (.int a3), some (.int a4)], [], qp_mk I J)) (cf := (36, [some (.ref 1), some (.int a1), some (.int a2), some (.int a3), some (.int a4)], [], qp_mk I J)) (by with_unfolding_all rfl) (fun h1 => ?_) (fun h1 => ?_)
    · replace h := qp_ift h1 h
      obtain rfl := Option.some.inj h
      exact qp_retV_E qp_ok15 rfl qp_r15.1 ⟨rfl, rfl⟩ ⟨rfl, rfl⟩
    · replace h := qp_iff h1 h
      refine qp_run_E qp_ok15 4 (c' := (41, [some (.ref 1), some (.int a1), some (.int a2), some (.int a3), some (.int a4)], [.int a3, .int a4, .int a1, .ref 1], qp_mk I J)) (by with_unfolding_all rfl) hd1 trivial ?_
      obtain ⟨v1, I1, J1, e1, h⟩ := qp_bd_s h
      refine qp_cV qp_ok15 (rest := []) (oj := 1) qp_f16 rfl rfl (gS_set_1 l G a1 a4 a3 I J e1 (Nat.le_refl 3)) rfl rfl rfl rfl (Nat.le_trans (by decide) hd) ?_
      refine qp_run_E qp_ok15 2 (c' := (30, [some (.ref 1), some (.int a1), some (.int a2), some (.int a3), some (.int (a4 + 1))], [], qp_mk I1 J1)) (by with_unfolding_all rfl) hd1 trivial ?_
      exact ih a1 a2 a3 (a4 + 1) I1 J1 h
def fS_fresh_1 (p1 : Int32) (p2 : Int32) (p3 : Int32) (I : Nat → Nat → Int32) (J : Nat → Nat → Int64) : Option (Unit × (Nat → Nat → Int32) × (Nat → Nat → Int64)) :=
  qp_bd (fS_isNumber_1 p1 I J) fun v1 I1 J1 =>
  if v1 = 0 then (
    some ((), I1, J1)
  ) else (
    if p2 < 0 then (
      some ((), I1, J1)
    ) else (
      if (I1 1 0) < p2 then (
        some ((), I1, J1)
      ) else (
        qp_gd ((0 ≤ p1 ∧ p1 < 6)) <|
        fS_fresh_1_b30 100000 p1 p2 p3 0 (qp_up I1 2 (Int32.toNatClampNeg p1) p2) J1
      )
    )
  )
set_option maxRecDepth 8000 in
theorem gS_fresh_1 (l : Launch) (G : qp_G) (p1 : Int32) (p2 : Int32) (p3 : Int32) (I : Nat → Nat → Int32) (J : Nat → Nat → Int64) {v : Unit} {I' : Nat → Nat → Int32} {J' : Nat → Nat → Int64} (h : fS_fresh_1 p1 p2 p3 I J = some (v, I', J')) {d : Nat} (hd : 4 ≤ d) : qp_Met l G d 15 [.ref 1, .int p1, .int p2, .int p3] (qp_mk I J) 0 0 (qp_R8 none I' J') := by
  have hd1 : Nat.ble 1 d = true := Nat.ble_eq_true_of_le (Nat.le_trans (by decide) hd)
  refine qp_Met_of (by decide) (by rw [qp_r15.2]; rfl) [some (.ref 1), some (.int p1), some (.int p2), some (.int p3), none] (by rw [qp_r15.2]; rfl) ?_
  unfold fS_fresh_1 at h
  refine qp_run_E qp_ok15 2 (c' := (2, [some (.ref 1), some (.int p1), some (.int p2), some (.int p3), none], [.int p1, .ref 1], qp_mk I J)) (by with_unfolding_all rfl) hd1 trivial ?_
  obtain ⟨v1, I1, J1, e1, h⟩ := qp_bd_s h
  refine qp_cV qp_ok15 (rest := []) (oj := 1) qp_f13 rfl rfl (gS_isNumber_1 l G p1 I J e1 (Nat.le_refl 1)) rfl rfl rfl rfl (Nat.le_trans (by decide) hd) ?_
  refine qp_br_E qp_ok15 (f := v1 = 0) (ct := (50, [some (.ref 1), some (.int p1), some (.int p2), some (.int p3), none], [], qp_mk I1 J1)) (cf := (8, [some (.ref 1), some (.int p1), some (.int p2), some (.int p3), none], [], qp_mk I1 J1)) (by with_unfolding_all rfl) (fun h1 => ?_) (fun h1 => ?_)
  · replace h := qp_ift h1 h
    obtain ⟨rfl, rfl, rfl⟩ := qp_some3 h
    exact qp_retV_E qp_ok15 rfl qp_r15.1 ⟨rfl, rfl⟩ ⟨rfl, rfl⟩
  · replace h := qp_iff h1 h
    refine qp_run_E qp_ok15 1 (c' := (9, [some (.ref 1), some (.int p1), some (.int p2), some (.int p3), none], [.int p2], qp_mk I1 J1)) (by with_unfolding_all rfl) hd1 trivial ?_
    refine qp_br_E qp_ok15 (f := p2 < 0) (ct := (50, [some (.ref 1), some (.int p1), some (.int p2), some (.int p3), none], [], qp_mk I1 J1)) (cf := (12, [some (.ref 1), some (.int p1), some (.int p2), some (.int p3), none], [], qp_mk I1 J1)) (by with_unfolding_all rfl) (fun h2 => ?_) (fun h2 => ?_)
    · replace h := qp_ift h2 h
      obtain ⟨rfl, rfl, rfl⟩ := qp_some3 h
      exact qp_retV_E qp_ok15 rfl qp_r15.1 ⟨rfl, rfl⟩ ⟨rfl, rfl⟩
    · replace h := qp_iff h2 h
      refine qp_run_E qp_ok15 3 (c' := (17, [some (.ref 1), some (.int p1), some (.int p2), some (.int p3), none], [.int (I1 1 0), .int p2], qp_mk I1 J1)) (by with_unfolding_all rfl) hd1 trivial ?_
      refine qp_br_E qp_ok15 (f := (I1 1 0) < p2) (ct := (50, [some (.ref 1), some (.int p1), some (.int p2), some (.int p3), none], [], qp_mk I1 J1)) (cf := (20, [some (.ref 1), some (.int p1), some (.int p2), some (.int p3), none], [], qp_mk I1 J1)) (by with_unfolding_all rfl) (fun h3 => ?_) (fun h3 => ?_)
      · replace h := qp_ift h3 h
        obtain ⟨rfl, rfl, rfl⟩ := qp_some3 h
        exact qp_retV_E qp_ok15 rfl qp_r15.1 ⟨rfl, rfl⟩ ⟨rfl, rfl⟩
      · replace h := qp_iff h3 h
        obtain ⟨h4, h⟩ := qp_gd_s h
        refine qp_run_E qp_ok15 7 (f := vp_in p1 6 ∧ True) (c' := (30, [some (.ref 1), some (.int p1), some (.int p2), some (.int p3), some (.int 0)], [], qp_mk (qp_up I1 2 (Int32.toNatClampNeg p1) p2) J1)) (by with_unfolding_all rfl) hd1 ⟨(qp_vin (c := 6) (by decide) h4.1 h4.2), trivial⟩ ?_
        exact gS_fresh_1_b30 hd 100000 p1 p2 p3 0 (qp_up I1 2 (Int32.toNatClampNeg p1) p2) J1 h
def fX_found (p1 : Int32) (I : Nat → Nat → Int32) (J : Nat → Nat → Int64) : Option (Int32 × (Nat → Nat → Int32) × (Nat → Nat → Int64)) :=
  if p1 < 1 then (
    some ((-3), (qp_up I 0 10 p1), J)
  ) else (
    if 5 < p1 then (
      some ((-3), (qp_up I 0 10 p1), J)
    ) else (
      qp_gd ((0 ≤ p1 ∧ p1 < 6)) <|
      some ((-3), (qp_up (qp_up I 0 10 p1) 35 (Int32.toNatClampNeg p1) ((I 35 (Int32.toNatClampNeg p1)) + 1)), J)
    )
  )
set_option maxRecDepth 8000 in
theorem gX_found (l : Launch) (G : qp_G) (p1 : Int32) (I : Nat → Nat → Int32) (J : Nat → Nat → Int64) {v : Int32} {I' : Nat → Nat → Int32} {J' : Nat → Nat → Int64} (h : fX_found p1 I J = some (v, I', J')) {d : Nat} (hd : 1 ≤ d) : qp_Met l G d 14 [.ref 0, .int p1] (qp_mk I J) 0 0 (qp_R8 (some (.int v)) I' J') := by
  have hd1 : Nat.ble 1 d = true := Nat.ble_eq_true_of_le (Nat.le_trans (by decide) hd)
  refine qp_Met_of (by decide) (by rw [qp_r14.2]; rfl) [some (.ref 0), some (.int p1)] (by rw [qp_r14.2]; rfl) ?_
  unfold fX_found at h
  refine qp_run_E qp_ok14 5 (c' := (7, [some (.ref 0), some (.int p1)], [.int 1, .int p1], qp_mk (qp_up I 0 10 p1) J)) (by with_unfolding_all rfl) hd1 trivial ?_
  refine qp_br_E qp_ok14 (f := p1 < 1) (ct := (25, [some (.ref 0), some (.int p1)], [], qp_mk (qp_up I 0 10 p1) J)) (cf := (10, [some (.ref 0), some (.int p1)], [], qp_mk (qp_up I 0 10 p1) J)) (by with_unfolding_all rfl) (fun h1 => ?_) (fun h1 => ?_)
  · replace h := qp_ift h1 h
    refine qp_run_E qp_ok14 1 (c' := (27, [some (.ref 0), some (.int p1)], [.int (-3)], qp_mk (qp_up I 0 10 p1) J)) (by with_unfolding_all rfl) hd1 trivial ?_
    obtain ⟨rfl, rfl, rfl⟩ := qp_some3 h
    exact qp_retI_E qp_ok14 rfl qp_r14.1 ⟨rfl, rfl⟩ ⟨rfl, rfl⟩
  · replace h := qp_iff h1 h
    refine qp_run_E qp_ok14 2 (c' := (12, [some (.ref 0), some (.int p1)], [.int 5, .int p1], qp_mk (qp_up I 0 10 p1) J)) (by with_unfolding_all rfl) hd1 trivial ?_
    refine qp_br_E qp_ok14 (f := 5 < p1) (ct := (25, [some (.ref 0), some (.int p1)], [], qp_mk (qp_up I 0 10 p1) J)) (cf := (15, [some (.ref 0), some (.int p1)], [], qp_mk (qp_up I 0 10 p1) J)) (by with_unfolding_all rfl) (fun h2 => ?_) (fun h2 => ?_)
    · replace h := qp_ift h2 h
      refine qp_run_E qp_ok14 1 (c' := (27, [some (.ref 0), some (.int p1)], [.int (-3)], qp_mk (qp_up I 0 10 p1) J)) (by with_unfolding_all rfl) hd1 trivial ?_
      obtain ⟨rfl, rfl, rfl⟩ := qp_some3 h
      exact qp_retI_E qp_ok14 rfl qp_r14.1 ⟨rfl, rfl⟩ ⟨rfl, rfl⟩
    · replace h := qp_iff h2 h
      obtain ⟨h3, h⟩ := qp_gd_s h
      refine qp_run_E qp_ok14 9 (f := vp_in p1 6 ∧ vp_in p1 6 ∧ True) (c' := (27, [some (.ref 0), some (.int p1)], [.int (-3)], qp_mk (qp_up (qp_up I 0 10 p1) 35 (Int32.toNatClampNeg p1) ((I 35 (Int32.toNatClampNeg p1)) + 1)) J)) (by with_unfolding_all rfl) hd1 ⟨(qp_vin (c := 6) (by decide) h3.1 h3.2), (qp_vin (c := 6) (by decide) h3.1 h3.2), trivial⟩ ?_
      obtain ⟨rfl, rfl, rfl⟩ := qp_some3 h
      exact qp_retI_E qp_ok14 rfl qp_r14.1 ⟨rfl, rfl⟩ ⟨rfl, rfl⟩
def fX_anew_0_1 (p2 : Int32) (p3 : Int32) (p4 : Int32) (I : Nat → Nat → Int32) (J : Nat → Nat → Int64) : Option (Int32 × (Nat → Nat → Int32) × (Nat → Nat → Int64)) :=
  qp_bd (fS_isNumber_1 p2 I J) fun v1 I1 J1 =>
  if v1 = 0 then (
    some ((-1), I1, J1)
  ) else (
    if p3 ≤ (I1 1 0) then (
      if 0 ≤ p3 then (
        qp_bd (fS_fresh_1 p2 p3 p4 I1 J1) fun _u I2 J2 =>
        some (p3, I2, J2)
      ) else (
        qp_bd (fX_found 5 I1 J1) fun v3 I3 J3 =>
        some (v3, I3, J3)
      )
    ) else (
      some ((-1), I1, J1)
    )
  )
set_option maxRecDepth 8000 in
theorem gX_anew_0_1 (l : Launch) (G : qp_G) (p2 : Int32) (p3 : Int32) (p4 : Int32) (I : Nat → Nat → Int32) (J : Nat → Nat → Int64) {v : Int32} {I' : Nat → Nat → Int32} {J' : Nat → Nat → Int64} (h : fX_anew_0_1 p2 p3 p4 I J = some (v, I', J')) {d : Nat} (hd : 5 ≤ d) : qp_Met l G d 12 [.ref 0, .ref 1, .int p2, .int p3, .int p4] (qp_mk I J) 0 0 (qp_R8 (some (.int v)) I' J') := by
  have hd1 : Nat.ble 1 d = true := Nat.ble_eq_true_of_le (Nat.le_trans (by decide) hd)
  refine qp_Met_of (by decide) (by rw [qp_r12.2]; rfl) [some (.ref 0), some (.ref 1), some (.int p2), some (.int p3), some (.int p4)] (by rw [qp_r12.2]; rfl) ?_
  unfold fX_anew_0_1 at h
  refine qp_run_E qp_ok12 2 (c' := (2, [some (.ref 0), some (.ref 1), some (.int p2), some (.int p3), some (.int p4)], [.int p2, .ref 1], qp_mk I J)) (by with_unfolding_all rfl) hd1 trivial ?_
  obtain ⟨v1, I1, J1, e1, h⟩ := qp_bd_s h
  refine qp_cV qp_ok12 (rest := []) (oj := 1) qp_f13 rfl rfl (gS_isNumber_1 l G p2 I J e1 (Nat.le_refl 1)) rfl rfl rfl rfl (Nat.le_trans (by decide) hd) ?_
  refine qp_br_E qp_ok12 (f := v1 = 0) (ct := (16, [some (.ref 0), some (.ref 1), some (.int p2), some (.int p3), some (.int p4)], [], qp_mk I1 J1)) (cf := (8, [some (.ref 0), some (.ref 1), some (.int p2), some (.int p3), some (.int p4)], [], qp_mk I1 J1)) (by with_unfolding_all rfl) (fun h1 => ?_) (fun h1 => ?_)
  · replace h := qp_ift h1 h
    refine qp_run_E qp_ok12 1 (c' := (17, [some (.ref 0), some (.ref 1), some (.int p2), some (.int p3), some (.int p4)], [.int (-1)], qp_mk I1 J1)) (by with_unfolding_all rfl) hd1 trivial ?_
    obtain ⟨rfl, rfl, rfl⟩ := qp_some3 h
    exact qp_retI_E qp_ok12 rfl qp_r12.1 ⟨rfl, rfl⟩ ⟨rfl, rfl⟩
  · replace h := qp_iff h1 h
    refine qp_run_E qp_ok12 3 (c' := (13, [some (.ref 0), some (.ref 1), some (.int p2), some (.int p3), some (.int p4)], [.int (I1 1 0), .int p3], qp_mk I1 J1)) (by with_unfolding_all rfl) hd1 trivial ?_
    refine qp_br_E qp_ok12 (f := p3 ≤ (I1 1 0)) (ct := (18, [some (.ref 0), some (.ref 1), some (.int p2), some (.int p3), some (.int p4)], [], qp_mk I1 J1)) (cf := (16, [some (.ref 0), some (.ref 1), some (.int p2), some (.int p3), some (.int p4)], [], qp_mk I1 J1)) (by with_unfolding_all rfl) (fun h2 => ?_) (fun h2 => ?_)
    · replace h := qp_ift h2 h
      refine qp_run_E qp_ok12 1 (c' := (19, [some (.ref 0), some (.ref 1), some (.int p2), some (.int p3), some (.int p4)], [.int p3], qp_mk I1 J1)) (by with_unfolding_all rfl) hd1 trivial ?_
      refine qp_br_E qp_ok12 (f := 0 ≤ p3) (ct := (28, [some (.ref 0), some (.ref 1), some (.int p2), some (.int p3), some (.int p4)], [], qp_mk I1 J1)) (cf := (22, [some (.ref 0), some (.ref 1), some (.int p2), some (.int p3), some (.int p4)], [], qp_mk I1 J1)) (by with_unfolding_all rfl) (fun h3 => ?_) (fun h3 => ?_)
      · replace h := qp_ift h3 h
        refine qp_run_E qp_ok12 4 (c' := (33, [some (.ref 0), some (.ref 1), some (.int p2), some (.int p3), some (.int p4)], [.int p4, .int p3, .int p2, .ref 1], qp_mk I1 J1)) (by with_unfolding_all rfl) hd1 trivial ?_
        obtain ⟨v2, I2, J2, e2, h⟩ := qp_bd_s h
        refine qp_cV qp_ok12 (rest := []) (oj := 1) qp_f15 rfl rfl (gS_fresh_1 l G p2 p3 p4 I1 J1 e2 (Nat.le_refl 4)) rfl rfl rfl rfl (Nat.le_trans (by decide) hd) ?_
        refine qp_run_E qp_ok12 1 (c' := (37, [some (.ref 0), some (.ref 1), some (.int p2), some (.int p3), some (.int p4)], [.int p3], qp_mk I2 J2)) (by with_unfolding_all rfl) hd1 trivial ?_
        obtain ⟨rfl, rfl, rfl⟩ := qp_some3 h
        exact qp_retI_E qp_ok12 rfl qp_r12.1 ⟨rfl, rfl⟩ ⟨rfl, rfl⟩
      · replace h := qp_iff h3 h
        refine qp_run_E qp_ok12 2 (c' := (24, [some (.ref 0), some (.ref 1), some (.int p2), some (.int p3), some (.int p4)], [.int 5, .ref 0], qp_mk I1 J1)) (by with_unfolding_all rfl) hd1 trivial ?_
        obtain ⟨v3, I3, J3, e3, h⟩ := qp_bd_s h
        refine qp_cV qp_ok12 (rest := []) (oj := 0) qp_f14 rfl rfl (gX_found l G 5 I1 J1 e3 (Nat.le_refl 1)) rfl rfl rfl rfl (Nat.le_trans (by decide) hd) ?_
        obtain ⟨rfl, rfl, rfl⟩ := qp_some3 h
        exact qp_retI_E qp_ok12 rfl qp_r12.1 ⟨rfl, rfl⟩ ⟨rfl, rfl⟩
    · replace h := qp_iff h2 h
      refine qp_run_E qp_ok12 1 (c' := (17, [some (.ref 0), some (.ref 1), some (.int p2), some (.int p3), some (.int p4)], [.int (-1)], qp_mk I1 J1)) (by with_unfolding_all rfl) hd1 trivial ?_
      obtain ⟨rfl, rfl, rfl⟩ := qp_some3 h
      exact qp_retI_E qp_ok12 rfl qp_r12.1 ⟨rfl, rfl⟩ ⟨rfl, rfl⟩
def fX_row (p1 : Int32) (p2 : Int32) (I : Nat → Nat → Int32) (J : Nat → Nat → Int64) : Option (Int32 × (Nat → Nat → Int32) × (Nat → Nat → Int64)) :=
  qp_bd (fX_anew_0_1 p1 p2 0 I J) fun v1 I1 J1 =>
  some (v1, I1, J1)
set_option maxRecDepth 8000 in
theorem gX_row (l : Launch) (G : qp_G) (p1 : Int32) (p2 : Int32) (I : Nat → Nat → Int32) (J : Nat → Nat → Int64) {v : Int32} {I' : Nat → Nat → Int32} {J' : Nat → Nat → Int64} (h : fX_row p1 p2 I J = some (v, I', J')) {d : Nat} (hd : 6 ≤ d) : qp_Met l G d 11 [.ref 0, .int p1, .int p2] (qp_mk I J) 0 0 (qp_R8 (some (.int v)) I' J') := by
  have hd1 : Nat.ble 1 d = true := Nat.ble_eq_true_of_le (Nat.le_trans (by decide) hd)
  refine qp_Met_of (by decide) (by rw [qp_r11.2]; rfl) [some (.ref 0), some (.int p1), some (.int p2)] (by rw [qp_r11.2]; rfl) ?_
  unfold fX_row at h
  refine qp_run_E qp_ok11 6 (c' := (8, [some (.ref 0), some (.int p1), some (.int p2)], [.int 0, .int p2, .int p1, .ref 1, .ref 0], qp_mk I J)) (by with_unfolding_all rfl) hd1 trivial ?_
  obtain ⟨v1, I1, J1, e1, h⟩ := qp_bd_s h
  refine qp_cV qp_ok11 (rest := []) (oj := 0) qp_f12 rfl rfl (gX_anew_0_1 l G p1 p2 0 I J e1 (Nat.le_refl 5)) rfl rfl rfl rfl (Nat.le_trans (by decide) hd) ?_
  obtain ⟨rfl, rfl, rfl⟩ := qp_some3 h
  exact qp_retI_E qp_ok11 rfl qp_r11.1 ⟨rfl, rfl⟩ ⟨rfl, rfl⟩
def fS_sizeOf_1 (p1 : Int32) (I : Nat → Nat → Int32) (J : Nat → Nat → Int64) : Option (Int32 × (Nat → Nat → Int32) × (Nat → Nat → Int64)) :=
  qp_bd (fS_isNumber_1 p1 I J) fun v1 I1 J1 =>
  if v1 = 0 then (
    some ((-1), I1, J1)
  ) else (
    qp_gd ((0 ≤ p1 ∧ p1 < 6)) <|
    some ((I1 2 (Int32.toNatClampNeg p1)), I1, J1)
  )
set_option maxRecDepth 8000 in
theorem gS_sizeOf_1 (l : Launch) (G : qp_G) (p1 : Int32) (I : Nat → Nat → Int32) (J : Nat → Nat → Int64) {v : Int32} {I' : Nat → Nat → Int32} {J' : Nat → Nat → Int64} (h : fS_sizeOf_1 p1 I J = some (v, I', J')) {d : Nat} (hd : 2 ≤ d) : qp_Met l G d 22 [.ref 1, .int p1] (qp_mk I J) 0 0 (qp_R8 (some (.int v)) I' J') := by
  have hd1 : Nat.ble 1 d = true := Nat.ble_eq_true_of_le (Nat.le_trans (by decide) hd)
  refine qp_Met_of (by decide) (by rw [qp_r22.2]; rfl) [some (.ref 1), some (.int p1)] (by rw [qp_r22.2]; rfl) ?_
  unfold fS_sizeOf_1 at h
  refine qp_run_E qp_ok22 2 (c' := (2, [some (.ref 1), some (.int p1)], [.int p1, .ref 1], qp_mk I J)) (by with_unfolding_all rfl) hd1 trivial ?_
  obtain ⟨v1, I1, J1, e1, h⟩ := qp_bd_s h
  refine qp_cV qp_ok22 (rest := []) (oj := 1) qp_f13 rfl rfl (gS_isNumber_1 l G p1 I J e1 (Nat.le_refl 1)) rfl rfl rfl rfl (Nat.le_trans (by decide) hd) ?_
  refine qp_br_E qp_ok22 (f := v1 = 0) (ct := (17, [some (.ref 1), some (.int p1)], [], qp_mk I1 J1)) (cf := (8, [some (.ref 1), some (.int p1)], [], qp_mk I1 J1)) (by with_unfolding_all rfl) (fun h1 => ?_) (fun h1 => ?_)
  · replace h := qp_ift h1 h
    refine qp_run_E qp_ok22 1 (c' := (18, [some (.ref 1), some (.int p1)], [.int (-1)], qp_mk I1 J1)) (by with_unfolding_all rfl) hd1 trivial ?_
    obtain ⟨rfl, rfl, rfl⟩ := qp_some3 h
    exact qp_retI_E qp_ok22 rfl qp_r22.1 ⟨rfl, rfl⟩ ⟨rfl, rfl⟩
  · replace h := qp_iff h1 h
    obtain ⟨h2, h⟩ := qp_gd_s h
    refine qp_run_E qp_ok22 5 (f := vp_in p1 6 ∧ True) (c' := (18, [some (.ref 1), some (.int p1)], [.int (I1 2 (Int32.toNatClampNeg p1))], qp_mk I1 J1)) (by with_unfolding_all rfl) hd1 ⟨(qp_vin (c := 6) (by decide) h2.1 h2.2), trivial⟩ ?_
    obtain ⟨rfl, rfl, rfl⟩ := qp_some3 h
    exact qp_retI_E qp_ok22 rfl qp_r22.1 ⟨rfl, rfl⟩ ⟨rfl, rfl⟩
def fS_has_1 (p1 : Int32) (I : Nat → Nat → Int32) (J : Nat → Nat → Int64) : Option (Int32 × (Nat → Nat → Int32) × (Nat → Nat → Int64)) :=
  qp_bd (fS_sizeOf_1 p1 I J) fun v1 I1 J1 =>
  if v1 = (-1) then (
    some (0, I1, J1)
  ) else (
    some (1, I1, J1)
  )
set_option maxRecDepth 8000 in
theorem gS_has_1 (l : Launch) (G : qp_G) (p1 : Int32) (I : Nat → Nat → Int32) (J : Nat → Nat → Int64) {v : Int32} {I' : Nat → Nat → Int32} {J' : Nat → Nat → Int64} (h : fS_has_1 p1 I J = some (v, I', J')) {d : Nat} (hd : 3 ≤ d) : qp_Met l G d 21 [.ref 1, .int p1] (qp_mk I J) 0 0 (qp_R8 (some (.int v)) I' J') := by
  have hd1 : Nat.ble 1 d = true := Nat.ble_eq_true_of_le (Nat.le_trans (by decide) hd)
  refine qp_Met_of (by decide) (by rw [qp_r21.2]; rfl) [some (.ref 1), some (.int p1)] (by rw [qp_r21.2]; rfl) ?_
  unfold fS_has_1 at h
  refine qp_run_E qp_ok21 2 (c' := (2, [some (.ref 1), some (.int p1)], [.int p1, .ref 1], qp_mk I J)) (by with_unfolding_all rfl) hd1 trivial ?_
  obtain ⟨v1, I1, J1, e1, h⟩ := qp_bd_s h
  refine qp_cV qp_ok21 (rest := []) (oj := 1) qp_f22 rfl rfl (gS_sizeOf_1 l G p1 I J e1 (Nat.le_refl 2)) rfl rfl rfl rfl (Nat.le_trans (by decide) hd) ?_
  refine qp_run_E qp_ok21 1 (c' := (6, [some (.ref 1), some (.int p1)], [.int (-1), .int v1], qp_mk I1 J1)) (by with_unfolding_all rfl) hd1 trivial ?_
  refine qp_br_E qp_ok21 (f := v1 = (-1)) (ct := (13, [some (.ref 1), some (.int p1)], [], qp_mk I1 J1)) (cf := (9, [some (.ref 1), some (.int p1)], [], qp_mk I1 J1)) (by with_unfolding_all rfl) (fun h1 => ?_) (fun h1 => ?_)
  · replace h := qp_ift h1 h
    refine qp_run_E qp_ok21 1 (c' := (14, [some (.ref 1), some (.int p1)], [.int 0], qp_mk I1 J1)) (by with_unfolding_all rfl) hd1 trivial ?_
    obtain ⟨rfl, rfl, rfl⟩ := qp_some3 h
    exact qp_retZ_E qp_ok21 rfl qp_r21.1 rfl ⟨rfl, rfl⟩ ⟨rfl, rfl⟩
  · replace h := qp_iff h1 h
    refine qp_run_E qp_ok21 2 (c' := (14, [some (.ref 1), some (.int p1)], [.int 1], qp_mk I1 J1)) (by with_unfolding_all rfl) hd1 trivial ?_
    obtain ⟨rfl, rfl, rfl⟩ := qp_some3 h
    exact qp_retZ_E qp_ok21 rfl qp_r21.1 rfl ⟨rfl, rfl⟩ ⟨rfl, rfl⟩
def fX_refusalOf_0_1 (p2 : Int32) (I : Nat → Nat → Int32) (J : Nat → Nat → Int64) : Option (Int32 × (Nat → Nat → Int32) × (Nat → Nat → Int64)) :=
  qp_bd (fS_isNumber_1 p2 I J) fun v1 I1 J1 =>
  if ¬ v1 = 0 then (
    qp_bd (fS_has_1 p2 I1 J1) fun v2 I2 J2 =>
    if v2 = 0 then (
      qp_bd (fX_found 1 I2 J2) fun v3 I3 J3 =>
      some (v3, I3, J3)
    ) else (
      some (0, I2, J2)
    )
  ) else (
    some ((-1), I1, J1)
  )
set_option maxRecDepth 8000 in
theorem gX_refusalOf_0_1 (l : Launch) (G : qp_G) (p2 : Int32) (I : Nat → Nat → Int32) (J : Nat → Nat → Int64) {v : Int32} {I' : Nat → Nat → Int32} {J' : Nat → Nat → Int64} (h : fX_refusalOf_0_1 p2 I J = some (v, I', J')) {d : Nat} (hd : 4 ≤ d) : qp_Met l G d 20 [.ref 0, .ref 1, .int p2] (qp_mk I J) 0 0 (qp_R8 (some (.int v)) I' J') := by
  have hd1 : Nat.ble 1 d = true := Nat.ble_eq_true_of_le (Nat.le_trans (by decide) hd)
  refine qp_Met_of (by decide) (by rw [qp_r20.2]; rfl) [some (.ref 0), some (.ref 1), some (.int p2)] (by rw [qp_r20.2]; rfl) ?_
  unfold fX_refusalOf_0_1 at h
  refine qp_run_E qp_ok20 2 (c' := (2, [some (.ref 0), some (.ref 1), some (.int p2)], [.int p2, .ref 1], qp_mk I J)) (by with_unfolding_all rfl) hd1 trivial ?_
  obtain ⟨v1, I1, J1, e1, h⟩ := qp_bd_s h
  refine qp_cV qp_ok20 (rest := []) (oj := 1) qp_f13 rfl rfl (gS_isNumber_1 l G p2 I J e1 (Nat.le_refl 1)) rfl rfl rfl rfl (Nat.le_trans (by decide) hd) ?_
  refine qp_br_E qp_ok20 (f := ¬ v1 = 0) (ct := (10, [some (.ref 0), some (.ref 1), some (.int p2)], [], qp_mk I1 J1)) (cf := (8, [some (.ref 0), some (.ref 1), some (.int p2)], [], qp_mk I1 J1)) (by with_unfolding_all rfl) (fun h1 => ?_) (fun h1 => ?_)
  · replace h := qp_ift h1 h
    refine qp_run_E qp_ok20 2 (c' := (12, [some (.ref 0), some (.ref 1), some (.int p2)], [.int p2, .ref 1], qp_mk I1 J1)) (by with_unfolding_all rfl) hd1 trivial ?_
    obtain ⟨v2, I2, J2, e2, h⟩ := qp_bd_s h
    refine qp_cV qp_ok20 (rest := []) (oj := 1) qp_f21 rfl rfl (gS_has_1 l G p2 I1 J1 e2 (Nat.le_refl 3)) rfl rfl rfl rfl (Nat.le_trans (by decide) hd) ?_
    refine qp_br_E qp_ok20 (f := v2 = 0) (ct := (22, [some (.ref 0), some (.ref 1), some (.int p2)], [], qp_mk I2 J2)) (cf := (18, [some (.ref 0), some (.ref 1), some (.int p2)], [], qp_mk I2 J2)) (by with_unfolding_all rfl) (fun h2 => ?_) (fun h2 => ?_)
    · replace h := qp_ift h2 h
      refine qp_run_E qp_ok20 2 (c' := (24, [some (.ref 0), some (.ref 1), some (.int p2)], [.int 1, .ref 0], qp_mk I2 J2)) (by with_unfolding_all rfl) hd1 trivial ?_
      obtain ⟨v3, I3, J3, e3, h⟩ := qp_bd_s h
      refine qp_cV qp_ok20 (rest := []) (oj := 0) qp_f14 rfl rfl (gX_found l G 1 I2 J2 e3 (Nat.le_refl 1)) rfl rfl rfl rfl (Nat.le_trans (by decide) hd) ?_
      obtain ⟨rfl, rfl, rfl⟩ := qp_some3 h
      exact qp_retI_E qp_ok20 rfl qp_r20.1 ⟨rfl, rfl⟩ ⟨rfl, rfl⟩
    · replace h := qp_iff h2 h
      refine qp_run_E qp_ok20 2 (c' := (27, [some (.ref 0), some (.ref 1), some (.int p2)], [.int 0], qp_mk I2 J2)) (by with_unfolding_all rfl) hd1 trivial ?_
      obtain ⟨rfl, rfl, rfl⟩ := qp_some3 h
      exact qp_retI_E qp_ok20 rfl qp_r20.1 ⟨rfl, rfl⟩ ⟨rfl, rfl⟩
  · replace h := qp_iff h1 h
    refine qp_run_E qp_ok20 1 (c' := (9, [some (.ref 0), some (.ref 1), some (.int p2)], [.int (-1)], qp_mk I1 J1)) (by with_unfolding_all rfl) hd1 trivial ?_
    obtain ⟨rfl, rfl, rfl⟩ := qp_some3 h
    exact qp_retI_E qp_ok20 rfl qp_r20.1 ⟨rfl, rfl⟩ ⟨rfl, rfl⟩
def fX_refusalOfPlace_0_1 (p2 : Int32) (p3 : Int32) (I : Nat → Nat → Int32) (J : Nat → Nat → Int64) : Option (Int32 × (Nat → Nat → Int32) × (Nat → Nat → Int64)) :=
  qp_bd (fX_refusalOf_0_1 p2 I J) fun v1 I1 J1 =>
  if v1 = 0 then (
    qp_bd (fS_hasPlace_1 p2 p3 I1 J1) fun v2 I2 J2 =>
    if v2 = 0 then (
      qp_bd (fX_found 2 I2 J2) fun v3 I3 J3 =>
      some (v3, I3, J3)
    ) else (
      some (0, I2, J2)
    )
  ) else (
    some (v1, I1, J1)
  )
set_option maxRecDepth 8000 in
theorem gX_refusalOfPlace_0_1 (l : Launch) (G : qp_G) (p2 : Int32) (p3 : Int32) (I : Nat → Nat → Int32) (J : Nat → Nat → Int64) {v : Int32} {I' : Nat → Nat → Int32} {J' : Nat → Nat → Int64} (h : fX_refusalOfPlace_0_1 p2 p3 I J = some (v, I', J')) {d : Nat} (hd : 5 ≤ d) : qp_Met l G d 19 [.ref 0, .ref 1, .int p2, .int p3] (qp_mk I J) 0 0 (qp_R8 (some (.int v)) I' J') := by
  have hd1 : Nat.ble 1 d = true := Nat.ble_eq_true_of_le (Nat.le_trans (by decide) hd)
  refine qp_Met_of (by decide) (by rw [qp_r19.2]; rfl) [some (.ref 0), some (.ref 1), some (.int p2), some (.int p3), none] (by rw [qp_r19.2]; rfl) ?_
  unfold fX_refusalOfPlace_0_1 at h
  refine qp_run_E qp_ok19 3 (c' := (3, [some (.ref 0), some (.ref 1), some (.int p2), some (.int p3), none], [.int p2, .ref 1, .ref 0], qp_mk I J)) (by with_unfolding_all rfl) hd1 trivial ?_
  obtain ⟨v1, I1, J1, e1, h⟩ := qp_bd_s h
  refine qp_cV qp_ok19 (rest := []) (oj := 0) qp_f20 rfl rfl (gX_refusalOf_0_1 l G p2 I J e1 (Nat.le_refl 4)) rfl rfl rfl rfl (Nat.le_trans (by decide) hd) ?_
  refine qp_run_E qp_ok19 2 (c' := (10, [some (.ref 0), some (.ref 1), some (.int p2), some (.int p3), some (.int v1)], [.int v1], qp_mk I1 J1)) (by with_unfolding_all rfl) hd1 trivial ?_
  refine qp_br_E qp_ok19 (f := v1 = 0) (ct := (16, [some (.ref 0), some (.ref 1), some (.int p2), some (.int p3), some (.int v1)], [], qp_mk I1 J1)) (cf := (13, [some (.ref 0), some (.ref 1), some (.int p2), some (.int p3), some (.int v1)], [], qp_mk I1 J1)) (by with_unfolding_all rfl) (fun h1 => ?_) (fun h1 => ?_)
  · replace h := qp_ift h1 h
    refine qp_run_E qp_ok19 3 (c' := (19, [some (.ref 0), some (.ref 1), some (.int p2), some (.int p3), some (.int v1)], [.int p3, .int p2, .ref 1], qp_mk I1 J1)) (by with_unfolding_all rfl) hd1 trivial ?_
    obtain ⟨v2, I2, J2, e2, h⟩ := qp_bd_s h
    refine qp_cV qp_ok19 (rest := []) (oj := 1) qp_f17 rfl rfl (gS_hasPlace_1 l G p2 p3 I1 J1 e2 (Nat.le_refl 2)) rfl rfl rfl rfl (Nat.le_trans (by decide) hd) ?_
    refine qp_br_E qp_ok19 (f := v2 = 0) (ct := (29, [some (.ref 0), some (.ref 1), some (.int p2), some (.int p3), some (.int v1)], [], qp_mk I2 J2)) (cf := (25, [some (.ref 0), some (.ref 1), some (.int p2), some (.int p3), some (.int v1)], [], qp_mk I2 J2)) (by with_unfolding_all rfl) (fun h2 => ?_) (fun h2 => ?_)
    · replace h := qp_ift h2 h
      refine qp_run_E qp_ok19 2 (c' := (31, [some (.ref 0), some (.ref 1), some (.int p2), some (.int p3), some (.int v1)], [.int 2, .ref 0], qp_mk I2 J2)) (by with_unfolding_all rfl) hd1 trivial ?_
      obtain ⟨v3, I3, J3, e3, h⟩ := qp_bd_s h
      refine qp_cV qp_ok19 (rest := []) (oj := 0) qp_f14 rfl rfl (gX_found l G 2 I2 J2 e3 (Nat.le_refl 1)) rfl rfl rfl rfl (Nat.le_trans (by decide) hd) ?_
      obtain ⟨rfl, rfl, rfl⟩ := qp_some3 h
      exact qp_retI_E qp_ok19 rfl qp_r19.1 ⟨rfl, rfl⟩ ⟨rfl, rfl⟩
    · replace h := qp_iff h2 h
      refine qp_run_E qp_ok19 2 (c' := (34, [some (.ref 0), some (.ref 1), some (.int p2), some (.int p3), some (.int v1)], [.int 0], qp_mk I2 J2)) (by with_unfolding_all rfl) hd1 trivial ?_
      obtain ⟨rfl, rfl, rfl⟩ := qp_some3 h
      exact qp_retI_E qp_ok19 rfl qp_r19.1 ⟨rfl, rfl⟩ ⟨rfl, rfl⟩
  · replace h := qp_iff h1 h
    refine qp_run_E qp_ok19 1 (c' := (15, [some (.ref 0), some (.ref 1), some (.int p2), some (.int p3), some (.int v1)], [.int v1], qp_mk I1 J1)) (by with_unfolding_all rfl) hd1 trivial ?_
    obtain ⟨rfl, rfl, rfl⟩ := qp_some3 h
    exact qp_retI_E qp_ok19 rfl qp_r19.1 ⟨rfl, rfl⟩ ⟨rfl, rfl⟩
def fS_get_1 (p1 : Int32) (p2 : Int32) (I : Nat → Nat → Int32) (J : Nat → Nat → Int64) : Option (Int32 × (Nat → Nat → Int32) × (Nat → Nat → Int64)) :=
  qp_bd (fS_hasPlace_1 p1 p2 I J) fun v1 I1 J1 =>
  if v1 = 0 then (
    some (0, I1, J1)
  ) else (
    if ((p1 * (I 1 0)) + p2) < 0 then (
      some (0, I1, J1)
    ) else (
      if 240 ≤ ((p1 * (I 1 0)) + p2) then (
        some (0, I1, J1)
      ) else (
        qp_gd ((0 ≤ ((p1 * (I 1 0)) + p2) ∧ ((p1 * (I 1 0)) + p2) < 240)) <|
        some ((I1 3 (Int32.toNatClampNeg ((p1 * (I 1 0)) + p2))), I1, J1)
      )
    )
  )
set_option maxRecDepth 8000 in
theorem gS_get_1 (l : Launch) (G : qp_G) (p1 : Int32) (p2 : Int32) (I : Nat → Nat → Int32) (J : Nat → Nat → Int64) {v : Int32} {I' : Nat → Nat → Int32} {J' : Nat → Nat → Int64} (h : fS_get_1 p1 p2 I J = some (v, I', J')) {d : Nat} (hd : 3 ≤ d) : qp_Met l G d 23 [.ref 1, .int p1, .int p2] (qp_mk I J) 0 0 (qp_R8 (some (.int v)) I' J') := by
  have hd1 : Nat.ble 1 d = true := Nat.ble_eq_true_of_le (Nat.le_trans (by decide) hd)
  refine qp_Met_of (by decide) (by rw [qp_r23.2]; rfl) [some (.ref 1), some (.int p1), some (.int p2), none] (by rw [qp_r23.2]; rfl) ?_
  unfold fS_get_1 at h
  refine qp_run_E qp_ok23 10 (c' := (12, [some (.ref 1), some (.int p1), some (.int p2), some (.int ((p1 * (I 1 0)) + p2))], [.int p2, .int p1, .ref 1], qp_mk I J)) (by with_unfolding_all rfl) hd1 trivial ?_
  obtain ⟨v1, I1, J1, e1, h⟩ := qp_bd_s h
  refine qp_cV qp_ok23 (rest := []) (oj := 1) qp_f17 rfl rfl (gS_hasPlace_1 l G p1 p2 I J e1 (Nat.le_refl 2)) rfl rfl rfl rfl (Nat.le_trans (by decide) hd) ?_
  refine qp_br_E qp_ok23 (f := v1 = 0) (ct := (40, [some (.ref 1), some (.int p1), some (.int p2), some (.int ((p1 * (I 1 0)) + p2))], [], qp_mk I1 J1)) (cf := (18, [some (.ref 1), some (.int p1), some (.int p2), some (.int ((p1 * (I 1 0)) + p2))], [], qp_mk I1 J1)) (by with_unfolding_all rfl) (fun h1 => ?_) (fun h1 => ?_)
  · replace h := qp_ift h1 h
    refine qp_run_E qp_ok23 1 (c' := (41, [some (.ref 1), some (.int p1), some (.int p2), some (.int ((p1 * (I 1 0)) + p2))], [.int 0], qp_mk I1 J1)) (by with_unfolding_all rfl) hd1 trivial ?_
    obtain ⟨rfl, rfl, rfl⟩ := qp_some3 h
    exact qp_retI_E qp_ok23 rfl qp_r23.1 ⟨rfl, rfl⟩ ⟨rfl, rfl⟩
  · replace h := qp_iff h1 h
    refine qp_run_E qp_ok23 1 (c' := (19, [some (.ref 1), some (.int p1), some (.int p2), some (.int ((p1 * (I 1 0)) + p2))], [.int ((p1 * (I 1 0)) + p2)], qp_mk I1 J1)) (by with_unfolding_all rfl) hd1 trivial ?_
    refine qp_br_E qp_ok23 (f := ((p1 * (I 1 0)) + p2) < 0) (ct := (40, [some (.ref 1), some (.int p1), some (.int p2), some (.int ((p1 * (I 1 0)) + p2))], [], qp_mk I1 J1)) (cf := (22, [some (.ref 1), some (.int p1), some (.int p2), some (.int ((p1 * (I 1 0)) + p2))], [], qp_mk I1 J1)) (by with_unfolding_all rfl) (fun h2 => ?_) (fun h2 => ?_)
    · replace h := qp_ift h2 h
      refine qp_run_E qp_ok23 1 (c' := (41, [some (.ref 1), some (.int p1), some (.int p2), some (.int ((p1 * (I 1 0)) + p2))], [.int 0], qp_mk I1 J1)) (by with_unfolding_all rfl) hd1 trivial ?_
      obtain ⟨rfl, rfl, rfl⟩ := qp_some3 h
      exact qp_retI_E qp_ok23 rfl qp_r23.1 ⟨rfl, rfl⟩ ⟨rfl, rfl⟩
    · replace h := qp_iff h2 h
      refine qp_run_E qp_ok23 4 (c' := (28, [some (.ref 1), some (.int p1), some (.int p2), some (.int ((p1 * (I 1 0)) + p2))], [.int 240, .int ((p1 * (I 1 0)) + p2)], qp_mk I1 J1)) (by with_unfolding_all rfl) hd1 trivial ?_
      refine qp_br_E qp_ok23 (f := 240 ≤ ((p1 * (I 1 0)) + p2)) (ct := (40, [some (.ref 1), some (.int p1), some (.int p2), some (.int ((p1 * (I 1 0)) + p2))], [], qp_mk I1 J1)) (cf := (31, [some (.ref 1), some (.int p1), some (.int p2), some (.int ((p1 * (I 1 0)) + p2))], [], qp_mk I1 J1)) (by with_unfolding_all rfl) (fun h3 => ?_) (fun h3 => ?_)
      · replace h := qp_ift h3 h
        refine qp_run_E qp_ok23 1 (c' := (41, [some (.ref 1), some (.int p1), some (.int p2), some (.int ((p1 * (I 1 0)) + p2))], [.int 0], qp_mk I1 J1)) (by with_unfolding_all rfl) hd1 trivial ?_
        obtain ⟨rfl, rfl, rfl⟩ := qp_some3 h
        exact qp_retI_E qp_ok23 rfl qp_r23.1 ⟨rfl, rfl⟩ ⟨rfl, rfl⟩
      · replace h := qp_iff h3 h
        obtain ⟨h4, h⟩ := qp_gd_s h
        refine qp_run_E qp_ok23 5 (f := vp_in ((p1 * (I 1 0)) + p2) 240 ∧ True) (c' := (41, [some (.ref 1), some (.int p1), some (.int p2), some (.int ((p1 * (I 1 0)) + p2))], [.int (I1 3 (Int32.toNatClampNeg ((p1 * (I 1 0)) + p2)))], qp_mk I1 J1)) (by with_unfolding_all rfl) hd1 ⟨(qp_vin (c := 240) (by decide) h4.1 h4.2), trivial⟩ ?_
        obtain ⟨rfl, rfl, rfl⟩ := qp_some3 h
        exact qp_retI_E qp_ok23 rfl qp_r23.1 ⟨rfl, rfl⟩ ⟨rfl, rfl⟩
def fX_tell (p1 : Int32) (I : Nat → Nat → Int32) (J : Nat → Nat → Int64) : Option (Int32 × (Nat → Nat → Int32) × (Nat → Nat → Int64)) :=
  some (1, (qp_up I 0 11 p1), J)
set_option maxRecDepth 8000 in
theorem gX_tell (l : Launch) (G : qp_G) (p1 : Int32) (I : Nat → Nat → Int32) (J : Nat → Nat → Int64) {v : Int32} {I' : Nat → Nat → Int32} {J' : Nat → Nat → Int64} (h : fX_tell p1 I J = some (v, I', J')) {d : Nat} (hd : 1 ≤ d) : qp_Met l G d 24 [.ref 0, .int p1] (qp_mk I J) 0 0 (qp_R8 (some (.int v)) I' J') := by
  have hd1 : Nat.ble 1 d = true := Nat.ble_eq_true_of_le (Nat.le_trans (by decide) hd)
  refine qp_Met_of (by decide) (by rw [qp_r24.2]; rfl) [some (.ref 0), some (.int p1)] (by rw [qp_r24.2]; rfl) ?_
  unfold fX_tell at h
  refine qp_run_E qp_ok24 4 (c' := (6, [some (.ref 0), some (.int p1)], [.int 1], qp_mk (qp_up I 0 11 p1) J)) (by with_unfolding_all rfl) hd1 trivial ?_
  obtain ⟨rfl, rfl, rfl⟩ := qp_some3 h
  exact qp_retI_E qp_ok24 rfl qp_r24.1 ⟨rfl, rfl⟩ ⟨rfl, rfl⟩
def fX_lay (p1 : Int32) (p2 : Int32) (p3 : Int32) (I : Nat → Nat → Int32) (J : Nat → Nat → Int64) : Option (Int32 × (Nat → Nat → Int32) × (Nat → Nat → Int64)) :=
  qp_bd (fX_refusalOfPlace_0_1 p1 p2 I J) fun v1 I1 J1 =>
  if v1 = 0 then (
    qp_bd (fS_get_1 p1 p2 I1 J1) fun v2 I2 J2 =>
    qp_bd (fS_set_1 p1 p2 p3 I2 J2) fun _u I3 J3 =>
    qp_bd (fX_tell v2 I3 J3) fun v4 I4 J4 =>
    some (v4, I4, J4)
  ) else (
    some (v1, I1, J1)
  )
set_option maxRecDepth 8000 in
theorem gX_lay (l : Launch) (G : qp_G) (p1 : Int32) (p2 : Int32) (p3 : Int32) (I : Nat → Nat → Int32) (J : Nat → Nat → Int64) {v : Int32} {I' : Nat → Nat → Int32} {J' : Nat → Nat → Int64} (h : fX_lay p1 p2 p3 I J = some (v, I', J')) {d : Nat} (hd : 6 ≤ d) : qp_Met l G d 18 [.ref 0, .int p1, .int p2, .int p3] (qp_mk I J) 0 0 (qp_R8 (some (.int v)) I' J') := by
  have hd1 : Nat.ble 1 d = true := Nat.ble_eq_true_of_le (Nat.le_trans (by decide) hd)
  refine qp_Met_of (by decide) (by rw [qp_r18.2]; rfl) [some (.ref 0), some (.int p1), some (.int p2), some (.int p3), none, none] (by rw [qp_r18.2]; rfl) ?_
  unfold fX_lay at h
  refine qp_run_E qp_ok18 5 (c' := (7, [some (.ref 0), some (.int p1), some (.int p2), some (.int p3), none, none], [.int p2, .int p1, .ref 1, .ref 0], qp_mk I J)) (by with_unfolding_all rfl) hd1 trivial ?_
  obtain ⟨v1, I1, J1, e1, h⟩ := qp_bd_s h
  refine qp_cV qp_ok18 (rest := []) (oj := 0) qp_f19 rfl rfl (gX_refusalOfPlace_0_1 l G p1 p2 I J e1 (Nat.le_refl 5)) rfl rfl rfl rfl (Nat.le_trans (by decide) hd) ?_
  refine qp_run_E qp_ok18 2 (c' := (14, [some (.ref 0), some (.int p1), some (.int p2), some (.int p3), some (.int v1), none], [.int v1], qp_mk I1 J1)) (by with_unfolding_all rfl) hd1 trivial ?_
  refine qp_br_E qp_ok18 (f := v1 = 0) (ct := (20, [some (.ref 0), some (.int p1), some (.int p2), some (.int p3), some (.int v1), none], [], qp_mk I1 J1)) (cf := (17, [some (.ref 0), some (.int p1), some (.int p2), some (.int p3), some (.int v1), none], [], qp_mk I1 J1)) (by with_unfolding_all rfl) (fun h1 => ?_) (fun h1 => ?_)
  · replace h := qp_ift h1 h
    refine qp_run_E qp_ok18 4 (c' := (26, [some (.ref 0), some (.int p1), some (.int p2), some (.int p3), some (.int v1), none], [.int p2, .int p1, .ref 1], qp_mk I1 J1)) (by with_unfolding_all rfl) hd1 trivial ?_
    obtain ⟨v2, I2, J2, e2, h⟩ := qp_bd_s h
    refine qp_cV qp_ok18 (rest := []) (oj := 1) qp_f23 rfl rfl (gS_get_1 l G p1 p2 I1 J1 e2 (Nat.le_refl 3)) rfl rfl rfl rfl (Nat.le_trans (by decide) hd) ?_
    refine qp_run_E qp_ok18 6 (c' := (38, [some (.ref 0), some (.int p1), some (.int p2), some (.int p3), some (.int v1), some (.int v2)], [.int p3, .int p2, .int p1, .ref 1], qp_mk I2 J2)) (by with_unfolding_all rfl) hd1 trivial ?_
    obtain ⟨v3, I3, J3, e3, h⟩ := qp_bd_s h
    refine qp_cV qp_ok18 (rest := []) (oj := 1) qp_f16 rfl rfl (gS_set_1 l G p1 p2 p3 I2 J2 e3 (Nat.le_refl 3)) rfl rfl rfl rfl (Nat.le_trans (by decide) hd) ?_
    refine qp_run_E qp_ok18 2 (c' := (44, [some (.ref 0), some (.int p1), some (.int p2), some (.int p3), some (.int v1), some (.int v2)], [.int v2, .ref 0], qp_mk I3 J3)) (by with_unfolding_all rfl) hd1 trivial ?_
    obtain ⟨v4, I4, J4, e4, h⟩ := qp_bd_s h
    refine qp_cV qp_ok18 (rest := []) (oj := 0) qp_f24 rfl rfl (gX_tell l G v2 I3 J3 e4 (Nat.le_refl 1)) rfl rfl rfl rfl (Nat.le_trans (by decide) hd) ?_
    obtain ⟨rfl, rfl, rfl⟩ := qp_some3 h
    exact qp_retI_E qp_ok18 rfl qp_r18.1 ⟨rfl, rfl⟩ ⟨rfl, rfl⟩
  · replace h := qp_iff h1 h
    refine qp_run_E qp_ok18 1 (c' := (19, [some (.ref 0), some (.int p1), some (.int p2), some (.int p3), some (.int v1), none], [.int v1], qp_mk I1 J1)) (by with_unfolding_all rfl) hd1 trivial ?_
    obtain ⟨rfl, rfl, rfl⟩ := qp_some3 h
    exact qp_retI_E qp_ok18 rfl qp_r18.1 ⟨rfl, rfl⟩ ⟨rfl, rfl⟩
def fX_at (p1 : Int32) (p2 : Int32) (I : Nat → Nat → Int32) (J : Nat → Nat → Int64) : Option (Int32 × (Nat → Nat → Int32) × (Nat → Nat → Int64)) :=
  qp_bd (fX_refusalOfPlace_0_1 p1 p2 I J) fun v1 I1 J1 =>
  if v1 = 0 then (
    qp_bd (fS_get_1 p1 p2 I1 J1) fun v2 I2 J2 =>
    qp_bd (fX_tell v2 I2 J2) fun v3 I3 J3 =>
    some (v3, I3, J3)
  ) else (
    some (v1, I1, J1)
  )
set_option maxRecDepth 8000 in
theorem gX_at (l : Launch) (G : qp_G) (p1 : Int32) (p2 : Int32) (I : Nat → Nat → Int32) (J : Nat → Nat → Int64) {v : Int32} {I' : Nat → Nat → Int32} {J' : Nat → Nat → Int64} (h : fX_at p1 p2 I J = some (v, I', J')) {d : Nat} (hd : 6 ≤ d) : qp_Met l G d 25 [.ref 0, .int p1, .int p2] (qp_mk I J) 0 0 (qp_R8 (some (.int v)) I' J') := by
  have hd1 : Nat.ble 1 d = true := Nat.ble_eq_true_of_le (Nat.le_trans (by decide) hd)
  refine qp_Met_of (by decide) (by rw [qp_r25.2]; rfl) [some (.ref 0), some (.int p1), some (.int p2), none] (by rw [qp_r25.2]; rfl) ?_
  unfold fX_at at h
  refine qp_run_E qp_ok25 5 (c' := (7, [some (.ref 0), some (.int p1), some (.int p2), none], [.int p2, .int p1, .ref 1, .ref 0], qp_mk I J)) (by with_unfolding_all rfl) hd1 trivial ?_
  obtain ⟨v1, I1, J1, e1, h⟩ := qp_bd_s h
  refine qp_cV qp_ok25 (rest := []) (oj := 0) qp_f19 rfl rfl (gX_refusalOfPlace_0_1 l G p1 p2 I J e1 (Nat.le_refl 5)) rfl rfl rfl rfl (Nat.le_trans (by decide) hd) ?_
  refine qp_run_E qp_ok25 2 (c' := (12, [some (.ref 0), some (.int p1), some (.int p2), some (.int v1)], [.int v1], qp_mk I1 J1)) (by with_unfolding_all rfl) hd1 trivial ?_
  refine qp_br_E qp_ok25 (f := v1 = 0) (ct := (17, [some (.ref 0), some (.int p1), some (.int p2), some (.int v1)], [], qp_mk I1 J1)) (cf := (15, [some (.ref 0), some (.int p1), some (.int p2), some (.int v1)], [], qp_mk I1 J1)) (by with_unfolding_all rfl) (fun h1 => ?_) (fun h1 => ?_)
  · replace h := qp_ift h1 h
    refine qp_run_E qp_ok25 5 (c' := (24, [some (.ref 0), some (.int p1), some (.int p2), some (.int v1)], [.int p2, .int p1, .ref 1, .ref 0], qp_mk I1 J1)) (by with_unfolding_all rfl) hd1 trivial ?_
    obtain ⟨v2, I2, J2, e2, h⟩ := qp_bd_s h
    refine qp_cV qp_ok25 (rest := [.ref 0]) (oj := 1) qp_f23 rfl rfl (gS_get_1 l G p1 p2 I1 J1 e2 (Nat.le_refl 3)) rfl rfl rfl rfl (Nat.le_trans (by decide) hd) ?_
    obtain ⟨v3, I3, J3, e3, h⟩ := qp_bd_s h
    refine qp_cV qp_ok25 (rest := []) (oj := 0) qp_f24 rfl rfl (gX_tell l G v2 I2 J2 e3 (Nat.le_refl 1)) rfl rfl rfl rfl (Nat.le_trans (by decide) hd) ?_
    obtain ⟨rfl, rfl, rfl⟩ := qp_some3 h
    exact qp_retI_E qp_ok25 rfl qp_r25.1 ⟨rfl, rfl⟩ ⟨rfl, rfl⟩
  · replace h := qp_iff h1 h
    refine qp_run_E qp_ok25 1 (c' := (16, [some (.ref 0), some (.int p1), some (.int p2), some (.int v1)], [.int v1], qp_mk I1 J1)) (by with_unfolding_all rfl) hd1 trivial ?_
    obtain ⟨rfl, rfl, rfl⟩ := qp_some3 h
    exact qp_retI_E qp_ok25 rfl qp_r25.1 ⟨rfl, rfl⟩ ⟨rfl, rfl⟩
def fS_isNumber_4 (p1 : Int32) (I : Nat → Nat → Int32) (J : Nat → Nat → Int64) : Option (Int32 × (Nat → Nat → Int32) × (Nat → Nat → Int64)) :=
  if p1 < 0 then (
    some (0, I, J)
  ) else (
    if 4 ≤ p1 then (
      some (0, I, J)
    ) else (
      some (1, I, J)
    )
  )
set_option maxRecDepth 8000 in
theorem gS_isNumber_4 (l : Launch) (G : qp_G) (p1 : Int32) (I : Nat → Nat → Int32) (J : Nat → Nat → Int64) {v : Int32} {I' : Nat → Nat → Int32} {J' : Nat → Nat → Int64} (h : fS_isNumber_4 p1 I J = some (v, I', J')) {d : Nat} (hd : 1 ≤ d) : qp_Met l G d 13 [.ref 4, .int p1] (qp_mk I J) 0 0 (qp_R8 (some (.int v)) I' J') := by
  have hd1 : Nat.ble 1 d = true := Nat.ble_eq_true_of_le (Nat.le_trans (by decide) hd)
  refine qp_Met_of (by decide) (by rw [qp_r13.2]; rfl) [some (.ref 4), some (.int p1)] (by rw [qp_r13.2]; rfl) ?_
  unfold fS_isNumber_4 at h
  refine qp_run_E qp_ok13 1 (c' := (1, [some (.ref 4), some (.int p1)], [.int p1], qp_mk I J)) (by with_unfolding_all rfl) hd1 trivial ?_
  refine qp_br_E qp_ok13 (f := p1 < 0) (ct := (17, [some (.ref 4), some (.int p1)], [], qp_mk I J)) (cf := (4, [some (.ref 4), some (.int p1)], [], qp_mk I J)) (by with_unfolding_all rfl) (fun h1 => ?_) (fun h1 => ?_)
  · replace h := qp_ift h1 h
    refine qp_run_E qp_ok13 1 (c' := (18, [some (.ref 4), some (.int p1)], [.int 0], qp_mk I J)) (by with_unfolding_all rfl) hd1 trivial ?_
    obtain ⟨rfl, rfl, rfl⟩ := qp_some3 h
    exact qp_retZ_E qp_ok13 rfl qp_r13.1 rfl ⟨rfl, rfl⟩ ⟨rfl, rfl⟩
  · replace h := qp_iff h1 h
    refine qp_run_E qp_ok13 4 (c' := (10, [some (.ref 4), some (.int p1)], [.int 4, .int p1], qp_mk I J)) (by with_unfolding_all rfl) hd1 trivial ?_
    refine qp_br_E qp_ok13 (f := 4 ≤ p1) (ct := (17, [some (.ref 4), some (.int p1)], [], qp_mk I J)) (cf := (13, [some (.ref 4), some (.int p1)], [], qp_mk I J)) (by with_unfolding_all rfl) (fun h2 => ?_) (fun h2 => ?_)
    · replace h := qp_ift h2 h
      refine qp_run_E qp_ok13 1 (c' := (18, [some (.ref 4), some (.int p1)], [.int 0], qp_mk I J)) (by with_unfolding_all rfl) hd1 trivial ?_
      obtain ⟨rfl, rfl, rfl⟩ := qp_some3 h
      exact qp_retZ_E qp_ok13 rfl qp_r13.1 rfl ⟨rfl, rfl⟩ ⟨rfl, rfl⟩
    · replace h := qp_iff h2 h
      refine qp_run_E qp_ok13 2 (c' := (18, [some (.ref 4), some (.int p1)], [.int 1], qp_mk I J)) (by with_unfolding_all rfl) hd1 trivial ?_
      obtain ⟨rfl, rfl, rfl⟩ := qp_some3 h
      exact qp_retZ_E qp_ok13 rfl qp_r13.1 rfl ⟨rfl, rfl⟩ ⟨rfl, rfl⟩
def fS_hasPlace_4 (p1 : Int32) (p2 : Int32) (I : Nat → Nat → Int32) (J : Nat → Nat → Int64) : Option (Int32 × (Nat → Nat → Int32) × (Nat → Nat → Int64)) :=
  qp_bd (fS_isNumber_4 p1 I J) fun v1 I1 J1 =>
  if v1 = 0 then (
    some (0, I1, J1)
  ) else (
    if p2 < 0 then (
      some (0, I1, J1)
    ) else (
      qp_gd ((0 ≤ p1 ∧ p1 < 4)) <|
      if (I1 5 (Int32.toNatClampNeg p1)) ≤ p2 then (
        some (0, I1, J1)
      ) else (
        some (1, I1, J1)
      )
    )
  )
set_option maxRecDepth 8000 in
theorem gS_hasPlace_4 (l : Launch) (G : qp_G) (p1 : Int32) (p2 : Int32) (I : Nat → Nat → Int32) (J : Nat → Nat → Int64) {v : Int32} {I' : Nat → Nat → Int32} {J' : Nat → Nat → Int64} (h : fS_hasPlace_4 p1 p2 I J = some (v, I', J')) {d : Nat} (hd : 2 ≤ d) : qp_Met l G d 17 [.ref 4, .int p1, .int p2] (qp_mk I J) 0 0 (qp_R8 (some (.int v)) I' J') := by
  have hd1 : Nat.ble 1 d = true := Nat.ble_eq_true_of_le (Nat.le_trans (by decide) hd)
  refine qp_Met_of (by decide) (by rw [qp_r17.2]; rfl) [some (.ref 4), some (.int p1), some (.int p2)] (by rw [qp_r17.2]; rfl) ?_
  unfold fS_hasPlace_4 at h
  refine qp_run_E qp_ok17 2 (c' := (2, [some (.ref 4), some (.int p1), some (.int p2)], [.int p1, .ref 4], qp_mk I J)) (by with_unfolding_all rfl) hd1 trivial ?_
  obtain ⟨v1, I1, J1, e1, h⟩ := qp_bd_s h
  refine qp_cV qp_ok17 (rest := []) (oj := 1) qp_f13 rfl rfl (gS_isNumber_4 l G p1 I J e1 (Nat.le_refl 1)) rfl rfl rfl rfl (Nat.le_trans (by decide) hd) ?_
  refine qp_br_E qp_ok17 (f := v1 = 0) (ct := (26, [some (.ref 4), some (.int p1), some (.int p2)], [], qp_mk I1 J1)) (cf := (8, [some (.ref 4), some (.int p1), some (.int p2)], [], qp_mk I1 J1)) (by with_unfolding_all rfl) (fun h1 => ?_) (fun h1 => ?_)
  · replace h := qp_ift h1 h
    refine qp_run_E qp_ok17 1 (c' := (27, [some (.ref 4), some (.int p1), some (.int p2)], [.int 0], qp_mk I1 J1)) (by with_unfolding_all rfl) hd1 trivial ?_
    obtain ⟨rfl, rfl, rfl⟩ := qp_some3 h
    exact qp_retZ_E qp_ok17 rfl qp_r17.1 rfl ⟨rfl, rfl⟩ ⟨rfl, rfl⟩
  · replace h := qp_iff h1 h
    refine qp_run_E qp_ok17 1 (c' := (9, [some (.ref 4), some (.int p1), some (.int p2)], [.int p2], qp_mk I1 J1)) (by with_unfolding_all rfl) hd1 trivial ?_
    refine qp_br_E qp_ok17 (f := p2 < 0) (ct := (26, [some (.ref 4), some (.int p1), some (.int p2)], [], qp_mk I1 J1)) (cf := (12, [some (.ref 4), some (.int p1), some (.int p2)], [], qp_mk I1 J1)) (by with_unfolding_all rfl) (fun h2 => ?_) (fun h2 => ?_)
    · replace h := qp_ift h2 h
      refine qp_run_E qp_ok17 1 (c' := (27, [some (.ref 4), some (.int p1), some (.int p2)], [.int 0], qp_mk I1 J1)) (by with_unfolding_all rfl) hd1 trivial ?_
      obtain ⟨rfl, rfl, rfl⟩ := qp_some3 h
      exact qp_retZ_E qp_ok17 rfl qp_r17.1 rfl ⟨rfl, rfl⟩ ⟨rfl, rfl⟩
    · replace h := qp_iff h2 h
      obtain ⟨h3, h⟩ := qp_gd_s h
      refine qp_run_E qp_ok17 5 (f := vp_in p1 4 ∧ True) (c' := (19, [some (.ref 4), some (.int p1), some (.int p2)], [.int (I1 5 (Int32.toNatClampNeg p1)), .int p2], qp_mk I1 J1)) (by with_unfolding_all rfl) hd1 ⟨(qp_vin (c := 4) (by decide) h3.1 h3.2), trivial⟩ ?_
      refine qp_br_E qp_ok17 (f := (I1 5 (Int32.toNatClampNeg p1)) ≤ p2) (ct := (26, [some (.ref 4), some (.int p1), some (.int p2)], [], qp_mk I1 J1)) (cf := (22, [some (.ref 4), some (.int p1), some (.int p2)], [], qp_mk I1 J1)) (by with_unfolding_all rfl) (fun h4 => ?_) (fun h4 => ?_)
      · replace h := qp_ift h4 h
        refine qp_run_E qp_ok17 1 (c' := (27, [some (.ref 4), some (.int p1), some (.int p2)], [.int 0], qp_mk I1 J1)) (by with_unfolding_all rfl) hd1 trivial ?_
        obtain ⟨rfl, rfl, rfl⟩ := qp_some3 h
        exact qp_retZ_E qp_ok17 rfl qp_r17.1 rfl ⟨rfl, rfl⟩ ⟨rfl, rfl⟩
      · replace h := qp_iff h4 h
        refine qp_run_E qp_ok17 2 (c' := (27, [some (.ref 4), some (.int p1), some (.int p2)], [.int 1], qp_mk I1 J1)) (by with_unfolding_all rfl) hd1 trivial ?_
        obtain ⟨rfl, rfl, rfl⟩ := qp_some3 h
        exact qp_retZ_E qp_ok17 rfl qp_r17.1 rfl ⟨rfl, rfl⟩ ⟨rfl, rfl⟩
def fS_set_4 (p1 : Int32) (p2 : Int32) (p3 : Int32) (I : Nat → Nat → Int32) (J : Nat → Nat → Int64) : Option (Unit × (Nat → Nat → Int32) × (Nat → Nat → Int64)) :=
  qp_bd (fS_hasPlace_4 p1 p2 I J) fun v1 I1 J1 =>
  if v1 = 0 then (
    some ((), I1, J1)
  ) else (
    if ((p1 * (I 4 0)) + p2) < 0 then (
      some ((), I1, J1)
    ) else (
      if 240 ≤ ((p1 * (I 4 0)) + p2) then (
        some ((), I1, J1)
      ) else (
        qp_gd ((0 ≤ ((p1 * (I 4 0)) + p2) ∧ ((p1 * (I 4 0)) + p2) < 240)) <|
        some ((), (qp_up I1 6 (Int32.toNatClampNeg ((p1 * (I 4 0)) + p2)) p3), J1)
      )
    )
  )
set_option maxRecDepth 8000 in
theorem gS_set_4 (l : Launch) (G : qp_G) (p1 : Int32) (p2 : Int32) (p3 : Int32) (I : Nat → Nat → Int32) (J : Nat → Nat → Int64) {v : Unit} {I' : Nat → Nat → Int32} {J' : Nat → Nat → Int64} (h : fS_set_4 p1 p2 p3 I J = some (v, I', J')) {d : Nat} (hd : 3 ≤ d) : qp_Met l G d 16 [.ref 4, .int p1, .int p2, .int p3] (qp_mk I J) 0 0 (qp_R8 none I' J') := by
  have hd1 : Nat.ble 1 d = true := Nat.ble_eq_true_of_le (Nat.le_trans (by decide) hd)
  refine qp_Met_of (by decide) (by rw [qp_r16.2]; rfl) [some (.ref 4), some (.int p1), some (.int p2), some (.int p3), none] (by rw [qp_r16.2]; rfl) ?_
  unfold fS_set_4 at h
  refine qp_run_E qp_ok16 10 (c' := (13, [some (.ref 4), some (.int p1), some (.int p2), some (.int p3), some (.int ((p1 * (I 4 0)) + p2))], [.int p2, .int p1, .ref 4], qp_mk I J)) (by with_unfolding_all rfl) hd1 trivial ?_
  obtain ⟨v1, I1, J1, e1, h⟩ := qp_bd_s h
  refine qp_cV qp_ok16 (rest := []) (oj := 1) qp_f17 rfl rfl (gS_hasPlace_4 l G p1 p2 I J e1 (Nat.le_refl 2)) rfl rfl rfl rfl (Nat.le_trans (by decide) hd) ?_
  refine qp_br_E qp_ok16 (f := v1 = 0) (ct := (42, [some (.ref 4), some (.int p1), some (.int p2), some (.int p3), some (.int ((p1 * (I 4 0)) + p2))], [], qp_mk I1 J1)) (cf := (19, [some (.ref 4), some (.int p1), some (.int p2), some (.int p3), some (.int ((p1 * (I 4 0)) + p2))], [], qp_mk I1 J1)) (by with_unfolding_all rfl) (fun h1 => ?_) (fun h1 => ?_)
  · replace h := qp_ift h1 h
    obtain ⟨rfl, rfl, rfl⟩ := qp_some3 h
    exact qp_retV_E qp_ok16 rfl qp_r16.1 ⟨rfl, rfl⟩ ⟨rfl, rfl⟩
  · replace h := qp_iff h1 h
    refine qp_run_E qp_ok16 1 (c' := (21, [some (.ref 4), some (.int p1), some (.int p2), some (.int p3), some (.int ((p1 * (I 4 0)) + p2))], [.int ((p1 * (I 4 0)) + p2)], qp_mk I1 J1)) (by with_unfolding_all rfl) hd1 trivial ?_
    refine qp_br_E qp_ok16 (f := ((p1 * (I 4 0)) + p2) < 0) (ct := (42, [some (.ref 4), some (.int p1), some (.int p2), some (.int p3), some (.int ((p1 * (I 4 0)) + p2))], [], qp_mk I1 J1)) (cf := (24, [some (.ref 4), some (.int p1), some (.int p2), some (.int p3), some (.int ((p1 * (I 4 0)) + p2))], [], qp_mk I1 J1)) (by with_unfolding_all rfl) (fun h2 => ?_) (fun h2 => ?_)
    · replace h := qp_ift h2 h
      obtain ⟨rfl, rfl, rfl⟩ := qp_some3 h
      exact qp_retV_E qp_ok16 rfl qp_r16.1 ⟨rfl, rfl⟩ ⟨rfl, rfl⟩
    · replace h := qp_iff h2 h
      refine qp_run_E qp_ok16 4 (c' := (31, [some (.ref 4), some (.int p1), some (.int p2), some (.int p3), some (.int ((p1 * (I 4 0)) + p2))], [.int 240, .int ((p1 * (I 4 0)) + p2)], qp_mk I1 J1)) (by with_unfolding_all rfl) hd1 trivial ?_
      refine qp_br_E qp_ok16 (f := 240 ≤ ((p1 * (I 4 0)) + p2)) (ct := (42, [some (.ref 4), some (.int p1), some (.int p2), some (.int p3), some (.int ((p1 * (I 4 0)) + p2))], [], qp_mk I1 J1)) (cf := (34, [some (.ref 4), some (.int p1), some (.int p2), some (.int p3), some (.int ((p1 * (I 4 0)) + p2))], [], qp_mk I1 J1)) (by with_unfolding_all rfl) (fun h3 => ?_) (fun h3 => ?_)
      · replace h := qp_ift h3 h
        obtain ⟨rfl, rfl, rfl⟩ := qp_some3 h
        exact qp_retV_E qp_ok16 rfl qp_r16.1 ⟨rfl, rfl⟩ ⟨rfl, rfl⟩
      · replace h := qp_iff h3 h
        obtain ⟨h4, h⟩ := qp_gd_s h
        refine qp_run_E qp_ok16 5 (f := vp_in ((p1 * (I 4 0)) + p2) 240 ∧ True) (c' := (42, [some (.ref 4), some (.int p1), some (.int p2), some (.int p3), some (.int ((p1 * (I 4 0)) + p2))], [], qp_mk (qp_up I1 6 (Int32.toNatClampNeg ((p1 * (I 4 0)) + p2)) p3) J1)) (by with_unfolding_all rfl) hd1 ⟨(qp_vin (c := 240) (by decide) h4.1 h4.2), trivial⟩ ?_
        obtain ⟨rfl, rfl, rfl⟩ := qp_some3 h
        exact qp_retV_E qp_ok16 rfl qp_r16.1 ⟨rfl, rfl⟩ ⟨rfl, rfl⟩
def fS_fresh_4_b30  : Nat → Int32 → Int32 → Int32 → Int32 → (Nat → Nat → Int32) → (Nat → Nat → Int64) → Option (Unit × (Nat → Nat → Int32) × (Nat → Nat → Int64))
  | 0, _, _, _, _, _, _ => none
  | n + 1, a1, a2, a3, a4, I, J =>
    if a2 ≤ a4 then (
      some ((), I, J)
    ) else (
      qp_bd (fS_set_4 a1 a4 a3 I J) fun _u I1 J1 =>
      fS_fresh_4_b30 n a1 a2 a3 (a4 + 1) I1 J1
    )
set_option maxRecDepth 8000 in
theorem gS_fresh_4_b30 {l : Launch} {G : qp_G} {d : Nat} (hd : 4 ≤ d) {r : (Unit × (Nat → Nat → Int32) × (Nat → Nat → Int64))} {I0 : Nat → Nat → Int32} {J0 : Nat → Nat → Int64}   : ∀ (n : Nat) (a1 : Int32) (a2 : Int32) (a3 : Int32) (a4 : Int32) (I : Nat → Nat → Int32) (J : Nat → Nat → Int64), fS_fresh_4_b30  n a1 a2 a3 a4 I J = some r → qp_E l G d 15 (qp_mk I0 J0) 0 0 (qp_R8 none r.2.1 r.2.2) (30, [some (.ref 4), some (.int a1), some (.int a2), some (.int a3), some (.int a4)], [], qp_mk I J) := by
  have hd1 : Nat.ble 1 d = true := Nat.ble_eq_true_of_le (Nat.le_trans (by decide) hd)
  intro n
  induction n with
  | zero => intro a1 a2 a3 a4 I J h; exact absurd h (by simp [fS_fresh_4_b30])
  | succ n ih =>
    intro a1 a2 a3 a4 I J h
    rw [fS_fresh_4_b30] at h
    refine qp_run_E qp_ok15 2 (c' := (33, [some (.ref 4), some (.int a1), some (.int a2), some (.int a3), some (.int a4)], [.int a2, .int a4], qp_mk I J)) (by with_unfolding_all rfl) hd1 trivial ?_
    refine qp_br_E qp_ok15 (f := a2 ≤ a4) (ct := (50, [some (.ref 4), some (.int a1), some (.int a2), some (.int a3), some (.int a4)], [], qp_mk I J)) (cf := (36, [some (.ref 4), some (.int a1), some (.int a2), some (.int a3), some (.int a4)], [], qp_mk I J)) (by with_unfolding_all rfl) (fun h1 => ?_) (fun h1 => ?_)
    · replace h := qp_ift h1 h
      obtain rfl := Option.some.inj h
      exact qp_retV_E qp_ok15 rfl qp_r15.1 ⟨rfl, rfl⟩ ⟨rfl, rfl⟩
    · replace h := qp_iff h1 h
      refine qp_run_E qp_ok15 4 (c' := (41, [some (.ref 4), some (.int a1), some (.int a2), some (.int a3), some (.int a4)], [.int a3, .int a4, .int a1, .ref 4], qp_mk I J)) (by with_unfolding_all rfl) hd1 trivial ?_
      obtain ⟨v1, I1, J1, e1, h⟩ := qp_bd_s h
      refine qp_cV qp_ok15 (rest := []) (oj := 1) qp_f16 rfl rfl (gS_set_4 l G a1 a4 a3 I J e1 (Nat.le_refl 3)) rfl rfl rfl rfl (Nat.le_trans (by decide) hd) ?_
      refine qp_run_E qp_ok15 2 (c' := (30, [some (.ref 4), some (.int a1), some (.int a2), some (.int a3), some (.int (a4 + 1))], [], qp_mk I1 J1)) (by with_unfolding_all rfl) hd1 trivial ?_
      exact ih a1 a2 a3 (a4 + 1) I1 J1 h
def fS_fresh_4 (p1 : Int32) (p2 : Int32) (p3 : Int32) (I : Nat → Nat → Int32) (J : Nat → Nat → Int64) : Option (Unit × (Nat → Nat → Int32) × (Nat → Nat → Int64)) :=
  qp_bd (fS_isNumber_4 p1 I J) fun v1 I1 J1 =>
  if v1 = 0 then (
    some ((), I1, J1)
  ) else (
    if p2 < 0 then (
      some ((), I1, J1)
    ) else (
      if (I1 4 0) < p2 then (
        some ((), I1, J1)
      ) else (
        qp_gd ((0 ≤ p1 ∧ p1 < 4)) <|
        fS_fresh_4_b30 100000 p1 p2 p3 0 (qp_up I1 5 (Int32.toNatClampNeg p1) p2) J1
      )
    )
  )
set_option maxRecDepth 8000 in
theorem gS_fresh_4 (l : Launch) (G : qp_G) (p1 : Int32) (p2 : Int32) (p3 : Int32) (I : Nat → Nat → Int32) (J : Nat → Nat → Int64) {v : Unit} {I' : Nat → Nat → Int32} {J' : Nat → Nat → Int64} (h : fS_fresh_4 p1 p2 p3 I J = some (v, I', J')) {d : Nat} (hd : 4 ≤ d) : qp_Met l G d 15 [.ref 4, .int p1, .int p2, .int p3] (qp_mk I J) 0 0 (qp_R8 none I' J') := by
  have hd1 : Nat.ble 1 d = true := Nat.ble_eq_true_of_le (Nat.le_trans (by decide) hd)
  refine qp_Met_of (by decide) (by rw [qp_r15.2]; rfl) [some (.ref 4), some (.int p1), some (.int p2), some (.int p3), none] (by rw [qp_r15.2]; rfl) ?_
  unfold fS_fresh_4 at h
  refine qp_run_E qp_ok15 2 (c' := (2, [some (.ref 4), some (.int p1), some (.int p2), some (.int p3), none], [.int p1, .ref 4], qp_mk I J)) (by with_unfolding_all rfl) hd1 trivial ?_
  obtain ⟨v1, I1, J1, e1, h⟩ := qp_bd_s h
  refine qp_cV qp_ok15 (rest := []) (oj := 1) qp_f13 rfl rfl (gS_isNumber_4 l G p1 I J e1 (Nat.le_refl 1)) rfl rfl rfl rfl (Nat.le_trans (by decide) hd) ?_
  refine qp_br_E qp_ok15 (f := v1 = 0) (ct := (50, [some (.ref 4), some (.int p1), some (.int p2), some (.int p3), none], [], qp_mk I1 J1)) (cf := (8, [some (.ref 4), some (.int p1), some (.int p2), some (.int p3), none], [], qp_mk I1 J1)) (by with_unfolding_all rfl) (fun h1 => ?_) (fun h1 => ?_)
  · replace h := qp_ift h1 h
    obtain ⟨rfl, rfl, rfl⟩ := qp_some3 h
    exact qp_retV_E qp_ok15 rfl qp_r15.1 ⟨rfl, rfl⟩ ⟨rfl, rfl⟩
  · replace h := qp_iff h1 h
    refine qp_run_E qp_ok15 1 (c' := (9, [some (.ref 4), some (.int p1), some (.int p2), some (.int p3), none], [.int p2], qp_mk I1 J1)) (by with_unfolding_all rfl) hd1 trivial ?_
    refine qp_br_E qp_ok15 (f := p2 < 0) (ct := (50, [some (.ref 4), some (.int p1), some (.int p2), some (.int p3), none], [], qp_mk I1 J1)) (cf := (12, [some (.ref 4), some (.int p1), some (.int p2), some (.int p3), none], [], qp_mk I1 J1)) (by with_unfolding_all rfl) (fun h2 => ?_) (fun h2 => ?_)
    · replace h := qp_ift h2 h
      obtain ⟨rfl, rfl, rfl⟩ := qp_some3 h
      exact qp_retV_E qp_ok15 rfl qp_r15.1 ⟨rfl, rfl⟩ ⟨rfl, rfl⟩
    · replace h := qp_iff h2 h
      refine qp_run_E qp_ok15 3 (c' := (17, [some (.ref 4), some (.int p1), some (.int p2), some (.int p3), none], [.int (I1 4 0), .int p2], qp_mk I1 J1)) (by with_unfolding_all rfl) hd1 trivial ?_
      refine qp_br_E qp_ok15 (f := (I1 4 0) < p2) (ct := (50, [some (.ref 4), some (.int p1), some (.int p2), some (.int p3), none], [], qp_mk I1 J1)) (cf := (20, [some (.ref 4), some (.int p1), some (.int p2), some (.int p3), none], [], qp_mk I1 J1)) (by with_unfolding_all rfl) (fun h3 => ?_) (fun h3 => ?_)
      · replace h := qp_ift h3 h
        obtain ⟨rfl, rfl, rfl⟩ := qp_some3 h
        exact qp_retV_E qp_ok15 rfl qp_r15.1 ⟨rfl, rfl⟩ ⟨rfl, rfl⟩
      · replace h := qp_iff h3 h
        obtain ⟨h4, h⟩ := qp_gd_s h
        refine qp_run_E qp_ok15 7 (f := vp_in p1 4 ∧ True) (c' := (30, [some (.ref 4), some (.int p1), some (.int p2), some (.int p3), some (.int 0)], [], qp_mk (qp_up I1 5 (Int32.toNatClampNeg p1) p2) J1)) (by with_unfolding_all rfl) hd1 ⟨(qp_vin (c := 4) (by decide) h4.1 h4.2), trivial⟩ ?_
        exact gS_fresh_4_b30 hd 100000 p1 p2 p3 0 (qp_up I1 5 (Int32.toNatClampNeg p1) p2) J1 h
def fX_anew_0_4 (p2 : Int32) (p3 : Int32) (p4 : Int32) (I : Nat → Nat → Int32) (J : Nat → Nat → Int64) : Option (Int32 × (Nat → Nat → Int32) × (Nat → Nat → Int64)) :=
  qp_bd (fS_isNumber_4 p2 I J) fun v1 I1 J1 =>
  if v1 = 0 then (
    some ((-1), I1, J1)
  ) else (
    if p3 ≤ (I1 4 0) then (
      if 0 ≤ p3 then (
        qp_bd (fS_fresh_4 p2 p3 p4 I1 J1) fun _u I2 J2 =>
        some (p3, I2, J2)
      ) else (
        qp_bd (fX_found 5 I1 J1) fun v3 I3 J3 =>
        some (v3, I3, J3)
      )
    ) else (
      some ((-1), I1, J1)
    )
  )
set_option maxRecDepth 8000 in
theorem gX_anew_0_4 (l : Launch) (G : qp_G) (p2 : Int32) (p3 : Int32) (p4 : Int32) (I : Nat → Nat → Int32) (J : Nat → Nat → Int64) {v : Int32} {I' : Nat → Nat → Int32} {J' : Nat → Nat → Int64} (h : fX_anew_0_4 p2 p3 p4 I J = some (v, I', J')) {d : Nat} (hd : 5 ≤ d) : qp_Met l G d 12 [.ref 0, .ref 4, .int p2, .int p3, .int p4] (qp_mk I J) 0 0 (qp_R8 (some (.int v)) I' J') := by
  have hd1 : Nat.ble 1 d = true := Nat.ble_eq_true_of_le (Nat.le_trans (by decide) hd)
  refine qp_Met_of (by decide) (by rw [qp_r12.2]; rfl) [some (.ref 0), some (.ref 4), some (.int p2), some (.int p3), some (.int p4)] (by rw [qp_r12.2]; rfl) ?_
  unfold fX_anew_0_4 at h
  refine qp_run_E qp_ok12 2 (c' := (2, [some (.ref 0), some (.ref 4), some (.int p2), some (.int p3), some (.int p4)], [.int p2, .ref 4], qp_mk I J)) (by with_unfolding_all rfl) hd1 trivial ?_
  obtain ⟨v1, I1, J1, e1, h⟩ := qp_bd_s h
  refine qp_cV qp_ok12 (rest := []) (oj := 1) qp_f13 rfl rfl (gS_isNumber_4 l G p2 I J e1 (Nat.le_refl 1)) rfl rfl rfl rfl (Nat.le_trans (by decide) hd) ?_
  refine qp_br_E qp_ok12 (f := v1 = 0) (ct := (16, [some (.ref 0), some (.ref 4), some (.int p2), some (.int p3), some (.int p4)], [], qp_mk I1 J1)) (cf := (8, [some (.ref 0), some (.ref 4), some (.int p2), some (.int p3), some (.int p4)], [], qp_mk I1 J1)) (by with_unfolding_all rfl) (fun h1 => ?_) (fun h1 => ?_)
  · replace h := qp_ift h1 h
    refine qp_run_E qp_ok12 1 (c' := (17, [some (.ref 0), some (.ref 4), some (.int p2), some (.int p3), some (.int p4)], [.int (-1)], qp_mk I1 J1)) (by with_unfolding_all rfl) hd1 trivial ?_
    obtain ⟨rfl, rfl, rfl⟩ := qp_some3 h
    exact qp_retI_E qp_ok12 rfl qp_r12.1 ⟨rfl, rfl⟩ ⟨rfl, rfl⟩
  · replace h := qp_iff h1 h
    refine qp_run_E qp_ok12 3 (c' := (13, [some (.ref 0), some (.ref 4), some (.int p2), some (.int p3), some (.int p4)], [.int (I1 4 0), .int p3], qp_mk I1 J1)) (by with_unfolding_all rfl) hd1 trivial ?_
    refine qp_br_E qp_ok12 (f := p3 ≤ (I1 4 0)) (ct := (18, [some (.ref 0), some (.ref 4), some (.int p2), some (.int p3), some (.int p4)], [], qp_mk I1 J1)) (cf := (16, [some (.ref 0), some (.ref 4), some (.int p2), some (.int p3), some (.int p4)], [], qp_mk I1 J1)) (by with_unfolding_all rfl) (fun h2 => ?_) (fun h2 => ?_)
    · replace h := qp_ift h2 h
      refine qp_run_E qp_ok12 1 (c' := (19, [some (.ref 0), some (.ref 4), some (.int p2), some (.int p3), some (.int p4)], [.int p3], qp_mk I1 J1)) (by with_unfolding_all rfl) hd1 trivial ?_
      refine qp_br_E qp_ok12 (f := 0 ≤ p3) (ct := (28, [some (.ref 0), some (.ref 4), some (.int p2), some (.int p3), some (.int p4)], [], qp_mk I1 J1)) (cf := (22, [some (.ref 0), some (.ref 4), some (.int p2), some (.int p3), some (.int p4)], [], qp_mk I1 J1)) (by with_unfolding_all rfl) (fun h3 => ?_) (fun h3 => ?_)
      · replace h := qp_ift h3 h
        refine qp_run_E qp_ok12 4 (c' := (33, [some (.ref 0), some (.ref 4), some (.int p2), some (.int p3), some (.int p4)], [.int p4, .int p3, .int p2, .ref 4], qp_mk I1 J1)) (by with_unfolding_all rfl) hd1 trivial ?_
        obtain ⟨v2, I2, J2, e2, h⟩ := qp_bd_s h
        refine qp_cV qp_ok12 (rest := []) (oj := 1) qp_f15 rfl rfl (gS_fresh_4 l G p2 p3 p4 I1 J1 e2 (Nat.le_refl 4)) rfl rfl rfl rfl (Nat.le_trans (by decide) hd) ?_
        refine qp_run_E qp_ok12 1 (c' := (37, [some (.ref 0), some (.ref 4), some (.int p2), some (.int p3), some (.int p4)], [.int p3], qp_mk I2 J2)) (by with_unfolding_all rfl) hd1 trivial ?_
        obtain ⟨rfl, rfl, rfl⟩ := qp_some3 h
        exact qp_retI_E qp_ok12 rfl qp_r12.1 ⟨rfl, rfl⟩ ⟨rfl, rfl⟩
      · replace h := qp_iff h3 h
        refine qp_run_E qp_ok12 2 (c' := (24, [some (.ref 0), some (.ref 4), some (.int p2), some (.int p3), some (.int p4)], [.int 5, .ref 0], qp_mk I1 J1)) (by with_unfolding_all rfl) hd1 trivial ?_
        obtain ⟨v3, I3, J3, e3, h⟩ := qp_bd_s h
        refine qp_cV qp_ok12 (rest := []) (oj := 0) qp_f14 rfl rfl (gX_found l G 5 I1 J1 e3 (Nat.le_refl 1)) rfl rfl rfl rfl (Nat.le_trans (by decide) hd) ?_
        obtain ⟨rfl, rfl, rfl⟩ := qp_some3 h
        exact qp_retI_E qp_ok12 rfl qp_r12.1 ⟨rfl, rfl⟩ ⟨rfl, rfl⟩
    · replace h := qp_iff h2 h
      refine qp_run_E qp_ok12 1 (c' := (17, [some (.ref 0), some (.ref 4), some (.int p2), some (.int p3), some (.int p4)], [.int (-1)], qp_mk I1 J1)) (by with_unfolding_all rfl) hd1 trivial ?_
      obtain ⟨rfl, rfl, rfl⟩ := qp_some3 h
      exact qp_retI_E qp_ok12 rfl qp_r12.1 ⟨rfl, rfl⟩ ⟨rfl, rfl⟩
def fX_text (p1 : Int32) (p2 : Int32) (I : Nat → Nat → Int32) (J : Nat → Nat → Int64) : Option (Int32 × (Nat → Nat → Int32) × (Nat → Nat → Int64)) :=
  qp_bd (fX_anew_0_4 p1 p2 32 I J) fun v1 I1 J1 =>
  some (v1, I1, J1)
set_option maxRecDepth 8000 in
theorem gX_text (l : Launch) (G : qp_G) (p1 : Int32) (p2 : Int32) (I : Nat → Nat → Int32) (J : Nat → Nat → Int64) {v : Int32} {I' : Nat → Nat → Int32} {J' : Nat → Nat → Int64} (h : fX_text p1 p2 I J = some (v, I', J')) {d : Nat} (hd : 6 ≤ d) : qp_Met l G d 135 [.ref 0, .int p1, .int p2] (qp_mk I J) 0 0 (qp_R8 (some (.int v)) I' J') := by
  have hd1 : Nat.ble 1 d = true := Nat.ble_eq_true_of_le (Nat.le_trans (by decide) hd)
  refine qp_Met_of (by decide) (by rw [qp_r135.2]; rfl) [some (.ref 0), some (.int p1), some (.int p2)] (by rw [qp_r135.2]; rfl) ?_
  unfold fX_text at h
  refine qp_run_E qp_ok135 6 (c' := (9, [some (.ref 0), some (.int p1), some (.int p2)], [.int 32, .int p2, .int p1, .ref 4, .ref 0], qp_mk I J)) (by with_unfolding_all rfl) hd1 trivial ?_
  obtain ⟨v1, I1, J1, e1, h⟩ := qp_bd_s h
  refine qp_cV qp_ok135 (rest := []) (oj := 0) qp_f12 rfl rfl (gX_anew_0_4 l G p1 p2 32 I J e1 (Nat.le_refl 5)) rfl rfl rfl rfl (Nat.le_trans (by decide) hd) ?_
  obtain ⟨rfl, rfl, rfl⟩ := qp_some3 h
  exact qp_retI_E qp_ok135 rfl qp_r135.1 ⟨rfl, rfl⟩ ⟨rfl, rfl⟩
def fS_sizeOf_4 (p1 : Int32) (I : Nat → Nat → Int32) (J : Nat → Nat → Int64) : Option (Int32 × (Nat → Nat → Int32) × (Nat → Nat → Int64)) :=
  qp_bd (fS_isNumber_4 p1 I J) fun v1 I1 J1 =>
  if v1 = 0 then (
    some ((-1), I1, J1)
  ) else (
    qp_gd ((0 ≤ p1 ∧ p1 < 4)) <|
    some ((I1 5 (Int32.toNatClampNeg p1)), I1, J1)
  )
set_option maxRecDepth 8000 in
theorem gS_sizeOf_4 (l : Launch) (G : qp_G) (p1 : Int32) (I : Nat → Nat → Int32) (J : Nat → Nat → Int64) {v : Int32} {I' : Nat → Nat → Int32} {J' : Nat → Nat → Int64} (h : fS_sizeOf_4 p1 I J = some (v, I', J')) {d : Nat} (hd : 2 ≤ d) : qp_Met l G d 22 [.ref 4, .int p1] (qp_mk I J) 0 0 (qp_R8 (some (.int v)) I' J') := by
  have hd1 : Nat.ble 1 d = true := Nat.ble_eq_true_of_le (Nat.le_trans (by decide) hd)
  refine qp_Met_of (by decide) (by rw [qp_r22.2]; rfl) [some (.ref 4), some (.int p1)] (by rw [qp_r22.2]; rfl) ?_
  unfold fS_sizeOf_4 at h
  refine qp_run_E qp_ok22 2 (c' := (2, [some (.ref 4), some (.int p1)], [.int p1, .ref 4], qp_mk I J)) (by with_unfolding_all rfl) hd1 trivial ?_
  obtain ⟨v1, I1, J1, e1, h⟩ := qp_bd_s h
  refine qp_cV qp_ok22 (rest := []) (oj := 1) qp_f13 rfl rfl (gS_isNumber_4 l G p1 I J e1 (Nat.le_refl 1)) rfl rfl rfl rfl (Nat.le_trans (by decide) hd) ?_
  refine qp_br_E qp_ok22 (f := v1 = 0) (ct := (17, [some (.ref 4), some (.int p1)], [], qp_mk I1 J1)) (cf := (8, [some (.ref 4), some (.int p1)], [], qp_mk I1 J1)) (by with_unfolding_all rfl) (fun h1 => ?_) (fun h1 => ?_)
  · replace h := qp_ift h1 h
    refine qp_run_E qp_ok22 1 (c' := (18, [some (.ref 4), some (.int p1)], [.int (-1)], qp_mk I1 J1)) (by with_unfolding_all rfl) hd1 trivial ?_
    obtain ⟨rfl, rfl, rfl⟩ := qp_some3 h
    exact qp_retI_E qp_ok22 rfl qp_r22.1 ⟨rfl, rfl⟩ ⟨rfl, rfl⟩
  · replace h := qp_iff h1 h
    obtain ⟨h2, h⟩ := qp_gd_s h
    refine qp_run_E qp_ok22 5 (f := vp_in p1 4 ∧ True) (c' := (18, [some (.ref 4), some (.int p1)], [.int (I1 5 (Int32.toNatClampNeg p1))], qp_mk I1 J1)) (by with_unfolding_all rfl) hd1 ⟨(qp_vin (c := 4) (by decide) h2.1 h2.2), trivial⟩ ?_
    obtain ⟨rfl, rfl, rfl⟩ := qp_some3 h
    exact qp_retI_E qp_ok22 rfl qp_r22.1 ⟨rfl, rfl⟩ ⟨rfl, rfl⟩
def fS_has_4 (p1 : Int32) (I : Nat → Nat → Int32) (J : Nat → Nat → Int64) : Option (Int32 × (Nat → Nat → Int32) × (Nat → Nat → Int64)) :=
  qp_bd (fS_sizeOf_4 p1 I J) fun v1 I1 J1 =>
  if v1 = (-1) then (
    some (0, I1, J1)
  ) else (
    some (1, I1, J1)
  )
set_option maxRecDepth 8000 in
theorem gS_has_4 (l : Launch) (G : qp_G) (p1 : Int32) (I : Nat → Nat → Int32) (J : Nat → Nat → Int64) {v : Int32} {I' : Nat → Nat → Int32} {J' : Nat → Nat → Int64} (h : fS_has_4 p1 I J = some (v, I', J')) {d : Nat} (hd : 3 ≤ d) : qp_Met l G d 21 [.ref 4, .int p1] (qp_mk I J) 0 0 (qp_R8 (some (.int v)) I' J') := by
  have hd1 : Nat.ble 1 d = true := Nat.ble_eq_true_of_le (Nat.le_trans (by decide) hd)
  refine qp_Met_of (by decide) (by rw [qp_r21.2]; rfl) [some (.ref 4), some (.int p1)] (by rw [qp_r21.2]; rfl) ?_
  unfold fS_has_4 at h
  refine qp_run_E qp_ok21 2 (c' := (2, [some (.ref 4), some (.int p1)], [.int p1, .ref 4], qp_mk I J)) (by with_unfolding_all rfl) hd1 trivial ?_
  obtain ⟨v1, I1, J1, e1, h⟩ := qp_bd_s h
  refine qp_cV qp_ok21 (rest := []) (oj := 1) qp_f22 rfl rfl (gS_sizeOf_4 l G p1 I J e1 (Nat.le_refl 2)) rfl rfl rfl rfl (Nat.le_trans (by decide) hd) ?_
  refine qp_run_E qp_ok21 1 (c' := (6, [some (.ref 4), some (.int p1)], [.int (-1), .int v1], qp_mk I1 J1)) (by with_unfolding_all rfl) hd1 trivial ?_
  refine qp_br_E qp_ok21 (f := v1 = (-1)) (ct := (13, [some (.ref 4), some (.int p1)], [], qp_mk I1 J1)) (cf := (9, [some (.ref 4), some (.int p1)], [], qp_mk I1 J1)) (by with_unfolding_all rfl) (fun h1 => ?_) (fun h1 => ?_)
  · replace h := qp_ift h1 h
    refine qp_run_E qp_ok21 1 (c' := (14, [some (.ref 4), some (.int p1)], [.int 0], qp_mk I1 J1)) (by with_unfolding_all rfl) hd1 trivial ?_
    obtain ⟨rfl, rfl, rfl⟩ := qp_some3 h
    exact qp_retZ_E qp_ok21 rfl qp_r21.1 rfl ⟨rfl, rfl⟩ ⟨rfl, rfl⟩
  · replace h := qp_iff h1 h
    refine qp_run_E qp_ok21 2 (c' := (14, [some (.ref 4), some (.int p1)], [.int 1], qp_mk I1 J1)) (by with_unfolding_all rfl) hd1 trivial ?_
    obtain ⟨rfl, rfl, rfl⟩ := qp_some3 h
    exact qp_retZ_E qp_ok21 rfl qp_r21.1 rfl ⟨rfl, rfl⟩ ⟨rfl, rfl⟩
def fX_refusalOf_0_4 (p2 : Int32) (I : Nat → Nat → Int32) (J : Nat → Nat → Int64) : Option (Int32 × (Nat → Nat → Int32) × (Nat → Nat → Int64)) :=
  qp_bd (fS_isNumber_4 p2 I J) fun v1 I1 J1 =>
  if ¬ v1 = 0 then (
    qp_bd (fS_has_4 p2 I1 J1) fun v2 I2 J2 =>
    if v2 = 0 then (
      qp_bd (fX_found 1 I2 J2) fun v3 I3 J3 =>
      some (v3, I3, J3)
    ) else (
      some (0, I2, J2)
    )
  ) else (
    some ((-1), I1, J1)
  )
set_option maxRecDepth 8000 in
theorem gX_refusalOf_0_4 (l : Launch) (G : qp_G) (p2 : Int32) (I : Nat → Nat → Int32) (J : Nat → Nat → Int64) {v : Int32} {I' : Nat → Nat → Int32} {J' : Nat → Nat → Int64} (h : fX_refusalOf_0_4 p2 I J = some (v, I', J')) {d : Nat} (hd : 4 ≤ d) : qp_Met l G d 20 [.ref 0, .ref 4, .int p2] (qp_mk I J) 0 0 (qp_R8 (some (.int v)) I' J') := by
  have hd1 : Nat.ble 1 d = true := Nat.ble_eq_true_of_le (Nat.le_trans (by decide) hd)
  refine qp_Met_of (by decide) (by rw [qp_r20.2]; rfl) [some (.ref 0), some (.ref 4), some (.int p2)] (by rw [qp_r20.2]; rfl) ?_
  unfold fX_refusalOf_0_4 at h
  refine qp_run_E qp_ok20 2 (c' := (2, [some (.ref 0), some (.ref 4), some (.int p2)], [.int p2, .ref 4], qp_mk I J)) (by with_unfolding_all rfl) hd1 trivial ?_
  obtain ⟨v1, I1, J1, e1, h⟩ := qp_bd_s h
  refine qp_cV qp_ok20 (rest := []) (oj := 1) qp_f13 rfl rfl (gS_isNumber_4 l G p2 I J e1 (Nat.le_refl 1)) rfl rfl rfl rfl (Nat.le_trans (by decide) hd) ?_
  refine qp_br_E qp_ok20 (f := ¬ v1 = 0) (ct := (10, [some (.ref 0), some (.ref 4), some (.int p2)], [], qp_mk I1 J1)) (cf := (8, [some (.ref 0), some (.ref 4), some (.int p2)], [], qp_mk I1 J1)) (by with_unfolding_all rfl) (fun h1 => ?_) (fun h1 => ?_)
  · replace h := qp_ift h1 h
    refine qp_run_E qp_ok20 2 (c' := (12, [some (.ref 0), some (.ref 4), some (.int p2)], [.int p2, .ref 4], qp_mk I1 J1)) (by with_unfolding_all rfl) hd1 trivial ?_
    obtain ⟨v2, I2, J2, e2, h⟩ := qp_bd_s h
    refine qp_cV qp_ok20 (rest := []) (oj := 1) qp_f21 rfl rfl (gS_has_4 l G p2 I1 J1 e2 (Nat.le_refl 3)) rfl rfl rfl rfl (Nat.le_trans (by decide) hd) ?_
    refine qp_br_E qp_ok20 (f := v2 = 0) (ct := (22, [some (.ref 0), some (.ref 4), some (.int p2)], [], qp_mk I2 J2)) (cf := (18, [some (.ref 0), some (.ref 4), some (.int p2)], [], qp_mk I2 J2)) (by with_unfolding_all rfl) (fun h2 => ?_) (fun h2 => ?_)
    · replace h := qp_ift h2 h
      refine qp_run_E qp_ok20 2 (c' := (24, [some (.ref 0), some (.ref 4), some (.int p2)], [.int 1, .ref 0], qp_mk I2 J2)) (by with_unfolding_all rfl) hd1 trivial ?_
      obtain ⟨v3, I3, J3, e3, h⟩ := qp_bd_s h
      refine qp_cV qp_ok20 (rest := []) (oj := 0) qp_f14 rfl rfl (gX_found l G 1 I2 J2 e3 (Nat.le_refl 1)) rfl rfl rfl rfl (Nat.le_trans (by decide) hd) ?_
      obtain ⟨rfl, rfl, rfl⟩ := qp_some3 h
      exact qp_retI_E qp_ok20 rfl qp_r20.1 ⟨rfl, rfl⟩ ⟨rfl, rfl⟩
    · replace h := qp_iff h2 h
      refine qp_run_E qp_ok20 2 (c' := (27, [some (.ref 0), some (.ref 4), some (.int p2)], [.int 0], qp_mk I2 J2)) (by with_unfolding_all rfl) hd1 trivial ?_
      obtain ⟨rfl, rfl, rfl⟩ := qp_some3 h
      exact qp_retI_E qp_ok20 rfl qp_r20.1 ⟨rfl, rfl⟩ ⟨rfl, rfl⟩
  · replace h := qp_iff h1 h
    refine qp_run_E qp_ok20 1 (c' := (9, [some (.ref 0), some (.ref 4), some (.int p2)], [.int (-1)], qp_mk I1 J1)) (by with_unfolding_all rfl) hd1 trivial ?_
    obtain ⟨rfl, rfl, rfl⟩ := qp_some3 h
    exact qp_retI_E qp_ok20 rfl qp_r20.1 ⟨rfl, rfl⟩ ⟨rfl, rfl⟩
def fX_refusalOfPlace_0_4 (p2 : Int32) (p3 : Int32) (I : Nat → Nat → Int32) (J : Nat → Nat → Int64) : Option (Int32 × (Nat → Nat → Int32) × (Nat → Nat → Int64)) :=
  qp_bd (fX_refusalOf_0_4 p2 I J) fun v1 I1 J1 =>
  if v1 = 0 then (
    qp_bd (fS_hasPlace_4 p2 p3 I1 J1) fun v2 I2 J2 =>
    if v2 = 0 then (
      qp_bd (fX_found 2 I2 J2) fun v3 I3 J3 =>
      some (v3, I3, J3)
    ) else (
      some (0, I2, J2)
    )
  ) else (
    some (v1, I1, J1)
  )
set_option maxRecDepth 8000 in
theorem gX_refusalOfPlace_0_4 (l : Launch) (G : qp_G) (p2 : Int32) (p3 : Int32) (I : Nat → Nat → Int32) (J : Nat → Nat → Int64) {v : Int32} {I' : Nat → Nat → Int32} {J' : Nat → Nat → Int64} (h : fX_refusalOfPlace_0_4 p2 p3 I J = some (v, I', J')) {d : Nat} (hd : 5 ≤ d) : qp_Met l G d 19 [.ref 0, .ref 4, .int p2, .int p3] (qp_mk I J) 0 0 (qp_R8 (some (.int v)) I' J') := by
  have hd1 : Nat.ble 1 d = true := Nat.ble_eq_true_of_le (Nat.le_trans (by decide) hd)
  refine qp_Met_of (by decide) (by rw [qp_r19.2]; rfl) [some (.ref 0), some (.ref 4), some (.int p2), some (.int p3), none] (by rw [qp_r19.2]; rfl) ?_
  unfold fX_refusalOfPlace_0_4 at h
  refine qp_run_E qp_ok19 3 (c' := (3, [some (.ref 0), some (.ref 4), some (.int p2), some (.int p3), none], [.int p2, .ref 4, .ref 0], qp_mk I J)) (by with_unfolding_all rfl) hd1 trivial ?_
  obtain ⟨v1, I1, J1, e1, h⟩ := qp_bd_s h
  refine qp_cV qp_ok19 (rest := []) (oj := 0) qp_f20 rfl rfl (gX_refusalOf_0_4 l G p2 I J e1 (Nat.le_refl 4)) rfl rfl rfl rfl (Nat.le_trans (by decide) hd) ?_
  refine qp_run_E qp_ok19 2 (c' := (10, [some (.ref 0), some (.ref 4), some (.int p2), some (.int p3), some (.int v1)], [.int v1], qp_mk I1 J1)) (by with_unfolding_all rfl) hd1 trivial ?_
  refine qp_br_E qp_ok19 (f := v1 = 0) (ct := (16, [some (.ref 0), some (.ref 4), some (.int p2), some (.int p3), some (.int v1)], [], qp_mk I1 J1)) (cf := (13, [some (.ref 0), some (.ref 4), some (.int p2), some (.int p3), some (.int v1)], [], qp_mk I1 J1)) (by with_unfolding_all rfl) (fun h1 => ?_) (fun h1 => ?_)
  · replace h := qp_ift h1 h
    refine qp_run_E qp_ok19 3 (c' := (19, [some (.ref 0), some (.ref 4), some (.int p2), some (.int p3), some (.int v1)], [.int p3, .int p2, .ref 4], qp_mk I1 J1)) (by with_unfolding_all rfl) hd1 trivial ?_
    obtain ⟨v2, I2, J2, e2, h⟩ := qp_bd_s h
    refine qp_cV qp_ok19 (rest := []) (oj := 1) qp_f17 rfl rfl (gS_hasPlace_4 l G p2 p3 I1 J1 e2 (Nat.le_refl 2)) rfl rfl rfl rfl (Nat.le_trans (by decide) hd) ?_
    refine qp_br_E qp_ok19 (f := v2 = 0) (ct := (29, [some (.ref 0), some (.ref 4), some (.int p2), some (.int p3), some (.int v1)], [], qp_mk I2 J2)) (cf := (25, [some (.ref 0), some (.ref 4), some (.int p2), some (.int p3), some (.int v1)], [], qp_mk I2 J2)) (by with_unfolding_all rfl) (fun h2 => ?_) (fun h2 => ?_)
    · replace h := qp_ift h2 h
      refine qp_run_E qp_ok19 2 (c' := (31, [some (.ref 0), some (.ref 4), some (.int p2), some (.int p3), some (.int v1)], [.int 2, .ref 0], qp_mk I2 J2)) (by with_unfolding_all rfl) hd1 trivial ?_
      obtain ⟨v3, I3, J3, e3, h⟩ := qp_bd_s h
      refine qp_cV qp_ok19 (rest := []) (oj := 0) qp_f14 rfl rfl (gX_found l G 2 I2 J2 e3 (Nat.le_refl 1)) rfl rfl rfl rfl (Nat.le_trans (by decide) hd) ?_
      obtain ⟨rfl, rfl, rfl⟩ := qp_some3 h
      exact qp_retI_E qp_ok19 rfl qp_r19.1 ⟨rfl, rfl⟩ ⟨rfl, rfl⟩
    · replace h := qp_iff h2 h
      refine qp_run_E qp_ok19 2 (c' := (34, [some (.ref 0), some (.ref 4), some (.int p2), some (.int p3), some (.int v1)], [.int 0], qp_mk I2 J2)) (by with_unfolding_all rfl) hd1 trivial ?_
      obtain ⟨rfl, rfl, rfl⟩ := qp_some3 h
      exact qp_retI_E qp_ok19 rfl qp_r19.1 ⟨rfl, rfl⟩ ⟨rfl, rfl⟩
  · replace h := qp_iff h1 h
    refine qp_run_E qp_ok19 1 (c' := (15, [some (.ref 0), some (.ref 4), some (.int p2), some (.int p3), some (.int v1)], [.int v1], qp_mk I1 J1)) (by with_unfolding_all rfl) hd1 trivial ?_
    obtain ⟨rfl, rfl, rfl⟩ := qp_some3 h
    exact qp_retI_E qp_ok19 rfl qp_r19.1 ⟨rfl, rfl⟩ ⟨rfl, rfl⟩
def fS_get_4 (p1 : Int32) (p2 : Int32) (I : Nat → Nat → Int32) (J : Nat → Nat → Int64) : Option (Int32 × (Nat → Nat → Int32) × (Nat → Nat → Int64)) :=
  qp_bd (fS_hasPlace_4 p1 p2 I J) fun v1 I1 J1 =>
  if v1 = 0 then (
    some (0, I1, J1)
  ) else (
    if ((p1 * (I 4 0)) + p2) < 0 then (
      some (0, I1, J1)
    ) else (
      if 240 ≤ ((p1 * (I 4 0)) + p2) then (
        some (0, I1, J1)
      ) else (
        qp_gd ((0 ≤ ((p1 * (I 4 0)) + p2) ∧ ((p1 * (I 4 0)) + p2) < 240)) <|
        some ((I1 6 (Int32.toNatClampNeg ((p1 * (I 4 0)) + p2))), I1, J1)
      )
    )
  )
set_option maxRecDepth 8000 in
theorem gS_get_4 (l : Launch) (G : qp_G) (p1 : Int32) (p2 : Int32) (I : Nat → Nat → Int32) (J : Nat → Nat → Int64) {v : Int32} {I' : Nat → Nat → Int32} {J' : Nat → Nat → Int64} (h : fS_get_4 p1 p2 I J = some (v, I', J')) {d : Nat} (hd : 3 ≤ d) : qp_Met l G d 23 [.ref 4, .int p1, .int p2] (qp_mk I J) 0 0 (qp_R8 (some (.int v)) I' J') := by
  have hd1 : Nat.ble 1 d = true := Nat.ble_eq_true_of_le (Nat.le_trans (by decide) hd)
  refine qp_Met_of (by decide) (by rw [qp_r23.2]; rfl) [some (.ref 4), some (.int p1), some (.int p2), none] (by rw [qp_r23.2]; rfl) ?_
  unfold fS_get_4 at h
  refine qp_run_E qp_ok23 10 (c' := (12, [some (.ref 4), some (.int p1), some (.int p2), some (.int ((p1 * (I 4 0)) + p2))], [.int p2, .int p1, .ref 4], qp_mk I J)) (by with_unfolding_all rfl) hd1 trivial ?_
  obtain ⟨v1, I1, J1, e1, h⟩ := qp_bd_s h
  refine qp_cV qp_ok23 (rest := []) (oj := 1) qp_f17 rfl rfl (gS_hasPlace_4 l G p1 p2 I J e1 (Nat.le_refl 2)) rfl rfl rfl rfl (Nat.le_trans (by decide) hd) ?_
  refine qp_br_E qp_ok23 (f := v1 = 0) (ct := (40, [some (.ref 4), some (.int p1), some (.int p2), some (.int ((p1 * (I 4 0)) + p2))], [], qp_mk I1 J1)) (cf := (18, [some (.ref 4), some (.int p1), some (.int p2), some (.int ((p1 * (I 4 0)) + p2))], [], qp_mk I1 J1)) (by with_unfolding_all rfl) (fun h1 => ?_) (fun h1 => ?_)
  · replace h := qp_ift h1 h
    refine qp_run_E qp_ok23 1 (c' := (41, [some (.ref 4), some (.int p1), some (.int p2), some (.int ((p1 * (I 4 0)) + p2))], [.int 0], qp_mk I1 J1)) (by with_unfolding_all rfl) hd1 trivial ?_
    obtain ⟨rfl, rfl, rfl⟩ := qp_some3 h
    exact qp_retI_E qp_ok23 rfl qp_r23.1 ⟨rfl, rfl⟩ ⟨rfl, rfl⟩
  · replace h := qp_iff h1 h
    refine qp_run_E qp_ok23 1 (c' := (19, [some (.ref 4), some (.int p1), some (.int p2), some (.int ((p1 * (I 4 0)) + p2))], [.int ((p1 * (I 4 0)) + p2)], qp_mk I1 J1)) (by with_unfolding_all rfl) hd1 trivial ?_
    refine qp_br_E qp_ok23 (f := ((p1 * (I 4 0)) + p2) < 0) (ct := (40, [some (.ref 4), some (.int p1), some (.int p2), some (.int ((p1 * (I 4 0)) + p2))], [], qp_mk I1 J1)) (cf := (22, [some (.ref 4), some (.int p1), some (.int p2), some (.int ((p1 * (I 4 0)) + p2))], [], qp_mk I1 J1)) (by with_unfolding_all rfl) (fun h2 => ?_) (fun h2 => ?_)
    · replace h := qp_ift h2 h
      refine qp_run_E qp_ok23 1 (c' := (41, [some (.ref 4), some (.int p1), some (.int p2), some (.int ((p1 * (I 4 0)) + p2))], [.int 0], qp_mk I1 J1)) (by with_unfolding_all rfl) hd1 trivial ?_
      obtain ⟨rfl, rfl, rfl⟩ := qp_some3 h
      exact qp_retI_E qp_ok23 rfl qp_r23.1 ⟨rfl, rfl⟩ ⟨rfl, rfl⟩
    · replace h := qp_iff h2 h
      refine qp_run_E qp_ok23 4 (c' := (28, [some (.ref 4), some (.int p1), some (.int p2), some (.int ((p1 * (I 4 0)) + p2))], [.int 240, .int ((p1 * (I 4 0)) + p2)], qp_mk I1 J1)) (by with_unfolding_all rfl) hd1 trivial ?_
      refine qp_br_E qp_ok23 (f := 240 ≤ ((p1 * (I 4 0)) + p2)) (ct := (40, [some (.ref 4), some (.int p1), some (.int p2), some (.int ((p1 * (I 4 0)) + p2))], [], qp_mk I1 J1)) (cf := (31, [some (.ref 4), some (.int p1), some (.int p2), some (.int ((p1 * (I 4 0)) + p2))], [], qp_mk I1 J1)) (by with_unfolding_all rfl) (fun h3 => ?_) (fun h3 => ?_)
      · replace h := qp_ift h3 h
        refine qp_run_E qp_ok23 1 (c' := (41, [some (.ref 4), some (.int p1), some (.int p2), some (.int ((p1 * (I 4 0)) + p2))], [.int 0], qp_mk I1 J1)) (by with_unfolding_all rfl) hd1 trivial ?_
        obtain ⟨rfl, rfl, rfl⟩ := qp_some3 h
        exact qp_retI_E qp_ok23 rfl qp_r23.1 ⟨rfl, rfl⟩ ⟨rfl, rfl⟩
      · replace h := qp_iff h3 h
        obtain ⟨h4, h⟩ := qp_gd_s h
        refine qp_run_E qp_ok23 5 (f := vp_in ((p1 * (I 4 0)) + p2) 240 ∧ True) (c' := (41, [some (.ref 4), some (.int p1), some (.int p2), some (.int ((p1 * (I 4 0)) + p2))], [.int (I1 6 (Int32.toNatClampNeg ((p1 * (I 4 0)) + p2)))], qp_mk I1 J1)) (by with_unfolding_all rfl) hd1 ⟨(qp_vin (c := 240) (by decide) h4.1 h4.2), trivial⟩ ?_
        obtain ⟨rfl, rfl, rfl⟩ := qp_some3 h
        exact qp_retI_E qp_ok23 rfl qp_r23.1 ⟨rfl, rfl⟩ ⟨rfl, rfl⟩
def fX_put (p1 : Int32) (p2 : Int32) (p3 : Int32) (I : Nat → Nat → Int32) (J : Nat → Nat → Int64) : Option (Int32 × (Nat → Nat → Int32) × (Nat → Nat → Int64)) :=
  qp_bd (fX_refusalOfPlace_0_4 p1 p2 I J) fun v1 I1 J1 =>
  if v1 = 0 then (
    qp_bd (fS_get_4 p1 p2 I1 J1) fun v2 I2 J2 =>
    qp_bd (fS_set_4 p1 p2 ((Int32.toInt8 p3).toInt32) I2 J2) fun _u I3 J3 =>
    some ((v2 + 1000), I3, J3)
  ) else (
    some (v1, I1, J1)
  )
set_option maxRecDepth 8000 in
theorem gX_put (l : Launch) (G : qp_G) (p1 : Int32) (p2 : Int32) (p3 : Int32) (I : Nat → Nat → Int32) (J : Nat → Nat → Int64) {v : Int32} {I' : Nat → Nat → Int32} {J' : Nat → Nat → Int64} (h : fX_put p1 p2 p3 I J = some (v, I', J')) {d : Nat} (hd : 6 ≤ d) : qp_Met l G d 136 [.ref 0, .int p1, .int p2, .int p3] (qp_mk I J) 0 0 (qp_R8 (some (.int v)) I' J') := by
  have hd1 : Nat.ble 1 d = true := Nat.ble_eq_true_of_le (Nat.le_trans (by decide) hd)
  refine qp_Met_of (by decide) (by rw [qp_r136.2]; rfl) [some (.ref 0), some (.int p1), some (.int p2), some (.int p3), none, none] (by rw [qp_r136.2]; rfl) ?_
  unfold fX_put at h
  refine qp_run_E qp_ok136 5 (c' := (7, [some (.ref 0), some (.int p1), some (.int p2), some (.int p3), none, none], [.int p2, .int p1, .ref 4, .ref 0], qp_mk I J)) (by with_unfolding_all rfl) hd1 trivial ?_
  obtain ⟨v1, I1, J1, e1, h⟩ := qp_bd_s h
  refine qp_cV qp_ok136 (rest := []) (oj := 0) qp_f19 rfl rfl (gX_refusalOfPlace_0_4 l G p1 p2 I J e1 (Nat.le_refl 5)) rfl rfl rfl rfl (Nat.le_trans (by decide) hd) ?_
  refine qp_run_E qp_ok136 2 (c' := (14, [some (.ref 0), some (.int p1), some (.int p2), some (.int p3), some (.int v1), none], [.int v1], qp_mk I1 J1)) (by with_unfolding_all rfl) hd1 trivial ?_
  refine qp_br_E qp_ok136 (f := v1 = 0) (ct := (20, [some (.ref 0), some (.int p1), some (.int p2), some (.int p3), some (.int v1), none], [], qp_mk I1 J1)) (cf := (17, [some (.ref 0), some (.int p1), some (.int p2), some (.int p3), some (.int v1), none], [], qp_mk I1 J1)) (by with_unfolding_all rfl) (fun h1 => ?_) (fun h1 => ?_)
  · replace h := qp_ift h1 h
    refine qp_run_E qp_ok136 4 (c' := (26, [some (.ref 0), some (.int p1), some (.int p2), some (.int p3), some (.int v1), none], [.int p2, .int p1, .ref 4], qp_mk I1 J1)) (by with_unfolding_all rfl) hd1 trivial ?_
    obtain ⟨v2, I2, J2, e2, h⟩ := qp_bd_s h
    refine qp_cV qp_ok136 (rest := []) (oj := 1) qp_f23 rfl rfl (gS_get_4 l G p1 p2 I1 J1 e2 (Nat.le_refl 3)) rfl rfl rfl rfl (Nat.le_trans (by decide) hd) ?_
    refine qp_run_E qp_ok136 7 (c' := (39, [some (.ref 0), some (.int p1), some (.int p2), some (.int p3), some (.int v1), some (.int v2)], [.int ((Int32.toInt8 p3).toInt32), .int p2, .int p1, .ref 4], qp_mk I2 J2)) (by with_unfolding_all rfl) hd1 trivial ?_
    obtain ⟨v3, I3, J3, e3, h⟩ := qp_bd_s h
    refine qp_cV qp_ok136 (rest := []) (oj := 1) qp_f16 rfl rfl (gS_set_4 l G p1 p2 ((Int32.toInt8 p3).toInt32) I2 J2 e3 (Nat.le_refl 3)) rfl rfl rfl rfl (Nat.le_trans (by decide) hd) ?_
    refine qp_run_E qp_ok136 3 (c' := (48, [some (.ref 0), some (.int p1), some (.int p2), some (.int p3), some (.int v1), some (.int v2)], [.int (v2 + 1000)], qp_mk I3 J3)) (by with_unfolding_all rfl) hd1 trivial ?_
    obtain ⟨rfl, rfl, rfl⟩ := qp_some3 h
    exact qp_retI_E qp_ok136 rfl qp_r136.1 ⟨rfl, rfl⟩ ⟨rfl, rfl⟩
  · replace h := qp_iff h1 h
    refine qp_run_E qp_ok136 1 (c' := (19, [some (.ref 0), some (.int p1), some (.int p2), some (.int p3), some (.int v1), none], [.int v1], qp_mk I1 J1)) (by with_unfolding_all rfl) hd1 trivial ?_
    obtain ⟨rfl, rfl, rfl⟩ := qp_some3 h
    exact qp_retI_E qp_ok136 rfl qp_r136.1 ⟨rfl, rfl⟩ ⟨rfl, rfl⟩
def fC_clear_11  (I : Nat → Nat → Int32) (J : Nat → Nat → Int64) : Option (Unit × (Nat → Nat → Int32) × (Nat → Nat → Int64)) :=
  some ((), (qp_up (qp_up I 11 0 0) 11 1 0), J)
set_option maxRecDepth 8000 in
theorem gC_clear_11 (l : Launch) (G : qp_G)  (I : Nat → Nat → Int32) (J : Nat → Nat → Int64) {v : Unit} {I' : Nat → Nat → Int32} {J' : Nat → Nat → Int64} (h : fC_clear_11  I J = some (v, I', J')) {d : Nat} (hd : 1 ≤ d) : qp_Met l G d 28 [.ref 11] (qp_mk I J) 0 0 (qp_R8 none I' J') := by
  have hd1 : Nat.ble 1 d = true := Nat.ble_eq_true_of_le (Nat.le_trans (by decide) hd)
  refine qp_Met_of (by decide) (by rw [qp_r28.2]; rfl) [some (.ref 11)] (by rw [qp_r28.2]; rfl) ?_
  unfold fC_clear_11 at h
  refine qp_run_E qp_ok28 6 (c' := (10, [some (.ref 11)], [], qp_mk (qp_up (qp_up I 11 0 0) 11 1 0) J)) (by with_unfolding_all rfl) hd1 trivial ?_
  obtain ⟨rfl, rfl, rfl⟩ := qp_some3 h
  exact qp_retV_E qp_ok28 rfl qp_r28.1 ⟨rfl, rfl⟩ ⟨rfl, rfl⟩
def fR_skipBlanks_b0  : Nat → (Nat → Nat → Int32) → (Nat → Nat → Int64) → Option (Unit × (Nat → Nat → Int32) × (Nat → Nat → Int64))
  | 0, _, _ => none
  | n + 1, I, J =>
    qp_bd (fS_sizeOf_4 (I 10 2) I J) fun v1 I1 J1 =>
    if v1 ≤ (I 10 3) then (
      some ((), I1, J1)
    ) else (
      qp_bd (fS_get_4 (I1 10 2) (I1 10 3) I1 J1) fun v2 I2 J2 =>
      if ¬ v2 = 32 then (
        some ((), I2, J2)
      ) else (
        fR_skipBlanks_b0 n  (qp_up I2 10 3 ((I2 10 3) + 1)) J2
      )
    )
set_option maxRecDepth 8000 in
theorem gR_skipBlanks_b0 {l : Launch} {G : qp_G} {d : Nat} (hd : 4 ≤ d) {r : (Unit × (Nat → Nat → Int32) × (Nat → Nat → Int64))} {I0 : Nat → Nat → Int32} {J0 : Nat → Nat → Int64}   : ∀ (n : Nat)  (I : Nat → Nat → Int32) (J : Nat → Nat → Int64), fR_skipBlanks_b0  n I J = some r → qp_E l G d 29 (qp_mk I0 J0) 0 0 (qp_R8 none r.2.1 r.2.2) (0, [some (.ref 10)], [], qp_mk I J) := by
  have hd1 : Nat.ble 1 d = true := Nat.ble_eq_true_of_le (Nat.le_trans (by decide) hd)
  intro n
  induction n with
  | zero => intro I J h; exact absurd h (by simp [fR_skipBlanks_b0])
  | succ n ih =>
    intro I J h
    rw [fR_skipBlanks_b0] at h
    refine qp_run_E qp_ok29 6 (c' := (12, [some (.ref 10)], [.int (I 10 2), .ref 4, .int (I 10 3)], qp_mk I J)) (by with_unfolding_all rfl) hd1 trivial ?_
    obtain ⟨v1, I1, J1, e1, h⟩ := qp_bd_s h
    refine qp_cV qp_ok29 (rest := [.int (I 10 3)]) (oj := 1) qp_f22 rfl rfl (gS_sizeOf_4 l G (I 10 2) I J e1 (Nat.le_refl 2)) rfl rfl rfl rfl (Nat.le_trans (by decide) hd) ?_
    refine qp_br_E qp_ok29 (f := v1 ≤ (I 10 3)) (ct := (51, [some (.ref 10)], [], qp_mk I1 J1)) (cf := (18, [some (.ref 10)], [], qp_mk I1 J1)) (by with_unfolding_all rfl) (fun h1 => ?_) (fun h1 => ?_)
    · replace h := qp_ift h1 h
      obtain rfl := Option.some.inj h
      exact qp_retV_E qp_ok29 rfl qp_r29.1 ⟨rfl, rfl⟩ ⟨rfl, rfl⟩
    · replace h := qp_iff h1 h
      refine qp_run_E qp_ok29 6 (c' := (30, [some (.ref 10)], [.int (I1 10 3), .int (I1 10 2), .ref 4], qp_mk I1 J1)) (by with_unfolding_all rfl) hd1 trivial ?_
      obtain ⟨v2, I2, J2, e2, h⟩ := qp_bd_s h
      refine qp_cV qp_ok29 (rest := []) (oj := 1) qp_f23 rfl rfl (gS_get_4 l G (I1 10 2) (I1 10 3) I1 J1 e2 (Nat.le_refl 3)) rfl rfl rfl rfl (Nat.le_trans (by decide) hd) ?_
      refine qp_run_E qp_ok29 1 (c' := (35, [some (.ref 10)], [.int 32, .int v2], qp_mk I2 J2)) (by with_unfolding_all rfl) hd1 trivial ?_
      refine qp_br_E qp_ok29 (f := ¬ v2 = 32) (ct := (51, [some (.ref 10)], [], qp_mk I2 J2)) (cf := (38, [some (.ref 10)], [], qp_mk I2 J2)) (by with_unfolding_all rfl) (fun h2 => ?_) (fun h2 => ?_)
      · replace h := qp_ift h2 h
        obtain rfl := Option.some.inj h
        exact qp_retV_E qp_ok29 rfl qp_r29.1 ⟨rfl, rfl⟩ ⟨rfl, rfl⟩
      · replace h := qp_iff h2 h
        refine qp_run_E qp_ok29 7 (c' := (0, [some (.ref 10)], [], qp_mk (qp_up I2 10 3 ((I2 10 3) + 1)) J2)) (by with_unfolding_all rfl) hd1 trivial ?_
        exact ih  (qp_up I2 10 3 ((I2 10 3) + 1)) J2 h
def fR_skipBlanks  (I : Nat → Nat → Int32) (J : Nat → Nat → Int64) : Option (Unit × (Nat → Nat → Int32) × (Nat → Nat → Int64)) :=
  fR_skipBlanks_b0 100000 I J
set_option maxRecDepth 8000 in
theorem gR_skipBlanks (l : Launch) (G : qp_G)  (I : Nat → Nat → Int32) (J : Nat → Nat → Int64) {v : Unit} {I' : Nat → Nat → Int32} {J' : Nat → Nat → Int64} (h : fR_skipBlanks  I J = some (v, I', J')) {d : Nat} (hd : 4 ≤ d) : qp_Met l G d 29 [.ref 10] (qp_mk I J) 0 0 (qp_R8 none I' J') := by
  have hd1 : Nat.ble 1 d = true := Nat.ble_eq_true_of_le (Nat.le_trans (by decide) hd)
  refine qp_Met_of (by decide) (by rw [qp_r29.2]; rfl) [some (.ref 10)] (by rw [qp_r29.2]; rfl) ?_
  unfold fR_skipBlanks at h
  exact gR_skipBlanks_b0 hd 100000 I J h
def fR_figureAt (p1 : Int32) (I : Nat → Nat → Int32) (J : Nat → Nat → Int64) : Option (Int32 × (Nat → Nat → Int32) × (Nat → Nat → Int64)) :=
  qp_bd (fS_get_4 (I 10 2) p1 I J) fun v1 I1 J1 =>
  qp_bd (fS_hasPlace_4 (I1 10 2) p1 I1 J1) fun v2 I2 J2 =>
  if v2 = 0 then (
    some ((-1), I2, J2)
  ) else (
    if v1 < 48 then (
      some ((-1), I2, J2)
    ) else (
      if 57 < v1 then (
        some ((-1), I2, J2)
      ) else (
        some ((v1 - 48), I2, J2)
      )
    )
  )
set_option maxRecDepth 8000 in
theorem gR_figureAt (l : Launch) (G : qp_G) (p1 : Int32) (I : Nat → Nat → Int32) (J : Nat → Nat → Int64) {v : Int32} {I' : Nat → Nat → Int32} {J' : Nat → Nat → Int64} (h : fR_figureAt p1 I J = some (v, I', J')) {d : Nat} (hd : 4 ≤ d) : qp_Met l G d 31 [.ref 10, .int p1] (qp_mk I J) 0 0 (qp_R8 (some (.int v)) I' J') := by
  have hd1 : Nat.ble 1 d = true := Nat.ble_eq_true_of_le (Nat.le_trans (by decide) hd)
  refine qp_Met_of (by decide) (by rw [qp_r31.2]; rfl) [some (.ref 10), some (.int p1), none, none] (by rw [qp_r31.2]; rfl) ?_
  unfold fR_figureAt at h
  refine qp_run_E qp_ok31 5 (c' := (9, [some (.ref 10), some (.int p1), none, none], [.int p1, .int (I 10 2), .ref 4], qp_mk I J)) (by with_unfolding_all rfl) hd1 trivial ?_
  obtain ⟨v1, I1, J1, e1, h⟩ := qp_bd_s h
  refine qp_cV qp_ok31 (rest := []) (oj := 1) qp_f23 rfl rfl (gS_get_4 l G (I 10 2) p1 I J e1 (Nat.le_refl 3)) rfl rfl rfl rfl (Nat.le_trans (by decide) hd) ?_
  refine qp_run_E qp_ok31 6 (c' := (22, [some (.ref 10), some (.int p1), some (.int v1), none], [.int p1, .int (I1 10 2), .ref 4], qp_mk I1 J1)) (by with_unfolding_all rfl) hd1 trivial ?_
  obtain ⟨v2, I2, J2, e2, h⟩ := qp_bd_s h
  refine qp_cV qp_ok31 (rest := []) (oj := 1) qp_f17 rfl rfl (gS_hasPlace_4 l G (I1 10 2) p1 I1 J1 e2 (Nat.le_refl 2)) rfl rfl rfl rfl (Nat.le_trans (by decide) hd) ?_
  refine qp_br_E qp_ok31 (f := v2 = 0) (ct := (44, [some (.ref 10), some (.int p1), some (.int v1), none], [], qp_mk I2 J2)) (cf := (28, [some (.ref 10), some (.int p1), some (.int v1), none], [], qp_mk I2 J2)) (by with_unfolding_all rfl) (fun h1 => ?_) (fun h1 => ?_)
  · replace h := qp_ift h1 h
    refine qp_run_E qp_ok31 3 (c' := (47, [some (.ref 10), some (.int p1), some (.int v1), some (.int 0)], [.int 0], qp_mk I2 J2)) (by with_unfolding_all rfl) hd1 trivial ?_
    refine qp_br_E qp_ok31 (f := (0 : Int32) = 0) (ct := (57, [some (.ref 10), some (.int p1), some (.int v1), some (.int 0)], [], qp_mk I2 J2)) (cf := (50, [some (.ref 10), some (.int p1), some (.int v1), some (.int 0)], [], qp_mk I2 J2)) (by with_unfolding_all rfl) (fun h2 => ?_) (fun h2 => ?_)
    rotate_left
    · exact absurd (show (0 : Int32) = 0 by decide) h2
    refine qp_run_E qp_ok31 1 (c' := (58, [some (.ref 10), some (.int p1), some (.int v1), some (.int 0)], [.int (-1)], qp_mk I2 J2)) (by with_unfolding_all rfl) hd1 trivial ?_
    obtain ⟨rfl, rfl, rfl⟩ := qp_some3 h
    exact qp_retI_E qp_ok31 rfl qp_r31.1 ⟨rfl, rfl⟩ ⟨rfl, rfl⟩
  · replace h := qp_iff h1 h
    refine qp_run_E qp_ok31 2 (c' := (31, [some (.ref 10), some (.int p1), some (.int v1), none], [.int 48, .int v1], qp_mk I2 J2)) (by with_unfolding_all rfl) hd1 trivial ?_
    refine qp_br_E qp_ok31 (f := v1 < 48) (ct := (44, [some (.ref 10), some (.int p1), some (.int v1), none], [], qp_mk I2 J2)) (cf := (34, [some (.ref 10), some (.int p1), some (.int v1), none], [], qp_mk I2 J2)) (by with_unfolding_all rfl) (fun h3 => ?_) (fun h3 => ?_)
    · replace h := qp_ift h3 h
      refine qp_run_E qp_ok31 3 (c' := (47, [some (.ref 10), some (.int p1), some (.int v1), some (.int 0)], [.int 0], qp_mk I2 J2)) (by with_unfolding_all rfl) hd1 trivial ?_
      refine qp_br_E qp_ok31 (f := (0 : Int32) = 0) (ct := (57, [some (.ref 10), some (.int p1), some (.int v1), some (.int 0)], [], qp_mk I2 J2)) (cf := (50, [some (.ref 10), some (.int p1), some (.int v1), some (.int 0)], [], qp_mk I2 J2)) (by with_unfolding_all rfl) (fun h4 => ?_) (fun h4 => ?_)
      rotate_left
      · exact absurd (show (0 : Int32) = 0 by decide) h4
      refine qp_run_E qp_ok31 1 (c' := (58, [some (.ref 10), some (.int p1), some (.int v1), some (.int 0)], [.int (-1)], qp_mk I2 J2)) (by with_unfolding_all rfl) hd1 trivial ?_
      obtain ⟨rfl, rfl, rfl⟩ := qp_some3 h
      exact qp_retI_E qp_ok31 rfl qp_r31.1 ⟨rfl, rfl⟩ ⟨rfl, rfl⟩
    · replace h := qp_iff h3 h
      refine qp_run_E qp_ok31 2 (c' := (37, [some (.ref 10), some (.int p1), some (.int v1), none], [.int 57, .int v1], qp_mk I2 J2)) (by with_unfolding_all rfl) hd1 trivial ?_
      refine qp_br_E qp_ok31 (f := 57 < v1) (ct := (44, [some (.ref 10), some (.int p1), some (.int v1), none], [], qp_mk I2 J2)) (cf := (40, [some (.ref 10), some (.int p1), some (.int v1), none], [], qp_mk I2 J2)) (by with_unfolding_all rfl) (fun h5 => ?_) (fun h5 => ?_)
      · replace h := qp_ift h5 h
        refine qp_run_E qp_ok31 3 (c' := (47, [some (.ref 10), some (.int p1), some (.int v1), some (.int 0)], [.int 0], qp_mk I2 J2)) (by with_unfolding_all rfl) hd1 trivial ?_
        refine qp_br_E qp_ok31 (f := (0 : Int32) = 0) (ct := (57, [some (.ref 10), some (.int p1), some (.int v1), some (.int 0)], [], qp_mk I2 J2)) (cf := (50, [some (.ref 10), some (.int p1), some (.int v1), some (.int 0)], [], qp_mk I2 J2)) (by with_unfolding_all rfl) (fun h6 => ?_) (fun h6 => ?_)
        rotate_left
        · exact absurd (show (0 : Int32) = 0 by decide) h6
        refine qp_run_E qp_ok31 1 (c' := (58, [some (.ref 10), some (.int p1), some (.int v1), some (.int 0)], [.int (-1)], qp_mk I2 J2)) (by with_unfolding_all rfl) hd1 trivial ?_
        obtain ⟨rfl, rfl, rfl⟩ := qp_some3 h
        exact qp_retI_E qp_ok31 rfl qp_r31.1 ⟨rfl, rfl⟩ ⟨rfl, rfl⟩
      · replace h := qp_iff h5 h
        refine qp_run_E qp_ok31 4 (c' := (47, [some (.ref 10), some (.int p1), some (.int v1), some (.int 1)], [.int 1], qp_mk I2 J2)) (by with_unfolding_all rfl) hd1 trivial ?_
        refine qp_br_E qp_ok31 (f := (1 : Int32) = 0) (ct := (57, [some (.ref 10), some (.int p1), some (.int v1), some (.int 1)], [], qp_mk I2 J2)) (cf := (50, [some (.ref 10), some (.int p1), some (.int v1), some (.int 1)], [], qp_mk I2 J2)) (by with_unfolding_all rfl) (fun h7 => ?_) (fun h7 => ?_)
        · exact absurd h7 (show ¬ ((1 : Int32) = 0) by decide)
        refine qp_run_E qp_ok31 4 (c' := (58, [some (.ref 10), some (.int p1), some (.int v1), some (.int 1)], [.int (v1 - 48)], qp_mk I2 J2)) (by with_unfolding_all rfl) hd1 trivial ?_
        obtain ⟨rfl, rfl, rfl⟩ := qp_some3 h
        exact qp_retI_E qp_ok31 rfl qp_r31.1 ⟨rfl, rfl⟩ ⟨rfl, rfl⟩
def fR_readLoaves  (I : Nat → Nat → Int32) (J : Nat → Nat → Int64) : Option (Int32 × (Nat → Nat → Int32) × (Nat → Nat → Int64)) :=
  qp_bd (fR_figureAt (I 10 3) I J) fun v1 I1 J1 =>
  if 0 ≤ v1 then (
    qp_bd (fR_figureAt ((I1 10 3) + 1) I1 J1) fun v2 I2 J2 =>
    if 0 ≤ v2 then (
      if (((10 : Int32) * v1) + v2) ≤ 20 then (
        some (1, (qp_up (qp_up I2 11 1 (((10 : Int32) * v1) + v2)) 10 3 ((I2 10 3) + 2)), J2)
      ) else (
        some (0, (qp_up I2 11 1 (((10 : Int32) * v1) + v2)), J2)
      )
    ) else (
      some (0, (qp_up I2 10 3 ((I2 10 3) + 1)), J2)
    )
  ) else (
    some (0, I1, J1)
  )
set_option maxRecDepth 8000 in
theorem gR_readLoaves (l : Launch) (G : qp_G)  (I : Nat → Nat → Int32) (J : Nat → Nat → Int64) {v : Int32} {I' : Nat → Nat → Int32} {J' : Nat → Nat → Int64} (h : fR_readLoaves  I J = some (v, I', J')) {d : Nat} (hd : 5 ≤ d) : qp_Met l G d 30 [.ref 10] (qp_mk I J) 0 0 (qp_R8 (some (.int v)) I' J') := by
  have hd1 : Nat.ble 1 d = true := Nat.ble_eq_true_of_le (Nat.le_trans (by decide) hd)
  refine qp_Met_of (by decide) (by rw [qp_r30.2]; rfl) [some (.ref 10), none, none] (by rw [qp_r30.2]; rfl) ?_
  unfold fR_readLoaves at h
  refine qp_run_E qp_ok30 3 (c' := (5, [some (.ref 10), none, none], [.int (I 10 3), .ref 10], qp_mk I J)) (by with_unfolding_all rfl) hd1 trivial ?_
  obtain ⟨v1, I1, J1, e1, h⟩ := qp_bd_s h
  refine qp_cV qp_ok30 (rest := []) (oj := 2) qp_f31 rfl rfl (gR_figureAt l G (I 10 3) I J e1 (Nat.le_refl 4)) rfl rfl rfl rfl (Nat.le_trans (by decide) hd) ?_
  refine qp_run_E qp_ok30 2 (c' := (10, [some (.ref 10), some (.int v1), none], [.int v1], qp_mk I1 J1)) (by with_unfolding_all rfl) hd1 trivial ?_
  refine qp_br_E qp_ok30 (f := 0 ≤ v1) (ct := (15, [some (.ref 10), some (.int v1), none], [], qp_mk I1 J1)) (cf := (13, [some (.ref 10), some (.int v1), none], [], qp_mk I1 J1)) (by with_unfolding_all rfl) (fun h1 => ?_) (fun h1 => ?_)
  · replace h := qp_ift h1 h
    refine qp_run_E qp_ok30 5 (c' := (22, [some (.ref 10), some (.int v1), none], [.int ((I1 10 3) + 1), .ref 10], qp_mk I1 J1)) (by with_unfolding_all rfl) hd1 trivial ?_
    obtain ⟨v2, I2, J2, e2, h⟩ := qp_bd_s h
    refine qp_cV qp_ok30 (rest := []) (oj := 2) qp_f31 rfl rfl (gR_figureAt l G ((I1 10 3) + 1) I1 J1 e2 (Nat.le_refl 4)) rfl rfl rfl rfl (Nat.le_trans (by decide) hd) ?_
    refine qp_run_E qp_ok30 2 (c' := (27, [some (.ref 10), some (.int v1), some (.int v2)], [.int v2], qp_mk I2 J2)) (by with_unfolding_all rfl) hd1 trivial ?_
    refine qp_br_E qp_ok30 (f := 0 ≤ v2) (ct := (42, [some (.ref 10), some (.int v1), some (.int v2)], [], qp_mk I2 J2)) (cf := (30, [some (.ref 10), some (.int v1), some (.int v2)], [], qp_mk I2 J2)) (by with_unfolding_all rfl) (fun h2 => ?_) (fun h2 => ?_)
    · replace h := qp_ift h2 h
      refine qp_run_E qp_ok30 12 (c' := (64, [some (.ref 10), some (.int v1), some (.int v2)], [.int 20, .int (((10 : Int32) * v1) + v2)], qp_mk (qp_up I2 11 1 (((10 : Int32) * v1) + v2)) J2)) (by with_unfolding_all rfl) hd1 trivial ?_
      refine qp_br_E qp_ok30 (f := (((10 : Int32) * v1) + v2) ≤ 20) (ct := (69, [some (.ref 10), some (.int v1), some (.int v2)], [], qp_mk (qp_up I2 11 1 (((10 : Int32) * v1) + v2)) J2)) (cf := (67, [some (.ref 10), some (.int v1), some (.int v2)], [], qp_mk (qp_up I2 11 1 (((10 : Int32) * v1) + v2)) J2)) (by with_unfolding_all rfl) (fun h3 => ?_) (fun h3 => ?_)
      · replace h := qp_ift h3 h
        refine qp_run_E qp_ok30 7 (c' := (80, [some (.ref 10), some (.int v1), some (.int v2)], [.int 1], qp_mk (qp_up (qp_up I2 11 1 (((10 : Int32) * v1) + v2)) 10 3 ((I2 10 3) + 2)) J2)) (by with_unfolding_all rfl) hd1 trivial ?_
        obtain ⟨rfl, rfl, rfl⟩ := qp_some3 h
        exact qp_retZ_E qp_ok30 rfl qp_r30.1 rfl ⟨rfl, rfl⟩ ⟨rfl, rfl⟩
      · replace h := qp_iff h3 h
        refine qp_run_E qp_ok30 1 (c' := (68, [some (.ref 10), some (.int v1), some (.int v2)], [.int 0], qp_mk (qp_up I2 11 1 (((10 : Int32) * v1) + v2)) J2)) (by with_unfolding_all rfl) hd1 trivial ?_
        obtain ⟨rfl, rfl, rfl⟩ := qp_some3 h
        exact qp_retZ_E qp_ok30 rfl qp_r30.1 rfl ⟨rfl, rfl⟩ ⟨rfl, rfl⟩
    · replace h := qp_iff h2 h
      refine qp_run_E qp_ok30 7 (c' := (41, [some (.ref 10), some (.int v1), some (.int v2)], [.int 0], qp_mk (qp_up I2 10 3 ((I2 10 3) + 1)) J2)) (by with_unfolding_all rfl) hd1 trivial ?_
      obtain ⟨rfl, rfl, rfl⟩ := qp_some3 h
      exact qp_retZ_E qp_ok30 rfl qp_r30.1 rfl ⟨rfl, rfl⟩ ⟨rfl, rfl⟩
  · replace h := qp_iff h1 h
    refine qp_run_E qp_ok30 1 (c' := (14, [some (.ref 10), some (.int v1), none], [.int 0], qp_mk I1 J1)) (by with_unfolding_all rfl) hd1 trivial ?_
    obtain ⟨rfl, rfl, rfl⟩ := qp_some3 h
    exact qp_retZ_E qp_ok30 rfl qp_r30.1 rfl ⟨rfl, rfl⟩ ⟨rfl, rfl⟩
def fR_kindAt_b19  : Nat → Int32 → Int32 → (Nat → Nat → Int32) → (Nat → Nat → Int64) → Option (Int32 × (Nat → Nat → Int32) × (Nat → Nat → Int64))
  | 0, _, _, _, _ => none
  | n + 1, a1, a2, I, J =>
    if 6 ≤ a2 then (
      some ((-1), I, J)
    ) else (
      qp_bd (fS_get_4 (I 10 2) a1 I J) fun v1 I1 J1 =>
      qp_gd ((0 ≤ a2 ∧ a2 < 6)) <|
      if ¬ v1 = (qp_let (Int32.toNatClampNeg a2)) then (
        fR_kindAt_b19 n a1 (a2 + 1) I1 J1
      ) else (
        some (a2, I1, J1)
      )
    )
set_option maxRecDepth 8000 in
theorem gR_kindAt_b19 {l : Launch} {G : qp_G} {d : Nat} (hd : 4 ≤ d) {r : (Int32 × (Nat → Nat → Int32) × (Nat → Nat → Int64))} {I0 : Nat → Nat → Int32} {J0 : Nat → Nat → Int64}   : ∀ (n : Nat) (a1 : Int32) (a2 : Int32) (I : Nat → Nat → Int32) (J : Nat → Nat → Int64), fR_kindAt_b19  n a1 a2 I J = some r → qp_E l G d 33 (qp_mk I0 J0) 0 0 (qp_R8 (some (.int r.1)) r.2.1 r.2.2) (19, [some (.ref 10), some (.int a1), some (.int a2)], [], qp_mk I J) := by
  have hd1 : Nat.ble 1 d = true := Nat.ble_eq_true_of_le (Nat.le_trans (by decide) hd)
  intro n
  induction n with
  | zero => intro a1 a2 I J h; exact absurd h (by simp [fR_kindAt_b19])
  | succ n ih =>
    intro a1 a2 I J h
    rw [fR_kindAt_b19] at h
    refine qp_run_E qp_ok33 3 (c' := (24, [some (.ref 10), some (.int a1), some (.int a2)], [.int 6, .int a2], qp_mk I J)) (by with_unfolding_all rfl) hd1 trivial ?_
    refine qp_br_E qp_ok33 (f := 6 ≤ a2) (ct := (55, [some (.ref 10), some (.int a1), some (.int a2)], [], qp_mk I J)) (cf := (27, [some (.ref 10), some (.int a1), some (.int a2)], [], qp_mk I J)) (by with_unfolding_all rfl) (fun h1 => ?_) (fun h1 => ?_)
    · replace h := qp_ift h1 h
      refine qp_run_E qp_ok33 1 (c' := (56, [some (.ref 10), some (.int a1), some (.int a2)], [.int (-1)], qp_mk I J)) (by with_unfolding_all rfl) hd1 trivial ?_
      obtain rfl := Option.some.inj h
      exact qp_retI_E qp_ok33 rfl qp_r33.1 ⟨rfl, rfl⟩ ⟨rfl, rfl⟩
    · replace h := qp_iff h1 h
      refine qp_run_E qp_ok33 5 (c' := (36, [some (.ref 10), some (.int a1), some (.int a2)], [.int a1, .int (I 10 2), .ref 4], qp_mk I J)) (by with_unfolding_all rfl) hd1 trivial ?_
      obtain ⟨v1, I1, J1, e1, h⟩ := qp_bd_s h
      refine qp_cV qp_ok33 (rest := []) (oj := 1) qp_f23 rfl rfl (gS_get_4 l G (I 10 2) a1 I J e1 (Nat.le_refl 3)) rfl rfl rfl rfl (Nat.le_trans (by decide) hd) ?_
      obtain ⟨h2, h⟩ := qp_gd_s h
      refine qp_run_E qp_ok33 3 (f := vp_in a2 6 ∧ True) (c' := (44, [some (.ref 10), some (.int a1), some (.int a2)], [.int (qp_let (Int32.toNatClampNeg a2)), .int v1], qp_mk I1 J1)) (by with_unfolding_all rfl) hd1 ⟨(qp_vin (c := 6) (by decide) h2.1 h2.2), trivial⟩ ?_
      refine qp_br_E qp_ok33 (f := ¬ v1 = (qp_let (Int32.toNatClampNeg a2))) (ct := (49, [some (.ref 10), some (.int a1), some (.int a2)], [], qp_mk I1 J1)) (cf := (47, [some (.ref 10), some (.int a1), some (.int a2)], [], qp_mk I1 J1)) (by with_unfolding_all rfl) (fun h3 => ?_) (fun h3 => ?_)
      · replace h := qp_ift h3 h
        refine qp_run_E qp_ok33 2 (c' := (19, [some (.ref 10), some (.int a1), some (.int (a2 + 1))], [], qp_mk I1 J1)) (by with_unfolding_all rfl) hd1 trivial ?_
        exact ih a1 (a2 + 1) I1 J1 h
      · replace h := qp_iff h3 h
        refine qp_run_E qp_ok33 1 (c' := (48, [some (.ref 10), some (.int a1), some (.int a2)], [.int a2], qp_mk I1 J1)) (by with_unfolding_all rfl) hd1 trivial ?_
        obtain rfl := Option.some.inj h
        exact qp_retI_E qp_ok33 rfl qp_r33.1 ⟨rfl, rfl⟩ ⟨rfl, rfl⟩
def fR_kindAt (p1 : Int32) (I : Nat → Nat → Int32) (J : Nat → Nat → Int64) : Option (Int32 × (Nat → Nat → Int32) × (Nat → Nat → Int64)) :=
  qp_bd (fS_hasPlace_4 (I 10 2) p1 I J) fun v1 I1 J1 =>
  if ¬ v1 = 0 then (
    fR_kindAt_b19 100000 p1 0 I1 J1
  ) else (
    some ((-1), I1, J1)
  )
set_option maxRecDepth 8000 in
theorem gR_kindAt (l : Launch) (G : qp_G) (p1 : Int32) (I : Nat → Nat → Int32) (J : Nat → Nat → Int64) {v : Int32} {I' : Nat → Nat → Int32} {J' : Nat → Nat → Int64} (h : fR_kindAt p1 I J = some (v, I', J')) {d : Nat} (hd : 4 ≤ d) : qp_Met l G d 33 [.ref 10, .int p1] (qp_mk I J) 0 0 (qp_R8 (some (.int v)) I' J') := by
  have hd1 : Nat.ble 1 d = true := Nat.ble_eq_true_of_le (Nat.le_trans (by decide) hd)
  refine qp_Met_of (by decide) (by rw [qp_r33.2]; rfl) [some (.ref 10), some (.int p1), none] (by rw [qp_r33.2]; rfl) ?_
  unfold fR_kindAt at h
  refine qp_run_E qp_ok33 5 (c' := (9, [some (.ref 10), some (.int p1), none], [.int p1, .int (I 10 2), .ref 4], qp_mk I J)) (by with_unfolding_all rfl) hd1 trivial ?_
  obtain ⟨v1, I1, J1, e1, h⟩ := qp_bd_s h
  refine qp_cV qp_ok33 (rest := []) (oj := 1) qp_f17 rfl rfl (gS_hasPlace_4 l G (I 10 2) p1 I J e1 (Nat.le_refl 2)) rfl rfl rfl rfl (Nat.le_trans (by decide) hd) ?_
  refine qp_br_E qp_ok33 (f := ¬ v1 = 0) (ct := (17, [some (.ref 10), some (.int p1), none], [], qp_mk I1 J1)) (cf := (15, [some (.ref 10), some (.int p1), none], [], qp_mk I1 J1)) (by with_unfolding_all rfl) (fun h1 => ?_) (fun h1 => ?_)
  · replace h := qp_ift h1 h
    refine qp_run_E qp_ok33 2 (c' := (19, [some (.ref 10), some (.int p1), some (.int 0)], [], qp_mk I1 J1)) (by with_unfolding_all rfl) hd1 trivial ?_
    exact gR_kindAt_b19 hd 100000 p1 0 I1 J1 h
  · replace h := qp_iff h1 h
    refine qp_run_E qp_ok33 1 (c' := (16, [some (.ref 10), some (.int p1), none], [.int (-1)], qp_mk I1 J1)) (by with_unfolding_all rfl) hd1 trivial ?_
    obtain ⟨rfl, rfl, rfl⟩ := qp_some3 h
    exact qp_retI_E qp_ok33 rfl qp_r33.1 ⟨rfl, rfl⟩ ⟨rfl, rfl⟩
def fC_add_11 (p1 : Int32) (p2 : Int32) (I : Nat → Nat → Int32) (J : Nat → Nat → Int64) : Option (Unit × (Nat → Nat → Int32) × (Nat → Nat → Int64)) :=
  if (I 11 0) < 0 then (
    some ((), I, J)
  ) else (
    if 6 ≤ (I 11 0) then (
      some ((), I, J)
    ) else (
      if 6 ≤ (I 11 0) then (
        some ((), I, J)
      ) else (
        qp_gd ((0 ≤ (I 11 0) ∧ (I 11 0) < 6)) <|
        some ((), (qp_up (qp_up (qp_up I 12 (Int32.toNatClampNeg (I 11 0)) p1) 13 (Int32.toNatClampNeg (I 11 0)) p2) 11 0 ((I 11 0) + 1)), J)
      )
    )
  )
set_option maxRecDepth 8000 in
theorem gC_add_11 (l : Launch) (G : qp_G) (p1 : Int32) (p2 : Int32) (I : Nat → Nat → Int32) (J : Nat → Nat → Int64) {v : Unit} {I' : Nat → Nat → Int32} {J' : Nat → Nat → Int64} (h : fC_add_11 p1 p2 I J = some (v, I', J')) {d : Nat} (hd : 1 ≤ d) : qp_Met l G d 34 [.ref 11, .int p1, .int p2] (qp_mk I J) 0 0 (qp_R8 none I' J') := by
  have hd1 : Nat.ble 1 d = true := Nat.ble_eq_true_of_le (Nat.le_trans (by decide) hd)
  refine qp_Met_of (by decide) (by rw [qp_r34.2]; rfl) [some (.ref 11), some (.int p1), some (.int p2)] (by rw [qp_r34.2]; rfl) ?_
  unfold fC_add_11 at h
  refine qp_run_E qp_ok34 2 (c' := (4, [some (.ref 11), some (.int p1), some (.int p2)], [.int (I 11 0)], qp_mk I J)) (by with_unfolding_all rfl) hd1 trivial ?_
  refine qp_br_E qp_ok34 (f := (I 11 0) < 0) (ct := (61, [some (.ref 11), some (.int p1), some (.int p2)], [], qp_mk I J)) (cf := (7, [some (.ref 11), some (.int p1), some (.int p2)], [], qp_mk I J)) (by with_unfolding_all rfl) (fun h1 => ?_) (fun h1 => ?_)
  · replace h := qp_ift h1 h
    obtain ⟨rfl, rfl, rfl⟩ := qp_some3 h
    exact qp_retV_E qp_ok34 rfl qp_r34.1 ⟨rfl, rfl⟩ ⟨rfl, rfl⟩
  · replace h := qp_iff h1 h
    refine qp_run_E qp_ok34 5 (c' := (16, [some (.ref 11), some (.int p1), some (.int p2)], [.int 6, .int (I 11 0)], qp_mk I J)) (by with_unfolding_all rfl) hd1 trivial ?_
    refine qp_br_E qp_ok34 (f := 6 ≤ (I 11 0)) (ct := (61, [some (.ref 11), some (.int p1), some (.int p2)], [], qp_mk I J)) (cf := (19, [some (.ref 11), some (.int p1), some (.int p2)], [], qp_mk I J)) (by with_unfolding_all rfl) (fun h2 => ?_) (fun h2 => ?_)
    · replace h := qp_ift h2 h
      obtain ⟨rfl, rfl, rfl⟩ := qp_some3 h
      exact qp_retV_E qp_ok34 rfl qp_r34.1 ⟨rfl, rfl⟩ ⟨rfl, rfl⟩
    · replace h := qp_iff h2 h
      refine qp_run_E qp_ok34 5 (c' := (28, [some (.ref 11), some (.int p1), some (.int p2)], [.int 6, .int (I 11 0)], qp_mk I J)) (by with_unfolding_all rfl) hd1 trivial ?_
      refine qp_br_E qp_ok34 (f := 6 ≤ (I 11 0)) (ct := (61, [some (.ref 11), some (.int p1), some (.int p2)], [], qp_mk I J)) (cf := (31, [some (.ref 11), some (.int p1), some (.int p2)], [], qp_mk I J)) (by with_unfolding_all rfl) (fun h3 => ?_) (fun h3 => ?_)
      · replace h := qp_ift h3 h
        obtain ⟨rfl, rfl, rfl⟩ := qp_some3 h
        exact qp_retV_E qp_ok34 rfl qp_r34.1 ⟨rfl, rfl⟩ ⟨rfl, rfl⟩
      · replace h := qp_iff h3 h
        obtain ⟨h4, h⟩ := qp_gd_s h
        refine qp_run_E qp_ok34 18 (f := vp_in (I 11 0) 6 ∧ vp_in (I 11 0) 6 ∧ True) (c' := (61, [some (.ref 11), some (.int p1), some (.int p2)], [], qp_mk (qp_up (qp_up (qp_up I 12 (Int32.toNatClampNeg (I 11 0)) p1) 13 (Int32.toNatClampNeg (I 11 0)) p2) 11 0 ((I 11 0) + 1)) J)) (by with_unfolding_all rfl) hd1 ⟨(qp_vin (c := 6) (by decide) h4.1 h4.2), (qp_vin (c := 6) (by decide) h4.1 h4.2), trivial⟩ ?_
        obtain ⟨rfl, rfl, rfl⟩ := qp_some3 h
        exact qp_retV_E qp_ok34 rfl qp_r34.1 ⟨rfl, rfl⟩ ⟨rfl, rfl⟩
def fR_readPeople_b37  (k2 : Int32 → (Nat → Nat → Int32) → (Nat → Nat → Int64) → Option (Int32 × (Nat → Nat → Int32) × (Nat → Nat → Int64))) (a1 : Int32) (I : Nat → Nat → Int32) (J : Nat → Nat → Int64) : Option (Int32 × (Nat → Nat → Int32) × (Nat → Nat → Int64)) :=
  qp_bd (fR_kindAt (I 10 3) I J) fun v1 I1 J1 =>
  if v1 < 0 then (
    some ((I1 10 3), I1, J1)
  ) else (
    if ¬ a1 = 6 then (
      qp_bd (fR_figureAt ((I1 10 3) + 1) (qp_up I1 10 3 ((I1 10 3) + 1)) J1) fun v2 I2 J2 =>
      if 1 ≤ v2 then (
        qp_bd (fC_add_11 v1 v2 (qp_up I2 10 3 ((I2 10 3) + 1)) J2) fun _u I3 J3 =>
        k2 (a1 + 1) I3 J3
      ) else (
        some ((I2 10 3), I2, J2)
      )
    ) else (
      some ((I1 10 3), I1, J1)
    )
  )
set_option maxRecDepth 8000 in
theorem gR_readPeople_b37 {l : Launch} {G : qp_G} {d : Nat} (hd : 5 ≤ d) {r : (Int32 × (Nat → Nat → Int32) × (Nat → Nat → Int64))} {I0 : Nat → Nat → Int32} {J0 : Nat → Nat → Int64}  (k2 : Int32 → (Nat → Nat → Int32) → (Nat → Nat → Int64) → Option (Int32 × (Nat → Nat → Int32) × (Nat → Nat → Int64))) (hk2 : ∀ a1 I J, k2 a1 I J = some r → qp_E l G d 32 (qp_mk I0 J0) 0 0 (qp_R8 (some (.int r.1)) r.2.1 r.2.2) (2, [some (.ref 10), some (.int a1), none, none], [], qp_mk I J)) : ∀ (a1 : Int32) (I : Nat → Nat → Int32) (J : Nat → Nat → Int64), fR_readPeople_b37 k2 a1 I J = some r → qp_E l G d 32 (qp_mk I0 J0) 0 0 (qp_R8 (some (.int r.1)) r.2.1 r.2.2) (37, [some (.ref 10), some (.int a1), none, none], [], qp_mk I J) := by
  have hd1 : Nat.ble 1 d = true := Nat.ble_eq_true_of_le (Nat.le_trans (by decide) hd)
  intro a1 I J h
  unfold fR_readPeople_b37 at h
  refine qp_run_E qp_ok32 3 (c' := (42, [some (.ref 10), some (.int a1), none, none], [.int (I 10 3), .ref 10], qp_mk I J)) (by with_unfolding_all rfl) hd1 trivial ?_
  obtain ⟨v1, I1, J1, e1, h⟩ := qp_bd_s h
  refine qp_cV qp_ok32 (rest := []) (oj := 2) qp_f33 rfl rfl (gR_kindAt l G (I 10 3) I J e1 (Nat.le_refl 4)) rfl rfl rfl rfl (Nat.le_trans (by decide) hd) ?_
  refine qp_run_E qp_ok32 2 (c' := (47, [some (.ref 10), some (.int a1), some (.int v1), none], [.int v1], qp_mk I1 J1)) (by with_unfolding_all rfl) hd1 trivial ?_
  refine qp_br_E qp_ok32 (f := v1 < 0) (ct := (56, [some (.ref 10), some (.int a1), some (.int v1), none], [], qp_mk I1 J1)) (cf := (50, [some (.ref 10), some (.int a1), some (.int v1), none], [], qp_mk I1 J1)) (by with_unfolding_all rfl) (fun h1 => ?_) (fun h1 => ?_)
  · replace h := qp_ift h1 h
    refine qp_run_E qp_ok32 2 (c' := (60, [some (.ref 10), some (.int a1), some (.int v1), none], [.int (I1 10 3)], qp_mk I1 J1)) (by with_unfolding_all rfl) hd1 trivial ?_
    obtain rfl := Option.some.inj h
    exact qp_retI_E qp_ok32 rfl qp_r32.1 ⟨rfl, rfl⟩ ⟨rfl, rfl⟩
  · replace h := qp_iff h1 h
    refine qp_run_E qp_ok32 2 (c' := (53, [some (.ref 10), some (.int a1), some (.int v1), none], [.int 6, .int a1], qp_mk I1 J1)) (by with_unfolding_all rfl) hd1 trivial ?_
    refine qp_br_E qp_ok32 (f := ¬ a1 = 6) (ct := (61, [some (.ref 10), some (.int a1), some (.int v1), none], [], qp_mk I1 J1)) (cf := (56, [some (.ref 10), some (.int a1), some (.int v1), none], [], qp_mk I1 J1)) (by with_unfolding_all rfl) (fun h2 => ?_) (fun h2 => ?_)
    · replace h := qp_ift h2 h
      refine qp_run_E qp_ok32 9 (c' := (76, [some (.ref 10), some (.int a1), some (.int v1), none], [.int ((I1 10 3) + 1), .ref 10], qp_mk (qp_up I1 10 3 ((I1 10 3) + 1)) J1)) (by with_unfolding_all rfl) hd1 trivial ?_
      obtain ⟨v2, I2, J2, e2, h⟩ := qp_bd_s h
      refine qp_cV qp_ok32 (rest := []) (oj := 2) qp_f31 rfl rfl (gR_figureAt l G ((I1 10 3) + 1) (qp_up I1 10 3 ((I1 10 3) + 1)) J1 e2 (Nat.le_refl 4)) rfl rfl rfl rfl (Nat.le_trans (by decide) hd) ?_
      refine qp_run_E qp_ok32 3 (c' := (82, [some (.ref 10), some (.int a1), some (.int v1), some (.int v2)], [.int 1, .int v2], qp_mk I2 J2)) (by with_unfolding_all rfl) hd1 trivial ?_
      refine qp_br_E qp_ok32 (f := 1 ≤ v2) (ct := (90, [some (.ref 10), some (.int a1), some (.int v1), some (.int v2)], [], qp_mk I2 J2)) (cf := (85, [some (.ref 10), some (.int a1), some (.int v1), some (.int v2)], [], qp_mk I2 J2)) (by with_unfolding_all rfl) (fun h3 => ?_) (fun h3 => ?_)
      · replace h := qp_ift h3 h
        refine qp_run_E qp_ok32 10 (c' := (106, [some (.ref 10), some (.int a1), some (.int v1), some (.int v2)], [.int v2, .int v1, .ref 11], qp_mk (qp_up I2 10 3 ((I2 10 3) + 1)) J2)) (by with_unfolding_all rfl) hd1 trivial ?_
        obtain ⟨v3, I3, J3, e3, h⟩ := qp_bd_s h
        refine qp_cV qp_ok32 (rest := []) (oj := 3) qp_f34 rfl rfl (gC_add_11 l G v1 v2 (qp_up I2 10 3 ((I2 10 3) + 1)) J2 e3 (Nat.le_refl 1)) rfl rfl rfl rfl (Nat.le_trans (by decide) hd) ?_
        refine qp_run_E qp_ok32 2 (c' := (2, [some (.ref 10), some (.int (a1 + 1)), some (.int v1), some (.int v2)], [], qp_mk I3 J3)) (by with_unfolding_all rfl) hd1 trivial ?_
        exact qp_E_fg [true, true, false, false] (hk2 (a1 + 1) I3 J3 h)
      · replace h := qp_iff h3 h
        refine qp_run_E qp_ok32 2 (c' := (89, [some (.ref 10), some (.int a1), some (.int v1), some (.int v2)], [.int (I2 10 3)], qp_mk I2 J2)) (by with_unfolding_all rfl) hd1 trivial ?_
        obtain rfl := Option.some.inj h
        exact qp_retI_E qp_ok32 rfl qp_r32.1 ⟨rfl, rfl⟩ ⟨rfl, rfl⟩
    · replace h := qp_iff h2 h
      refine qp_run_E qp_ok32 2 (c' := (60, [some (.ref 10), some (.int a1), some (.int v1), none], [.int (I1 10 3)], qp_mk I1 J1)) (by with_unfolding_all rfl) hd1 trivial ?_
      obtain rfl := Option.some.inj h
      exact qp_retI_E qp_ok32 rfl qp_r32.1 ⟨rfl, rfl⟩ ⟨rfl, rfl⟩
def fR_readPeople_b2  : Nat → Int32 → (Nat → Nat → Int32) → (Nat → Nat → Int64) → Option (Int32 × (Nat → Nat → Int32) × (Nat → Nat → Int64))
  | 0, _, _, _ => none
  | n + 1, a1, I, J =>
    if 6 < a1 then (
      some ((I 10 3), I, J)
    ) else (
      qp_bd (fR_skipBlanks I J) fun _u I1 J1 =>
      if a1 ≤ 0 then (
        fR_readPeople_b37 (fun a0 I J => fR_readPeople_b2 n a0 I J) a1 I1 J1
      ) else (
        qp_bd (fS_sizeOf_4 (I1 10 2) I1 J1) fun v2 I2 J2 =>
        if (I1 10 3) < v2 then (
          fR_readPeople_b37 (fun a0 I J => fR_readPeople_b2 n a0 I J) a1 I2 J2
        ) else (
          some ((-9), I2, J2)
        )
      )
    )
set_option maxRecDepth 8000 in
theorem gR_readPeople_b2 {l : Launch} {G : qp_G} {d : Nat} (hd : 5 ≤ d) {r : (Int32 × (Nat → Nat → Int32) × (Nat → Nat → Int64))} {I0 : Nat → Nat → Int32} {J0 : Nat → Nat → Int64}   : ∀ (n : Nat) (a1 : Int32) (I : Nat → Nat → Int32) (J : Nat → Nat → Int64), fR_readPeople_b2  n a1 I J = some r → qp_E l G d 32 (qp_mk I0 J0) 0 0 (qp_R8 (some (.int r.1)) r.2.1 r.2.2) (2, [some (.ref 10), some (.int a1), none, none], [], qp_mk I J) := by
  have hd1 : Nat.ble 1 d = true := Nat.ble_eq_true_of_le (Nat.le_trans (by decide) hd)
  intro n
  induction n with
  | zero => intro a1 I J h; exact absurd h (by simp [fR_readPeople_b2])
  | succ n ih =>
    intro a1 I J h
    rw [fR_readPeople_b2] at h
    refine qp_run_E qp_ok32 2 (c' := (5, [some (.ref 10), some (.int a1), none, none], [.int 6, .int a1], qp_mk I J)) (by with_unfolding_all rfl) hd1 trivial ?_
    refine qp_br_E qp_ok32 (f := 6 < a1) (ct := (115, [some (.ref 10), some (.int a1), none, none], [], qp_mk I J)) (cf := (8, [some (.ref 10), some (.int a1), none, none], [], qp_mk I J)) (by with_unfolding_all rfl) (fun h1 => ?_) (fun h1 => ?_)
    · replace h := qp_ift h1 h
      refine qp_run_E qp_ok32 2 (c' := (119, [some (.ref 10), some (.int a1), none, none], [.int (I 10 3)], qp_mk I J)) (by with_unfolding_all rfl) hd1 trivial ?_
      obtain rfl := Option.some.inj h
      exact qp_retI_E qp_ok32 rfl qp_r32.1 ⟨rfl, rfl⟩ ⟨rfl, rfl⟩
    · replace h := qp_iff h1 h
      refine qp_run_E qp_ok32 1 (c' := (9, [some (.ref 10), some (.int a1), none, none], [.ref 10], qp_mk I J)) (by with_unfolding_all rfl) hd1 trivial ?_
      obtain ⟨v1, I1, J1, e1, h⟩ := qp_bd_s h
      refine qp_cV qp_ok32 (rest := []) (oj := 2) qp_f29 rfl rfl (gR_skipBlanks l G I J e1 (Nat.le_refl 4)) rfl rfl rfl rfl (Nat.le_trans (by decide) hd) ?_
      refine qp_run_E qp_ok32 1 (c' := (13, [some (.ref 10), some (.int a1), none, none], [.int a1], qp_mk I1 J1)) (by with_unfolding_all rfl) hd1 trivial ?_
      refine qp_br_E qp_ok32 (f := a1 ≤ 0) (ct := (37, [some (.ref 10), some (.int a1), none, none], [], qp_mk I1 J1)) (cf := (16, [some (.ref 10), some (.int a1), none, none], [], qp_mk I1 J1)) (by with_unfolding_all rfl) (fun h2 => ?_) (fun h2 => ?_)
      · replace h := qp_ift h2 h
        exact gR_readPeople_b37 hd (fun a0 I J => fR_readPeople_b2 n a0 I J) (fun a0 I J h => ih a0 I J h) a1 I1 J1 h
      · replace h := qp_iff h2 h
        refine qp_run_E qp_ok32 6 (c' := (28, [some (.ref 10), some (.int a1), none, none], [.int (I1 10 2), .ref 4, .int (I1 10 3)], qp_mk I1 J1)) (by with_unfolding_all rfl) hd1 trivial ?_
        obtain ⟨v2, I2, J2, e2, h⟩ := qp_bd_s h
        refine qp_cV qp_ok32 (rest := [.int (I1 10 3)]) (oj := 1) qp_f22 rfl rfl (gS_sizeOf_4 l G (I1 10 2) I1 J1 e2 (Nat.le_refl 2)) rfl rfl rfl rfl (Nat.le_trans (by decide) hd) ?_
        refine qp_br_E qp_ok32 (f := (I1 10 3) < v2) (ct := (37, [some (.ref 10), some (.int a1), none, none], [], qp_mk I2 J2)) (cf := (34, [some (.ref 10), some (.int a1), none, none], [], qp_mk I2 J2)) (by with_unfolding_all rfl) (fun h3 => ?_) (fun h3 => ?_)
        · replace h := qp_ift h3 h
          exact gR_readPeople_b37 hd (fun a0 I J => fR_readPeople_b2 n a0 I J) (fun a0 I J h => ih a0 I J h) a1 I2 J2 h
        · replace h := qp_iff h3 h
          refine qp_run_E qp_ok32 1 (c' := (36, [some (.ref 10), some (.int a1), none, none], [.int (-9)], qp_mk I2 J2)) (by with_unfolding_all rfl) hd1 trivial ?_
          obtain rfl := Option.some.inj h
          exact qp_retI_E qp_ok32 rfl qp_r32.1 ⟨rfl, rfl⟩ ⟨rfl, rfl⟩
def fR_readPeople  (I : Nat → Nat → Int32) (J : Nat → Nat → Int64) : Option (Int32 × (Nat → Nat → Int32) × (Nat → Nat → Int64)) :=
  fR_readPeople_b2 100000 0 I J
set_option maxRecDepth 8000 in
theorem gR_readPeople (l : Launch) (G : qp_G)  (I : Nat → Nat → Int32) (J : Nat → Nat → Int64) {v : Int32} {I' : Nat → Nat → Int32} {J' : Nat → Nat → Int64} (h : fR_readPeople  I J = some (v, I', J')) {d : Nat} (hd : 5 ≤ d) : qp_Met l G d 32 [.ref 10] (qp_mk I J) 0 0 (qp_R8 (some (.int v)) I' J') := by
  have hd1 : Nat.ble 1 d = true := Nat.ble_eq_true_of_le (Nat.le_trans (by decide) hd)
  refine qp_Met_of (by decide) (by rw [qp_r32.2]; rfl) [some (.ref 10), none, none, none] (by rw [qp_r32.2]; rfl) ?_
  unfold fR_readPeople at h
  refine qp_run_E qp_ok32 2 (c' := (2, [some (.ref 10), some (.int 0), none, none], [], qp_mk I J)) (by with_unfolding_all rfl) hd1 trivial ?_
  exact gR_readPeople_b2 hd 100000 0 I J h
def fR_read (p1 : Int32) (I : Nat → Nat → Int32) (J : Nat → Nat → Int64) : Option (Int32 × (Nat → Nat → Int32) × (Nat → Nat → Int64)) :=
  qp_bd (fC_clear_11 (qp_up (qp_up I 10 2 p1) 10 3 0) J) fun _u I1 J1 =>
  qp_bd (fR_skipBlanks I1 J1) fun _u I2 J2 =>
  qp_bd (fS_sizeOf_4 (I2 10 2) I2 J2) fun v3 I3 J3 =>
  if v3 ≤ (I2 10 3) then (
    some ((I3 10 3), I3, J3)
  ) else (
    qp_bd (fS_get_4 (I3 10 2) (I3 10 3) I3 J3) fun v4 I4 J4 =>
    if v4 = 113 then (
      qp_bd (fR_readLoaves (qp_up I4 10 3 ((I4 10 3) + 1)) J4) fun v5 I5 J5 =>
      if v5 = 0 then (
        some ((I5 10 3), I5, J5)
      ) else (
        qp_bd (fR_readPeople I5 J5) fun v6 I6 J6 =>
        some (v6, I6, J6)
      )
    ) else (
      some ((I4 10 3), I4, J4)
    )
  )
set_option maxRecDepth 8000 in
theorem gR_read (l : Launch) (G : qp_G) (p1 : Int32) (I : Nat → Nat → Int32) (J : Nat → Nat → Int64) {v : Int32} {I' : Nat → Nat → Int32} {J' : Nat → Nat → Int64} (h : fR_read p1 I J = some (v, I', J')) {d : Nat} (hd : 6 ≤ d) : qp_Met l G d 27 [.ref 10, .int p1] (qp_mk I J) 0 0 (qp_R8 (some (.int v)) I' J') := by
  have hd1 : Nat.ble 1 d = true := Nat.ble_eq_true_of_le (Nat.le_trans (by decide) hd)
  refine qp_Met_of (by decide) (by rw [qp_r27.2]; rfl) [some (.ref 10), some (.int p1)] (by rw [qp_r27.2]; rfl) ?_
  unfold fR_read at h
  refine qp_run_E qp_ok27 8 (c' := (14, [some (.ref 10), some (.int p1)], [.ref 11], qp_mk (qp_up (qp_up I 10 2 p1) 10 3 0) J)) (by with_unfolding_all rfl) hd1 trivial ?_
  obtain ⟨v1, I1, J1, e1, h⟩ := qp_bd_s h
  refine qp_cV qp_ok27 (rest := []) (oj := 3) qp_f28 rfl rfl (gC_clear_11 l G (qp_up (qp_up I 10 2 p1) 10 3 0) J e1 (Nat.le_refl 1)) rfl rfl rfl rfl (Nat.le_trans (by decide) hd) ?_
  refine qp_run_E qp_ok27 1 (c' := (18, [some (.ref 10), some (.int p1)], [.ref 10], qp_mk I1 J1)) (by with_unfolding_all rfl) hd1 trivial ?_
  obtain ⟨v2, I2, J2, e2, h⟩ := qp_bd_s h
  refine qp_cV qp_ok27 (rest := []) (oj := 2) qp_f29 rfl rfl (gR_skipBlanks l G I1 J1 e2 (Nat.le_refl 4)) rfl rfl rfl rfl (Nat.le_trans (by decide) hd) ?_
  refine qp_run_E qp_ok27 6 (c' := (33, [some (.ref 10), some (.int p1)], [.int (I2 10 2), .ref 4, .int (I2 10 3)], qp_mk I2 J2)) (by with_unfolding_all rfl) hd1 trivial ?_
  obtain ⟨v3, I3, J3, e3, h⟩ := qp_bd_s h
  refine qp_cV qp_ok27 (rest := [.int (I2 10 3)]) (oj := 1) qp_f22 rfl rfl (gS_sizeOf_4 l G (I2 10 2) I2 J2 e3 (Nat.le_refl 2)) rfl rfl rfl rfl (Nat.le_trans (by decide) hd) ?_
  refine qp_br_E qp_ok27 (f := v3 ≤ (I2 10 3)) (ct := (59, [some (.ref 10), some (.int p1)], [], qp_mk I3 J3)) (cf := (39, [some (.ref 10), some (.int p1)], [], qp_mk I3 J3)) (by with_unfolding_all rfl) (fun h1 => ?_) (fun h1 => ?_)
  · replace h := qp_ift h1 h
    refine qp_run_E qp_ok27 2 (c' := (63, [some (.ref 10), some (.int p1)], [.int (I3 10 3)], qp_mk I3 J3)) (by with_unfolding_all rfl) hd1 trivial ?_
    obtain ⟨rfl, rfl, rfl⟩ := qp_some3 h
    exact qp_retI_E qp_ok27 rfl qp_r27.1 ⟨rfl, rfl⟩ ⟨rfl, rfl⟩
  · replace h := qp_iff h1 h
    refine qp_run_E qp_ok27 6 (c' := (51, [some (.ref 10), some (.int p1)], [.int (I3 10 3), .int (I3 10 2), .ref 4], qp_mk I3 J3)) (by with_unfolding_all rfl) hd1 trivial ?_
    obtain ⟨v4, I4, J4, e4, h⟩ := qp_bd_s h
    refine qp_cV qp_ok27 (rest := []) (oj := 1) qp_f23 rfl rfl (gS_get_4 l G (I3 10 2) (I3 10 3) I3 J3 e4 (Nat.le_refl 3)) rfl rfl rfl rfl (Nat.le_trans (by decide) hd) ?_
    refine qp_run_E qp_ok27 1 (c' := (56, [some (.ref 10), some (.int p1)], [.int 113, .int v4], qp_mk I4 J4)) (by with_unfolding_all rfl) hd1 trivial ?_
    refine qp_br_E qp_ok27 (f := v4 = 113) (ct := (64, [some (.ref 10), some (.int p1)], [], qp_mk I4 J4)) (cf := (59, [some (.ref 10), some (.int p1)], [], qp_mk I4 J4)) (by with_unfolding_all rfl) (fun h2 => ?_) (fun h2 => ?_)
    · replace h := qp_ift h2 h
      refine qp_run_E qp_ok27 7 (c' := (75, [some (.ref 10), some (.int p1)], [.ref 10], qp_mk (qp_up I4 10 3 ((I4 10 3) + 1)) J4)) (by with_unfolding_all rfl) hd1 trivial ?_
      obtain ⟨v5, I5, J5, e5, h⟩ := qp_bd_s h
      refine qp_cV qp_ok27 (rest := []) (oj := 2) qp_f30 rfl rfl (gR_readLoaves l G (qp_up I4 10 3 ((I4 10 3) + 1)) J4 e5 (Nat.le_refl 5)) rfl rfl rfl rfl (Nat.le_trans (by decide) hd) ?_
      refine qp_br_E qp_ok27 (f := v5 = 0) (ct := (88, [some (.ref 10), some (.int p1)], [], qp_mk I5 J5)) (cf := (81, [some (.ref 10), some (.int p1)], [], qp_mk I5 J5)) (by with_unfolding_all rfl) (fun h3 => ?_) (fun h3 => ?_)
      · replace h := qp_ift h3 h
        refine qp_run_E qp_ok27 2 (c' := (92, [some (.ref 10), some (.int p1)], [.int (I5 10 3)], qp_mk I5 J5)) (by with_unfolding_all rfl) hd1 trivial ?_
        obtain ⟨rfl, rfl, rfl⟩ := qp_some3 h
        exact qp_retI_E qp_ok27 rfl qp_r27.1 ⟨rfl, rfl⟩ ⟨rfl, rfl⟩
      · replace h := qp_iff h3 h
        refine qp_run_E qp_ok27 1 (c' := (82, [some (.ref 10), some (.int p1)], [.ref 10], qp_mk I5 J5)) (by with_unfolding_all rfl) hd1 trivial ?_
        obtain ⟨v6, I6, J6, e6, h⟩ := qp_bd_s h
        refine qp_cV qp_ok27 (rest := []) (oj := 2) qp_f32 rfl rfl (gR_readPeople l G I5 J5 e6 (Nat.le_refl 5)) rfl rfl rfl rfl (Nat.le_trans (by decide) hd) ?_
        refine qp_run_E qp_ok27 1 (c' := (92, [some (.ref 10), some (.int p1)], [.int v6], qp_mk I6 J6)) (by with_unfolding_all rfl) hd1 trivial ?_
        obtain ⟨rfl, rfl, rfl⟩ := qp_some3 h
        exact qp_retI_E qp_ok27 rfl qp_r27.1 ⟨rfl, rfl⟩ ⟨rfl, rfl⟩
    · replace h := qp_iff h2 h
      refine qp_run_E qp_ok27 2 (c' := (63, [some (.ref 10), some (.int p1)], [.int (I4 10 3)], qp_mk I4 J4)) (by with_unfolding_all rfl) hd1 trivial ?_
      obtain ⟨rfl, rfl, rfl⟩ := qp_some3 h
      exact qp_retI_E qp_ok27 rfl qp_r27.1 ⟨rfl, rfl⟩ ⟨rfl, rfl⟩
def fC_clear_15  (I : Nat → Nat → Int32) (J : Nat → Nat → Int64) : Option (Unit × (Nat → Nat → Int32) × (Nat → Nat → Int64)) :=
  some ((), (qp_up (qp_up I 15 0 0) 15 1 0), J)
set_option maxRecDepth 8000 in
theorem gC_clear_15 (l : Launch) (G : qp_G)  (I : Nat → Nat → Int32) (J : Nat → Nat → Int64) {v : Unit} {I' : Nat → Nat → Int32} {J' : Nat → Nat → Int64} (h : fC_clear_15  I J = some (v, I', J')) {d : Nat} (hd : 1 ≤ d) : qp_Met l G d 28 [.ref 15] (qp_mk I J) 0 0 (qp_R8 none I' J') := by
  have hd1 : Nat.ble 1 d = true := Nat.ble_eq_true_of_le (Nat.le_trans (by decide) hd)
  refine qp_Met_of (by decide) (by rw [qp_r28.2]; rfl) [some (.ref 15)] (by rw [qp_r28.2]; rfl) ?_
  unfold fC_clear_15 at h
  refine qp_run_E qp_ok28 6 (c' := (10, [some (.ref 15)], [], qp_mk (qp_up (qp_up I 15 0 0) 15 1 0) J)) (by with_unfolding_all rfl) hd1 trivial ?_
  obtain ⟨rfl, rfl, rfl⟩ := qp_some3 h
  exact qp_retV_E qp_ok28 rfl qp_r28.1 ⟨rfl, rfl⟩ ⟨rfl, rfl⟩
def fC_kindOf_11 (p1 : Int32) (I : Nat → Nat → Int32) (J : Nat → Nat → Int64) : Option (Int32 × (Nat → Nat → Int32) × (Nat → Nat → Int64)) :=
  if p1 < 0 then (
    some (0, I, J)
  ) else (
    if 6 ≤ p1 then (
      some (0, I, J)
    ) else (
      qp_gd ((0 ≤ p1 ∧ p1 < 6)) <|
      some ((I 12 (Int32.toNatClampNeg p1)), I, J)
    )
  )
set_option maxRecDepth 8000 in
theorem gC_kindOf_11 (l : Launch) (G : qp_G) (p1 : Int32) (I : Nat → Nat → Int32) (J : Nat → Nat → Int64) {v : Int32} {I' : Nat → Nat → Int32} {J' : Nat → Nat → Int64} (h : fC_kindOf_11 p1 I J = some (v, I', J')) {d : Nat} (hd : 1 ≤ d) : qp_Met l G d 36 [.ref 11, .int p1] (qp_mk I J) 0 0 (qp_R8 (some (.int v)) I' J') := by
  have hd1 : Nat.ble 1 d = true := Nat.ble_eq_true_of_le (Nat.le_trans (by decide) hd)
  refine qp_Met_of (by decide) (by rw [qp_r36.2]; rfl) [some (.ref 11), some (.int p1)] (by rw [qp_r36.2]; rfl) ?_
  unfold fC_kindOf_11 at h
  refine qp_run_E qp_ok36 1 (c' := (1, [some (.ref 11), some (.int p1)], [.int p1], qp_mk I J)) (by with_unfolding_all rfl) hd1 trivial ?_
  refine qp_br_E qp_ok36 (f := p1 < 0) (ct := (22, [some (.ref 11), some (.int p1)], [], qp_mk I J)) (cf := (4, [some (.ref 11), some (.int p1)], [], qp_mk I J)) (by with_unfolding_all rfl) (fun h1 => ?_) (fun h1 => ?_)
  · replace h := qp_ift h1 h
    refine qp_run_E qp_ok36 1 (c' := (23, [some (.ref 11), some (.int p1)], [.int 0], qp_mk I J)) (by with_unfolding_all rfl) hd1 trivial ?_
    obtain ⟨rfl, rfl, rfl⟩ := qp_some3 h
    exact qp_retI_E qp_ok36 rfl qp_r36.1 ⟨rfl, rfl⟩ ⟨rfl, rfl⟩
  · replace h := qp_iff h1 h
    refine qp_run_E qp_ok36 4 (c' := (10, [some (.ref 11), some (.int p1)], [.int 6, .int p1], qp_mk I J)) (by with_unfolding_all rfl) hd1 trivial ?_
    refine qp_br_E qp_ok36 (f := 6 ≤ p1) (ct := (22, [some (.ref 11), some (.int p1)], [], qp_mk I J)) (cf := (13, [some (.ref 11), some (.int p1)], [], qp_mk I J)) (by with_unfolding_all rfl) (fun h2 => ?_) (fun h2 => ?_)
    · replace h := qp_ift h2 h
      refine qp_run_E qp_ok36 1 (c' := (23, [some (.ref 11), some (.int p1)], [.int 0], qp_mk I J)) (by with_unfolding_all rfl) hd1 trivial ?_
      obtain ⟨rfl, rfl, rfl⟩ := qp_some3 h
      exact qp_retI_E qp_ok36 rfl qp_r36.1 ⟨rfl, rfl⟩ ⟨rfl, rfl⟩
    · replace h := qp_iff h2 h
      obtain ⟨h3, h⟩ := qp_gd_s h
      refine qp_run_E qp_ok36 5 (f := vp_in p1 6 ∧ True) (c' := (23, [some (.ref 11), some (.int p1)], [.int (I 12 (Int32.toNatClampNeg p1))], qp_mk I J)) (by with_unfolding_all rfl) hd1 ⟨(qp_vin (c := 6) (by decide) h3.1 h3.2), trivial⟩ ?_
      obtain ⟨rfl, rfl, rfl⟩ := qp_some3 h
      exact qp_retI_E qp_ok36 rfl qp_r36.1 ⟨rfl, rfl⟩ ⟨rfl, rfl⟩

/-! methods as functions: 16.f 4 -/
def fV_wantOfAll_b4  : Nat → Int32 → Int32 → Int32 → (Nat → Nat → Int32) → (Nat → Nat → Int64) → Option (Int32 × (Nat → Nat → Int32) × (Nat → Nat → Int64))
  | 0, _, _, _, _, _ => none
  | n + 1, a1, a2, a3, I, J =>
    if (I 15 0) ≤ a3 then (
      some (a2, I, J)
    ) else (
      if ¬ ((a1 >>> (a3 &&& 31)) &&& 1) = 1 then (
        fV_wantOfAll_b4 n a1 a2 (a3 + 1) I J
      ) else (
        qp_bd (fV_wantOf a3 I J) fun v1 I1 J1 =>
        fV_wantOfAll_b4 n a1 (a2 + v1) (a3 + 1) I1 J1
      )
    )
set_option maxRecDepth 8000 in
theorem gV_wantOfAll_b4 {l : Launch} {G : qp_G} {d : Nat} (hd : 2 ≤ d) {r : (Int32 × (Nat → Nat → Int32) × (Nat → Nat → Int64))} {I0 : Nat → Nat → Int32} {J0 : Nat → Nat → Int64}   : ∀ (n : Nat) (a1 : Int32) (a2 : Int32) (a3 : Int32) (I : Nat → Nat → Int32) (J : Nat → Nat → Int64), fV_wantOfAll_b4  n a1 a2 a3 I J = some r → qp_E l G d 100 (qp_mk I0 J0) 0 0 (qp_R8 (some (.int r.1)) r.2.1 r.2.2) (4, [some (.ref 18), some (.int a1), some (.int a2), some (.int a3)], [], qp_mk I J) := by
  have hd1 : Nat.ble 1 d = true := Nat.ble_eq_true_of_le (Nat.le_trans (by decide) hd)
  intro n
  induction n with
  | zero => intro a1 a2 a3 I J h; exact absurd h (by simp [fV_wantOfAll_b4])
  | succ n ih =>
    intro a1 a2 a3 I J h
    rw [fV_wantOfAll_b4] at h
    refine qp_run_E qp_ok100 4 (c' := (12, [some (.ref 18), some (.int a1), some (.int a2), some (.int a3)], [.int (I 15 0), .int a3], qp_mk I J)) (by with_unfolding_all rfl) hd1 trivial ?_
    refine qp_br_E qp_ok100 (f := (I 15 0) ≤ a3) (ct := (38, [some (.ref 18), some (.int a1), some (.int a2), some (.int a3)], [], qp_mk I J)) (cf := (15, [some (.ref 18), some (.int a1), some (.int a2), some (.int a3)], [], qp_mk I J)) (by with_unfolding_all rfl) (fun h1 => ?_) (fun h1 => ?_)
    · replace h := qp_ift h1 h
      refine qp_run_E qp_ok100 1 (c' := (39, [some (.ref 18), some (.int a1), some (.int a2), some (.int a3)], [.int a2], qp_mk I J)) (by with_unfolding_all rfl) hd1 trivial ?_
      obtain rfl := Option.some.inj h
      exact qp_retI_E qp_ok100 rfl qp_r100.1 ⟨rfl, rfl⟩ ⟨rfl, rfl⟩
    · replace h := qp_iff h1 h
      refine qp_run_E qp_ok100 6 (c' := (21, [some (.ref 18), some (.int a1), some (.int a2), some (.int a3)], [.int 1, .int ((a1 >>> (a3 &&& 31)) &&& 1)], qp_mk I J)) (by with_unfolding_all rfl) hd1 trivial ?_
      refine qp_br_E qp_ok100 (f := ¬ ((a1 >>> (a3 &&& 31)) &&& 1) = 1) (ct := (32, [some (.ref 18), some (.int a1), some (.int a2), some (.int a3)], [], qp_mk I J)) (cf := (24, [some (.ref 18), some (.int a1), some (.int a2), some (.int a3)], [], qp_mk I J)) (by with_unfolding_all rfl) (fun h2 => ?_) (fun h2 => ?_)
      · replace h := qp_ift h2 h
        refine qp_run_E qp_ok100 2 (c' := (4, [some (.ref 18), some (.int a1), some (.int a2), some (.int (a3 + 1))], [], qp_mk I J)) (by with_unfolding_all rfl) hd1 trivial ?_
        exact ih a1 a2 (a3 + 1) I J h
      · replace h := qp_iff h2 h
        refine qp_run_E qp_ok100 3 (c' := (27, [some (.ref 18), some (.int a1), some (.int a2), some (.int a3)], [.int a3, .ref 18, .int a2], qp_mk I J)) (by with_unfolding_all rfl) hd1 trivial ?_
        obtain ⟨v1, I1, J1, e1, h⟩ := qp_bd_s h
        refine qp_cV qp_ok100 (rest := [.int a2]) (oj := 5) qp_f83 rfl rfl (gV_wantOf l G a3 I J e1 (Nat.le_refl 1)) rfl rfl rfl rfl (Nat.le_trans (by decide) hd) ?_
        refine qp_run_E qp_ok100 4 (c' := (4, [some (.ref 18), some (.int a1), some (.int (a2 + v1)), some (.int (a3 + 1))], [], qp_mk I1 J1)) (by with_unfolding_all rfl) hd1 trivial ?_
        exact ih a1 (a2 + v1) (a3 + 1) I1 J1 h
def fV_wantOfAll (p1 : Int32) (I : Nat → Nat → Int32) (J : Nat → Nat → Int64) : Option (Int32 × (Nat → Nat → Int32) × (Nat → Nat → Int64)) :=
  fV_wantOfAll_b4 100000 p1 0 0 I J
set_option maxRecDepth 8000 in
theorem gV_wantOfAll (l : Launch) (G : qp_G) (p1 : Int32) (I : Nat → Nat → Int32) (J : Nat → Nat → Int64) {v : Int32} {I' : Nat → Nat → Int32} {J' : Nat → Nat → Int64} (h : fV_wantOfAll p1 I J = some (v, I', J')) {d : Nat} (hd : 2 ≤ d) : qp_Met l G d 100 [.ref 18, .int p1] (qp_mk I J) 0 0 (qp_R8 (some (.int v)) I' J') := by
  have hd1 : Nat.ble 1 d = true := Nat.ble_eq_true_of_le (Nat.le_trans (by decide) hd)
  refine qp_Met_of (by decide) (by rw [qp_r100.2]; rfl) [some (.ref 18), some (.int p1), none, none] (by rw [qp_r100.2]; rfl) ?_
  unfold fV_wantOfAll at h
  refine qp_run_E qp_ok100 4 (c' := (4, [some (.ref 18), some (.int p1), some (.int 0), some (.int 0)], [], qp_mk I J)) (by with_unfolding_all rfl) hd1 trivial ?_
  exact gV_wantOfAll_b4 hd 100000 p1 0 0 I J h
def fX_sets_b50  : Nat → Int32 → Int32 → Int32 → Int32 → (Nat → Nat → Int32) → (Nat → Nat → Int64) → Option (Int32 × (Nat → Nat → Int32) × (Nat → Nat → Int64))
  | 0, _, _, _, _, _, _ => none
  | n + 1, a1, a2, a3, a4, I, J =>
    if ((1 : Int32) <<< ((I 15 0) &&& 31)) ≤ a4 then (
      qp_bd (fX_tell a2 I J) fun v1 I1 J1 =>
      qp_bd (fX_tellRatio (Int32.toInt64 a3) 1 I1 J1) fun v2 I2 J2 =>
      some (v2, I2, J2)
    ) else (
      qp_bd (fV_wantOfAll a4 I J) fun v3 I3 J3 =>
      if ¬ v3 = a1 then (
        fX_sets_b50 n a1 a2 a3 (a4 + 1) I3 J3
      ) else (
        if ¬ a3 = 0 then (
          fX_sets_b50 n a1 a2 (a3 + 1) (a4 + 1) I3 J3
        ) else (
          fX_sets_b50 n a1 a4 (a3 + 1) (a4 + 1) I3 J3
        )
      )
    )
set_option maxRecDepth 8000 in
theorem gX_sets_b50 {l : Launch} {G : qp_G} {d : Nat} (hd : 5 ≤ d) {r : (Int32 × (Nat → Nat → Int32) × (Nat → Nat → Int64))} {I0 : Nat → Nat → Int32} {J0 : Nat → Nat → Int64}   : ∀ (n : Nat) (a1 : Int32) (a2 : Int32) (a3 : Int32) (a4 : Int32) (I : Nat → Nat → Int32) (J : Nat → Nat → Int64), fX_sets_b50  n a1 a2 a3 a4 I J = some r → qp_E l G d 99 (qp_mk I0 J0) 0 0 (qp_R8 (some (.int r.1)) r.2.1 r.2.2) (50, [some (.ref 0), some (.int a1), some (.int a2), some (.int a3), some (.int a4)], [], qp_mk I J) := by
  have hd1 : Nat.ble 1 d = true := Nat.ble_eq_true_of_le (Nat.le_trans (by decide) hd)
  intro n
  induction n with
  | zero => intro a1 a2 a3 a4 I J h; exact absurd h (by simp [fX_sets_b50])
  | succ n ih =>
    intro a1 a2 a3 a4 I J h
    rw [fX_sets_b50] at h
    refine qp_run_E qp_ok99 7 (c' := (64, [some (.ref 0), some (.int a1), some (.int a2), some (.int a3), some (.int a4)], [.int ((1 : Int32) <<< ((I 15 0) &&& 31)), .int a4], qp_mk I J)) (by with_unfolding_all rfl) hd1 trivial ?_
    refine qp_br_E qp_ok99 (f := ((1 : Int32) <<< ((I 15 0) &&& 31)) ≤ a4) (ct := (103, [some (.ref 0), some (.int a1), some (.int a2), some (.int a3), some (.int a4)], [], qp_mk I J)) (cf := (67, [some (.ref 0), some (.int a1), some (.int a2), some (.int a3), some (.int a4)], [], qp_mk I J)) (by with_unfolding_all rfl) (fun h1 => ?_) (fun h1 => ?_)
    · replace h := qp_ift h1 h
      refine qp_run_E qp_ok99 2 (c' := (105, [some (.ref 0), some (.int a1), some (.int a2), some (.int a3), some (.int a4)], [.int a2, .ref 0], qp_mk I J)) (by with_unfolding_all rfl) hd1 trivial ?_
      obtain ⟨v1, I1, J1, e1, h⟩ := qp_bd_s h
      refine qp_cV qp_ok99 (rest := []) (oj := 0) qp_f24 rfl rfl (gX_tell l G a2 I J e1 (Nat.le_refl 1)) rfl rfl rfl rfl (Nat.le_trans (by decide) hd) ?_
      refine qp_run_E qp_ok99 5 (c' := (113, [some (.ref 0), some (.int a1), some (.int a2), some (.int a3), some (.int a4)], [.long 1, .long (Int32.toInt64 a3), .ref 0], qp_mk I1 J1)) (by with_unfolding_all rfl) hd1 trivial ?_
      obtain ⟨v2, I2, J2, e2, h⟩ := qp_bd_s h
      refine qp_cV qp_ok99 (rest := []) (oj := 0) qp_f93 rfl rfl (gX_tellRatio l G (Int32.toInt64 a3) 1 I1 J1 e2 (Nat.le_refl 2)) rfl rfl rfl rfl (Nat.le_trans (by decide) hd) ?_
      obtain rfl := Option.some.inj h
      exact qp_retI_E qp_ok99 rfl qp_r99.1 ⟨rfl, rfl⟩ ⟨rfl, rfl⟩
    · replace h := qp_iff h1 h
      refine qp_run_E qp_ok99 4 (c' := (76, [some (.ref 0), some (.int a1), some (.int a2), some (.int a3), some (.int a4)], [.int a4, .ref 18], qp_mk I J)) (by with_unfolding_all rfl) hd1 trivial ?_
      obtain ⟨v3, I3, J3, e3, h⟩ := qp_bd_s h
      refine qp_cV qp_ok99 (rest := []) (oj := 5) qp_f100 rfl rfl (gV_wantOfAll l G a4 I J e3 (Nat.le_refl 2)) rfl rfl rfl rfl (Nat.le_trans (by decide) hd) ?_
      refine qp_run_E qp_ok99 1 (c' := (80, [some (.ref 0), some (.int a1), some (.int a2), some (.int a3), some (.int a4)], [.int a1, .int v3], qp_mk I3 J3)) (by with_unfolding_all rfl) hd1 trivial ?_
      refine qp_br_E qp_ok99 (f := ¬ v3 = a1) (ct := (97, [some (.ref 0), some (.int a1), some (.int a2), some (.int a3), some (.int a4)], [], qp_mk I3 J3)) (cf := (83, [some (.ref 0), some (.int a1), some (.int a2), some (.int a3), some (.int a4)], [], qp_mk I3 J3)) (by with_unfolding_all rfl) (fun h2 => ?_) (fun h2 => ?_)
      · replace h := qp_ift h2 h
        refine qp_run_E qp_ok99 2 (c' := (50, [some (.ref 0), some (.int a1), some (.int a2), some (.int a3), some (.int (a4 + 1))], [], qp_mk I3 J3)) (by with_unfolding_all rfl) hd1 trivial ?_
        exact ih a1 a2 a3 (a4 + 1) I3 J3 h
      · replace h := qp_iff h2 h
        refine qp_run_E qp_ok99 1 (c' := (84, [some (.ref 0), some (.int a1), some (.int a2), some (.int a3), some (.int a4)], [.int a3], qp_mk I3 J3)) (by with_unfolding_all rfl) hd1 trivial ?_
        refine qp_br_E qp_ok99 (f := ¬ a3 = 0) (ct := (92, [some (.ref 0), some (.int a1), some (.int a2), some (.int a3), some (.int a4)], [], qp_mk I3 J3)) (cf := (87, [some (.ref 0), some (.int a1), some (.int a2), some (.int a3), some (.int a4)], [], qp_mk I3 J3)) (by with_unfolding_all rfl) (fun h3 => ?_) (fun h3 => ?_)
        · replace h := qp_ift h3 h
          refine qp_run_E qp_ok99 5 (c' := (50, [some (.ref 0), some (.int a1), some (.int a2), some (.int (a3 + 1)), some (.int (a4 + 1))], [], qp_mk I3 J3)) (by with_unfolding_all rfl) hd1 trivial ?_
          exact ih a1 a2 (a3 + 1) (a4 + 1) I3 J3 h
        · replace h := qp_iff h3 h
          refine qp_run_E qp_ok99 6 (c' := (50, [some (.ref 0), some (.int a1), some (.int a4), some (.int (a3 + 1)), some (.int (a4 + 1))], [], qp_mk I3 J3)) (by with_unfolding_all rfl) hd1 trivial ?_
          exact ih a1 a4 (a3 + 1) (a4 + 1) I3 J3 h
def fX_sets (p1 : Int32) (I : Nat → Nat → Int32) (J : Nat → Nat → Int64) : Option (Int32 × (Nat → Nat → Int32) × (Nat → Nat → Int64)) :=
  if p1 < 0 then (
    some ((-1), I, J)
  ) else (
    if p1 ≤ 20 then (
      if ¬ (I 15 0) = 0 then (
        qp_bd (fL_serve (I 14 2) I J) fun _u I1 J1 =>
        fX_sets_b50 100000 p1 (-9) 0 0 I1 J1
      ) else (
        some ((-4), I, J)
      )
    ) else (
      some ((-1), I, J)
    )
  )
set_option maxRecDepth 8000 in
theorem gX_sets (l : Launch) (G : qp_G) (p1 : Int32) (I : Nat → Nat → Int32) (J : Nat → Nat → Int64) {v : Int32} {I' : Nat → Nat → Int32} {J' : Nat → Nat → Int64} (h : fX_sets p1 I J = some (v, I', J')) {d : Nat} (hd : 5 ≤ d) : qp_Met l G d 99 [.ref 0, .int p1] (qp_mk I J) 0 0 (qp_R8 (some (.int v)) I' J') := by
  have hd1 : Nat.ble 1 d = true := Nat.ble_eq_true_of_le (Nat.le_trans (by decide) hd)
  refine qp_Met_of (by decide) (by rw [qp_r99.2]; rfl) [some (.ref 0), some (.int p1), none, none, none] (by rw [qp_r99.2]; rfl) ?_
  unfold fX_sets at h
  refine qp_run_E qp_ok99 1 (c' := (1, [some (.ref 0), some (.int p1), none, none, none], [.int p1], qp_mk I J)) (by with_unfolding_all rfl) hd1 trivial ?_
  refine qp_br_E qp_ok99 (f := p1 < 0) (ct := (10, [some (.ref 0), some (.int p1), none, none, none], [], qp_mk I J)) (cf := (4, [some (.ref 0), some (.int p1), none, none, none], [], qp_mk I J)) (by with_unfolding_all rfl) (fun h1 => ?_) (fun h1 => ?_)
  · replace h := qp_ift h1 h
    refine qp_run_E qp_ok99 1 (c' := (11, [some (.ref 0), some (.int p1), none, none, none], [.int (-1)], qp_mk I J)) (by with_unfolding_all rfl) hd1 trivial ?_
    obtain ⟨rfl, rfl, rfl⟩ := qp_some3 h
    exact qp_retI_E qp_ok99 rfl qp_r99.1 ⟨rfl, rfl⟩ ⟨rfl, rfl⟩
  · replace h := qp_iff h1 h
    refine qp_run_E qp_ok99 2 (c' := (7, [some (.ref 0), some (.int p1), none, none, none], [.int 20, .int p1], qp_mk I J)) (by with_unfolding_all rfl) hd1 trivial ?_
    refine qp_br_E qp_ok99 (f := p1 ≤ 20) (ct := (12, [some (.ref 0), some (.int p1), none, none, none], [], qp_mk I J)) (cf := (10, [some (.ref 0), some (.int p1), none, none, none], [], qp_mk I J)) (by with_unfolding_all rfl) (fun h2 => ?_) (fun h2 => ?_)
    · replace h := qp_ift h2 h
      refine qp_run_E qp_ok99 4 (c' := (22, [some (.ref 0), some (.int p1), none, none, none], [.int (I 15 0)], qp_mk I J)) (by with_unfolding_all rfl) hd1 trivial ?_
      refine qp_br_E qp_ok99 (f := ¬ (I 15 0) = 0) (ct := (28, [some (.ref 0), some (.int p1), none, none, none], [], qp_mk I J)) (cf := (25, [some (.ref 0), some (.int p1), none, none, none], [], qp_mk I J)) (by with_unfolding_all rfl) (fun h3 => ?_) (fun h3 => ?_)
      · replace h := qp_ift h3 h
        refine qp_run_E qp_ok99 5 (c' := (39, [some (.ref 0), some (.int p1), none, none, none], [.int (I 14 2), .ref 14], qp_mk I J)) (by with_unfolding_all rfl) hd1 trivial ?_
        obtain ⟨v1, I1, J1, e1, h⟩ := qp_bd_s h
        refine qp_cV qp_ok99 (rest := []) (oj := 4) qp_f67 rfl rfl (gL_serve l G (I 14 2) I J e1 (Nat.le_refl 4)) rfl rfl rfl rfl (Nat.le_trans (by decide) hd) ?_
        refine qp_run_E qp_ok99 6 (c' := (50, [some (.ref 0), some (.int p1), some (.int (-9)), some (.int 0), some (.int 0)], [], qp_mk I1 J1)) (by with_unfolding_all rfl) hd1 trivial ?_
        exact gX_sets_b50 hd 100000 p1 (-9) 0 0 I1 J1 h
      · replace h := qp_iff h3 h
        refine qp_run_E qp_ok99 1 (c' := (27, [some (.ref 0), some (.int p1), none, none, none], [.int (-4)], qp_mk I J)) (by with_unfolding_all rfl) hd1 trivial ?_
        obtain ⟨rfl, rfl, rfl⟩ := qp_some3 h
        exact qp_retI_E qp_ok99 rfl qp_r99.1 ⟨rfl, rfl⟩ ⟨rfl, rfl⟩
    · replace h := qp_iff h2 h
      refine qp_run_E qp_ok99 1 (c' := (11, [some (.ref 0), some (.int p1), none, none, none], [.int (-1)], qp_mk I J)) (by with_unfolding_all rfl) hd1 trivial ?_
      obtain ⟨rfl, rfl, rfl⟩ := qp_some3 h
      exact qp_retI_E qp_ok99 rfl qp_r99.1 ⟨rfl, rfl⟩ ⟨rfl, rfl⟩
def fX_sure_b68  : Nat → Int32 → Int32 → Int32 → Int32 → Int32 → Int32 → (Nat → Nat → Int32) → (Nat → Nat → Int64) → Option (Int32 × (Nat → Nat → Int32) × (Nat → Nat → Int64))
  | 0, _, _, _, _, _, _, _, _ => none
  | n + 1, a1, a2, a3, a4, a5, a6, I, J =>
    if a2 < a6 then (
      if ¬ a3 = 0 then (
        qp_bd (fX_tell (a2 &&& (a5 ^^^ (-1))) I J) fun v1 I1 J1 =>
        some (a4, I1, J1)
      ) else (
        qp_bd (fX_found 4 I J) fun v2 I2 J2 =>
        some (v2, I2, J2)
      )
    ) else (
      qp_bd (fV_wantOfAll a6 I J) fun v3 I3 J3 =>
      if ¬ v3 = a1 then (
        fX_sure_b68 n a1 a2 a3 a4 a5 (a6 + 1) I3 J3
      ) else (
        fX_sure_b68 n a1 a2 (a3 + 1) (a4 &&& a6) (a5 ||| a6) (a6 + 1) I3 J3
      )
    )
set_option maxRecDepth 8000 in
theorem gX_sure_b68 {l : Launch} {G : qp_G} {d : Nat} (hd : 5 ≤ d) {r : (Int32 × (Nat → Nat → Int32) × (Nat → Nat → Int64))} {I0 : Nat → Nat → Int32} {J0 : Nat → Nat → Int64}   : ∀ (n : Nat) (a1 : Int32) (a2 : Int32) (a3 : Int32) (a4 : Int32) (a5 : Int32) (a6 : Int32) (I : Nat → Nat → Int32) (J : Nat → Nat → Int64), fX_sure_b68  n a1 a2 a3 a4 a5 a6 I J = some r → qp_E l G d 101 (qp_mk I0 J0) 0 0 (qp_R8 (some (.int r.1)) r.2.1 r.2.2) (68, [some (.ref 0), some (.int a1), some (.int a2), some (.int a3), some (.int a4), some (.int a5), some (.int a6)], [], qp_mk I J) := by
  have hd1 : Nat.ble 1 d = true := Nat.ble_eq_true_of_le (Nat.le_trans (by decide) hd)
  intro n
  induction n with
  | zero => intro a1 a2 a3 a4 a5 a6 I J h; exact absurd h (by simp [fX_sure_b68])
  | succ n ih =>
    intro a1 a2 a3 a4 a5 a6 I J h
    rw [fX_sure_b68] at h
    refine qp_run_E qp_ok101 2 (c' := (71, [some (.ref 0), some (.int a1), some (.int a2), some (.int a3), some (.int a4), some (.int a5), some (.int a6)], [.int a2, .int a6], qp_mk I J)) (by with_unfolding_all rfl) hd1 trivial ?_
    refine qp_br_E qp_ok101 (f := a2 < a6) (ct := (113, [some (.ref 0), some (.int a1), some (.int a2), some (.int a3), some (.int a4), some (.int a5), some (.int a6)], [], qp_mk I J)) (cf := (74, [some (.ref 0), some (.int a1), some (.int a2), some (.int a3), some (.int a4), some (.int a5), some (.int a6)], [], qp_mk I J)) (by with_unfolding_all rfl) (fun h1 => ?_) (fun h1 => ?_)
    · replace h := qp_ift h1 h
      refine qp_run_E qp_ok101 1 (c' := (114, [some (.ref 0), some (.int a1), some (.int a2), some (.int a3), some (.int a4), some (.int a5), some (.int a6)], [.int a3], qp_mk I J)) (by with_unfolding_all rfl) hd1 trivial ?_
      refine qp_br_E qp_ok101 (f := ¬ a3 = 0) (ct := (123, [some (.ref 0), some (.int a1), some (.int a2), some (.int a3), some (.int a4), some (.int a5), some (.int a6)], [], qp_mk I J)) (cf := (117, [some (.ref 0), some (.int a1), some (.int a2), some (.int a3), some (.int a4), some (.int a5), some (.int a6)], [], qp_mk I J)) (by with_unfolding_all rfl) (fun h2 => ?_) (fun h2 => ?_)
      · replace h := qp_ift h2 h
        refine qp_run_E qp_ok101 6 (c' := (130, [some (.ref 0), some (.int a1), some (.int a2), some (.int a3), some (.int a4), some (.int a5), some (.int a6)], [.int (a2 &&& (a5 ^^^ (-1))), .ref 0], qp_mk I J)) (by with_unfolding_all rfl) hd1 trivial ?_
        obtain ⟨v1, I1, J1, e1, h⟩ := qp_bd_s h
        refine qp_cV qp_ok101 (rest := []) (oj := 0) qp_f24 rfl rfl (gX_tell l G (a2 &&& (a5 ^^^ (-1))) I J e1 (Nat.le_refl 1)) rfl rfl rfl rfl (Nat.le_trans (by decide) hd) ?_
        refine qp_run_E qp_ok101 2 (c' := (136, [some (.ref 0), some (.int a1), some (.int a2), some (.int a3), some (.int a4), some (.int a5), some (.int a6)], [.int a4], qp_mk I1 J1)) (by with_unfolding_all rfl) hd1 trivial ?_
        obtain rfl := Option.some.inj h
        exact qp_retI_E qp_ok101 rfl qp_r101.1 ⟨rfl, rfl⟩ ⟨rfl, rfl⟩
      · replace h := qp_iff h2 h
        refine qp_run_E qp_ok101 2 (c' := (119, [some (.ref 0), some (.int a1), some (.int a2), some (.int a3), some (.int a4), some (.int a5), some (.int a6)], [.int 4, .ref 0], qp_mk I J)) (by with_unfolding_all rfl) hd1 trivial ?_
        obtain ⟨v2, I2, J2, e2, h⟩ := qp_bd_s h
        refine qp_cV qp_ok101 (rest := []) (oj := 0) qp_f14 rfl rfl (gX_found l G 4 I J e2 (Nat.le_refl 1)) rfl rfl rfl rfl (Nat.le_trans (by decide) hd) ?_
        obtain rfl := Option.some.inj h
        exact qp_retI_E qp_ok101 rfl qp_r101.1 ⟨rfl, rfl⟩ ⟨rfl, rfl⟩
    · replace h := qp_iff h1 h
      refine qp_run_E qp_ok101 4 (c' := (83, [some (.ref 0), some (.int a1), some (.int a2), some (.int a3), some (.int a4), some (.int a5), some (.int a6)], [.int a6, .ref 18], qp_mk I J)) (by with_unfolding_all rfl) hd1 trivial ?_
      obtain ⟨v3, I3, J3, e3, h⟩ := qp_bd_s h
      refine qp_cV qp_ok101 (rest := []) (oj := 5) qp_f100 rfl rfl (gV_wantOfAll l G a6 I J e3 (Nat.le_refl 2)) rfl rfl rfl rfl (Nat.le_trans (by decide) hd) ?_
      refine qp_run_E qp_ok101 1 (c' := (87, [some (.ref 0), some (.int a1), some (.int a2), some (.int a3), some (.int a4), some (.int a5), some (.int a6)], [.int a1, .int v3], qp_mk I3 J3)) (by with_unfolding_all rfl) hd1 trivial ?_
      refine qp_br_E qp_ok101 (f := ¬ v3 = a1) (ct := (107, [some (.ref 0), some (.int a1), some (.int a2), some (.int a3), some (.int a4), some (.int a5), some (.int a6)], [], qp_mk I3 J3)) (cf := (90, [some (.ref 0), some (.int a1), some (.int a2), some (.int a3), some (.int a4), some (.int a5), some (.int a6)], [], qp_mk I3 J3)) (by with_unfolding_all rfl) (fun h3 => ?_) (fun h3 => ?_)
      · replace h := qp_ift h3 h
        refine qp_run_E qp_ok101 2 (c' := (68, [some (.ref 0), some (.int a1), some (.int a2), some (.int a3), some (.int a4), some (.int a5), some (.int (a6 + 1))], [], qp_mk I3 J3)) (by with_unfolding_all rfl) hd1 trivial ?_
        exact ih a1 a2 a3 a4 a5 (a6 + 1) I3 J3 h
      · replace h := qp_iff h3 h
        refine qp_run_E qp_ok101 11 (c' := (68, [some (.ref 0), some (.int a1), some (.int a2), some (.int (a3 + 1)), some (.int (a4 &&& a6)), some (.int (a5 ||| a6)), some (.int (a6 + 1))], [], qp_mk I3 J3)) (by with_unfolding_all rfl) hd1 trivial ?_
        exact ih a1 a2 (a3 + 1) (a4 &&& a6) (a5 ||| a6) (a6 + 1) I3 J3 h
def fX_sure (p1 : Int32) (I : Nat → Nat → Int32) (J : Nat → Nat → Int64) : Option (Int32 × (Nat → Nat → Int32) × (Nat → Nat → Int64)) :=
  if p1 < 0 then (
    some ((-1), I, J)
  ) else (
    if p1 ≤ 20 then (
      if ¬ (I 15 0) = 0 then (
        qp_bd (fL_serve (I 14 2) I J) fun _u I1 J1 =>
        fX_sure_b68 100000 p1 (((1 : Int32) <<< ((I1 15 0) &&& 31)) - 1) 0 (((1 : Int32) <<< ((I1 15 0) &&& 31)) - 1) 0 0 I1 J1
      ) else (
        some ((-4), I, J)
      )
    ) else (
      some ((-1), I, J)
    )
  )
set_option maxRecDepth 8000 in
theorem gX_sure (l : Launch) (G : qp_G) (p1 : Int32) (I : Nat → Nat → Int32) (J : Nat → Nat → Int64) {v : Int32} {I' : Nat → Nat → Int32} {J' : Nat → Nat → Int64} (h : fX_sure p1 I J = some (v, I', J')) {d : Nat} (hd : 5 ≤ d) : qp_Met l G d 101 [.ref 0, .int p1] (qp_mk I J) 0 0 (qp_R8 (some (.int v)) I' J') := by
  have hd1 : Nat.ble 1 d = true := Nat.ble_eq_true_of_le (Nat.le_trans (by decide) hd)
  refine qp_Met_of (by decide) (by rw [qp_r101.2]; rfl) [some (.ref 0), some (.int p1), none, none, none, none, none] (by rw [qp_r101.2]; rfl) ?_
  unfold fX_sure at h
  refine qp_run_E qp_ok101 1 (c' := (1, [some (.ref 0), some (.int p1), none, none, none, none, none], [.int p1], qp_mk I J)) (by with_unfolding_all rfl) hd1 trivial ?_
  refine qp_br_E qp_ok101 (f := p1 < 0) (ct := (10, [some (.ref 0), some (.int p1), none, none, none, none, none], [], qp_mk I J)) (cf := (4, [some (.ref 0), some (.int p1), none, none, none, none, none], [], qp_mk I J)) (by with_unfolding_all rfl) (fun h1 => ?_) (fun h1 => ?_)
  · replace h := qp_ift h1 h
    refine qp_run_E qp_ok101 1 (c' := (11, [some (.ref 0), some (.int p1), none, none, none, none, none], [.int (-1)], qp_mk I J)) (by with_unfolding_all rfl) hd1 trivial ?_
    obtain ⟨rfl, rfl, rfl⟩ := qp_some3 h
    exact qp_retI_E qp_ok101 rfl qp_r101.1 ⟨rfl, rfl⟩ ⟨rfl, rfl⟩
  · replace h := qp_iff h1 h
    refine qp_run_E qp_ok101 2 (c' := (7, [some (.ref 0), some (.int p1), none, none, none, none, none], [.int 20, .int p1], qp_mk I J)) (by with_unfolding_all rfl) hd1 trivial ?_
    refine qp_br_E qp_ok101 (f := p1 ≤ 20) (ct := (12, [some (.ref 0), some (.int p1), none, none, none, none, none], [], qp_mk I J)) (cf := (10, [some (.ref 0), some (.int p1), none, none, none, none, none], [], qp_mk I J)) (by with_unfolding_all rfl) (fun h2 => ?_) (fun h2 => ?_)
    · replace h := qp_ift h2 h
      refine qp_run_E qp_ok101 4 (c' := (22, [some (.ref 0), some (.int p1), none, none, none, none, none], [.int (I 15 0)], qp_mk I J)) (by with_unfolding_all rfl) hd1 trivial ?_
      refine qp_br_E qp_ok101 (f := ¬ (I 15 0) = 0) (ct := (28, [some (.ref 0), some (.int p1), none, none, none, none, none], [], qp_mk I J)) (cf := (25, [some (.ref 0), some (.int p1), none, none, none, none, none], [], qp_mk I J)) (by with_unfolding_all rfl) (fun h3 => ?_) (fun h3 => ?_)
      · replace h := qp_ift h3 h
        refine qp_run_E qp_ok101 5 (c' := (39, [some (.ref 0), some (.int p1), none, none, none, none, none], [.int (I 14 2), .ref 14], qp_mk I J)) (by with_unfolding_all rfl) hd1 trivial ?_
        obtain ⟨v1, I1, J1, e1, h⟩ := qp_bd_s h
        refine qp_cV qp_ok101 (rest := []) (oj := 4) qp_f67 rfl rfl (gL_serve l G (I 14 2) I J e1 (Nat.le_refl 4)) rfl rfl rfl rfl (Nat.le_trans (by decide) hd) ?_
        refine qp_run_E qp_ok101 17 (c' := (68, [some (.ref 0), some (.int p1), some (.int (((1 : Int32) <<< ((I1 15 0) &&& 31)) - 1)), some (.int 0), some (.int (((1 : Int32) <<< ((I1 15 0) &&& 31)) - 1)), some (.int 0), some (.int 0)], [], qp_mk I1 J1)) (by with_unfolding_all rfl) hd1 trivial ?_
        exact gX_sure_b68 hd 100000 p1 (((1 : Int32) <<< ((I1 15 0) &&& 31)) - 1) 0 (((1 : Int32) <<< ((I1 15 0) &&& 31)) - 1) 0 0 I1 J1 h
      · replace h := qp_iff h3 h
        refine qp_run_E qp_ok101 1 (c' := (27, [some (.ref 0), some (.int p1), none, none, none, none, none], [.int (-4)], qp_mk I J)) (by with_unfolding_all rfl) hd1 trivial ?_
        obtain ⟨rfl, rfl, rfl⟩ := qp_some3 h
        exact qp_retI_E qp_ok101 rfl qp_r101.1 ⟨rfl, rfl⟩ ⟨rfl, rfl⟩
    · replace h := qp_iff h2 h
      refine qp_run_E qp_ok101 1 (c' := (11, [some (.ref 0), some (.int p1), none, none, none, none, none], [.int (-1)], qp_mk I J)) (by with_unfolding_all rfl) hd1 trivial ?_
      obtain ⟨rfl, rfl, rfl⟩ := qp_some3 h
      exact qp_retI_E qp_ok101 rfl qp_r101.1 ⟨rfl, rfl⟩ ⟨rfl, rfl⟩
def fT_leadBy (p1 : Int32) (I : Nat → Nat → Int32) (J : Nat → Nat → Int64) : Option (Int32 × (Nat → Nat → Int32) × (Nat → Nat → Int64)) :=
  qp_bd (fL_serve p1 I J) fun _u I1 J1 =>
  qp_bd (fV_gainOf (I1 33 1) I1 J1) fun v2 I2 J2 =>
  qp_bd (fV_gainOf (I2 33 2) I2 J2) fun v3 I3 J3 =>
  some ((v2 - v3), I3, J3)
set_option maxRecDepth 8000 in
theorem gT_leadBy (l : Launch) (G : qp_G) (p1 : Int32) (I : Nat → Nat → Int32) (J : Nat → Nat → Int64) {v : Int32} {I' : Nat → Nat → Int32} {J' : Nat → Nat → Int64} (h : fT_leadBy p1 I J = some (v, I', J')) {d : Nat} (hd : 5 ≤ d) : qp_Met l G d 105 [.ref 33, .int p1] (qp_mk I J) 0 0 (qp_R8 (some (.int v)) I' J') := by
  have hd1 : Nat.ble 1 d = true := Nat.ble_eq_true_of_le (Nat.le_trans (by decide) hd)
  refine qp_Met_of (by decide) (by rw [qp_r105.2]; rfl) [some (.ref 33), some (.int p1)] (by rw [qp_r105.2]; rfl) ?_
  unfold fT_leadBy at h
  refine qp_run_E qp_ok105 3 (c' := (5, [some (.ref 33), some (.int p1)], [.int p1, .ref 14], qp_mk I J)) (by with_unfolding_all rfl) hd1 trivial ?_
  obtain ⟨v1, I1, J1, e1, h⟩ := qp_bd_s h
  refine qp_cV qp_ok105 (rest := []) (oj := 4) qp_f67 rfl rfl (gL_serve l G p1 I J e1 (Nat.le_refl 4)) rfl rfl rfl rfl (Nat.le_trans (by decide) hd) ?_
  refine qp_run_E qp_ok105 5 (c' := (19, [some (.ref 33), some (.int p1)], [.int (I1 33 1), .ref 18], qp_mk I1 J1)) (by with_unfolding_all rfl) hd1 trivial ?_
  obtain ⟨v2, I2, J2, e2, h⟩ := qp_bd_s h
  refine qp_cV qp_ok105 (rest := []) (oj := 5) qp_f72 rfl rfl (gV_gainOf l G (I1 33 1) I1 J1 e2 (Nat.le_refl 1)) rfl rfl rfl rfl (Nat.le_trans (by decide) hd) ?_
  refine qp_run_E qp_ok105 5 (c' := (33, [some (.ref 33), some (.int p1)], [.int (I2 33 2), .ref 18, .int v2], qp_mk I2 J2)) (by with_unfolding_all rfl) hd1 trivial ?_
  obtain ⟨v3, I3, J3, e3, h⟩ := qp_bd_s h
  refine qp_cV qp_ok105 (rest := [.int v2]) (oj := 5) qp_f72 rfl rfl (gV_gainOf l G (I2 33 2) I2 J2 e3 (Nat.le_refl 1)) rfl rfl rfl rfl (Nat.le_trans (by decide) hd) ?_
  refine qp_run_E qp_ok105 1 (c' := (37, [some (.ref 33), some (.int p1)], [.int (v2 - v3)], qp_mk I3 J3)) (by with_unfolding_all rfl) hd1 trivial ?_
  obtain ⟨rfl, rfl, rfl⟩ := qp_some3 h
  exact qp_retI_E qp_ok105 rfl qp_r105.1 ⟨rfl, rfl⟩ ⟨rfl, rfl⟩
def fT_play_b57 (rec : Int32 → Int32 → (Nat → Nat → Int32) → (Nat → Nat → Int64) → Option (Int32 × (Nat → Nat → Int32) × (Nat → Nat → Int64))) : Nat → Int32 → Int32 → Int32 → Int32 → Int32 → Int32 → Int32 → (Nat → Nat → Int32) → (Nat → Nat → Int64) → Option (Int32 × (Nat → Nat → Int32) × (Nat → Nat → Int64))
  | 0, _, _, _, _, _, _, _, _, _ => none
  | n + 1, a1, a2, a3, a4, a5, a6, a7, I, J =>
    if a5 ≤ a7 then (
      some (a6, I, J)
    ) else (
      qp_bd (fD_by a1 a5 (((8 : Int32) * a4) + a7) I J) fun v1 I1 J1 =>
      qp_bd (rec v1 (a2 - 1) I1 J1) fun v2 I2 J2 =>
      if a7 = 0 then (
        fT_play_b57 rec n a1 a2 a3 a4 a5 v2 (a7 + 1) I2 J2
      ) else (
        if a3 = 0 then (
          if a6 ≤ v2 then (
            fT_play_b57 rec n a1 a2 a3 a4 a5 a6 (a7 + 1) I2 J2
          ) else (
            fT_play_b57 rec n a1 a2 a3 a4 a5 v2 (a7 + 1) I2 J2
          )
        ) else (
          if v2 ≤ a6 then (
            fT_play_b57 rec n a1 a2 a3 a4 a5 a6 (a7 + 1) I2 J2
          ) else (
            fT_play_b57 rec n a1 a2 a3 a4 a5 v2 (a7 + 1) I2 J2
          )
        )
      )
    )
set_option maxRecDepth 8000 in
theorem gT_play_b57 {l : Launch} {G : qp_G} {d : Nat} (hd : 6 ≤ d) {r : (Int32 × (Nat → Nat → Int32) × (Nat → Nat → Int64))} {I0 : Nat → Nat → Int32} {J0 : Nat → Nat → Int64} (rec : Int32 → Int32 → (Nat → Nat → Int32) → (Nat → Nat → Int64) → Option (Int32 × (Nat → Nat → Int32) × (Nat → Nat → Int64))) {d' : Nat} (hrec : ∀ p1 p2 I J {v I' J'}, rec p1 p2 I J = some (v, I', J') → qp_Met l G d' 104 [.ref 33, .int p1, .int p2] (qp_mk I J) 0 0 (qp_R8 (some (.int v)) I' J')) (hdr : d' + 1 ≤ d)  : ∀ (n : Nat) (a1 : Int32) (a2 : Int32) (a3 : Int32) (a4 : Int32) (a5 : Int32) (a6 : Int32) (a7 : Int32) (I : Nat → Nat → Int32) (J : Nat → Nat → Int64), fT_play_b57 rec n a1 a2 a3 a4 a5 a6 a7 I J = some r → qp_E l G d 104 (qp_mk I0 J0) 0 0 (qp_R8 (some (.int r.1)) r.2.1 r.2.2) (57, [some (.ref 33), some (.int a1), some (.int a2), some (.int a3), some (.int a4), some (.int a5), some (.int a6), some (.int a7), none], [], qp_mk I J) := by
  have hd1 : Nat.ble 1 d = true := Nat.ble_eq_true_of_le (Nat.le_trans (by decide) hd)
  intro n
  induction n with
  | zero => intro a1 a2 a3 a4 a5 a6 a7 I J h; exact absurd h (by simp [fT_play_b57])
  | succ n ih =>
    intro a1 a2 a3 a4 a5 a6 a7 I J h
    rw [fT_play_b57] at h
    refine qp_run_E qp_ok104 2 (c' := (61, [some (.ref 33), some (.int a1), some (.int a2), some (.int a3), some (.int a4), some (.int a5), some (.int a6), some (.int a7), none], [.int a5, .int a7], qp_mk I J)) (by with_unfolding_all rfl) hd1 trivial ?_
    refine qp_br_E qp_ok104 (f := a5 ≤ a7) (ct := (123, [some (.ref 33), some (.int a1), some (.int a2), some (.int a3), some (.int a4), some (.int a5), some (.int a6), some (.int a7), none], [], qp_mk I J)) (cf := (64, [some (.ref 33), some (.int a1), some (.int a2), some (.int a3), some (.int a4), some (.int a5), some (.int a6), some (.int a7), none], [], qp_mk I J)) (by with_unfolding_all rfl) (fun h1 => ?_) (fun h1 => ?_)
    · replace h := qp_ift h1 h
      refine qp_run_E qp_ok104 1 (c' := (125, [some (.ref 33), some (.int a1), some (.int a2), some (.int a3), some (.int a4), some (.int a5), some (.int a6), some (.int a7), none], [.int a6], qp_mk I J)) (by with_unfolding_all rfl) hd1 trivial ?_
      obtain rfl := Option.some.inj h
      exact qp_retI_E qp_ok104 rfl qp_r104.1 ⟨rfl, rfl⟩ ⟨rfl, rfl⟩
    · replace h := qp_iff h1 h
      refine qp_run_E qp_ok104 8 (c' := (76, [some (.ref 33), some (.int a1), some (.int a2), some (.int a3), some (.int a4), some (.int a5), some (.int a6), some (.int a7), none], [.int (((8 : Int32) * a4) + a7), .int a5, .int a1, .ref 33], qp_mk I J)) (by with_unfolding_all rfl) hd1 trivial ?_
      obtain ⟨v1, I1, J1, e1, h⟩ := qp_bd_s h
      refine qp_cS qp_ok104 (rest := [.ref 33]) (oj := 10) qp_f50 rfl rfl (gD_by l G a1 a5 (((8 : Int32) * a4) + a7) I J e1 (Nat.le_refl 3)) rfl rfl rfl (Nat.le_trans (by decide) hd) ?_
      refine qp_run_E qp_ok104 3 (c' := (82, [some (.ref 33), some (.int a1), some (.int a2), some (.int a3), some (.int a4), some (.int a5), some (.int a6), some (.int a7), none], [.int (a2 - 1), .int v1, .ref 33], qp_mk I1 J1)) (by with_unfolding_all rfl) hd1 trivial ?_
      obtain ⟨v2, I2, J2, e2, h⟩ := qp_bd_s h
      refine qp_cS qp_ok104 (rest := []) (oj := 8) qp_f104 rfl rfl (hrec v1 (a2 - 1) I1 J1 e2) rfl rfl rfl hdr ?_
      refine qp_run_E qp_ok104 2 (c' := (89, [some (.ref 33), some (.int a1), some (.int a2), some (.int a3), some (.int a4), some (.int a5), some (.int a6), some (.int a7), some (.int v2)], [.int a7], qp_mk I2 J2)) (by with_unfolding_all rfl) hd1 trivial ?_
      refine qp_br_E qp_ok104 (f := a7 = 0) (ct := (113, [some (.ref 33), some (.int a1), some (.int a2), some (.int a3), some (.int a4), some (.int a5), some (.int a6), some (.int a7), some (.int v2)], [], qp_mk I2 J2)) (cf := (92, [some (.ref 33), some (.int a1), some (.int a2), some (.int a3), some (.int a4), some (.int a5), some (.int a6), some (.int a7), some (.int v2)], [], qp_mk I2 J2)) (by with_unfolding_all rfl) (fun h2 => ?_) (fun h2 => ?_)
      · replace h := qp_ift h2 h
        refine qp_run_E qp_ok104 4 (c' := (57, [some (.ref 33), some (.int a1), some (.int a2), some (.int a3), some (.int a4), some (.int a5), some (.int v2), some (.int (a7 + 1)), some (.int v2)], [], qp_mk I2 J2)) (by with_unfolding_all rfl) hd1 trivial ?_
        exact qp_E_fg [true, true, true, true, true, true, true, true, false] (ih a1 a2 a3 a4 a5 v2 (a7 + 1) I2 J2 h)
      · replace h := qp_iff h2 h
        refine qp_run_E qp_ok104 1 (c' := (93, [some (.ref 33), some (.int a1), some (.int a2), some (.int a3), some (.int a4), some (.int a5), some (.int a6), some (.int a7), some (.int v2)], [.int a3], qp_mk I2 J2)) (by with_unfolding_all rfl) hd1 trivial ?_
        refine qp_br_E qp_ok104 (f := a3 = 0) (ct := (106, [some (.ref 33), some (.int a1), some (.int a2), some (.int a3), some (.int a4), some (.int a5), some (.int a6), some (.int a7), some (.int v2)], [], qp_mk I2 J2)) (cf := (96, [some (.ref 33), some (.int a1), some (.int a2), some (.int a3), some (.int a4), some (.int a5), some (.int a6), some (.int a7), some (.int v2)], [], qp_mk I2 J2)) (by with_unfolding_all rfl) (fun h3 => ?_) (fun h3 => ?_)
        · replace h := qp_ift h3 h
          refine qp_run_E qp_ok104 2 (c' := (110, [some (.ref 33), some (.int a1), some (.int a2), some (.int a3), some (.int a4), some (.int a5), some (.int a6), some (.int a7), some (.int v2)], [.int a6, .int v2], qp_mk I2 J2)) (by with_unfolding_all rfl) hd1 trivial ?_
          refine qp_br_E qp_ok104 (f := a6 ≤ v2) (ct := (117, [some (.ref 33), some (.int a1), some (.int a2), some (.int a3), some (.int a4), some (.int a5), some (.int a6), some (.int a7), some (.int v2)], [], qp_mk I2 J2)) (cf := (113, [some (.ref 33), some (.int a1), some (.int a2), some (.int a3), some (.int a4), some (.int a5), some (.int a6), some (.int a7), some (.int v2)], [], qp_mk I2 J2)) (by with_unfolding_all rfl) (fun h4 => ?_) (fun h4 => ?_)
          · replace h := qp_ift h4 h
            refine qp_run_E qp_ok104 2 (c' := (57, [some (.ref 33), some (.int a1), some (.int a2), some (.int a3), some (.int a4), some (.int a5), some (.int a6), some (.int (a7 + 1)), some (.int v2)], [], qp_mk I2 J2)) (by with_unfolding_all rfl) hd1 trivial ?_
            exact qp_E_fg [true, true, true, true, true, true, true, true, false] (ih a1 a2 a3 a4 a5 a6 (a7 + 1) I2 J2 h)
          · replace h := qp_iff h4 h
            refine qp_run_E qp_ok104 4 (c' := (57, [some (.ref 33), some (.int a1), some (.int a2), some (.int a3), some (.int a4), some (.int a5), some (.int v2), some (.int (a7 + 1)), some (.int v2)], [], qp_mk I2 J2)) (by with_unfolding_all rfl) hd1 trivial ?_
            exact qp_E_fg [true, true, true, true, true, true, true, true, false] (ih a1 a2 a3 a4 a5 v2 (a7 + 1) I2 J2 h)
        · replace h := qp_iff h3 h
          refine qp_run_E qp_ok104 2 (c' := (100, [some (.ref 33), some (.int a1), some (.int a2), some (.int a3), some (.int a4), some (.int a5), some (.int a6), some (.int a7), some (.int v2)], [.int a6, .int v2], qp_mk I2 J2)) (by with_unfolding_all rfl) hd1 trivial ?_
          refine qp_br_E qp_ok104 (f := v2 ≤ a6) (ct := (117, [some (.ref 33), some (.int a1), some (.int a2), some (.int a3), some (.int a4), some (.int a5), some (.int a6), some (.int a7), some (.int v2)], [], qp_mk I2 J2)) (cf := (103, [some (.ref 33), some (.int a1), some (.int a2), some (.int a3), some (.int a4), some (.int a5), some (.int a6), some (.int a7), some (.int v2)], [], qp_mk I2 J2)) (by with_unfolding_all rfl) (fun h5 => ?_) (fun h5 => ?_)
          · replace h := qp_ift h5 h
            refine qp_run_E qp_ok104 2 (c' := (57, [some (.ref 33), some (.int a1), some (.int a2), some (.int a3), some (.int a4), some (.int a5), some (.int a6), some (.int (a7 + 1)), some (.int v2)], [], qp_mk I2 J2)) (by with_unfolding_all rfl) hd1 trivial ?_
            exact qp_E_fg [true, true, true, true, true, true, true, true, false] (ih a1 a2 a3 a4 a5 a6 (a7 + 1) I2 J2 h)
          · replace h := qp_iff h5 h
            refine qp_run_E qp_ok104 5 (c' := (57, [some (.ref 33), some (.int a1), some (.int a2), some (.int a3), some (.int a4), some (.int a5), some (.int v2), some (.int (a7 + 1)), some (.int v2)], [], qp_mk I2 J2)) (by with_unfolding_all rfl) hd1 trivial ?_
            exact qp_E_fg [true, true, true, true, true, true, true, true, false] (ih a1 a2 a3 a4 a5 v2 (a7 + 1) I2 J2 h)
def fT_play_b21 (rec : Int32 → Int32 → (Nat → Nat → Int32) → (Nat → Nat → Int64) → Option (Int32 × (Nat → Nat → Int32) × (Nat → Nat → Int64)))  (a1 : Int32) (a2 : Int32) (s0 : Int32) (I : Nat → Nat → Int32) (J : Nat → Nat → Int64) : Option (Int32 × (Nat → Nat → Int32) × (Nat → Nat → Int64)) :=
  if s0 = 0 then (
    fT_play_b57 rec 100000 a1 a2 s0 (I 33 2) (I 15 0) 0 0 I J
  ) else (
    fT_play_b57 rec 100000 a1 a2 s0 (I 33 1) (I 15 0) 0 0 I J
  )
set_option maxRecDepth 8000 in
theorem gT_play_b21 {l : Launch} {G : qp_G} {d : Nat} (hd : 6 ≤ d) {r : (Int32 × (Nat → Nat → Int32) × (Nat → Nat → Int64))} {I0 : Nat → Nat → Int32} {J0 : Nat → Nat → Int64} (rec : Int32 → Int32 → (Nat → Nat → Int32) → (Nat → Nat → Int64) → Option (Int32 × (Nat → Nat → Int32) × (Nat → Nat → Int64))) {d' : Nat} (hrec : ∀ p1 p2 I J {v I' J'}, rec p1 p2 I J = some (v, I', J') → qp_Met l G d' 104 [.ref 33, .int p1, .int p2] (qp_mk I J) 0 0 (qp_R8 (some (.int v)) I' J')) (hdr : d' + 1 ≤ d)  : ∀ (a1 : Int32) (a2 : Int32) (s0 : Int32) (I : Nat → Nat → Int32) (J : Nat → Nat → Int64), fT_play_b21 rec a1 a2 s0 I J = some r → qp_E l G d 104 (qp_mk I0 J0) 0 0 (qp_R8 (some (.int r.1)) r.2.1 r.2.2) (21, [some (.ref 33), some (.int a1), some (.int a2), none, none, none, none, none, none], [.int s0], qp_mk I J) := by
  have hd1 : Nat.ble 1 d = true := Nat.ble_eq_true_of_le (Nat.le_trans (by decide) hd)
  intro a1 a2 s0 I J h
  unfold fT_play_b21 at h
  refine qp_run_E qp_ok104 2 (c' := (23, [some (.ref 33), some (.int a1), some (.int a2), some (.int s0), none, none, none, none, none], [.int s0], qp_mk I J)) (by with_unfolding_all rfl) hd1 trivial ?_
  refine qp_br_E qp_ok104 (f := s0 = 0) (ct := (33, [some (.ref 33), some (.int a1), some (.int a2), some (.int s0), none, none, none, none, none], [], qp_mk I J)) (cf := (26, [some (.ref 33), some (.int a1), some (.int a2), some (.int s0), none, none, none, none, none], [], qp_mk I J)) (by with_unfolding_all rfl) (fun h1 => ?_) (fun h1 => ?_)
  · replace h := qp_ift h1 h
    refine qp_run_E qp_ok104 12 (c' := (57, [some (.ref 33), some (.int a1), some (.int a2), some (.int s0), some (.int (I 33 2)), some (.int (I 15 0)), some (.int 0), some (.int 0), none], [], qp_mk I J)) (by with_unfolding_all rfl) hd1 trivial ?_
    exact gT_play_b57 hd rec hrec hdr 100000 a1 a2 s0 (I 33 2) (I 15 0) 0 0 I J h
  · replace h := qp_iff h1 h
    refine qp_run_E qp_ok104 13 (c' := (57, [some (.ref 33), some (.int a1), some (.int a2), some (.int s0), some (.int (I 33 1)), some (.int (I 15 0)), some (.int 0), some (.int 0), none], [], qp_mk I J)) (by with_unfolding_all rfl) hd1 trivial ?_
    exact gT_play_b57 hd rec hrec hdr 100000 a1 a2 s0 (I 33 1) (I 15 0) 0 0 I J h
def fT_play_b0 (rec : Int32 → Int32 → (Nat → Nat → Int32) → (Nat → Nat → Int64) → Option (Int32 × (Nat → Nat → Int32) × (Nat → Nat → Int64)))  (a1 : Int32) (a2 : Int32) (I : Nat → Nat → Int32) (J : Nat → Nat → Int64) : Option (Int32 × (Nat → Nat → Int32) × (Nat → Nat → Int64)) :=
  if 0 < a2 then (
    if ¬ (a2 - a2 / 2 * 2) = 0 then (
      fT_play_b21 rec a1 a2 0 I J
    ) else (
      fT_play_b21 rec a1 a2 1 I J
    )
  ) else (
    qp_bd (fT_leadBy a1 I J) fun v1 I1 J1 =>
    some (v1, I1, J1)
  )
set_option maxRecDepth 8000 in
theorem gT_play_b0 {l : Launch} {G : qp_G} {d : Nat} (hd : 6 ≤ d) {r : (Int32 × (Nat → Nat → Int32) × (Nat → Nat → Int64))} {I0 : Nat → Nat → Int32} {J0 : Nat → Nat → Int64} (rec : Int32 → Int32 → (Nat → Nat → Int32) → (Nat → Nat → Int64) → Option (Int32 × (Nat → Nat → Int32) × (Nat → Nat → Int64))) {d' : Nat} (hrec : ∀ p1 p2 I J {v I' J'}, rec p1 p2 I J = some (v, I', J') → qp_Met l G d' 104 [.ref 33, .int p1, .int p2] (qp_mk I J) 0 0 (qp_R8 (some (.int v)) I' J')) (hdr : d' + 1 ≤ d)  : ∀ (a1 : Int32) (a2 : Int32) (I : Nat → Nat → Int32) (J : Nat → Nat → Int64), fT_play_b0 rec a1 a2 I J = some r → qp_E l G d 104 (qp_mk I0 J0) 0 0 (qp_R8 (some (.int r.1)) r.2.1 r.2.2) (0, [some (.ref 33), some (.int a1), some (.int a2), none, none, none, none, none, none], [], qp_mk I J) := by
  have hd1 : Nat.ble 1 d = true := Nat.ble_eq_true_of_le (Nat.le_trans (by decide) hd)
  intro a1 a2 I J h
  unfold fT_play_b0 at h
  refine qp_run_E qp_ok104 1 (c' := (1, [some (.ref 33), some (.int a1), some (.int a2), none, none, none, none, none, none], [.int a2], qp_mk I J)) (by with_unfolding_all rfl) hd1 trivial ?_
  refine qp_br_E qp_ok104 (f := 0 < a2) (ct := (10, [some (.ref 33), some (.int a1), some (.int a2), none, none, none, none, none, none], [], qp_mk I J)) (cf := (4, [some (.ref 33), some (.int a1), some (.int a2), none, none, none, none, none, none], [], qp_mk I J)) (by with_unfolding_all rfl) (fun h1 => ?_) (fun h1 => ?_)
  · replace h := qp_ift h1 h
    refine qp_run_E qp_ok104 3 (f := ¬ (2 : Int32) = 0 ∧ True) (c' := (13, [some (.ref 33), some (.int a1), some (.int a2), none, none, none, none, none, none], [.int (a2 - a2 / 2 * 2)], qp_mk I J)) (by with_unfolding_all rfl) hd1 ⟨(by decide), trivial⟩ ?_
    refine qp_br_E qp_ok104 (f := ¬ (a2 - a2 / 2 * 2) = 0) (ct := (20, [some (.ref 33), some (.int a1), some (.int a2), none, none, none, none, none, none], [], qp_mk I J)) (cf := (16, [some (.ref 33), some (.int a1), some (.int a2), none, none, none, none, none, none], [], qp_mk I J)) (by with_unfolding_all rfl) (fun h2 => ?_) (fun h2 => ?_)
    · replace h := qp_ift h2 h
      refine qp_run_E qp_ok104 1 (c' := (21, [some (.ref 33), some (.int a1), some (.int a2), none, none, none, none, none, none], [.int 0], qp_mk I J)) (by with_unfolding_all rfl) hd1 trivial ?_
      exact gT_play_b21 hd rec hrec hdr a1 a2 0 I J h
    · replace h := qp_iff h2 h
      refine qp_run_E qp_ok104 2 (c' := (21, [some (.ref 33), some (.int a1), some (.int a2), none, none, none, none, none, none], [.int 1], qp_mk I J)) (by with_unfolding_all rfl) hd1 trivial ?_
      exact gT_play_b21 hd rec hrec hdr a1 a2 1 I J h
  · replace h := qp_iff h1 h
    refine qp_run_E qp_ok104 2 (c' := (6, [some (.ref 33), some (.int a1), some (.int a2), none, none, none, none, none, none], [.int a1, .ref 33], qp_mk I J)) (by with_unfolding_all rfl) hd1 trivial ?_
    obtain ⟨v1, I1, J1, e1, h⟩ := qp_bd_s h
    refine qp_cV qp_ok104 (rest := []) (oj := 8) qp_f105 rfl rfl (gT_leadBy l G a1 I J e1 (Nat.le_refl 5)) rfl rfl rfl rfl (Nat.le_trans (by decide) hd) ?_
    obtain rfl := Option.some.inj h
    exact qp_retI_E qp_ok104 rfl qp_r104.1 ⟨rfl, rfl⟩ ⟨rfl, rfl⟩
def fT_play : Nat → Int32 → Int32 → (Nat → Nat → Int32) → (Nat → Nat → Int64) → Option (Int32 × (Nat → Nat → Int32) × (Nat → Nat → Int64))
  | 0, _, _, _, _ => none
  | n + 1, p1, p2, I, J => fT_play_b0 (fT_play n) p1 p2 I J
set_option maxRecDepth 8000 in
theorem gT_play (l : Launch) (G : qp_G) : ∀ (n : Nat) (p1 : Int32) (p2 : Int32) (I : Nat → Nat → Int32) (J : Nat → Nat → Int64) {v : Int32} {I' : Nat → Nat → Int32} {J' : Nat → Nat → Int64} (h : fT_play n p1 p2 I J = some (v, I', J')) {d : Nat} (hd : 6 + n ≤ d), qp_Met l G d 104 [.ref 33, .int p1, .int p2] (qp_mk I J) 0 0 (qp_R8 (some (.int v)) I' J') := by
  intro n
  induction n with
  | zero => intro p1 p2 I J v I' J' h d hd; exact absurd h (by simp [fT_play])
  | succ n ih =>
    intro p1 p2 I J v I' J' h d hd
    rw [fT_play] at h
    refine qp_Met_of (by decide) (by rw [qp_r104.2]; rfl) [some (.ref 33), some (.int p1), some (.int p2), none, none, none, none, none, none] (by rw [qp_r104.2]; rfl) ?_
    exact qp_E_fg [true, true, true, false, false, false, false, false, false] (gT_play_b0 (d := d) (by omega) (r := (v, I', J')) (fT_play n) (d' := 6 + n) (fun p1 p2 I J _ _ _ h => ih p1 p2 I J h (Nat.le_refl _)) (by omega) p1 p2 I J h)
def fT_outcome (p1 : Int32) (p2 : Int32) (p3 : Int32) (I : Nat → Nat → Int32) (J : Nat → Nat → Int64) : Option (Int32 × (Nat → Nat → Int32) × (Nat → Nat → Int64)) :=
  qp_bd (fT_play 8 (I 14 2) ((2 : Int32) * p3) (qp_up (qp_up I 33 1 p1) 33 2 p2) J) fun v1 I1 J1 =>
  some (v1, I1, J1)
set_option maxRecDepth 8000 in
theorem gT_outcome (l : Launch) (G : qp_G) (p1 : Int32) (p2 : Int32) (p3 : Int32) (I : Nat → Nat → Int32) (J : Nat → Nat → Int64) {v : Int32} {I' : Nat → Nat → Int32} {J' : Nat → Nat → Int64} (h : fT_outcome p1 p2 p3 I J = some (v, I', J')) {d : Nat} (hd : 15 ≤ d) : qp_Met l G d 103 [.ref 33, .int p1, .int p2, .int p3] (qp_mk I J) 0 0 (qp_R8 (some (.int v)) I' J') := by
  have hd1 : Nat.ble 1 d = true := Nat.ble_eq_true_of_le (Nat.le_trans (by decide) hd)
  refine qp_Met_of (by decide) (by rw [qp_r103.2]; rfl) [some (.ref 33), some (.int p1), some (.int p2), some (.int p3)] (by rw [qp_r103.2]; rfl) ?_
  unfold fT_outcome at h
  refine qp_run_E qp_ok103 13 (c' := (21, [some (.ref 33), some (.int p1), some (.int p2), some (.int p3)], [.int ((2 : Int32) * p3), .int (I 14 2), .ref 33], qp_mk (qp_up (qp_up I 33 1 p1) 33 2 p2) J)) (by with_unfolding_all rfl) hd1 trivial ?_
  obtain ⟨v1, I1, J1, e1, h⟩ := qp_bd_s h
  refine qp_cS qp_ok103 (rest := []) (oj := 8) qp_f104 rfl rfl (gT_play l G 8 (I 14 2) ((2 : Int32) * p3) (qp_up (qp_up I 33 1 p1) 33 2 p2) J e1 (Nat.le_refl 14)) rfl rfl rfl (Nat.le_trans (by decide) hd) ?_
  obtain ⟨rfl, rfl, rfl⟩ := qp_some3 h
  exact qp_retI_E qp_ok103 rfl qp_r103.1 ⟨rfl, rfl⟩ ⟨rfl, rfl⟩
def fX_duel (p1 : Int32) (p2 : Int32) (p3 : Int32) (I : Nat → Nat → Int32) (J : Nat → Nat → Int64) : Option (Int32 × (Nat → Nat → Int32) × (Nat → Nat → Int64)) :=
  qp_bd (fC_has_15 p1 I J) fun v1 I1 J1 =>
  if v1 = 0 then (
    some ((-1), I1, J1)
  ) else (
    qp_bd (fC_has_15 p2 I1 J1) fun v2 I2 J2 =>
    if v2 = 0 then (
      some ((-1), I2, J2)
    ) else (
      if p1 = p2 then (
        some ((-1), I2, J2)
      ) else (
        if p3 < 0 then (
          some ((-1), I2, J2)
        ) else (
          if p3 ≤ 2 then (
            qp_bd (fT_outcome p1 p2 p3 I2 J2) fun v3 I3 J3 =>
            qp_bd (fX_tell v3 I3 J3) fun v4 I4 J4 =>
            some (v4, I4, J4)
          ) else (
            some ((-1), I2, J2)
          )
        )
      )
    )
  )
set_option maxRecDepth 8000 in
theorem gX_duel (l : Launch) (G : qp_G) (p1 : Int32) (p2 : Int32) (p3 : Int32) (I : Nat → Nat → Int32) (J : Nat → Nat → Int64) {v : Int32} {I' : Nat → Nat → Int32} {J' : Nat → Nat → Int64} (h : fX_duel p1 p2 p3 I J = some (v, I', J')) {d : Nat} (hd : 16 ≤ d) : qp_Met l G d 102 [.ref 0, .int p1, .int p2, .int p3] (qp_mk I J) 0 0 (qp_R8 (some (.int v)) I' J') := by
  have hd1 : Nat.ble 1 d = true := Nat.ble_eq_true_of_le (Nat.le_trans (by decide) hd)
  refine qp_Met_of (by decide) (by rw [qp_r102.2]; rfl) [some (.ref 0), some (.int p1), some (.int p2), some (.int p3)] (by rw [qp_r102.2]; rfl) ?_
  unfold fX_duel at h
  refine qp_run_E qp_ok102 4 (c' := (8, [some (.ref 0), some (.int p1), some (.int p2), some (.int p3)], [.int p1, .ref 15], qp_mk I J)) (by with_unfolding_all rfl) hd1 trivial ?_
  obtain ⟨v1, I1, J1, e1, h⟩ := qp_bd_s h
  refine qp_cV qp_ok102 (rest := []) (oj := 3) qp_f43 rfl rfl (gC_has_15 l G p1 I J e1 (Nat.le_refl 1)) rfl rfl rfl rfl (Nat.le_trans (by decide) hd) ?_
  refine qp_br_E qp_ok102 (f := v1 = 0) (ct := (42, [some (.ref 0), some (.int p1), some (.int p2), some (.int p3)], [], qp_mk I1 J1)) (cf := (14, [some (.ref 0), some (.int p1), some (.int p2), some (.int p3)], [], qp_mk I1 J1)) (by with_unfolding_all rfl) (fun h1 => ?_) (fun h1 => ?_)
  · replace h := qp_ift h1 h
    refine qp_run_E qp_ok102 1 (c' := (43, [some (.ref 0), some (.int p1), some (.int p2), some (.int p3)], [.int (-1)], qp_mk I1 J1)) (by with_unfolding_all rfl) hd1 trivial ?_
    obtain ⟨rfl, rfl, rfl⟩ := qp_some3 h
    exact qp_retI_E qp_ok102 rfl qp_r102.1 ⟨rfl, rfl⟩ ⟨rfl, rfl⟩
  · replace h := qp_iff h1 h
    refine qp_run_E qp_ok102 4 (c' := (22, [some (.ref 0), some (.int p1), some (.int p2), some (.int p3)], [.int p2, .ref 15], qp_mk I1 J1)) (by with_unfolding_all rfl) hd1 trivial ?_
    obtain ⟨v2, I2, J2, e2, h⟩ := qp_bd_s h
    refine qp_cV qp_ok102 (rest := []) (oj := 3) qp_f43 rfl rfl (gC_has_15 l G p2 I1 J1 e2 (Nat.le_refl 1)) rfl rfl rfl rfl (Nat.le_trans (by decide) hd) ?_
    refine qp_br_E qp_ok102 (f := v2 = 0) (ct := (42, [some (.ref 0), some (.int p1), some (.int p2), some (.int p3)], [], qp_mk I2 J2)) (cf := (28, [some (.ref 0), some (.int p1), some (.int p2), some (.int p3)], [], qp_mk I2 J2)) (by with_unfolding_all rfl) (fun h2 => ?_) (fun h2 => ?_)
    · replace h := qp_ift h2 h
      refine qp_run_E qp_ok102 1 (c' := (43, [some (.ref 0), some (.int p1), some (.int p2), some (.int p3)], [.int (-1)], qp_mk I2 J2)) (by with_unfolding_all rfl) hd1 trivial ?_
      obtain ⟨rfl, rfl, rfl⟩ := qp_some3 h
      exact qp_retI_E qp_ok102 rfl qp_r102.1 ⟨rfl, rfl⟩ ⟨rfl, rfl⟩
    · replace h := qp_iff h2 h
      refine qp_run_E qp_ok102 2 (c' := (30, [some (.ref 0), some (.int p1), some (.int p2), some (.int p3)], [.int p2, .int p1], qp_mk I2 J2)) (by with_unfolding_all rfl) hd1 trivial ?_
      refine qp_br_E qp_ok102 (f := p1 = p2) (ct := (42, [some (.ref 0), some (.int p1), some (.int p2), some (.int p3)], [], qp_mk I2 J2)) (cf := (33, [some (.ref 0), some (.int p1), some (.int p2), some (.int p3)], [], qp_mk I2 J2)) (by with_unfolding_all rfl) (fun h3 => ?_) (fun h3 => ?_)
      · replace h := qp_ift h3 h
        refine qp_run_E qp_ok102 1 (c' := (43, [some (.ref 0), some (.int p1), some (.int p2), some (.int p3)], [.int (-1)], qp_mk I2 J2)) (by with_unfolding_all rfl) hd1 trivial ?_
        obtain ⟨rfl, rfl, rfl⟩ := qp_some3 h
        exact qp_retI_E qp_ok102 rfl qp_r102.1 ⟨rfl, rfl⟩ ⟨rfl, rfl⟩
      · replace h := qp_iff h3 h
        refine qp_run_E qp_ok102 1 (c' := (34, [some (.ref 0), some (.int p1), some (.int p2), some (.int p3)], [.int p3], qp_mk I2 J2)) (by with_unfolding_all rfl) hd1 trivial ?_
        refine qp_br_E qp_ok102 (f := p3 < 0) (ct := (42, [some (.ref 0), some (.int p1), some (.int p2), some (.int p3)], [], qp_mk I2 J2)) (cf := (37, [some (.ref 0), some (.int p1), some (.int p2), some (.int p3)], [], qp_mk I2 J2)) (by with_unfolding_all rfl) (fun h4 => ?_) (fun h4 => ?_)
        · replace h := qp_ift h4 h
          refine qp_run_E qp_ok102 1 (c' := (43, [some (.ref 0), some (.int p1), some (.int p2), some (.int p3)], [.int (-1)], qp_mk I2 J2)) (by with_unfolding_all rfl) hd1 trivial ?_
          obtain ⟨rfl, rfl, rfl⟩ := qp_some3 h
          exact qp_retI_E qp_ok102 rfl qp_r102.1 ⟨rfl, rfl⟩ ⟨rfl, rfl⟩
        · replace h := qp_iff h4 h
          refine qp_run_E qp_ok102 2 (c' := (39, [some (.ref 0), some (.int p1), some (.int p2), some (.int p3)], [.int 2, .int p3], qp_mk I2 J2)) (by with_unfolding_all rfl) hd1 trivial ?_
          refine qp_br_E qp_ok102 (f := p3 ≤ 2) (ct := (44, [some (.ref 0), some (.int p1), some (.int p2), some (.int p3)], [], qp_mk I2 J2)) (cf := (42, [some (.ref 0), some (.int p1), some (.int p2), some (.int p3)], [], qp_mk I2 J2)) (by with_unfolding_all rfl) (fun h5 => ?_) (fun h5 => ?_)
          · replace h := qp_ift h5 h
            refine qp_run_E qp_ok102 6 (c' := (52, [some (.ref 0), some (.int p1), some (.int p2), some (.int p3)], [.int p3, .int p2, .int p1, .ref 33, .ref 0], qp_mk I2 J2)) (by with_unfolding_all rfl) hd1 trivial ?_
            obtain ⟨v3, I3, J3, e3, h⟩ := qp_bd_s h
            refine qp_cV qp_ok102 (rest := [.ref 0]) (oj := 8) qp_f103 rfl rfl (gT_outcome l G p1 p2 p3 I2 J2 e3 (Nat.le_refl 15)) rfl rfl rfl rfl (Nat.le_trans (by decide) hd) ?_
            obtain ⟨v4, I4, J4, e4, h⟩ := qp_bd_s h
            refine qp_cV qp_ok102 (rest := []) (oj := 0) qp_f24 rfl rfl (gX_tell l G v3 I3 J3 e4 (Nat.le_refl 1)) rfl rfl rfl rfl (Nat.le_trans (by decide) hd) ?_
            obtain ⟨rfl, rfl, rfl⟩ := qp_some3 h
            exact qp_retI_E qp_ok102 rfl qp_r102.1 ⟨rfl, rfl⟩ ⟨rfl, rfl⟩
          · replace h := qp_iff h5 h
            refine qp_run_E qp_ok102 1 (c' := (43, [some (.ref 0), some (.int p1), some (.int p2), some (.int p3)], [.int (-1)], qp_mk I2 J2)) (by with_unfolding_all rfl) hd1 trivial ?_
            obtain ⟨rfl, rfl, rfl⟩ := qp_some3 h
            exact qp_retI_E qp_ok102 rfl qp_r102.1 ⟨rfl, rfl⟩ ⟨rfl, rfl⟩
def fN_serveSet_b9  : Nat → Int32 → Int32 → Int32 → (Nat → Nat → Int32) → (Nat → Nat → Int64) → Option (Unit × (Nat → Nat → Int32) × (Nat → Nat → Int64))
  | 0, _, _, _, _, _ => none
  | n + 1, a1, a2, a3, I, J =>
    if (I 15 0) ≤ a3 then (
      qp_bd (fV_serve a2 (I 34 1) (I 14 3) I J) fun _u I1 J1 =>
      some ((), I1, J1)
    ) else (
      qp_bd (fD_whoAt (I 14 2) a3 I J) fun v2 I2 J2 =>
      if ¬ ((a1 >>> (v2 &&& 31)) &&& 1) = 1 then (
        fN_serveSet_b9 n a1 a2 (a3 + 1) I2 J2
      ) else (
        qp_bd (fD_with a2 (I2 34 1) v2 I2 J2) fun v3 I3 J3 =>
        fN_serveSet_b9 n a1 v3 (a3 + 1) (qp_up I3 34 1 ((I3 34 1) + 1)) J3
      )
    )
set_option maxRecDepth 8000 in
theorem gN_serveSet_b9 {l : Launch} {G : qp_G} {d : Nat} (hd : 4 ≤ d) {r : (Unit × (Nat → Nat → Int32) × (Nat → Nat → Int64))} {I0 : Nat → Nat → Int32} {J0 : Nat → Nat → Int64}   : ∀ (n : Nat) (a1 : Int32) (a2 : Int32) (a3 : Int32) (I : Nat → Nat → Int32) (J : Nat → Nat → Int64), fN_serveSet_b9  n a1 a2 a3 I J = some r → qp_E l G d 108 (qp_mk I0 J0) 0 0 (qp_R8 none r.2.1 r.2.2) (9, [some (.ref 34), some (.int a1), some (.int a2), some (.int a3), none], [], qp_mk I J) := by
  have hd1 : Nat.ble 1 d = true := Nat.ble_eq_true_of_le (Nat.le_trans (by decide) hd)
  intro n
  induction n with
  | zero => intro a1 a2 a3 I J h; exact absurd h (by simp [fN_serveSet_b9])
  | succ n ih =>
    intro a1 a2 a3 I J h
    rw [fN_serveSet_b9] at h
    refine qp_run_E qp_ok108 5 (c' := (20, [some (.ref 34), some (.int a1), some (.int a2), some (.int a3), none], [.int (I 15 0), .int a3], qp_mk I J)) (by with_unfolding_all rfl) hd1 trivial ?_
    refine qp_br_E qp_ok108 (f := (I 15 0) ≤ a3) (ct := (73, [some (.ref 34), some (.int a1), some (.int a2), some (.int a3), none], [], qp_mk I J)) (cf := (23, [some (.ref 34), some (.int a1), some (.int a2), some (.int a3), none], [], qp_mk I J)) (by with_unfolding_all rfl) (fun h1 => ?_) (fun h1 => ?_)
    · replace h := qp_ift h1 h
      refine qp_run_E qp_ok108 9 (c' := (92, [some (.ref 34), some (.int a1), some (.int a2), some (.int a3), none], [.int (I 14 3), .int (I 34 1), .int a2, .ref 18], qp_mk I J)) (by with_unfolding_all rfl) hd1 trivial ?_
      obtain ⟨v1, I1, J1, e1, h⟩ := qp_bd_s h
      refine qp_cV qp_ok108 (rest := []) (oj := 5) qp_f68 rfl rfl (gV_serve l G a2 (I 34 1) (I 14 3) I J e1 (Nat.le_refl 3)) rfl rfl rfl rfl (Nat.le_trans (by decide) hd) ?_
      obtain rfl := Option.some.inj h
      exact qp_retV_E qp_ok108 rfl qp_r108.1 ⟨rfl, rfl⟩ ⟨rfl, rfl⟩
    · replace h := qp_iff h1 h
      refine qp_run_E qp_ok108 4 (c' := (31, [some (.ref 34), some (.int a1), some (.int a2), some (.int a3), none], [.int a3, .int (I 14 2)], qp_mk I J)) (by with_unfolding_all rfl) hd1 trivial ?_
      obtain ⟨v2, I2, J2, e2, h⟩ := qp_bd_s h
      refine qp_cS qp_ok108 (rest := []) (oj := 10) qp_f47 rfl rfl (gD_whoAt l G (I 14 2) a3 I J e2 (Nat.le_refl 1)) rfl rfl rfl (Nat.le_trans (by decide) hd) ?_
      refine qp_run_E qp_ok108 7 (c' := (43, [some (.ref 34), some (.int a1), some (.int a2), some (.int a3), some (.int v2)], [.int 1, .int ((a1 >>> (v2 &&& 31)) &&& 1)], qp_mk I2 J2)) (by with_unfolding_all rfl) hd1 trivial ?_
      refine qp_br_E qp_ok108 (f := ¬ ((a1 >>> (v2 &&& 31)) &&& 1) = 1) (ct := (67, [some (.ref 34), some (.int a1), some (.int a2), some (.int a3), some (.int v2)], [], qp_mk I2 J2)) (cf := (46, [some (.ref 34), some (.int a1), some (.int a2), some (.int a3), some (.int v2)], [], qp_mk I2 J2)) (by with_unfolding_all rfl) (fun h2 => ?_) (fun h2 => ?_)
      · replace h := qp_ift h2 h
        refine qp_run_E qp_ok108 2 (c' := (9, [some (.ref 34), some (.int a1), some (.int a2), some (.int (a3 + 1)), some (.int v2)], [], qp_mk I2 J2)) (by with_unfolding_all rfl) hd1 trivial ?_
        exact qp_E_fg [true, true, true, true, false] (ih a1 a2 (a3 + 1) I2 J2 h)
      · replace h := qp_iff h2 h
        refine qp_run_E qp_ok108 4 (c' := (53, [some (.ref 34), some (.int a1), some (.int a2), some (.int a3), some (.int v2)], [.int v2, .int (I2 34 1), .int a2], qp_mk I2 J2)) (by with_unfolding_all rfl) hd1 trivial ?_
        obtain ⟨v3, I3, J3, e3, h⟩ := qp_bd_s h
        refine qp_cS qp_ok108 (rest := []) (oj := 10) qp_f40 rfl rfl (gD_with l G a2 (I2 34 1) v2 I2 J2 e3 (Nat.le_refl 1)) rfl rfl rfl (Nat.le_trans (by decide) hd) ?_
        refine qp_run_E qp_ok108 9 (c' := (9, [some (.ref 34), some (.int a1), some (.int v3), some (.int (a3 + 1)), some (.int v2)], [], qp_mk (qp_up I3 34 1 ((I3 34 1) + 1)) J3)) (by with_unfolding_all rfl) hd1 trivial ?_
        exact qp_E_fg [true, true, true, true, false] (ih a1 v3 (a3 + 1) (qp_up I3 34 1 ((I3 34 1) + 1)) J3 h)
def fN_serveSet (p1 : Int32) (I : Nat → Nat → Int32) (J : Nat → Nat → Int64) : Option (Unit × (Nat → Nat → Int32) × (Nat → Nat → Int64)) :=
  fN_serveSet_b9 100000 p1 0 0 (qp_up I 34 1 0) J
set_option maxRecDepth 8000 in
theorem gN_serveSet (l : Launch) (G : qp_G) (p1 : Int32) (I : Nat → Nat → Int32) (J : Nat → Nat → Int64) {v : Unit} {I' : Nat → Nat → Int32} {J' : Nat → Nat → Int64} (h : fN_serveSet p1 I J = some (v, I', J')) {d : Nat} (hd : 4 ≤ d) : qp_Met l G d 108 [.ref 34, .int p1] (qp_mk I J) 0 0 (qp_R8 none I' J') := by
  have hd1 : Nat.ble 1 d = true := Nat.ble_eq_true_of_le (Nat.le_trans (by decide) hd)
  refine qp_Met_of (by decide) (by rw [qp_r108.2]; rfl) [some (.ref 34), some (.int p1), none, none, none] (by rw [qp_r108.2]; rfl) ?_
  unfold fN_serveSet at h
  refine qp_run_E qp_ok108 7 (c' := (9, [some (.ref 34), some (.int p1), some (.int 0), some (.int 0), none], [], qp_mk (qp_up I 34 1 0) J)) (by with_unfolding_all rfl) hd1 trivial ?_
  exact gN_serveSet_b9 hd 100000 p1 0 0 (qp_up I 34 1 0) J h
def fN_power_b5  : Nat → Int32 → Int32 → Int64 → Int32 → (Nat → Nat → Int32) → (Nat → Nat → Int64) → Option (Int64 × (Nat → Nat → Int32) × (Nat → Nat → Int64))
  | 0, _, _, _, _, _, _ => none
  | n + 1, a0, a1, a2, a4, I, J =>
    if a1 ≤ a4 then (
      some (a2, I, J)
    ) else (
      fN_power_b5 n a0 a1 (a2 * (Int32.toInt64 a0)) (a4 + 1) I J
    )
set_option maxRecDepth 8000 in
theorem gN_power_b5 {l : Launch} {G : qp_G} {d : Nat} (hd : 1 ≤ d) {r : (Int64 × (Nat → Nat → Int32) × (Nat → Nat → Int64))} {I0 : Nat → Nat → Int32} {J0 : Nat → Nat → Int64}   : ∀ (n : Nat) (a0 : Int32) (a1 : Int32) (a2 : Int64) (a4 : Int32) (I : Nat → Nat → Int32) (J : Nat → Nat → Int64), fN_power_b5  n a0 a1 a2 a4 I J = some r → qp_E l G d 110 (qp_mk I0 J0) 0 0 (qp_R8 (some (.long r.1)) r.2.1 r.2.2) (5, [some (.int a0), some (.int a1), some (.long a2), none, some (.int a4)], [], qp_mk I J) := by
  have hd1 : Nat.ble 1 d = true := Nat.ble_eq_true_of_le (Nat.le_trans (by decide) hd)
  intro n
  induction n with
  | zero => intro a0 a1 a2 a4 I J h; exact absurd h (by simp [fN_power_b5])
  | succ n ih =>
    intro a0 a1 a2 a4 I J h
    rw [fN_power_b5] at h
    refine qp_run_E qp_ok110 2 (c' := (8, [some (.int a0), some (.int a1), some (.long a2), none, some (.int a4)], [.int a1, .int a4], qp_mk I J)) (by with_unfolding_all rfl) hd1 trivial ?_
    refine qp_br_E qp_ok110 (f := a1 ≤ a4) (ct := (22, [some (.int a0), some (.int a1), some (.long a2), none, some (.int a4)], [], qp_mk I J)) (cf := (11, [some (.int a0), some (.int a1), some (.long a2), none, some (.int a4)], [], qp_mk I J)) (by with_unfolding_all rfl) (fun h1 => ?_) (fun h1 => ?_)
    · replace h := qp_ift h1 h
      refine qp_run_E qp_ok110 1 (c' := (23, [some (.int a0), some (.int a1), some (.long a2), none, some (.int a4)], [.long a2], qp_mk I J)) (by with_unfolding_all rfl) hd1 trivial ?_
      obtain rfl := Option.some.inj h
      exact qp_retL_E qp_ok110 rfl qp_r110.1 ⟨rfl, rfl⟩ ⟨rfl, rfl⟩
    · replace h := qp_iff h1 h
      refine qp_run_E qp_ok110 7 (c' := (5, [some (.int a0), some (.int a1), some (.long (a2 * (Int32.toInt64 a0))), none, some (.int (a4 + 1))], [], qp_mk I J)) (by with_unfolding_all rfl) hd1 trivial ?_
      exact ih a0 a1 (a2 * (Int32.toInt64 a0)) (a4 + 1) I J h
def fN_power (p0 : Int32) (p1 : Int32) (I : Nat → Nat → Int32) (J : Nat → Nat → Int64) : Option (Int64 × (Nat → Nat → Int32) × (Nat → Nat → Int64)) :=
  fN_power_b5 100000 p0 p1 1 0 I J
set_option maxRecDepth 8000 in
theorem gN_power (l : Launch) (G : qp_G) (p0 : Int32) (p1 : Int32) (I : Nat → Nat → Int32) (J : Nat → Nat → Int64) {v : Int64} {I' : Nat → Nat → Int32} {J' : Nat → Nat → Int64} (h : fN_power p0 p1 I J = some (v, I', J')) {d : Nat} (hd : 1 ≤ d) : qp_Met l G d 110 [.int p0, .int p1] (qp_mk I J) 0 0 (qp_R8 (some (.long v)) I' J') := by
  have hd1 : Nat.ble 1 d = true := Nat.ble_eq_true_of_le (Nat.le_trans (by decide) hd)
  refine qp_Met_of (by decide) (by rw [qp_r110.2]; rfl) [some (.int p0), some (.int p1), none, none, none] (by rw [qp_r110.2]; rfl) ?_
  unfold fN_power at h
  refine qp_run_E qp_ok110 4 (c' := (5, [some (.int p0), some (.int p1), some (.long 1), none, some (.int 0)], [], qp_mk I J)) (by with_unfolding_all rfl) hd1 trivial ?_
  exact gN_power_b5 hd 100000 p0 p1 1 0 I J h
def fN_weight (p1 : Int32) (I : Nat → Nat → Int32) (J : Nat → Nat → Int64) : Option (Int64 × (Nat → Nat → Int32) × (Nat → Nat → Int64)) :=
  qp_bd (fN_power ((12 : Int32) - p1) (I 34 1) I J) fun v1 I1 J1 =>
  qp_bd (fN_power p1 ((I1 15 0) - (I1 34 1)) I1 J1) fun v2 I2 J2 =>
  some ((v1 * v2), I2, J2)
set_option maxRecDepth 8000 in
theorem gN_weight (l : Launch) (G : qp_G) (p1 : Int32) (I : Nat → Nat → Int32) (J : Nat → Nat → Int64) {v : Int64} {I' : Nat → Nat → Int32} {J' : Nat → Nat → Int64} (h : fN_weight p1 I J = some (v, I', J')) {d : Nat} (hd : 2 ≤ d) : qp_Met l G d 109 [.ref 34, .int p1] (qp_mk I J) 0 0 (qp_R8 (some (.long v)) I' J') := by
  have hd1 : Nat.ble 1 d = true := Nat.ble_eq_true_of_le (Nat.le_trans (by decide) hd)
  refine qp_Met_of (by decide) (by rw [qp_r109.2]; rfl) [some (.ref 34), some (.int p1)] (by rw [qp_r109.2]; rfl) ?_
  unfold fN_weight at h
  refine qp_run_E qp_ok109 5 (c' := (8, [some (.ref 34), some (.int p1)], [.int (I 34 1), .int ((12 : Int32) - p1)], qp_mk I J)) (by with_unfolding_all rfl) hd1 trivial ?_
  obtain ⟨v1, I1, J1, e1, h⟩ := qp_bd_s h
  refine qp_cS qp_ok109 (rest := []) (oj := 9) qp_f110 rfl rfl (gN_power l G ((12 : Int32) - p1) (I 34 1) I J e1 (Nat.le_refl 1)) rfl rfl rfl (Nat.le_trans (by decide) hd) ?_
  refine qp_run_E qp_ok109 8 (c' := (27, [some (.ref 34), some (.int p1)], [.int ((I1 15 0) - (I1 34 1)), .int p1, .long v1], qp_mk I1 J1)) (by with_unfolding_all rfl) hd1 trivial ?_
  obtain ⟨v2, I2, J2, e2, h⟩ := qp_bd_s h
  refine qp_cS qp_ok109 (rest := [.long v1]) (oj := 9) qp_f110 rfl rfl (gN_power l G p1 ((I1 15 0) - (I1 34 1)) I1 J1 e2 (Nat.le_refl 1)) rfl rfl rfl (Nat.le_trans (by decide) hd) ?_
  refine qp_run_E qp_ok109 1 (c' := (31, [some (.ref 34), some (.int p1)], [.long (v1 * v2)], qp_mk I2 J2)) (by with_unfolding_all rfl) hd1 trivial ?_
  obtain ⟨rfl, rfl, rfl⟩ := qp_some3 h
  exact qp_retL_E qp_ok109 rfl qp_r109.1 ⟨rfl, rfl⟩ ⟨rfl, rfl⟩
def fN_ofContent_b5  : Nat → Int32 → Int32 → Int64 → Int32 → (Nat → Nat → Int32) → (Nat → Nat → Int64) → Option (Int64 × (Nat → Nat → Int32) × (Nat → Nat → Int64))
  | 0, _, _, _, _, _, _ => none
  | n + 1, a1, a2, a3, a5, I, J =>
    if ((1 : Int32) <<< ((I 15 0) &&& 31)) ≤ a5 then (
      some (a3, I, J)
    ) else (
      qp_bd (fN_serveSet a5 I J) fun _u I1 J1 =>
      qp_bd (fN_weight a2 I1 J1) fun v2 I2 J2 =>
      fN_ofContent_b5 n a1 a2 (a3 + (v2 * (Int32.toInt64 (((I2 18 1) >>> (a1 &&& 31)) &&& 1)))) (a5 + 1) I2 J2
    )
set_option maxRecDepth 8000 in
theorem gN_ofContent_b5 {l : Launch} {G : qp_G} {d : Nat} (hd : 5 ≤ d) {r : (Int64 × (Nat → Nat → Int32) × (Nat → Nat → Int64))} {I0 : Nat → Nat → Int32} {J0 : Nat → Nat → Int64}   : ∀ (n : Nat) (a1 : Int32) (a2 : Int32) (a3 : Int64) (a5 : Int32) (I : Nat → Nat → Int32) (J : Nat → Nat → Int64), fN_ofContent_b5  n a1 a2 a3 a5 I J = some r → qp_E l G d 107 (qp_mk I0 J0) 0 0 (qp_R8 (some (.long r.1)) r.2.1 r.2.2) (5, [some (.ref 34), some (.int a1), some (.int a2), some (.long a3), none, some (.int a5)], [], qp_mk I J) := by
  have hd1 : Nat.ble 1 d = true := Nat.ble_eq_true_of_le (Nat.le_trans (by decide) hd)
  intro n
  induction n with
  | zero => intro a1 a2 a3 a5 I J h; exact absurd h (by simp [fN_ofContent_b5])
  | succ n ih =>
    intro a1 a2 a3 a5 I J h
    rw [fN_ofContent_b5] at h
    refine qp_run_E qp_ok107 7 (c' := (19, [some (.ref 34), some (.int a1), some (.int a2), some (.long a3), none, some (.int a5)], [.int ((1 : Int32) <<< ((I 15 0) &&& 31)), .int a5], qp_mk I J)) (by with_unfolding_all rfl) hd1 trivial ?_
    refine qp_br_E qp_ok107 (f := ((1 : Int32) <<< ((I 15 0) &&& 31)) ≤ a5) (ct := (58, [some (.ref 34), some (.int a1), some (.int a2), some (.long a3), none, some (.int a5)], [], qp_mk I J)) (cf := (22, [some (.ref 34), some (.int a1), some (.int a2), some (.long a3), none, some (.int a5)], [], qp_mk I J)) (by with_unfolding_all rfl) (fun h1 => ?_) (fun h1 => ?_)
    · replace h := qp_ift h1 h
      refine qp_run_E qp_ok107 1 (c' := (59, [some (.ref 34), some (.int a1), some (.int a2), some (.long a3), none, some (.int a5)], [.long a3], qp_mk I J)) (by with_unfolding_all rfl) hd1 trivial ?_
      obtain rfl := Option.some.inj h
      exact qp_retL_E qp_ok107 rfl qp_r107.1 ⟨rfl, rfl⟩ ⟨rfl, rfl⟩
    · replace h := qp_iff h1 h
      refine qp_run_E qp_ok107 2 (c' := (25, [some (.ref 34), some (.int a1), some (.int a2), some (.long a3), none, some (.int a5)], [.int a5, .ref 34], qp_mk I J)) (by with_unfolding_all rfl) hd1 trivial ?_
      obtain ⟨v1, I1, J1, e1, h⟩ := qp_bd_s h
      refine qp_cV qp_ok107 (rest := []) (oj := 9) qp_f108 rfl rfl (gN_serveSet l G a5 I J e1 (Nat.le_refl 4)) rfl rfl rfl rfl (Nat.le_trans (by decide) hd) ?_
      refine qp_run_E qp_ok107 3 (c' := (31, [some (.ref 34), some (.int a1), some (.int a2), some (.long a3), none, some (.int a5)], [.int a2, .ref 34, .long a3], qp_mk I1 J1)) (by with_unfolding_all rfl) hd1 trivial ?_
      obtain ⟨v2, I2, J2, e2, h⟩ := qp_bd_s h
      refine qp_cV qp_ok107 (rest := [.long a3]) (oj := 9) qp_f109 rfl rfl (gN_weight l G a2 I1 J1 e2 (Nat.le_refl 2)) rfl rfl rfl rfl (Nat.le_trans (by decide) hd) ?_
      refine qp_run_E qp_ok107 14 (c' := (5, [some (.ref 34), some (.int a1), some (.int a2), some (.long (a3 + (v2 * (Int32.toInt64 (((I2 18 1) >>> (a1 &&& 31)) &&& 1))))), none, some (.int (a5 + 1))], [], qp_mk I2 J2)) (by with_unfolding_all rfl) hd1 trivial ?_
      exact ih a1 a2 (a3 + (v2 * (Int32.toInt64 (((I2 18 1) >>> (a1 &&& 31)) &&& 1)))) (a5 + 1) I2 J2 h
def fN_ofContent (p1 : Int32) (p2 : Int32) (I : Nat → Nat → Int32) (J : Nat → Nat → Int64) : Option (Int64 × (Nat → Nat → Int32) × (Nat → Nat → Int64)) :=
  fN_ofContent_b5 100000 p1 p2 0 0 I J
set_option maxRecDepth 8000 in
theorem gN_ofContent (l : Launch) (G : qp_G) (p1 : Int32) (p2 : Int32) (I : Nat → Nat → Int32) (J : Nat → Nat → Int64) {v : Int64} {I' : Nat → Nat → Int32} {J' : Nat → Nat → Int64} (h : fN_ofContent p1 p2 I J = some (v, I', J')) {d : Nat} (hd : 5 ≤ d) : qp_Met l G d 107 [.ref 34, .int p1, .int p2] (qp_mk I J) 0 0 (qp_R8 (some (.long v)) I' J') := by
  have hd1 : Nat.ble 1 d = true := Nat.ble_eq_true_of_le (Nat.le_trans (by decide) hd)
  refine qp_Met_of (by decide) (by rw [qp_r107.2]; rfl) [some (.ref 34), some (.int p1), some (.int p2), none, none, none] (by rw [qp_r107.2]; rfl) ?_
  unfold fN_ofContent at h
  refine qp_run_E qp_ok107 4 (c' := (5, [some (.ref 34), some (.int p1), some (.int p2), some (.long 0), none, some (.int 0)], [], qp_mk I J)) (by with_unfolding_all rfl) hd1 trivial ?_
  exact gN_ofContent_b5 hd 100000 p1 p2 0 0 I J h
def fN_whole  (I : Nat → Nat → Int32) (J : Nat → Nat → Int64) : Option (Int64 × (Nat → Nat → Int32) × (Nat → Nat → Int64)) :=
  qp_bd (fN_power 12 (I 15 0) I J) fun v1 I1 J1 =>
  some (v1, I1, J1)
set_option maxRecDepth 8000 in
theorem gN_whole (l : Launch) (G : qp_G)  (I : Nat → Nat → Int32) (J : Nat → Nat → Int64) {v : Int64} {I' : Nat → Nat → Int32} {J' : Nat → Nat → Int64} (h : fN_whole  I J = some (v, I', J')) {d : Nat} (hd : 2 ≤ d) : qp_Met l G d 111 [.ref 34] (qp_mk I J) 0 0 (qp_R8 (some (.long v)) I' J') := by
  have hd1 : Nat.ble 1 d = true := Nat.ble_eq_true_of_le (Nat.le_trans (by decide) hd)
  refine qp_Met_of (by decide) (by rw [qp_r111.2]; rfl) [some (.ref 34)] (by rw [qp_r111.2]; rfl) ?_
  unfold fN_whole at h
  refine qp_run_E qp_ok111 5 (c' := (12, [some (.ref 34)], [.int (I 15 0), .int 12], qp_mk I J)) (by with_unfolding_all rfl) hd1 trivial ?_
  obtain ⟨v1, I1, J1, e1, h⟩ := qp_bd_s h
  refine qp_cS qp_ok111 (rest := []) (oj := 9) qp_f110 rfl rfl (gN_power l G 12 (I 15 0) I J e1 (Nat.le_refl 1)) rfl rfl rfl (Nat.le_trans (by decide) hd) ?_
  obtain ⟨rfl, rfl, rfl⟩ := qp_some3 h
  exact qp_retL_E qp_ok111 rfl qp_r111.1 ⟨rfl, rfl⟩ ⟨rfl, rfl⟩
def fX_odds (p1 : Int32) (p2 : Int32) (I : Nat → Nat → Int32) (J : Nat → Nat → Int64) : Option (Int32 × (Nat → Nat → Int32) × (Nat → Nat → Int64)) :=
  qp_bd (fC_has_15 p1 I J) fun v1 I1 J1 =>
  if v1 = 0 then (
    some ((-1), I1, J1)
  ) else (
    if p2 < 0 then (
      some ((-1), I1, J1)
    ) else (
      if p2 ≤ 12 then (
        qp_bd (fN_ofContent p1 p2 I1 J1) fun v2 I2 J2 =>
        qp_bd (fN_whole I2 J2) fun v3 I3 J3 =>
        qp_bd (fX_tellRatio v2 v3 I3 J3) fun v4 I4 J4 =>
        some (v4, I4, J4)
      ) else (
        some ((-1), I1, J1)
      )
    )
  )
set_option maxRecDepth 8000 in
theorem gX_odds (l : Launch) (G : qp_G) (p1 : Int32) (p2 : Int32) (I : Nat → Nat → Int32) (J : Nat → Nat → Int64) {v : Int32} {I' : Nat → Nat → Int32} {J' : Nat → Nat → Int64} (h : fX_odds p1 p2 I J = some (v, I', J')) {d : Nat} (hd : 6 ≤ d) : qp_Met l G d 106 [.ref 0, .int p1, .int p2] (qp_mk I J) 0 0 (qp_R8 (some (.int v)) I' J') := by
  have hd1 : Nat.ble 1 d = true := Nat.ble_eq_true_of_le (Nat.le_trans (by decide) hd)
  refine qp_Met_of (by decide) (by rw [qp_r106.2]; rfl) [some (.ref 0), some (.int p1), some (.int p2)] (by rw [qp_r106.2]; rfl) ?_
  unfold fX_odds at h
  refine qp_run_E qp_ok106 4 (c' := (8, [some (.ref 0), some (.int p1), some (.int p2)], [.int p1, .ref 15], qp_mk I J)) (by with_unfolding_all rfl) hd1 trivial ?_
  obtain ⟨v1, I1, J1, e1, h⟩ := qp_bd_s h
  refine qp_cV qp_ok106 (rest := []) (oj := 3) qp_f43 rfl rfl (gC_has_15 l G p1 I J e1 (Nat.le_refl 1)) rfl rfl rfl rfl (Nat.le_trans (by decide) hd) ?_
  refine qp_br_E qp_ok106 (f := v1 = 0) (ct := (24, [some (.ref 0), some (.int p1), some (.int p2)], [], qp_mk I1 J1)) (cf := (14, [some (.ref 0), some (.int p1), some (.int p2)], [], qp_mk I1 J1)) (by with_unfolding_all rfl) (fun h1 => ?_) (fun h1 => ?_)
  · replace h := qp_ift h1 h
    refine qp_run_E qp_ok106 1 (c' := (25, [some (.ref 0), some (.int p1), some (.int p2)], [.int (-1)], qp_mk I1 J1)) (by with_unfolding_all rfl) hd1 trivial ?_
    obtain ⟨rfl, rfl, rfl⟩ := qp_some3 h
    exact qp_retI_E qp_ok106 rfl qp_r106.1 ⟨rfl, rfl⟩ ⟨rfl, rfl⟩
  · replace h := qp_iff h1 h
    refine qp_run_E qp_ok106 1 (c' := (15, [some (.ref 0), some (.int p1), some (.int p2)], [.int p2], qp_mk I1 J1)) (by with_unfolding_all rfl) hd1 trivial ?_
    refine qp_br_E qp_ok106 (f := p2 < 0) (ct := (24, [some (.ref 0), some (.int p1), some (.int p2)], [], qp_mk I1 J1)) (cf := (18, [some (.ref 0), some (.int p1), some (.int p2)], [], qp_mk I1 J1)) (by with_unfolding_all rfl) (fun h2 => ?_) (fun h2 => ?_)
    · replace h := qp_ift h2 h
      refine qp_run_E qp_ok106 1 (c' := (25, [some (.ref 0), some (.int p1), some (.int p2)], [.int (-1)], qp_mk I1 J1)) (by with_unfolding_all rfl) hd1 trivial ?_
      obtain ⟨rfl, rfl, rfl⟩ := qp_some3 h
      exact qp_retI_E qp_ok106 rfl qp_r106.1 ⟨rfl, rfl⟩ ⟨rfl, rfl⟩
    · replace h := qp_iff h2 h
      refine qp_run_E qp_ok106 2 (c' := (21, [some (.ref 0), some (.int p1), some (.int p2)], [.int 12, .int p2], qp_mk I1 J1)) (by with_unfolding_all rfl) hd1 trivial ?_
      refine qp_br_E qp_ok106 (f := p2 ≤ 12) (ct := (26, [some (.ref 0), some (.int p1), some (.int p2)], [], qp_mk I1 J1)) (cf := (24, [some (.ref 0), some (.int p1), some (.int p2)], [], qp_mk I1 J1)) (by with_unfolding_all rfl) (fun h3 => ?_) (fun h3 => ?_)
      · replace h := qp_ift h3 h
        refine qp_run_E qp_ok106 5 (c' := (33, [some (.ref 0), some (.int p1), some (.int p2)], [.int p2, .int p1, .ref 34, .ref 0], qp_mk I1 J1)) (by with_unfolding_all rfl) hd1 trivial ?_
        obtain ⟨v2, I2, J2, e2, h⟩ := qp_bd_s h
        refine qp_cV qp_ok106 (rest := [.ref 0]) (oj := 9) qp_f107 rfl rfl (gN_ofContent l G p1 p2 I1 J1 e2 (Nat.le_refl 5)) rfl rfl rfl rfl (Nat.le_trans (by decide) hd) ?_
        refine qp_run_E qp_ok106 2 (c' := (40, [some (.ref 0), some (.int p1), some (.int p2)], [.ref 34, .long v2, .ref 0], qp_mk I2 J2)) (by with_unfolding_all rfl) hd1 trivial ?_
        obtain ⟨v3, I3, J3, e3, h⟩ := qp_bd_s h
        refine qp_cV qp_ok106 (rest := [.long v2, .ref 0]) (oj := 9) qp_f111 rfl rfl (gN_whole l G I2 J2 e3 (Nat.le_refl 2)) rfl rfl rfl rfl (Nat.le_trans (by decide) hd) ?_
        obtain ⟨v4, I4, J4, e4, h⟩ := qp_bd_s h
        refine qp_cV qp_ok106 (rest := []) (oj := 0) qp_f93 rfl rfl (gX_tellRatio l G v2 v3 I3 J3 e4 (Nat.le_refl 2)) rfl rfl rfl rfl (Nat.le_trans (by decide) hd) ?_
        obtain ⟨rfl, rfl, rfl⟩ := qp_some3 h
        exact qp_retI_E qp_ok106 rfl qp_r106.1 ⟨rfl, rfl⟩ ⟨rfl, rfl⟩
      · replace h := qp_iff h3 h
        refine qp_run_E qp_ok106 1 (c' := (25, [some (.ref 0), some (.int p1), some (.int p2)], [.int (-1)], qp_mk I1 J1)) (by with_unfolding_all rfl) hd1 trivial ?_
        obtain ⟨rfl, rfl, rfl⟩ := qp_some3 h
        exact qp_retI_E qp_ok106 rfl qp_r106.1 ⟨rfl, rfl⟩ ⟨rfl, rfl⟩
def fV_leftInTheEnd  (I : Nat → Nat → Int32) (J : Nat → Nat → Int64) : Option (Int32 × (Nat → Nat → Int32) × (Nat → Nat → Int64)) :=
  some ((I 18 4), I, J)
set_option maxRecDepth 8000 in
theorem gV_leftInTheEnd (l : Launch) (G : qp_G)  (I : Nat → Nat → Int32) (J : Nat → Nat → Int64) {v : Int32} {I' : Nat → Nat → Int32} {J' : Nat → Nat → Int64} (h : fV_leftInTheEnd  I J = some (v, I', J')) {d : Nat} (hd : 1 ≤ d) : qp_Met l G d 114 [.ref 18] (qp_mk I J) 0 0 (qp_R8 (some (.int v)) I' J') := by
  have hd1 : Nat.ble 1 d = true := Nat.ble_eq_true_of_le (Nat.le_trans (by decide) hd)
  refine qp_Met_of (by decide) (by rw [qp_r114.2]; rfl) [some (.ref 18)] (by rw [qp_r114.2]; rfl) ?_
  unfold fV_leftInTheEnd at h
  refine qp_run_E qp_ok114 2 (c' := (4, [some (.ref 18)], [.int (I 18 4)], qp_mk I J)) (by with_unfolding_all rfl) hd1 trivial ?_
  obtain ⟨rfl, rfl, rfl⟩ := qp_some3 h
  exact qp_retI_E qp_ok114 rfl qp_r114.1 ⟨rfl, rfl⟩ ⟨rfl, rfl⟩
def fN_ofLeft_b5  : Nat → Int32 → Int64 → Int32 → (Nat → Nat → Int32) → (Nat → Nat → Int64) → Option (Int64 × (Nat → Nat → Int32) × (Nat → Nat → Int64))
  | 0, _, _, _, _, _ => none
  | n + 1, a1, a2, a4, I, J =>
    if ((1 : Int32) <<< ((I 15 0) &&& 31)) ≤ a4 then (
      some (a2, I, J)
    ) else (
      qp_bd (fN_serveSet a4 I J) fun _u I1 J1 =>
      qp_bd (fN_weight a1 I1 J1) fun v2 I2 J2 =>
      qp_bd (fV_leftInTheEnd I2 J2) fun v3 I3 J3 =>
      fN_ofLeft_b5 n a1 (a2 + (v2 * (Int32.toInt64 v3))) (a4 + 1) I3 J3
    )
set_option maxRecDepth 8000 in
theorem gN_ofLeft_b5 {l : Launch} {G : qp_G} {d : Nat} (hd : 5 ≤ d) {r : (Int64 × (Nat → Nat → Int32) × (Nat → Nat → Int64))} {I0 : Nat → Nat → Int32} {J0 : Nat → Nat → Int64}   : ∀ (n : Nat) (a1 : Int32) (a2 : Int64) (a4 : Int32) (I : Nat → Nat → Int32) (J : Nat → Nat → Int64), fN_ofLeft_b5  n a1 a2 a4 I J = some r → qp_E l G d 113 (qp_mk I0 J0) 0 0 (qp_R8 (some (.long r.1)) r.2.1 r.2.2) (5, [some (.ref 34), some (.int a1), some (.long a2), none, some (.int a4)], [], qp_mk I J) := by
  have hd1 : Nat.ble 1 d = true := Nat.ble_eq_true_of_le (Nat.le_trans (by decide) hd)
  intro n
  induction n with
  | zero => intro a1 a2 a4 I J h; exact absurd h (by simp [fN_ofLeft_b5])
  | succ n ih =>
    intro a1 a2 a4 I J h
    rw [fN_ofLeft_b5] at h
    refine qp_run_E qp_ok113 7 (c' := (19, [some (.ref 34), some (.int a1), some (.long a2), none, some (.int a4)], [.int ((1 : Int32) <<< ((I 15 0) &&& 31)), .int a4], qp_mk I J)) (by with_unfolding_all rfl) hd1 trivial ?_
    refine qp_br_E qp_ok113 (f := ((1 : Int32) <<< ((I 15 0) &&& 31)) ≤ a4) (ct := (54, [some (.ref 34), some (.int a1), some (.long a2), none, some (.int a4)], [], qp_mk I J)) (cf := (22, [some (.ref 34), some (.int a1), some (.long a2), none, some (.int a4)], [], qp_mk I J)) (by with_unfolding_all rfl) (fun h1 => ?_) (fun h1 => ?_)
    · replace h := qp_ift h1 h
      refine qp_run_E qp_ok113 1 (c' := (55, [some (.ref 34), some (.int a1), some (.long a2), none, some (.int a4)], [.long a2], qp_mk I J)) (by with_unfolding_all rfl) hd1 trivial ?_
      obtain rfl := Option.some.inj h
      exact qp_retL_E qp_ok113 rfl qp_r113.1 ⟨rfl, rfl⟩ ⟨rfl, rfl⟩
    · replace h := qp_iff h1 h
      refine qp_run_E qp_ok113 2 (c' := (25, [some (.ref 34), some (.int a1), some (.long a2), none, some (.int a4)], [.int a4, .ref 34], qp_mk I J)) (by with_unfolding_all rfl) hd1 trivial ?_
      obtain ⟨v1, I1, J1, e1, h⟩ := qp_bd_s h
      refine qp_cV qp_ok113 (rest := []) (oj := 9) qp_f108 rfl rfl (gN_serveSet l G a4 I J e1 (Nat.le_refl 4)) rfl rfl rfl rfl (Nat.le_trans (by decide) hd) ?_
      refine qp_run_E qp_ok113 3 (c' := (31, [some (.ref 34), some (.int a1), some (.long a2), none, some (.int a4)], [.int a1, .ref 34, .long a2], qp_mk I1 J1)) (by with_unfolding_all rfl) hd1 trivial ?_
      obtain ⟨v2, I2, J2, e2, h⟩ := qp_bd_s h
      refine qp_cV qp_ok113 (rest := [.long a2]) (oj := 9) qp_f109 rfl rfl (gN_weight l G a1 I1 J1 e2 (Nat.le_refl 2)) rfl rfl rfl rfl (Nat.le_trans (by decide) hd) ?_
      refine qp_run_E qp_ok113 3 (c' := (41, [some (.ref 34), some (.int a1), some (.long a2), none, some (.int a4)], [.ref 18, .long v2, .long a2], qp_mk I2 J2)) (by with_unfolding_all rfl) hd1 trivial ?_
      obtain ⟨v3, I3, J3, e3, h⟩ := qp_bd_s h
      refine qp_cV qp_ok113 (rest := [.long v2, .long a2]) (oj := 5) qp_f114 rfl rfl (gV_leftInTheEnd l G I2 J2 e3 (Nat.le_refl 1)) rfl rfl rfl rfl (Nat.le_trans (by decide) hd) ?_
      refine qp_run_E qp_ok113 6 (c' := (5, [some (.ref 34), some (.int a1), some (.long (a2 + (v2 * (Int32.toInt64 v3)))), none, some (.int (a4 + 1))], [], qp_mk I3 J3)) (by with_unfolding_all rfl) hd1 trivial ?_
      exact ih a1 (a2 + (v2 * (Int32.toInt64 v3))) (a4 + 1) I3 J3 h
def fN_ofLeft (p1 : Int32) (I : Nat → Nat → Int32) (J : Nat → Nat → Int64) : Option (Int64 × (Nat → Nat → Int32) × (Nat → Nat → Int64)) :=
  fN_ofLeft_b5 100000 p1 0 0 I J
set_option maxRecDepth 8000 in
theorem gN_ofLeft (l : Launch) (G : qp_G) (p1 : Int32) (I : Nat → Nat → Int32) (J : Nat → Nat → Int64) {v : Int64} {I' : Nat → Nat → Int32} {J' : Nat → Nat → Int64} (h : fN_ofLeft p1 I J = some (v, I', J')) {d : Nat} (hd : 5 ≤ d) : qp_Met l G d 113 [.ref 34, .int p1] (qp_mk I J) 0 0 (qp_R8 (some (.long v)) I' J') := by
  have hd1 : Nat.ble 1 d = true := Nat.ble_eq_true_of_le (Nat.le_trans (by decide) hd)
  refine qp_Met_of (by decide) (by rw [qp_r113.2]; rfl) [some (.ref 34), some (.int p1), none, none, none] (by rw [qp_r113.2]; rfl) ?_
  unfold fN_ofLeft at h
  refine qp_run_E qp_ok113 4 (c' := (5, [some (.ref 34), some (.int p1), some (.long 0), none, some (.int 0)], [], qp_mk I J)) (by with_unfolding_all rfl) hd1 trivial ?_
  exact gN_ofLeft_b5 hd 100000 p1 0 0 I J h
def fX_mid (p1 : Int32) (I : Nat → Nat → Int32) (J : Nat → Nat → Int64) : Option (Int32 × (Nat → Nat → Int32) × (Nat → Nat → Int64)) :=
  if p1 < 0 then (
    some ((-1), I, J)
  ) else (
    if p1 ≤ 12 then (
      if ¬ (I 15 0) = 0 then (
        qp_bd (fN_ofLeft p1 I J) fun v1 I1 J1 =>
        qp_bd (fN_whole I1 J1) fun v2 I2 J2 =>
        qp_bd (fX_tellRatio v1 v2 I2 J2) fun v3 I3 J3 =>
        some (v3, I3, J3)
      ) else (
        some ((-4), I, J)
      )
    ) else (
      some ((-1), I, J)
    )
  )
set_option maxRecDepth 8000 in
theorem gX_mid (l : Launch) (G : qp_G) (p1 : Int32) (I : Nat → Nat → Int32) (J : Nat → Nat → Int64) {v : Int32} {I' : Nat → Nat → Int32} {J' : Nat → Nat → Int64} (h : fX_mid p1 I J = some (v, I', J')) {d : Nat} (hd : 6 ≤ d) : qp_Met l G d 112 [.ref 0, .int p1] (qp_mk I J) 0 0 (qp_R8 (some (.int v)) I' J') := by
  have hd1 : Nat.ble 1 d = true := Nat.ble_eq_true_of_le (Nat.le_trans (by decide) hd)
  refine qp_Met_of (by decide) (by rw [qp_r112.2]; rfl) [some (.ref 0), some (.int p1)] (by rw [qp_r112.2]; rfl) ?_
  unfold fX_mid at h
  refine qp_run_E qp_ok112 1 (c' := (1, [some (.ref 0), some (.int p1)], [.int p1], qp_mk I J)) (by with_unfolding_all rfl) hd1 trivial ?_
  refine qp_br_E qp_ok112 (f := p1 < 0) (ct := (10, [some (.ref 0), some (.int p1)], [], qp_mk I J)) (cf := (4, [some (.ref 0), some (.int p1)], [], qp_mk I J)) (by with_unfolding_all rfl) (fun h1 => ?_) (fun h1 => ?_)
  · replace h := qp_ift h1 h
    refine qp_run_E qp_ok112 1 (c' := (11, [some (.ref 0), some (.int p1)], [.int (-1)], qp_mk I J)) (by with_unfolding_all rfl) hd1 trivial ?_
    obtain ⟨rfl, rfl, rfl⟩ := qp_some3 h
    exact qp_retI_E qp_ok112 rfl qp_r112.1 ⟨rfl, rfl⟩ ⟨rfl, rfl⟩
  · replace h := qp_iff h1 h
    refine qp_run_E qp_ok112 2 (c' := (7, [some (.ref 0), some (.int p1)], [.int 12, .int p1], qp_mk I J)) (by with_unfolding_all rfl) hd1 trivial ?_
    refine qp_br_E qp_ok112 (f := p1 ≤ 12) (ct := (12, [some (.ref 0), some (.int p1)], [], qp_mk I J)) (cf := (10, [some (.ref 0), some (.int p1)], [], qp_mk I J)) (by with_unfolding_all rfl) (fun h2 => ?_) (fun h2 => ?_)
    · replace h := qp_ift h2 h
      refine qp_run_E qp_ok112 4 (c' := (22, [some (.ref 0), some (.int p1)], [.int (I 15 0)], qp_mk I J)) (by with_unfolding_all rfl) hd1 trivial ?_
      refine qp_br_E qp_ok112 (f := ¬ (I 15 0) = 0) (ct := (28, [some (.ref 0), some (.int p1)], [], qp_mk I J)) (cf := (25, [some (.ref 0), some (.int p1)], [], qp_mk I J)) (by with_unfolding_all rfl) (fun h3 => ?_) (fun h3 => ?_)
      · replace h := qp_ift h3 h
        refine qp_run_E qp_ok112 4 (c' := (34, [some (.ref 0), some (.int p1)], [.int p1, .ref 34, .ref 0], qp_mk I J)) (by with_unfolding_all rfl) hd1 trivial ?_
        obtain ⟨v1, I1, J1, e1, h⟩ := qp_bd_s h
        refine qp_cV qp_ok112 (rest := [.ref 0]) (oj := 9) qp_f113 rfl rfl (gN_ofLeft l G p1 I J e1 (Nat.le_refl 5)) rfl rfl rfl rfl (Nat.le_trans (by decide) hd) ?_
        refine qp_run_E qp_ok112 2 (c' := (41, [some (.ref 0), some (.int p1)], [.ref 34, .long v1, .ref 0], qp_mk I1 J1)) (by with_unfolding_all rfl) hd1 trivial ?_
        obtain ⟨v2, I2, J2, e2, h⟩ := qp_bd_s h
        refine qp_cV qp_ok112 (rest := [.long v1, .ref 0]) (oj := 9) qp_f111 rfl rfl (gN_whole l G I1 J1 e2 (Nat.le_refl 2)) rfl rfl rfl rfl (Nat.le_trans (by decide) hd) ?_
        obtain ⟨v3, I3, J3, e3, h⟩ := qp_bd_s h
        refine qp_cV qp_ok112 (rest := []) (oj := 0) qp_f93 rfl rfl (gX_tellRatio l G v1 v2 I2 J2 e3 (Nat.le_refl 2)) rfl rfl rfl rfl (Nat.le_trans (by decide) hd) ?_
        obtain ⟨rfl, rfl, rfl⟩ := qp_some3 h
        exact qp_retI_E qp_ok112 rfl qp_r112.1 ⟨rfl, rfl⟩ ⟨rfl, rfl⟩
      · replace h := qp_iff h3 h
        refine qp_run_E qp_ok112 1 (c' := (27, [some (.ref 0), some (.int p1)], [.int (-4)], qp_mk I J)) (by with_unfolding_all rfl) hd1 trivial ?_
        obtain ⟨rfl, rfl, rfl⟩ := qp_some3 h
        exact qp_retI_E qp_ok112 rfl qp_r112.1 ⟨rfl, rfl⟩ ⟨rfl, rfl⟩
    · replace h := qp_iff h2 h
      refine qp_run_E qp_ok112 1 (c' := (11, [some (.ref 0), some (.int p1)], [.int (-1)], qp_mk I J)) (by with_unfolding_all rfl) hd1 trivial ?_
      obtain ⟨rfl, rfl, rfl⟩ := qp_some3 h
      exact qp_retI_E qp_ok112 rfl qp_r112.1 ⟨rfl, rfl⟩ ⟨rfl, rfl⟩
def fV_gainOfAll  (I : Nat → Nat → Int32) (J : Nat → Nat → Int64) : Option (Int32 × (Nat → Nat → Int32) × (Nat → Nat → Int64)) :=
  some (((I 18 3) - (I 18 4)), I, J)
set_option maxRecDepth 8000 in
theorem gV_gainOfAll (l : Launch) (G : qp_G)  (I : Nat → Nat → Int32) (J : Nat → Nat → Int64) {v : Int32} {I' : Nat → Nat → Int32} {J' : Nat → Nat → Int64} (h : fV_gainOfAll  I J = some (v, I', J')) {d : Nat} (hd : 1 ≤ d) : qp_Met l G d 117 [.ref 18] (qp_mk I J) 0 0 (qp_R8 (some (.int v)) I' J') := by
  have hd1 : Nat.ble 1 d = true := Nat.ble_eq_true_of_le (Nat.le_trans (by decide) hd)
  refine qp_Met_of (by decide) (by rw [qp_r117.2]; rfl) [some (.ref 18)] (by rw [qp_r117.2]; rfl) ?_
  unfold fV_gainOfAll at h
  refine qp_run_E qp_ok117 5 (c' := (9, [some (.ref 18)], [.int ((I 18 3) - (I 18 4))], qp_mk I J)) (by with_unfolding_all rfl) hd1 trivial ?_
  obtain ⟨rfl, rfl, rfl⟩ := qp_some3 h
  exact qp_retI_E qp_ok117 rfl qp_r117.1 ⟨rfl, rfl⟩ ⟨rfl, rfl⟩
def fL_actByLot_b69   (a1 : Int32) (a2 : Int32) (a3 : Int32) (I : Nat → Nat → Int32) (J : Nat → Nat → Int64) : Option (Unit × (Nat → Nat → Int32) × (Nat → Nat → Int64)) :=
  if 6 ≤ a2 then (
    qp_bd (fL_act 0 0 I J) fun _u I1 J1 =>
    some ((), I1, J1)
  ) else (
    qp_gd ((¬ (I 15 0) = 0)) <|
    qp_bd (fL_canSell (((8 : Int32) * (a1 - a1 / (I 15 0) * (I 15 0))) + (a3 - a3 / (I 15 0) * (I 15 0))) I J) fun v2 I2 J2 =>
    if v2 = 0 then (
      qp_bd (fL_act 0 0 I2 J2) fun _u I3 J3 =>
      some ((), I3, J3)
    ) else (
      qp_gd ((¬ (I2 15 0) = 0)) <|
      qp_bd (fL_act 1 (((8 : Int32) * (a1 - a1 / (I2 15 0) * (I2 15 0))) + (a3 - a3 / (I2 15 0) * (I2 15 0))) I2 J2) fun _u I4 J4 =>
      some ((), I4, J4)
    )
  )
set_option maxRecDepth 8000 in
theorem gL_actByLot_b69 {l : Launch} {G : qp_G} {d : Nat} (hd : 6 ≤ d) {r : (Unit × (Nat → Nat → Int32) × (Nat → Nat → Int64))} {I0 : Nat → Nat → Int32} {J0 : Nat → Nat → Int64}   : ∀ (a1 : Int32) (a2 : Int32) (a3 : Int32) (I : Nat → Nat → Int32) (J : Nat → Nat → Int64), fL_actByLot_b69  a1 a2 a3 I J = some r → qp_E l G d 116 (qp_mk I0 J0) 0 0 (qp_R8 none r.2.1 r.2.2) (69, [some (.ref 14), some (.int a1), some (.int a2), some (.int a3)], [], qp_mk I J) := by
  have hd1 : Nat.ble 1 d = true := Nat.ble_eq_true_of_le (Nat.le_trans (by decide) hd)
  intro a1 a2 a3 I J h
  unfold fL_actByLot_b69 at h
  refine qp_run_E qp_ok116 2 (c' := (72, [some (.ref 14), some (.int a1), some (.int a2), some (.int a3)], [.int 6, .int a2], qp_mk I J)) (by with_unfolding_all rfl) hd1 trivial ?_
  refine qp_br_E qp_ok116 (f := 6 ≤ a2) (ct := (134, [some (.ref 14), some (.int a1), some (.int a2), some (.int a3)], [], qp_mk I J)) (cf := (75, [some (.ref 14), some (.int a1), some (.int a2), some (.int a3)], [], qp_mk I J)) (by with_unfolding_all rfl) (fun h1 => ?_) (fun h1 => ?_)
  · replace h := qp_ift h1 h
    refine qp_run_E qp_ok116 3 (c' := (137, [some (.ref 14), some (.int a1), some (.int a2), some (.int a3)], [.int 0, .int 0, .ref 14], qp_mk I J)) (by with_unfolding_all rfl) hd1 trivial ?_
    obtain ⟨v1, I1, J1, e1, h⟩ := qp_bd_s h
    refine qp_cV qp_ok116 (rest := []) (oj := 4) qp_f48 rfl rfl (gL_act l G 0 0 I J e1 (Nat.le_refl 5)) rfl rfl rfl rfl (Nat.le_trans (by decide) hd) ?_
    obtain rfl := Option.some.inj h
    exact qp_retV_E qp_ok116 rfl qp_r116.1 ⟨rfl, rfl⟩ ⟨rfl, rfl⟩
  · replace h := qp_iff h1 h
    obtain ⟨h2, h⟩ := qp_gd_s h
    refine qp_run_E qp_ok116 14 (f := ¬ ((I 15 0) : Int32) = 0 ∧ ¬ ((I 15 0) : Int32) = 0 ∧ True) (c' := (98, [some (.ref 14), some (.int a1), some (.int a2), some (.int a3)], [.int (((8 : Int32) * (a1 - a1 / (I 15 0) * (I 15 0))) + (a3 - a3 / (I 15 0) * (I 15 0))), .ref 14], qp_mk I J)) (by with_unfolding_all rfl) hd1 ⟨h2, h2, trivial⟩ ?_
    obtain ⟨v2, I2, J2, e2, h⟩ := qp_bd_s h
    refine qp_cV qp_ok116 (rest := []) (oj := 4) qp_f44 rfl rfl (gL_canSell l G (((8 : Int32) * (a1 - a1 / (I 15 0) * (I 15 0))) + (a3 - a3 / (I 15 0) * (I 15 0))) I J e2 (Nat.le_refl 4)) rfl rfl rfl rfl (Nat.le_trans (by decide) hd) ?_
    refine qp_br_E qp_ok116 (f := v2 = 0) (ct := (134, [some (.ref 14), some (.int a1), some (.int a2), some (.int a3)], [], qp_mk I2 J2)) (cf := (104, [some (.ref 14), some (.int a1), some (.int a2), some (.int a3)], [], qp_mk I2 J2)) (by with_unfolding_all rfl) (fun h3 => ?_) (fun h3 => ?_)
    · replace h := qp_ift h3 h
      refine qp_run_E qp_ok116 3 (c' := (137, [some (.ref 14), some (.int a1), some (.int a2), some (.int a3)], [.int 0, .int 0, .ref 14], qp_mk I2 J2)) (by with_unfolding_all rfl) hd1 trivial ?_
      obtain ⟨v3, I3, J3, e3, h⟩ := qp_bd_s h
      refine qp_cV qp_ok116 (rest := []) (oj := 4) qp_f48 rfl rfl (gL_act l G 0 0 I2 J2 e3 (Nat.le_refl 5)) rfl rfl rfl rfl (Nat.le_trans (by decide) hd) ?_
      obtain rfl := Option.some.inj h
      exact qp_retV_E qp_ok116 rfl qp_r116.1 ⟨rfl, rfl⟩ ⟨rfl, rfl⟩
    · replace h := qp_iff h3 h
      obtain ⟨h4, h⟩ := qp_gd_s h
      refine qp_run_E qp_ok116 15 (f := ¬ ((I2 15 0) : Int32) = 0 ∧ ¬ ((I2 15 0) : Int32) = 0 ∧ True) (c' := (128, [some (.ref 14), some (.int a1), some (.int a2), some (.int a3)], [.int (((8 : Int32) * (a1 - a1 / (I2 15 0) * (I2 15 0))) + (a3 - a3 / (I2 15 0) * (I2 15 0))), .int 1, .ref 14], qp_mk I2 J2)) (by with_unfolding_all rfl) hd1 ⟨h4, h4, trivial⟩ ?_
      obtain ⟨v4, I4, J4, e4, h⟩ := qp_bd_s h
      refine qp_cV qp_ok116 (rest := []) (oj := 4) qp_f48 rfl rfl (gL_act l G 1 (((8 : Int32) * (a1 - a1 / (I2 15 0) * (I2 15 0))) + (a3 - a3 / (I2 15 0) * (I2 15 0))) I2 J2 e4 (Nat.le_refl 5)) rfl rfl rfl rfl (Nat.le_trans (by decide) hd) ?_
      refine qp_run_E qp_ok116 1 (c' := (140, [some (.ref 14), some (.int a1), some (.int a2), some (.int a3)], [], qp_mk I4 J4)) (by with_unfolding_all rfl) hd1 trivial ?_
      obtain rfl := Option.some.inj h
      exact qp_retV_E qp_ok116 rfl qp_r116.1 ⟨rfl, rfl⟩ ⟨rfl, rfl⟩
def fL_actByLot (p1 : Int32) (I : Nat → Nat → Int32) (J : Nat → Nat → Int64) : Option (Unit × (Nat → Nat → Int32) × (Nat → Nat → Int64)) :=
  if ¬ (I 15 0) = 0 then (
    if ¬ ((p1 / 8) - (p1 / 8) / 8 * 8) = 7 then (
      if ¬ ((p1 / 8) - (p1 / 8) / 8 * 8) = 6 then (
        fL_actByLot_b69 p1 ((p1 / 8) - (p1 / 8) / 8 * 8) (p1 / 64) I J
      ) else (
        if (I 14 4) ≤ 0 then (
          fL_actByLot_b69 p1 ((p1 / 8) - (p1 / 8) / 8 * 8) (p1 / 64) I J
        ) else (
          qp_gd ((¬ (I 14 4) = 0)) <|
          qp_bd (fL_act 2 ((p1 / 64) - (p1 / 64) / (I 14 4) * (I 14 4)) I J) fun _u I1 J1 =>
          some ((), I1, J1)
        )
      )
    ) else (
      qp_bd (fL_act 3 ((p1 / 64) - (p1 / 64) / 21 * 21) I J) fun _u I2 J2 =>
      some ((), I2, J2)
    )
  ) else (
    some ((), I, J)
  )
set_option maxRecDepth 8000 in
theorem gL_actByLot (l : Launch) (G : qp_G) (p1 : Int32) (I : Nat → Nat → Int32) (J : Nat → Nat → Int64) {v : Unit} {I' : Nat → Nat → Int32} {J' : Nat → Nat → Int64} (h : fL_actByLot p1 I J = some (v, I', J')) {d : Nat} (hd : 6 ≤ d) : qp_Met l G d 116 [.ref 14, .int p1] (qp_mk I J) 0 0 (qp_R8 none I' J') := by
  have hd1 : Nat.ble 1 d = true := Nat.ble_eq_true_of_le (Nat.le_trans (by decide) hd)
  refine qp_Met_of (by decide) (by rw [qp_r116.2]; rfl) [some (.ref 14), some (.int p1), none, none] (by rw [qp_r116.2]; rfl) ?_
  unfold fL_actByLot at h
  refine qp_run_E qp_ok116 3 (c' := (7, [some (.ref 14), some (.int p1), none, none], [.int (I 15 0)], qp_mk I J)) (by with_unfolding_all rfl) hd1 trivial ?_
  refine qp_br_E qp_ok116 (f := ¬ (I 15 0) = 0) (ct := (11, [some (.ref 14), some (.int p1), none, none], [], qp_mk I J)) (cf := (10, [some (.ref 14), some (.int p1), none, none], [], qp_mk I J)) (by with_unfolding_all rfl) (fun h1 => ?_) (fun h1 => ?_)
  · replace h := qp_ift h1 h
    refine qp_run_E qp_ok116 12 (f := ¬ (8 : Int32) = 0 ∧ ¬ (8 : Int32) = 0 ∧ ¬ (64 : Int32) = 0 ∧ True) (c' := (27, [some (.ref 14), some (.int p1), some (.int ((p1 / 8) - (p1 / 8) / 8 * 8)), some (.int (p1 / 64))], [.int 7, .int ((p1 / 8) - (p1 / 8) / 8 * 8)], qp_mk I J)) (by with_unfolding_all rfl) hd1 ⟨(by decide), (by decide), (by decide), trivial⟩ ?_
    refine qp_br_E qp_ok116 (f := ¬ ((p1 / 8) - (p1 / 8) / 8 * 8) = 7) (ct := (42, [some (.ref 14), some (.int p1), some (.int ((p1 / 8) - (p1 / 8) / 8 * 8)), some (.int (p1 / 64))], [], qp_mk I J)) (cf := (30, [some (.ref 14), some (.int p1), some (.int ((p1 / 8) - (p1 / 8) / 8 * 8)), some (.int (p1 / 64))], [], qp_mk I J)) (by with_unfolding_all rfl) (fun h2 => ?_) (fun h2 => ?_)
    · replace h := qp_ift h2 h
      refine qp_run_E qp_ok116 2 (c' := (45, [some (.ref 14), some (.int p1), some (.int ((p1 / 8) - (p1 / 8) / 8 * 8)), some (.int (p1 / 64))], [.int 6, .int ((p1 / 8) - (p1 / 8) / 8 * 8)], qp_mk I J)) (by with_unfolding_all rfl) hd1 trivial ?_
      refine qp_br_E qp_ok116 (f := ¬ ((p1 / 8) - (p1 / 8) / 8 * 8) = 6) (ct := (69, [some (.ref 14), some (.int p1), some (.int ((p1 / 8) - (p1 / 8) / 8 * 8)), some (.int (p1 / 64))], [], qp_mk I J)) (cf := (48, [some (.ref 14), some (.int p1), some (.int ((p1 / 8) - (p1 / 8) / 8 * 8)), some (.int (p1 / 64))], [], qp_mk I J)) (by with_unfolding_all rfl) (fun h3 => ?_) (fun h3 => ?_)
      · replace h := qp_ift h3 h
        exact gL_actByLot_b69 hd p1 ((p1 / 8) - (p1 / 8) / 8 * 8) (p1 / 64) I J h
      · replace h := qp_iff h3 h
        refine qp_run_E qp_ok116 2 (c' := (52, [some (.ref 14), some (.int p1), some (.int ((p1 / 8) - (p1 / 8) / 8 * 8)), some (.int (p1 / 64))], [.int (I 14 4)], qp_mk I J)) (by with_unfolding_all rfl) hd1 trivial ?_
        refine qp_br_E qp_ok116 (f := (I 14 4) ≤ 0) (ct := (69, [some (.ref 14), some (.int p1), some (.int ((p1 / 8) - (p1 / 8) / 8 * 8)), some (.int (p1 / 64))], [], qp_mk I J)) (cf := (55, [some (.ref 14), some (.int p1), some (.int ((p1 / 8) - (p1 / 8) / 8 * 8)), some (.int (p1 / 64))], [], qp_mk I J)) (by with_unfolding_all rfl) (fun h4 => ?_) (fun h4 => ?_)
        · replace h := qp_ift h4 h
          exact gL_actByLot_b69 hd p1 ((p1 / 8) - (p1 / 8) / 8 * 8) (p1 / 64) I J h
        · replace h := qp_iff h4 h
          obtain ⟨h5, h⟩ := qp_gd_s h
          refine qp_run_E qp_ok116 6 (f := ¬ ((I 14 4) : Int32) = 0 ∧ True) (c' := (63, [some (.ref 14), some (.int p1), some (.int ((p1 / 8) - (p1 / 8) / 8 * 8)), some (.int (p1 / 64))], [.int ((p1 / 64) - (p1 / 64) / (I 14 4) * (I 14 4)), .int 2, .ref 14], qp_mk I J)) (by with_unfolding_all rfl) hd1 ⟨h5, trivial⟩ ?_
          obtain ⟨v1, I1, J1, e1, h⟩ := qp_bd_s h
          refine qp_cV qp_ok116 (rest := []) (oj := 4) qp_f48 rfl rfl (gL_act l G 2 ((p1 / 64) - (p1 / 64) / (I 14 4) * (I 14 4)) I J e1 (Nat.le_refl 5)) rfl rfl rfl rfl (Nat.le_trans (by decide) hd) ?_
          refine qp_run_E qp_ok116 1 (c' := (140, [some (.ref 14), some (.int p1), some (.int ((p1 / 8) - (p1 / 8) / 8 * 8)), some (.int (p1 / 64))], [], qp_mk I1 J1)) (by with_unfolding_all rfl) hd1 trivial ?_
          obtain ⟨rfl, rfl, rfl⟩ := qp_some3 h
          exact qp_retV_E qp_ok116 rfl qp_r116.1 ⟨rfl, rfl⟩ ⟨rfl, rfl⟩
    · replace h := qp_iff h2 h
      refine qp_run_E qp_ok116 5 (f := ¬ (21 : Int32) = 0 ∧ True) (c' := (36, [some (.ref 14), some (.int p1), some (.int ((p1 / 8) - (p1 / 8) / 8 * 8)), some (.int (p1 / 64))], [.int ((p1 / 64) - (p1 / 64) / 21 * 21), .int 3, .ref 14], qp_mk I J)) (by with_unfolding_all rfl) hd1 ⟨(by decide), trivial⟩ ?_
      obtain ⟨v2, I2, J2, e2, h⟩ := qp_bd_s h
      refine qp_cV qp_ok116 (rest := []) (oj := 4) qp_f48 rfl rfl (gL_act l G 3 ((p1 / 64) - (p1 / 64) / 21 * 21) I J e2 (Nat.le_refl 5)) rfl rfl rfl rfl (Nat.le_trans (by decide) hd) ?_
      refine qp_run_E qp_ok116 1 (c' := (140, [some (.ref 14), some (.int p1), some (.int ((p1 / 8) - (p1 / 8) / 8 * 8)), some (.int (p1 / 64))], [], qp_mk I2 J2)) (by with_unfolding_all rfl) hd1 trivial ?_
      obtain ⟨rfl, rfl, rfl⟩ := qp_some3 h
      exact qp_retV_E qp_ok116 rfl qp_r116.1 ⟨rfl, rfl⟩ ⟨rfl, rfl⟩
  · replace h := qp_iff h1 h
    obtain ⟨rfl, rfl, rfl⟩ := qp_some3 h
    exact qp_retV_E qp_ok116 rfl qp_r116.1 ⟨rfl, rfl⟩ ⟨rfl, rfl⟩
def fX_lots_b64  : Nat → Int32 → Int64 → Int32 → (Nat → Nat → Int32) → (Nat → Nat → Int64) → Option (Int32 × (Nat → Nat → Int32) × (Nat → Nat → Int64))
  | 0, _, _, _, _, _ => none
  | n + 1, a1, a3, a5, I, J =>
    if a1 ≤ a5 then (
      qp_bd (fL_serve (I 14 2) I J) fun _u I1 J1 =>
      qp_bd (fV_gainOfAll I1 J1) fun v2 I2 J2 =>
      some (v2, I2, J2)
    ) else (
      qp_bd (fL_actByLot (Int64.toInt32 ((a3 * 48271) - (a3 * 48271) / 2147483647 * 2147483647)) I J) fun _u I3 J3 =>
      fX_lots_b64 n a1 ((a3 * 48271) - (a3 * 48271) / 2147483647 * 2147483647) (a5 + 1) I3 J3
    )
set_option maxRecDepth 8000 in
theorem gX_lots_b64 {l : Launch} {G : qp_G} {d : Nat} (hd : 7 ≤ d) {r : (Int32 × (Nat → Nat → Int32) × (Nat → Nat → Int64))} {I0 : Nat → Nat → Int32} {J0 : Nat → Nat → Int64}   : ∀ (n : Nat) (a1 : Int32) (a3 : Int64) (a5 : Int32) (I : Nat → Nat → Int32) (J : Nat → Nat → Int64), fX_lots_b64  n a1 a3 a5 I J = some r → qp_E l G d 115 (qp_mk I0 J0) 0 0 (qp_R8 (some (.int r.1)) r.2.1 r.2.2) (64, [some (.ref 0), some (.int a1), none, some (.long a3), none, some (.int a5)], [], qp_mk I J) := by
  have hd1 : Nat.ble 1 d = true := Nat.ble_eq_true_of_le (Nat.le_trans (by decide) hd)
  intro n
  induction n with
  | zero => intro a1 a3 a5 I J h; exact absurd h (by simp [fX_lots_b64])
  | succ n ih =>
    intro a1 a3 a5 I J h
    rw [fX_lots_b64] at h
    refine qp_run_E qp_ok115 2 (c' := (67, [some (.ref 0), some (.int a1), none, some (.long a3), none, some (.int a5)], [.int a1, .int a5], qp_mk I J)) (by with_unfolding_all rfl) hd1 trivial ?_
    refine qp_br_E qp_ok115 (f := a1 ≤ a5) (ct := (95, [some (.ref 0), some (.int a1), none, some (.long a3), none, some (.int a5)], [], qp_mk I J)) (cf := (70, [some (.ref 0), some (.int a1), none, some (.long a3), none, some (.int a5)], [], qp_mk I J)) (by with_unfolding_all rfl) (fun h1 => ?_) (fun h1 => ?_)
    · replace h := qp_ift h1 h
      refine qp_run_E qp_ok115 5 (c' := (106, [some (.ref 0), some (.int a1), none, some (.long a3), none, some (.int a5)], [.int (I 14 2), .ref 14], qp_mk I J)) (by with_unfolding_all rfl) hd1 trivial ?_
      obtain ⟨v1, I1, J1, e1, h⟩ := qp_bd_s h
      refine qp_cV qp_ok115 (rest := []) (oj := 4) qp_f67 rfl rfl (gL_serve l G (I 14 2) I J e1 (Nat.le_refl 4)) rfl rfl rfl rfl (Nat.le_trans (by decide) hd) ?_
      refine qp_run_E qp_ok115 3 (c' := (116, [some (.ref 0), some (.int a1), none, some (.long a3), none, some (.int a5)], [.ref 18], qp_mk I1 J1)) (by with_unfolding_all rfl) hd1 trivial ?_
      obtain ⟨v2, I2, J2, e2, h⟩ := qp_bd_s h
      refine qp_cV qp_ok115 (rest := []) (oj := 5) qp_f117 rfl rfl (gV_gainOfAll l G I1 J1 e2 (Nat.le_refl 1)) rfl rfl rfl rfl (Nat.le_trans (by decide) hd) ?_
      obtain rfl := Option.some.inj h
      exact qp_retI_E qp_ok115 rfl qp_r115.1 ⟨rfl, rfl⟩ ⟨rfl, rfl⟩
    · replace h := qp_iff h1 h
      refine qp_run_E qp_ok115 10 (f := ¬ (2147483647 : Int64) = 0 ∧ True) (c' := (86, [some (.ref 0), some (.int a1), none, some (.long ((a3 * 48271) - (a3 * 48271) / 2147483647 * 2147483647)), none, some (.int a5)], [.int (Int64.toInt32 ((a3 * 48271) - (a3 * 48271) / 2147483647 * 2147483647)), .ref 14], qp_mk I J)) (by with_unfolding_all rfl) hd1 ⟨(by decide), trivial⟩ ?_
      obtain ⟨v3, I3, J3, e3, h⟩ := qp_bd_s h
      refine qp_cV qp_ok115 (rest := []) (oj := 4) qp_f116 rfl rfl (gL_actByLot l G (Int64.toInt32 ((a3 * 48271) - (a3 * 48271) / 2147483647 * 2147483647)) I J e3 (Nat.le_refl 6)) rfl rfl rfl rfl (Nat.le_trans (by decide) hd) ?_
      refine qp_run_E qp_ok115 2 (c' := (64, [some (.ref 0), some (.int a1), none, some (.long ((a3 * 48271) - (a3 * 48271) / 2147483647 * 2147483647)), none, some (.int (a5 + 1))], [], qp_mk I3 J3)) (by with_unfolding_all rfl) hd1 trivial ?_
      exact ih a1 ((a3 * 48271) - (a3 * 48271) / 2147483647 * 2147483647) (a5 + 1) I3 J3 h
def fX_lots (p1 : Int32) (p2 : Int32) (I : Nat → Nat → Int32) (J : Nat → Nat → Int64) : Option (Int32 × (Nat → Nat → Int32) × (Nat → Nat → Int64)) :=
  if p1 < 1 then (
    some ((-1), I, J)
  ) else (
    if 20 < p1 then (
      some ((-1), I, J)
    ) else (
      if p2 < 1 then (
        some ((-1), I, J)
      ) else (
        if p2 < 2147483647 then (
          if ¬ (I 15 0) = 0 then (
            if ((I 14 5) + p1) ≤ 40 then (
              fX_lots_b64 100000 p1 (Int32.toInt64 p2) 0 I J
            ) else (
              some ((-2), I, J)
            )
          ) else (
            some ((-4), I, J)
          )
        ) else (
          some ((-1), I, J)
        )
      )
    )
  )
set_option maxRecDepth 8000 in
theorem gX_lots (l : Launch) (G : qp_G) (p1 : Int32) (p2 : Int32) (I : Nat → Nat → Int32) (J : Nat → Nat → Int64) {v : Int32} {I' : Nat → Nat → Int32} {J' : Nat → Nat → Int64} (h : fX_lots p1 p2 I J = some (v, I', J')) {d : Nat} (hd : 7 ≤ d) : qp_Met l G d 115 [.ref 0, .int p1, .int p2] (qp_mk I J) 0 0 (qp_R8 (some (.int v)) I' J') := by
  have hd1 : Nat.ble 1 d = true := Nat.ble_eq_true_of_le (Nat.le_trans (by decide) hd)
  refine qp_Met_of (by decide) (by rw [qp_r115.2]; rfl) [some (.ref 0), some (.int p1), some (.int p2), none, none, none] (by rw [qp_r115.2]; rfl) ?_
  unfold fX_lots at h
  refine qp_run_E qp_ok115 2 (c' := (2, [some (.ref 0), some (.int p1), some (.int p2), none, none, none], [.int 1, .int p1], qp_mk I J)) (by with_unfolding_all rfl) hd1 trivial ?_
  refine qp_br_E qp_ok115 (f := p1 < 1) (ct := (23, [some (.ref 0), some (.int p1), some (.int p2), none, none, none], [], qp_mk I J)) (cf := (5, [some (.ref 0), some (.int p1), some (.int p2), none, none, none], [], qp_mk I J)) (by with_unfolding_all rfl) (fun h1 => ?_) (fun h1 => ?_)
  · replace h := qp_ift h1 h
    refine qp_run_E qp_ok115 1 (c' := (24, [some (.ref 0), some (.int p1), some (.int p2), none, none, none], [.int (-1)], qp_mk I J)) (by with_unfolding_all rfl) hd1 trivial ?_
    obtain ⟨rfl, rfl, rfl⟩ := qp_some3 h
    exact qp_retI_E qp_ok115 rfl qp_r115.1 ⟨rfl, rfl⟩ ⟨rfl, rfl⟩
  · replace h := qp_iff h1 h
    refine qp_run_E qp_ok115 2 (c' := (8, [some (.ref 0), some (.int p1), some (.int p2), none, none, none], [.int 20, .int p1], qp_mk I J)) (by with_unfolding_all rfl) hd1 trivial ?_
    refine qp_br_E qp_ok115 (f := 20 < p1) (ct := (23, [some (.ref 0), some (.int p1), some (.int p2), none, none, none], [], qp_mk I J)) (cf := (11, [some (.ref 0), some (.int p1), some (.int p2), none, none, none], [], qp_mk I J)) (by with_unfolding_all rfl) (fun h2 => ?_) (fun h2 => ?_)
    · replace h := qp_ift h2 h
      refine qp_run_E qp_ok115 1 (c' := (24, [some (.ref 0), some (.int p1), some (.int p2), none, none, none], [.int (-1)], qp_mk I J)) (by with_unfolding_all rfl) hd1 trivial ?_
      obtain ⟨rfl, rfl, rfl⟩ := qp_some3 h
      exact qp_retI_E qp_ok115 rfl qp_r115.1 ⟨rfl, rfl⟩ ⟨rfl, rfl⟩
    · replace h := qp_iff h2 h
      refine qp_run_E qp_ok115 2 (c' := (13, [some (.ref 0), some (.int p1), some (.int p2), none, none, none], [.int 1, .int p2], qp_mk I J)) (by with_unfolding_all rfl) hd1 trivial ?_
      refine qp_br_E qp_ok115 (f := p2 < 1) (ct := (23, [some (.ref 0), some (.int p1), some (.int p2), none, none, none], [], qp_mk I J)) (cf := (16, [some (.ref 0), some (.int p1), some (.int p2), none, none, none], [], qp_mk I J)) (by with_unfolding_all rfl) (fun h3 => ?_) (fun h3 => ?_)
      · replace h := qp_ift h3 h
        refine qp_run_E qp_ok115 1 (c' := (24, [some (.ref 0), some (.int p1), some (.int p2), none, none, none], [.int (-1)], qp_mk I J)) (by with_unfolding_all rfl) hd1 trivial ?_
        obtain ⟨rfl, rfl, rfl⟩ := qp_some3 h
        exact qp_retI_E qp_ok115 rfl qp_r115.1 ⟨rfl, rfl⟩ ⟨rfl, rfl⟩
      · replace h := qp_iff h3 h
        refine qp_run_E qp_ok115 2 (c' := (20, [some (.ref 0), some (.int p1), some (.int p2), none, none, none], [.int 2147483647, .int p2], qp_mk I J)) (by with_unfolding_all rfl) hd1 trivial ?_
        refine qp_br_E qp_ok115 (f := p2 < 2147483647) (ct := (25, [some (.ref 0), some (.int p1), some (.int p2), none, none, none], [], qp_mk I J)) (cf := (23, [some (.ref 0), some (.int p1), some (.int p2), none, none, none], [], qp_mk I J)) (by with_unfolding_all rfl) (fun h4 => ?_) (fun h4 => ?_)
        · replace h := qp_ift h4 h
          refine qp_run_E qp_ok115 4 (c' := (35, [some (.ref 0), some (.int p1), some (.int p2), none, none, none], [.int (I 15 0)], qp_mk I J)) (by with_unfolding_all rfl) hd1 trivial ?_
          refine qp_br_E qp_ok115 (f := ¬ (I 15 0) = 0) (ct := (41, [some (.ref 0), some (.int p1), some (.int p2), none, none, none], [], qp_mk I J)) (cf := (38, [some (.ref 0), some (.int p1), some (.int p2), none, none, none], [], qp_mk I J)) (by with_unfolding_all rfl) (fun h5 => ?_) (fun h5 => ?_)
          · replace h := qp_ift h5 h
            refine qp_run_E qp_ok115 6 (c' := (52, [some (.ref 0), some (.int p1), some (.int p2), none, none, none], [.int 40, .int ((I 14 5) + p1)], qp_mk I J)) (by with_unfolding_all rfl) hd1 trivial ?_
            refine qp_br_E qp_ok115 (f := ((I 14 5) + p1) ≤ 40) (ct := (58, [some (.ref 0), some (.int p1), some (.int p2), none, none, none], [], qp_mk I J)) (cf := (55, [some (.ref 0), some (.int p1), some (.int p2), none, none, none], [], qp_mk I J)) (by with_unfolding_all rfl) (fun h6 => ?_) (fun h6 => ?_)
            · replace h := qp_ift h6 h
              refine qp_run_E qp_ok115 5 (c' := (64, [some (.ref 0), some (.int p1), some (.int p2), some (.long (Int32.toInt64 p2)), none, some (.int 0)], [], qp_mk I J)) (by with_unfolding_all rfl) hd1 trivial ?_
              exact qp_E_fg [true, true, false, true, false, true] (gX_lots_b64 hd 100000 p1 (Int32.toInt64 p2) 0 I J h)
            · replace h := qp_iff h6 h
              refine qp_run_E qp_ok115 1 (c' := (57, [some (.ref 0), some (.int p1), some (.int p2), none, none, none], [.int (-2)], qp_mk I J)) (by with_unfolding_all rfl) hd1 trivial ?_
              obtain ⟨rfl, rfl, rfl⟩ := qp_some3 h
              exact qp_retI_E qp_ok115 rfl qp_r115.1 ⟨rfl, rfl⟩ ⟨rfl, rfl⟩
          · replace h := qp_iff h5 h
            refine qp_run_E qp_ok115 1 (c' := (40, [some (.ref 0), some (.int p1), some (.int p2), none, none, none], [.int (-4)], qp_mk I J)) (by with_unfolding_all rfl) hd1 trivial ?_
            obtain ⟨rfl, rfl, rfl⟩ := qp_some3 h
            exact qp_retI_E qp_ok115 rfl qp_r115.1 ⟨rfl, rfl⟩ ⟨rfl, rfl⟩
        · replace h := qp_iff h4 h
          refine qp_run_E qp_ok115 1 (c' := (24, [some (.ref 0), some (.int p1), some (.int p2), none, none, none], [.int (-1)], qp_mk I J)) (by with_unfolding_all rfl) hd1 trivial ?_
          obtain ⟨rfl, rfl, rfl⟩ := qp_some3 h
          exact qp_retI_E qp_ok115 rfl qp_r115.1 ⟨rfl, rfl⟩ ⟨rfl, rfl⟩
def fX_asked  (I : Nat → Nat → Int32) (J : Nat → Nat → Int64) : Option (Int32 × (Nat → Nat → Int32) × (Nat → Nat → Int64)) :=
  some ((I 0 11), I, J)
set_option maxRecDepth 8000 in
theorem gX_asked (l : Launch) (G : qp_G)  (I : Nat → Nat → Int32) (J : Nat → Nat → Int64) {v : Int32} {I' : Nat → Nat → Int32} {J' : Nat → Nat → Int64} (h : fX_asked  I J = some (v, I', J')) {d : Nat} (hd : 1 ≤ d) : qp_Met l G d 118 [.ref 0] (qp_mk I J) 0 0 (qp_R8 (some (.int v)) I' J') := by
  have hd1 : Nat.ble 1 d = true := Nat.ble_eq_true_of_le (Nat.le_trans (by decide) hd)
  refine qp_Met_of (by decide) (by rw [qp_r118.2]; rfl) [some (.ref 0)] (by rw [qp_r118.2]; rfl) ?_
  unfold fX_asked at h
  refine qp_run_E qp_ok118 2 (c' := (4, [some (.ref 0)], [.int (I 0 11)], qp_mk I J)) (by with_unfolding_all rfl) hd1 trivial ?_
  obtain ⟨rfl, rfl, rfl⟩ := qp_some3 h
  exact qp_retI_E qp_ok118 rfl qp_r118.1 ⟨rfl, rfl⟩ ⟨rfl, rfl⟩
def fX_upper  (I : Nat → Nat → Int32) (J : Nat → Nat → Int64) : Option (Int64 × (Nat → Nat → Int32) × (Nat → Nat → Int64)) :=
  some ((J 0 12), I, J)
set_option maxRecDepth 8000 in
theorem gX_upper (l : Launch) (G : qp_G)  (I : Nat → Nat → Int32) (J : Nat → Nat → Int64) {v : Int64} {I' : Nat → Nat → Int32} {J' : Nat → Nat → Int64} (h : fX_upper  I J = some (v, I', J')) {d : Nat} (hd : 1 ≤ d) : qp_Met l G d 119 [.ref 0] (qp_mk I J) 0 0 (qp_R8 (some (.long v)) I' J') := by
  have hd1 : Nat.ble 1 d = true := Nat.ble_eq_true_of_le (Nat.le_trans (by decide) hd)
  refine qp_Met_of (by decide) (by rw [qp_r119.2]; rfl) [some (.ref 0)] (by rw [qp_r119.2]; rfl) ?_
  unfold fX_upper at h
  refine qp_run_E qp_ok119 2 (c' := (4, [some (.ref 0)], [.long (J 0 12)], qp_mk I J)) (by with_unfolding_all rfl) hd1 trivial ?_
  obtain ⟨rfl, rfl, rfl⟩ := qp_some3 h
  exact qp_retL_E qp_ok119 rfl qp_r119.1 ⟨rfl, rfl⟩ ⟨rfl, rfl⟩
def fX_lower  (I : Nat → Nat → Int32) (J : Nat → Nat → Int64) : Option (Int64 × (Nat → Nat → Int32) × (Nat → Nat → Int64)) :=
  some ((J 0 13), I, J)
set_option maxRecDepth 8000 in
theorem gX_lower (l : Launch) (G : qp_G)  (I : Nat → Nat → Int32) (J : Nat → Nat → Int64) {v : Int64} {I' : Nat → Nat → Int32} {J' : Nat → Nat → Int64} (h : fX_lower  I J = some (v, I', J')) {d : Nat} (hd : 1 ≤ d) : qp_Met l G d 120 [.ref 0] (qp_mk I J) 0 0 (qp_R8 (some (.long v)) I' J') := by
  have hd1 : Nat.ble 1 d = true := Nat.ble_eq_true_of_le (Nat.le_trans (by decide) hd)
  refine qp_Met_of (by decide) (by rw [qp_r120.2]; rfl) [some (.ref 0)] (by rw [qp_r120.2]; rfl) ?_
  unfold fX_lower at h
  refine qp_run_E qp_ok120 2 (c' := (4, [some (.ref 0)], [.long (J 0 13)], qp_mk I J)) (by with_unfolding_all rfl) hd1 trivial ?_
  obtain ⟨rfl, rfl, rfl⟩ := qp_some3 h
  exact qp_retL_E qp_ok120 rfl qp_r120.1 ⟨rfl, rfl⟩ ⟨rfl, rfl⟩
def fC_howMany_15_b4  : Nat → Int32 → Int32 → Int32 → (Nat → Nat → Int32) → (Nat → Nat → Int64) → Option (Int32 × (Nat → Nat → Int32) × (Nat → Nat → Int64))
  | 0, _, _, _, _, _ => none
  | n + 1, a1, a2, a3, I, J =>
    if (I 15 0) ≤ a3 then (
      some (a2, I, J)
    ) else (
      qp_bd (fC_kindOf_15 a3 I J) fun v1 I1 J1 =>
      qp_bd (fC_isKindOf v1 a1 I1 J1) fun v2 I2 J2 =>
      if v2 = 0 then (
        fC_howMany_15_b4 n a1 a2 (a3 + 1) I2 J2
      ) else (
        fC_howMany_15_b4 n a1 (a2 + 1) (a3 + 1) I2 J2
      )
    )
set_option maxRecDepth 8000 in
theorem gC_howMany_15_b4 {l : Launch} {G : qp_G} {d : Nat} (hd : 2 ≤ d) {r : (Int32 × (Nat → Nat → Int32) × (Nat → Nat → Int64))} {I0 : Nat → Nat → Int32} {J0 : Nat → Nat → Int64}   : ∀ (n : Nat) (a1 : Int32) (a2 : Int32) (a3 : Int32) (I : Nat → Nat → Int32) (J : Nat → Nat → Int64), fC_howMany_15_b4  n a1 a2 a3 I J = some r → qp_E l G d 123 (qp_mk I0 J0) 0 0 (qp_R8 (some (.int r.1)) r.2.1 r.2.2) (4, [some (.ref 15), some (.int a1), some (.int a2), some (.int a3)], [], qp_mk I J) := by
  have hd1 : Nat.ble 1 d = true := Nat.ble_eq_true_of_le (Nat.le_trans (by decide) hd)
  intro n
  induction n with
  | zero => intro a1 a2 a3 I J h; exact absurd h (by simp [fC_howMany_15_b4])
  | succ n ih =>
    intro a1 a2 a3 I J h
    rw [fC_howMany_15_b4] at h
    refine qp_run_E qp_ok123 3 (c' := (9, [some (.ref 15), some (.int a1), some (.int a2), some (.int a3)], [.int (I 15 0), .int a3], qp_mk I J)) (by with_unfolding_all rfl) hd1 trivial ?_
    refine qp_br_E qp_ok123 (f := (I 15 0) ≤ a3) (ct := (33, [some (.ref 15), some (.int a1), some (.int a2), some (.int a3)], [], qp_mk I J)) (cf := (12, [some (.ref 15), some (.int a1), some (.int a2), some (.int a3)], [], qp_mk I J)) (by with_unfolding_all rfl) (fun h1 => ?_) (fun h1 => ?_)
    · replace h := qp_ift h1 h
      refine qp_run_E qp_ok123 1 (c' := (34, [some (.ref 15), some (.int a1), some (.int a2), some (.int a3)], [.int a2], qp_mk I J)) (by with_unfolding_all rfl) hd1 trivial ?_
      obtain rfl := Option.some.inj h
      exact qp_retI_E qp_ok123 rfl qp_r123.1 ⟨rfl, rfl⟩ ⟨rfl, rfl⟩
    · replace h := qp_iff h1 h
      refine qp_run_E qp_ok123 2 (c' := (14, [some (.ref 15), some (.int a1), some (.int a2), some (.int a3)], [.int a3, .ref 15], qp_mk I J)) (by with_unfolding_all rfl) hd1 trivial ?_
      obtain ⟨v1, I1, J1, e1, h⟩ := qp_bd_s h
      refine qp_cV qp_ok123 (rest := []) (oj := 3) qp_f36 rfl rfl (gC_kindOf_15 l G a3 I J e1 (Nat.le_refl 1)) rfl rfl rfl rfl (Nat.le_trans (by decide) hd) ?_
      refine qp_run_E qp_ok123 1 (c' := (18, [some (.ref 15), some (.int a1), some (.int a2), some (.int a3)], [.int a1, .int v1], qp_mk I1 J1)) (by with_unfolding_all rfl) hd1 trivial ?_
      obtain ⟨v2, I2, J2, e2, h⟩ := qp_bd_s h
      refine qp_cS qp_ok123 (rest := []) (oj := 3) qp_f69 rfl rfl (gC_isKindOf l G v1 a1 I1 J1 e2 (Nat.le_refl 1)) rfl rfl rfl (Nat.le_trans (by decide) hd) ?_
      refine qp_br_E qp_ok123 (f := v2 = 0) (ct := (27, [some (.ref 15), some (.int a1), some (.int a2), some (.int a3)], [], qp_mk I2 J2)) (cf := (24, [some (.ref 15), some (.int a1), some (.int a2), some (.int a3)], [], qp_mk I2 J2)) (by with_unfolding_all rfl) (fun h2 => ?_) (fun h2 => ?_)
      · replace h := qp_ift h2 h
        refine qp_run_E qp_ok123 2 (c' := (4, [some (.ref 15), some (.int a1), some (.int a2), some (.int (a3 + 1))], [], qp_mk I2 J2)) (by with_unfolding_all rfl) hd1 trivial ?_
        exact ih a1 a2 (a3 + 1) I2 J2 h
      · replace h := qp_iff h2 h
        refine qp_run_E qp_ok123 3 (c' := (4, [some (.ref 15), some (.int a1), some (.int (a2 + 1)), some (.int (a3 + 1))], [], qp_mk I2 J2)) (by with_unfolding_all rfl) hd1 trivial ?_
        exact ih a1 (a2 + 1) (a3 + 1) I2 J2 h
def fC_howMany_15 (p1 : Int32) (I : Nat → Nat → Int32) (J : Nat → Nat → Int64) : Option (Int32 × (Nat → Nat → Int32) × (Nat → Nat → Int64)) :=
  fC_howMany_15_b4 100000 p1 0 0 I J
set_option maxRecDepth 8000 in
theorem gC_howMany_15 (l : Launch) (G : qp_G) (p1 : Int32) (I : Nat → Nat → Int32) (J : Nat → Nat → Int64) {v : Int32} {I' : Nat → Nat → Int32} {J' : Nat → Nat → Int64} (h : fC_howMany_15 p1 I J = some (v, I', J')) {d : Nat} (hd : 2 ≤ d) : qp_Met l G d 123 [.ref 15, .int p1] (qp_mk I J) 0 0 (qp_R8 (some (.int v)) I' J') := by
  have hd1 : Nat.ble 1 d = true := Nat.ble_eq_true_of_le (Nat.le_trans (by decide) hd)
  refine qp_Met_of (by decide) (by rw [qp_r123.2]; rfl) [some (.ref 15), some (.int p1), none, none] (by rw [qp_r123.2]; rfl) ?_
  unfold fC_howMany_15 at h
  refine qp_run_E qp_ok123 4 (c' := (4, [some (.ref 15), some (.int p1), some (.int 0), some (.int 0)], [], qp_mk I J)) (by with_unfolding_all rfl) hd1 trivial ?_
  exact gC_howMany_15_b4 hd 100000 p1 0 0 I J h
def fS_there_1_b4  : Nat → Int32 → Int32 → (Nat → Nat → Int32) → (Nat → Nat → Int64) → Option (Int32 × (Nat → Nat → Int32) × (Nat → Nat → Int64))
  | 0, _, _, _, _ => none
  | n + 1, a1, a2, I, J =>
    if 6 ≤ a2 then (
      some (a1, I, J)
    ) else (
      qp_bd (fS_has_1 a2 I J) fun v1 I1 J1 =>
      if v1 = 0 then (
        fS_there_1_b4 n a1 (a2 + 1) I1 J1
      ) else (
        fS_there_1_b4 n (a1 + 1) (a2 + 1) I1 J1
      )
    )
set_option maxRecDepth 8000 in
theorem gS_there_1_b4 {l : Launch} {G : qp_G} {d : Nat} (hd : 4 ≤ d) {r : (Int32 × (Nat → Nat → Int32) × (Nat → Nat → Int64))} {I0 : Nat → Nat → Int32} {J0 : Nat → Nat → Int64}   : ∀ (n : Nat) (a1 : Int32) (a2 : Int32) (I : Nat → Nat → Int32) (J : Nat → Nat → Int64), fS_there_1_b4  n a1 a2 I J = some r → qp_E l G d 124 (qp_mk I0 J0) 0 0 (qp_R8 (some (.int r.1)) r.2.1 r.2.2) (4, [some (.ref 1), some (.int a1), some (.int a2)], [], qp_mk I J) := by
  have hd1 : Nat.ble 1 d = true := Nat.ble_eq_true_of_le (Nat.le_trans (by decide) hd)
  intro n
  induction n with
  | zero => intro a1 a2 I J h; exact absurd h (by simp [fS_there_1_b4])
  | succ n ih =>
    intro a1 a2 I J h
    rw [fS_there_1_b4] at h
    refine qp_run_E qp_ok124 4 (c' := (10, [some (.ref 1), some (.int a1), some (.int a2)], [.int 6, .int a2], qp_mk I J)) (by with_unfolding_all rfl) hd1 trivial ?_
    refine qp_br_E qp_ok124 (f := 6 ≤ a2) (ct := (30, [some (.ref 1), some (.int a1), some (.int a2)], [], qp_mk I J)) (cf := (13, [some (.ref 1), some (.int a1), some (.int a2)], [], qp_mk I J)) (by with_unfolding_all rfl) (fun h1 => ?_) (fun h1 => ?_)
    · replace h := qp_ift h1 h
      refine qp_run_E qp_ok124 1 (c' := (31, [some (.ref 1), some (.int a1), some (.int a2)], [.int a1], qp_mk I J)) (by with_unfolding_all rfl) hd1 trivial ?_
      obtain rfl := Option.some.inj h
      exact qp_retI_E qp_ok124 rfl qp_r124.1 ⟨rfl, rfl⟩ ⟨rfl, rfl⟩
    · replace h := qp_iff h1 h
      refine qp_run_E qp_ok124 2 (c' := (15, [some (.ref 1), some (.int a1), some (.int a2)], [.int a2, .ref 1], qp_mk I J)) (by with_unfolding_all rfl) hd1 trivial ?_
      obtain ⟨v1, I1, J1, e1, h⟩ := qp_bd_s h
      refine qp_cV qp_ok124 (rest := []) (oj := 1) qp_f21 rfl rfl (gS_has_1 l G a2 I J e1 (Nat.le_refl 3)) rfl rfl rfl rfl (Nat.le_trans (by decide) hd) ?_
      refine qp_br_E qp_ok124 (f := v1 = 0) (ct := (24, [some (.ref 1), some (.int a1), some (.int a2)], [], qp_mk I1 J1)) (cf := (21, [some (.ref 1), some (.int a1), some (.int a2)], [], qp_mk I1 J1)) (by with_unfolding_all rfl) (fun h2 => ?_) (fun h2 => ?_)
      · replace h := qp_ift h2 h
        refine qp_run_E qp_ok124 2 (c' := (4, [some (.ref 1), some (.int a1), some (.int (a2 + 1))], [], qp_mk I1 J1)) (by with_unfolding_all rfl) hd1 trivial ?_
        exact ih a1 (a2 + 1) I1 J1 h
      · replace h := qp_iff h2 h
        refine qp_run_E qp_ok124 3 (c' := (4, [some (.ref 1), some (.int (a1 + 1)), some (.int (a2 + 1))], [], qp_mk I1 J1)) (by with_unfolding_all rfl) hd1 trivial ?_
        exact ih (a1 + 1) (a2 + 1) I1 J1 h
def fS_there_1  (I : Nat → Nat → Int32) (J : Nat → Nat → Int64) : Option (Int32 × (Nat → Nat → Int32) × (Nat → Nat → Int64)) :=
  fS_there_1_b4 100000 0 0 I J
set_option maxRecDepth 8000 in
theorem gS_there_1 (l : Launch) (G : qp_G)  (I : Nat → Nat → Int32) (J : Nat → Nat → Int64) {v : Int32} {I' : Nat → Nat → Int32} {J' : Nat → Nat → Int64} (h : fS_there_1  I J = some (v, I', J')) {d : Nat} (hd : 4 ≤ d) : qp_Met l G d 124 [.ref 1] (qp_mk I J) 0 0 (qp_R8 (some (.int v)) I' J') := by
  have hd1 : Nat.ble 1 d = true := Nat.ble_eq_true_of_le (Nat.le_trans (by decide) hd)
  refine qp_Met_of (by decide) (by rw [qp_r124.2]; rfl) [some (.ref 1), none, none] (by rw [qp_r124.2]; rfl) ?_
  unfold fS_there_1 at h
  refine qp_run_E qp_ok124 4 (c' := (4, [some (.ref 1), some (.int 0), some (.int 0)], [], qp_mk I J)) (by with_unfolding_all rfl) hd1 trivial ?_
  exact gS_there_1_b4 hd 100000 0 0 I J h
def fS_there_4_b4  : Nat → Int32 → Int32 → (Nat → Nat → Int32) → (Nat → Nat → Int64) → Option (Int32 × (Nat → Nat → Int32) × (Nat → Nat → Int64))
  | 0, _, _, _, _ => none
  | n + 1, a1, a2, I, J =>
    if 4 ≤ a2 then (
      some (a1, I, J)
    ) else (
      qp_bd (fS_has_4 a2 I J) fun v1 I1 J1 =>
      if v1 = 0 then (
        fS_there_4_b4 n a1 (a2 + 1) I1 J1
      ) else (
        fS_there_4_b4 n (a1 + 1) (a2 + 1) I1 J1
      )
    )
set_option maxRecDepth 8000 in
theorem gS_there_4_b4 {l : Launch} {G : qp_G} {d : Nat} (hd : 4 ≤ d) {r : (Int32 × (Nat → Nat → Int32) × (Nat → Nat → Int64))} {I0 : Nat → Nat → Int32} {J0 : Nat → Nat → Int64}   : ∀ (n : Nat) (a1 : Int32) (a2 : Int32) (I : Nat → Nat → Int32) (J : Nat → Nat → Int64), fS_there_4_b4  n a1 a2 I J = some r → qp_E l G d 124 (qp_mk I0 J0) 0 0 (qp_R8 (some (.int r.1)) r.2.1 r.2.2) (4, [some (.ref 4), some (.int a1), some (.int a2)], [], qp_mk I J) := by
  have hd1 : Nat.ble 1 d = true := Nat.ble_eq_true_of_le (Nat.le_trans (by decide) hd)
  intro n
  induction n with
  | zero => intro a1 a2 I J h; exact absurd h (by simp [fS_there_4_b4])
  | succ n ih =>
    intro a1 a2 I J h
    rw [fS_there_4_b4] at h
    refine qp_run_E qp_ok124 4 (c' := (10, [some (.ref 4), some (.int a1), some (.int a2)], [.int 4, .int a2], qp_mk I J)) (by with_unfolding_all rfl) hd1 trivial ?_
    refine qp_br_E qp_ok124 (f := 4 ≤ a2) (ct := (30, [some (.ref 4), some (.int a1), some (.int a2)], [], qp_mk I J)) (cf := (13, [some (.ref 4), some (.int a1), some (.int a2)], [], qp_mk I J)) (by with_unfolding_all rfl) (fun h1 => ?_) (fun h1 => ?_)
    · replace h := qp_ift h1 h
      refine qp_run_E qp_ok124 1 (c' := (31, [some (.ref 4), some (.int a1), some (.int a2)], [.int a1], qp_mk I J)) (by with_unfolding_all rfl) hd1 trivial ?_
      obtain rfl := Option.some.inj h
      exact qp_retI_E qp_ok124 rfl qp_r124.1 ⟨rfl, rfl⟩ ⟨rfl, rfl⟩
    · replace h := qp_iff h1 h
      refine qp_run_E qp_ok124 2 (c' := (15, [some (.ref 4), some (.int a1), some (.int a2)], [.int a2, .ref 4], qp_mk I J)) (by with_unfolding_all rfl) hd1 trivial ?_
      obtain ⟨v1, I1, J1, e1, h⟩ := qp_bd_s h
      refine qp_cV qp_ok124 (rest := []) (oj := 1) qp_f21 rfl rfl (gS_has_4 l G a2 I J e1 (Nat.le_refl 3)) rfl rfl rfl rfl (Nat.le_trans (by decide) hd) ?_
      refine qp_br_E qp_ok124 (f := v1 = 0) (ct := (24, [some (.ref 4), some (.int a1), some (.int a2)], [], qp_mk I1 J1)) (cf := (21, [some (.ref 4), some (.int a1), some (.int a2)], [], qp_mk I1 J1)) (by with_unfolding_all rfl) (fun h2 => ?_) (fun h2 => ?_)
      · replace h := qp_ift h2 h
        refine qp_run_E qp_ok124 2 (c' := (4, [some (.ref 4), some (.int a1), some (.int (a2 + 1))], [], qp_mk I1 J1)) (by with_unfolding_all rfl) hd1 trivial ?_
        exact ih a1 (a2 + 1) I1 J1 h
      · replace h := qp_iff h2 h
        refine qp_run_E qp_ok124 3 (c' := (4, [some (.ref 4), some (.int (a1 + 1)), some (.int (a2 + 1))], [], qp_mk I1 J1)) (by with_unfolding_all rfl) hd1 trivial ?_
        exact ih (a1 + 1) (a2 + 1) I1 J1 h
def fS_there_4  (I : Nat → Nat → Int32) (J : Nat → Nat → Int64) : Option (Int32 × (Nat → Nat → Int32) × (Nat → Nat → Int64)) :=
  fS_there_4_b4 100000 0 0 I J
set_option maxRecDepth 8000 in
theorem gS_there_4 (l : Launch) (G : qp_G)  (I : Nat → Nat → Int32) (J : Nat → Nat → Int64) {v : Int32} {I' : Nat → Nat → Int32} {J' : Nat → Nat → Int64} (h : fS_there_4  I J = some (v, I', J')) {d : Nat} (hd : 4 ≤ d) : qp_Met l G d 124 [.ref 4] (qp_mk I J) 0 0 (qp_R8 (some (.int v)) I' J') := by
  have hd1 : Nat.ble 1 d = true := Nat.ble_eq_true_of_le (Nat.le_trans (by decide) hd)
  refine qp_Met_of (by decide) (by rw [qp_r124.2]; rfl) [some (.ref 4), none, none] (by rw [qp_r124.2]; rfl) ?_
  unfold fS_there_4 at h
  refine qp_run_E qp_ok124 4 (c' := (4, [some (.ref 4), some (.int 0), some (.int 0)], [], qp_mk I J)) (by with_unfolding_all rfl) hd1 trivial ?_
  exact gS_there_4_b4 hd 100000 0 0 I J h
def fS_there_7_b4  : Nat → Int32 → Int32 → (Nat → Nat → Int32) → (Nat → Nat → Int64) → Option (Int32 × (Nat → Nat → Int32) × (Nat → Nat → Int64))
  | 0, _, _, _, _ => none
  | n + 1, a1, a2, I, J =>
    if 3 ≤ a2 then (
      some (a1, I, J)
    ) else (
      qp_bd (fS_has_7 a2 I J) fun v1 I1 J1 =>
      if v1 = 0 then (
        fS_there_7_b4 n a1 (a2 + 1) I1 J1
      ) else (
        fS_there_7_b4 n (a1 + 1) (a2 + 1) I1 J1
      )
    )
set_option maxRecDepth 8000 in
theorem gS_there_7_b4 {l : Launch} {G : qp_G} {d : Nat} (hd : 4 ≤ d) {r : (Int32 × (Nat → Nat → Int32) × (Nat → Nat → Int64))} {I0 : Nat → Nat → Int32} {J0 : Nat → Nat → Int64}   : ∀ (n : Nat) (a1 : Int32) (a2 : Int32) (I : Nat → Nat → Int32) (J : Nat → Nat → Int64), fS_there_7_b4  n a1 a2 I J = some r → qp_E l G d 124 (qp_mk I0 J0) 0 0 (qp_R8 (some (.int r.1)) r.2.1 r.2.2) (4, [some (.ref 7), some (.int a1), some (.int a2)], [], qp_mk I J) := by
  have hd1 : Nat.ble 1 d = true := Nat.ble_eq_true_of_le (Nat.le_trans (by decide) hd)
  intro n
  induction n with
  | zero => intro a1 a2 I J h; exact absurd h (by simp [fS_there_7_b4])
  | succ n ih =>
    intro a1 a2 I J h
    rw [fS_there_7_b4] at h
    refine qp_run_E qp_ok124 4 (c' := (10, [some (.ref 7), some (.int a1), some (.int a2)], [.int 3, .int a2], qp_mk I J)) (by with_unfolding_all rfl) hd1 trivial ?_
    refine qp_br_E qp_ok124 (f := 3 ≤ a2) (ct := (30, [some (.ref 7), some (.int a1), some (.int a2)], [], qp_mk I J)) (cf := (13, [some (.ref 7), some (.int a1), some (.int a2)], [], qp_mk I J)) (by with_unfolding_all rfl) (fun h1 => ?_) (fun h1 => ?_)
    · replace h := qp_ift h1 h
      refine qp_run_E qp_ok124 1 (c' := (31, [some (.ref 7), some (.int a1), some (.int a2)], [.int a1], qp_mk I J)) (by with_unfolding_all rfl) hd1 trivial ?_
      obtain rfl := Option.some.inj h
      exact qp_retI_E qp_ok124 rfl qp_r124.1 ⟨rfl, rfl⟩ ⟨rfl, rfl⟩
    · replace h := qp_iff h1 h
      refine qp_run_E qp_ok124 2 (c' := (15, [some (.ref 7), some (.int a1), some (.int a2)], [.int a2, .ref 7], qp_mk I J)) (by with_unfolding_all rfl) hd1 trivial ?_
      obtain ⟨v1, I1, J1, e1, h⟩ := qp_bd_s h
      refine qp_cV qp_ok124 (rest := []) (oj := 1) qp_f21 rfl rfl (gS_has_7 l G a2 I J e1 (Nat.le_refl 3)) rfl rfl rfl rfl (Nat.le_trans (by decide) hd) ?_
      refine qp_br_E qp_ok124 (f := v1 = 0) (ct := (24, [some (.ref 7), some (.int a1), some (.int a2)], [], qp_mk I1 J1)) (cf := (21, [some (.ref 7), some (.int a1), some (.int a2)], [], qp_mk I1 J1)) (by with_unfolding_all rfl) (fun h2 => ?_) (fun h2 => ?_)
      · replace h := qp_ift h2 h
        refine qp_run_E qp_ok124 2 (c' := (4, [some (.ref 7), some (.int a1), some (.int (a2 + 1))], [], qp_mk I1 J1)) (by with_unfolding_all rfl) hd1 trivial ?_
        exact ih a1 (a2 + 1) I1 J1 h
      · replace h := qp_iff h2 h
        refine qp_run_E qp_ok124 3 (c' := (4, [some (.ref 7), some (.int (a1 + 1)), some (.int (a2 + 1))], [], qp_mk I1 J1)) (by with_unfolding_all rfl) hd1 trivial ?_
        exact ih (a1 + 1) (a2 + 1) I1 J1 h
def fS_there_7  (I : Nat → Nat → Int32) (J : Nat → Nat → Int64) : Option (Int32 × (Nat → Nat → Int32) × (Nat → Nat → Int64)) :=
  fS_there_7_b4 100000 0 0 I J
set_option maxRecDepth 8000 in
theorem gS_there_7 (l : Launch) (G : qp_G)  (I : Nat → Nat → Int32) (J : Nat → Nat → Int64) {v : Int32} {I' : Nat → Nat → Int32} {J' : Nat → Nat → Int64} (h : fS_there_7  I J = some (v, I', J')) {d : Nat} (hd : 4 ≤ d) : qp_Met l G d 124 [.ref 7] (qp_mk I J) 0 0 (qp_R8 (some (.int v)) I' J') := by
  have hd1 : Nat.ble 1 d = true := Nat.ble_eq_true_of_le (Nat.le_trans (by decide) hd)
  refine qp_Met_of (by decide) (by rw [qp_r124.2]; rfl) [some (.ref 7), none, none] (by rw [qp_r124.2]; rfl) ?_
  unfold fS_there_7 at h
  refine qp_run_E qp_ok124 4 (c' := (4, [some (.ref 7), some (.int 0), some (.int 0)], [], qp_mk I J)) (by with_unfolding_all rfl) hd1 trivial ?_
  exact gS_there_7_b4 hd 100000 0 0 I J h
def fX_amount (p1 : Int32) (I : Nat → Nat → Int32) (J : Nat → Nat → Int64) : Option (Int32 × (Nat → Nat → Int32) × (Nat → Nat → Int64)) :=
  if p1 = 0 then (
    some ((I 15 0), I, J)
  ) else
  if p1 = 1 then (
    some ((I 14 3), I, J)
  ) else
  if p1 = 2 then (
    some ((I 14 4), I, J)
  ) else
  if p1 = 3 then (
    some ((I 14 5), I, J)
  ) else
  if p1 = 4 then (
    some ((I 18 0), I, J)
  ) else
  if p1 = 5 then (
    qp_bd (fV_gainOfAll I J) fun v1 I1 J1 =>
    some (v1, I1, J1)
  ) else
  if p1 = 6 then (
    some ((I 18 1), I, J)
  ) else
  if p1 = 7 then (
    qp_bd (fC_howMany_15 1 I J) fun v2 I2 J2 =>
    some (v2, I2, J2)
  ) else
  if p1 = 8 then (
    qp_bd (fC_howMany_15 2 I J) fun v3 I3 J3 =>
    some (v3, I3, J3)
  ) else
  if p1 = 9 then (
    qp_bd (fS_there_1 I J) fun v4 I4 J4 =>
    some (v4, I4, J4)
  ) else
  if p1 = 10 then (
    qp_bd (fS_there_4 I J) fun v5 I5 J5 =>
    some (v5, I5, J5)
  ) else
  qp_bd (fS_there_7 I J) fun v6 I6 J6 =>
  some (v6, I6, J6)
set_option maxRecDepth 8000 in
theorem gX_amount (l : Launch) (G : qp_G) (p1 : Int32) (I : Nat → Nat → Int32) (J : Nat → Nat → Int64) {v : Int32} {I' : Nat → Nat → Int32} {J' : Nat → Nat → Int64} (h : fX_amount p1 I J = some (v, I', J')) {d : Nat} (hd : 5 ≤ d) : qp_Met l G d 122 [.ref 0, .int p1] (qp_mk I J) 0 0 (qp_R8 (some (.int v)) I' J') := by
  have hd1 : Nat.ble 1 d = true := Nat.ble_eq_true_of_le (Nat.le_trans (by decide) hd)
  refine qp_Met_of (by decide) (by rw [qp_r122.2]; rfl) [some (.ref 0), some (.int p1)] (by rw [qp_r122.2]; rfl) ?_
  unfold fX_amount at h
  refine qp_run_E qp_ok122 1 (c' := (1, [some (.ref 0), some (.int p1)], [.int p1], qp_mk I J)) (by with_unfolding_all rfl) hd1 trivial ?_
  by_cases h1 : p1 = 0
  · replace h := qp_ift h1 h
    refine qp_run_E qp_ok122 1 (c' := (qp_swt 167 0 10 #[59, 70, 78, 86, 94, 105, 116, 127, 139, 151, 159] 1 p1, [some (.ref 0), some (.int p1)], [], qp_mk I J)) (by with_unfolding_all rfl) hd1 trivial ?_
    refine qp_E_pc (pc' := 60) (by rw [h1]; rfl) ?_
    refine qp_run_E qp_ok122 4 (c' := (70, [some (.ref 0), some (.int p1)], [.int (I 15 0)], qp_mk I J)) (by with_unfolding_all rfl) hd1 trivial ?_
    obtain ⟨rfl, rfl, rfl⟩ := qp_some3 h
    exact qp_retI_E qp_ok122 rfl qp_r122.1 ⟨rfl, rfl⟩ ⟨rfl, rfl⟩
  replace h := qp_iff h1 h
  by_cases h2 : p1 = 1
  · replace h := qp_ift h2 h
    refine qp_run_E qp_ok122 1 (c' := (qp_swt 167 0 10 #[59, 70, 78, 86, 94, 105, 116, 127, 139, 151, 159] 1 p1, [some (.ref 0), some (.int p1)], [], qp_mk I J)) (by with_unfolding_all rfl) hd1 trivial ?_
    refine qp_E_pc (pc' := 71) (by rw [h2]; rfl) ?_
    refine qp_run_E qp_ok122 3 (c' := (78, [some (.ref 0), some (.int p1)], [.int (I 14 3)], qp_mk I J)) (by with_unfolding_all rfl) hd1 trivial ?_
    obtain ⟨rfl, rfl, rfl⟩ := qp_some3 h
    exact qp_retI_E qp_ok122 rfl qp_r122.1 ⟨rfl, rfl⟩ ⟨rfl, rfl⟩
  replace h := qp_iff h2 h
  by_cases h3 : p1 = 2
  · replace h := qp_ift h3 h
    refine qp_run_E qp_ok122 1 (c' := (qp_swt 167 0 10 #[59, 70, 78, 86, 94, 105, 116, 127, 139, 151, 159] 1 p1, [some (.ref 0), some (.int p1)], [], qp_mk I J)) (by with_unfolding_all rfl) hd1 trivial ?_
    refine qp_E_pc (pc' := 79) (by rw [h3]; rfl) ?_
    refine qp_run_E qp_ok122 3 (c' := (86, [some (.ref 0), some (.int p1)], [.int (I 14 4)], qp_mk I J)) (by with_unfolding_all rfl) hd1 trivial ?_
    obtain ⟨rfl, rfl, rfl⟩ := qp_some3 h
    exact qp_retI_E qp_ok122 rfl qp_r122.1 ⟨rfl, rfl⟩ ⟨rfl, rfl⟩
  replace h := qp_iff h3 h
  by_cases h4 : p1 = 3
  · replace h := qp_ift h4 h
    refine qp_run_E qp_ok122 1 (c' := (qp_swt 167 0 10 #[59, 70, 78, 86, 94, 105, 116, 127, 139, 151, 159] 1 p1, [some (.ref 0), some (.int p1)], [], qp_mk I J)) (by with_unfolding_all rfl) hd1 trivial ?_
    refine qp_E_pc (pc' := 87) (by rw [h4]; rfl) ?_
    refine qp_run_E qp_ok122 3 (c' := (94, [some (.ref 0), some (.int p1)], [.int (I 14 5)], qp_mk I J)) (by with_unfolding_all rfl) hd1 trivial ?_
    obtain ⟨rfl, rfl, rfl⟩ := qp_some3 h
    exact qp_retI_E qp_ok122 rfl qp_r122.1 ⟨rfl, rfl⟩ ⟨rfl, rfl⟩
  replace h := qp_iff h4 h
  by_cases h5 : p1 = 4
  · replace h := qp_ift h5 h
    refine qp_run_E qp_ok122 1 (c' := (qp_swt 167 0 10 #[59, 70, 78, 86, 94, 105, 116, 127, 139, 151, 159] 1 p1, [some (.ref 0), some (.int p1)], [], qp_mk I J)) (by with_unfolding_all rfl) hd1 trivial ?_
    refine qp_E_pc (pc' := 95) (by rw [h5]; rfl) ?_
    refine qp_run_E qp_ok122 4 (c' := (105, [some (.ref 0), some (.int p1)], [.int (I 18 0)], qp_mk I J)) (by with_unfolding_all rfl) hd1 trivial ?_
    obtain ⟨rfl, rfl, rfl⟩ := qp_some3 h
    exact qp_retI_E qp_ok122 rfl qp_r122.1 ⟨rfl, rfl⟩ ⟨rfl, rfl⟩
  replace h := qp_iff h5 h
  by_cases h6 : p1 = 5
  · replace h := qp_ift h6 h
    refine qp_run_E qp_ok122 1 (c' := (qp_swt 167 0 10 #[59, 70, 78, 86, 94, 105, 116, 127, 139, 151, 159] 1 p1, [some (.ref 0), some (.int p1)], [], qp_mk I J)) (by with_unfolding_all rfl) hd1 trivial ?_
    refine qp_E_pc (pc' := 106) (by rw [h6]; rfl) ?_
    refine qp_run_E qp_ok122 3 (c' := (113, [some (.ref 0), some (.int p1)], [.ref 18], qp_mk I J)) (by with_unfolding_all rfl) hd1 trivial ?_
    obtain ⟨v1, I1, J1, e1, h⟩ := qp_bd_s h
    refine qp_cV qp_ok122 (rest := []) (oj := 5) qp_f117 rfl rfl (gV_gainOfAll l G I J e1 (Nat.le_refl 1)) rfl rfl rfl rfl (Nat.le_trans (by decide) hd) ?_
    obtain ⟨rfl, rfl, rfl⟩ := qp_some3 h
    exact qp_retI_E qp_ok122 rfl qp_r122.1 ⟨rfl, rfl⟩ ⟨rfl, rfl⟩
  replace h := qp_iff h6 h
  by_cases h7 : p1 = 6
  · replace h := qp_ift h7 h
    refine qp_run_E qp_ok122 1 (c' := (qp_swt 167 0 10 #[59, 70, 78, 86, 94, 105, 116, 127, 139, 151, 159] 1 p1, [some (.ref 0), some (.int p1)], [], qp_mk I J)) (by with_unfolding_all rfl) hd1 trivial ?_
    refine qp_E_pc (pc' := 117) (by rw [h7]; rfl) ?_
    refine qp_run_E qp_ok122 4 (c' := (127, [some (.ref 0), some (.int p1)], [.int (I 18 1)], qp_mk I J)) (by with_unfolding_all rfl) hd1 trivial ?_
    obtain ⟨rfl, rfl, rfl⟩ := qp_some3 h
    exact qp_retI_E qp_ok122 rfl qp_r122.1 ⟨rfl, rfl⟩ ⟨rfl, rfl⟩
  replace h := qp_iff h7 h
  by_cases h8 : p1 = 7
  · replace h := qp_ift h8 h
    refine qp_run_E qp_ok122 1 (c' := (qp_swt 167 0 10 #[59, 70, 78, 86, 94, 105, 116, 127, 139, 151, 159] 1 p1, [some (.ref 0), some (.int p1)], [], qp_mk I J)) (by with_unfolding_all rfl) hd1 trivial ?_
    refine qp_E_pc (pc' := 128) (by rw [h8]; rfl) ?_
    refine qp_run_E qp_ok122 4 (c' := (136, [some (.ref 0), some (.int p1)], [.int 1, .ref 15], qp_mk I J)) (by with_unfolding_all rfl) hd1 trivial ?_
    obtain ⟨v2, I2, J2, e2, h⟩ := qp_bd_s h
    refine qp_cV qp_ok122 (rest := []) (oj := 3) qp_f123 rfl rfl (gC_howMany_15 l G 1 I J e2 (Nat.le_refl 2)) rfl rfl rfl rfl (Nat.le_trans (by decide) hd) ?_
    obtain ⟨rfl, rfl, rfl⟩ := qp_some3 h
    exact qp_retI_E qp_ok122 rfl qp_r122.1 ⟨rfl, rfl⟩ ⟨rfl, rfl⟩
  replace h := qp_iff h8 h
  by_cases h9 : p1 = 8
  · replace h := qp_ift h9 h
    refine qp_run_E qp_ok122 1 (c' := (qp_swt 167 0 10 #[59, 70, 78, 86, 94, 105, 116, 127, 139, 151, 159] 1 p1, [some (.ref 0), some (.int p1)], [], qp_mk I J)) (by with_unfolding_all rfl) hd1 trivial ?_
    refine qp_E_pc (pc' := 140) (by rw [h9]; rfl) ?_
    refine qp_run_E qp_ok122 4 (c' := (148, [some (.ref 0), some (.int p1)], [.int 2, .ref 15], qp_mk I J)) (by with_unfolding_all rfl) hd1 trivial ?_
    obtain ⟨v3, I3, J3, e3, h⟩ := qp_bd_s h
    refine qp_cV qp_ok122 (rest := []) (oj := 3) qp_f123 rfl rfl (gC_howMany_15 l G 2 I J e3 (Nat.le_refl 2)) rfl rfl rfl rfl (Nat.le_trans (by decide) hd) ?_
    obtain ⟨rfl, rfl, rfl⟩ := qp_some3 h
    exact qp_retI_E qp_ok122 rfl qp_r122.1 ⟨rfl, rfl⟩ ⟨rfl, rfl⟩
  replace h := qp_iff h9 h
  by_cases h10 : p1 = 9
  · replace h := qp_ift h10 h
    refine qp_run_E qp_ok122 1 (c' := (qp_swt 167 0 10 #[59, 70, 78, 86, 94, 105, 116, 127, 139, 151, 159] 1 p1, [some (.ref 0), some (.int p1)], [], qp_mk I J)) (by with_unfolding_all rfl) hd1 trivial ?_
    refine qp_E_pc (pc' := 152) (by rw [h10]; rfl) ?_
    refine qp_run_E qp_ok122 2 (c' := (156, [some (.ref 0), some (.int p1)], [.ref 1], qp_mk I J)) (by with_unfolding_all rfl) hd1 trivial ?_
    obtain ⟨v4, I4, J4, e4, h⟩ := qp_bd_s h
    refine qp_cV qp_ok122 (rest := []) (oj := 1) qp_f124 rfl rfl (gS_there_1 l G I J e4 (Nat.le_refl 4)) rfl rfl rfl rfl (Nat.le_trans (by decide) hd) ?_
    obtain ⟨rfl, rfl, rfl⟩ := qp_some3 h
    exact qp_retI_E qp_ok122 rfl qp_r122.1 ⟨rfl, rfl⟩ ⟨rfl, rfl⟩
  replace h := qp_iff h10 h
  by_cases h11 : p1 = 10
  · replace h := qp_ift h11 h
    refine qp_run_E qp_ok122 1 (c' := (qp_swt 167 0 10 #[59, 70, 78, 86, 94, 105, 116, 127, 139, 151, 159] 1 p1, [some (.ref 0), some (.int p1)], [], qp_mk I J)) (by with_unfolding_all rfl) hd1 trivial ?_
    refine qp_E_pc (pc' := 160) (by rw [h11]; rfl) ?_
    refine qp_run_E qp_ok122 2 (c' := (164, [some (.ref 0), some (.int p1)], [.ref 4], qp_mk I J)) (by with_unfolding_all rfl) hd1 trivial ?_
    obtain ⟨v5, I5, J5, e5, h⟩ := qp_bd_s h
    refine qp_cV qp_ok122 (rest := []) (oj := 1) qp_f124 rfl rfl (gS_there_4 l G I J e5 (Nat.le_refl 4)) rfl rfl rfl rfl (Nat.le_trans (by decide) hd) ?_
    obtain ⟨rfl, rfl, rfl⟩ := qp_some3 h
    exact qp_retI_E qp_ok122 rfl qp_r122.1 ⟨rfl, rfl⟩ ⟨rfl, rfl⟩
  replace h := qp_iff h11 h
  refine qp_run_E qp_ok122 1 (c' := (qp_swt 167 0 10 #[59, 70, 78, 86, 94, 105, 116, 127, 139, 151, 159] 1 p1, [some (.ref 0), some (.int p1)], [], qp_mk I J)) (by with_unfolding_all rfl) hd1 trivial ?_
  refine qp_E_pc (pc' := 168) (qp_swt_df (lo' := 0) (hi' := 10) (by decide) (by decide) (by clear h; grind)) ?_
  refine qp_run_E qp_ok122 2 (c' := (172, [some (.ref 0), some (.int p1)], [.ref 7], qp_mk I J)) (by with_unfolding_all rfl) hd1 trivial ?_
  obtain ⟨v6, I6, J6, e6, h⟩ := qp_bd_s h
  refine qp_cV qp_ok122 (rest := []) (oj := 1) qp_f124 rfl rfl (gS_there_7 l G I J e6 (Nat.le_refl 4)) rfl rfl rfl rfl (Nat.le_trans (by decide) hd) ?_
  obtain ⟨rfl, rfl, rfl⟩ := qp_some3 h
  exact qp_retI_E qp_ok122 rfl qp_r122.1 ⟨rfl, rfl⟩ ⟨rfl, rfl⟩
def fX_count (p1 : Int32) (I : Nat → Nat → Int32) (J : Nat → Nat → Int64) : Option (Int32 × (Nat → Nat → Int32) × (Nat → Nat → Int64)) :=
  if p1 < 0 then (
    some ((-1), I, J)
  ) else (
    if p1 ≤ 11 then (
      qp_bd (fL_serve (I 14 2) I J) fun _u I1 J1 =>
      qp_bd (fX_amount p1 I1 J1) fun v2 I2 J2 =>
      some (v2, I2, J2)
    ) else (
      some ((-1), I, J)
    )
  )
set_option maxRecDepth 8000 in
theorem gX_count (l : Launch) (G : qp_G) (p1 : Int32) (I : Nat → Nat → Int32) (J : Nat → Nat → Int64) {v : Int32} {I' : Nat → Nat → Int32} {J' : Nat → Nat → Int64} (h : fX_count p1 I J = some (v, I', J')) {d : Nat} (hd : 6 ≤ d) : qp_Met l G d 121 [.ref 0, .int p1] (qp_mk I J) 0 0 (qp_R8 (some (.int v)) I' J') := by
  have hd1 : Nat.ble 1 d = true := Nat.ble_eq_true_of_le (Nat.le_trans (by decide) hd)
  refine qp_Met_of (by decide) (by rw [qp_r121.2]; rfl) [some (.ref 0), some (.int p1)] (by rw [qp_r121.2]; rfl) ?_
  unfold fX_count at h
  refine qp_run_E qp_ok121 1 (c' := (1, [some (.ref 0), some (.int p1)], [.int p1], qp_mk I J)) (by with_unfolding_all rfl) hd1 trivial ?_
  refine qp_br_E qp_ok121 (f := p1 < 0) (ct := (10, [some (.ref 0), some (.int p1)], [], qp_mk I J)) (cf := (4, [some (.ref 0), some (.int p1)], [], qp_mk I J)) (by with_unfolding_all rfl) (fun h1 => ?_) (fun h1 => ?_)
  · replace h := qp_ift h1 h
    refine qp_run_E qp_ok121 1 (c' := (11, [some (.ref 0), some (.int p1)], [.int (-1)], qp_mk I J)) (by with_unfolding_all rfl) hd1 trivial ?_
    obtain ⟨rfl, rfl, rfl⟩ := qp_some3 h
    exact qp_retI_E qp_ok121 rfl qp_r121.1 ⟨rfl, rfl⟩ ⟨rfl, rfl⟩
  · replace h := qp_iff h1 h
    refine qp_run_E qp_ok121 2 (c' := (7, [some (.ref 0), some (.int p1)], [.int 11, .int p1], qp_mk I J)) (by with_unfolding_all rfl) hd1 trivial ?_
    refine qp_br_E qp_ok121 (f := p1 ≤ 11) (ct := (12, [some (.ref 0), some (.int p1)], [], qp_mk I J)) (cf := (10, [some (.ref 0), some (.int p1)], [], qp_mk I J)) (by with_unfolding_all rfl) (fun h2 => ?_) (fun h2 => ?_)
    · replace h := qp_ift h2 h
      refine qp_run_E qp_ok121 5 (c' := (23, [some (.ref 0), some (.int p1)], [.int (I 14 2), .ref 14], qp_mk I J)) (by with_unfolding_all rfl) hd1 trivial ?_
      obtain ⟨v1, I1, J1, e1, h⟩ := qp_bd_s h
      refine qp_cV qp_ok121 (rest := []) (oj := 4) qp_f67 rfl rfl (gL_serve l G (I 14 2) I J e1 (Nat.le_refl 4)) rfl rfl rfl rfl (Nat.le_trans (by decide) hd) ?_
      refine qp_run_E qp_ok121 2 (c' := (28, [some (.ref 0), some (.int p1)], [.int p1, .ref 0], qp_mk I1 J1)) (by with_unfolding_all rfl) hd1 trivial ?_
      obtain ⟨v2, I2, J2, e2, h⟩ := qp_bd_s h
      refine qp_cV qp_ok121 (rest := []) (oj := 0) qp_f122 rfl rfl (gX_amount l G p1 I1 J1 e2 (Nat.le_refl 5)) rfl rfl rfl rfl (Nat.le_trans (by decide) hd) ?_
      obtain ⟨rfl, rfl, rfl⟩ := qp_some3 h
      exact qp_retI_E qp_ok121 rfl qp_r121.1 ⟨rfl, rfl⟩ ⟨rfl, rfl⟩
    · replace h := qp_iff h2 h
      refine qp_run_E qp_ok121 1 (c' := (11, [some (.ref 0), some (.int p1)], [.int (-1)], qp_mk I J)) (by with_unfolding_all rfl) hd1 trivial ?_
      obtain ⟨rfl, rfl, rfl⟩ := qp_some3 h
      exact qp_retI_E qp_ok121 rfl qp_r121.1 ⟨rfl, rfl⟩ ⟨rfl, rfl⟩

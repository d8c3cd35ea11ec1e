/-! methods as functions, 6 -/
def fM_mean_b44  : Nat → Int32 → Int64 → Int32 → (Nat → Nat → Int32) → (Nat → Nat → Int64) → Option (Int32 × (Nat → Nat → Int32) × (Nat → Nat → Int64))
  | 0, _, _, _, _, _ => none
  | n + 1, a1, a2, a4, I, J =>
    qp_gd ((0 ≤ a1 ∧ a1 < 6)) <|
    if (I 41 (Int32.toNatClampNeg a1)) ≤ a4 then (
      qp_gd ((0 ≤ a1 ∧ a1 < 6) ∧ (¬ (Int32.toInt64 (I 41 (Int32.toNatClampNeg a1))) = 0)) <|
      qp_bd (fM_asks (Int64.toInt32 (a2 / (Int32.toInt64 (I 41 (Int32.toNatClampNeg a1))))) I J) fun v1 I1 J1 =>
      some (v1, I1, J1)
    ) else (
      qp_gd ((0 ≤ (((40 : Int32) * a1) + a4) ∧ (((40 : Int32) * a1) + a4) < 240)) <|
      fM_mean_b44 n a1 (a2 + (Int32.toInt64 (I 40 (Int32.toNatClampNeg (((40 : Int32) * a1) + a4))))) (a4 + 1) I J
    )
set_option maxRecDepth 8000 in
theorem gM_mean_b44 {l : Launch} {G : qp_G} {d : Nat} (hd : 3 ≤ d) {r : (Int32 × (Nat → Nat → Int32) × (Nat → Nat → Int64))} {I0 : Nat → Nat → Int32} {J0 : Nat → Nat → Int64}   : ∀ (n : Nat) (a1 : Int32) (a2 : Int64) (a4 : Int32) (I : Nat → Nat → Int32) (J : Nat → Nat → Int64), fM_mean_b44  n a1 a2 a4 I J = some r → qp_E l G d 157 (qp_mk I0 J0) 0 0 (qp_R8 (some (.int r.1)) r.2.1 r.2.2) (44, [some (.ref 36), some (.int a1), some (.long a2), none, some (.int a4)], [], qp_mk I J) := by
  have hd1 : Nat.ble 1 d = true := Nat.ble_eq_true_of_le (Nat.le_trans (by decide) hd)
  intro n
  induction n with
  | zero => intro a1 a2 a4 I J h; exact absurd h (by simp [fM_mean_b44])
  | succ n ih =>
    intro a1 a2 a4 I J h
    rw [fM_mean_b44] at h
    obtain ⟨h1, h⟩ := qp_gd_s h
    refine qp_run_E qp_ok157 5 (f := vp_in a1 6 ∧ True) (c' := (52, [some (.ref 36), some (.int a1), some (.long a2), none, some (.int a4)], [.int (I 41 (Int32.toNatClampNeg a1)), .int a4], qp_mk I J)) (by with_unfolding_all rfl) hd1 ⟨(qp_vin (c := 6) (by decide) h1.1 h1.2), trivial⟩ ?_
    refine qp_br_E qp_ok157 (f := (I 41 (Int32.toNatClampNeg a1)) ≤ a4) (ct := (77, [some (.ref 36), some (.int a1), some (.long a2), none, some (.int a4)], [], qp_mk I J)) (cf := (55, [some (.ref 36), some (.int a1), some (.long a2), none, some (.int a4)], [], qp_mk I J)) (by with_unfolding_all rfl) (fun h2 => ?_) (fun h2 => ?_)
    · replace h := qp_ift h2 h
      obtain ⟨h3, h⟩ := qp_gd_s h
      refine qp_run_E qp_ok157 9 (f := vp_in a1 6 ∧ ¬ ((Int32.toInt64 (I 41 (Int32.toNatClampNeg a1))) : Int64) = 0 ∧ True) (c' := (88, [some (.ref 36), some (.int a1), some (.long a2), none, some (.int a4)], [.int (Int64.toInt32 (a2 / (Int32.toInt64 (I 41 (Int32.toNatClampNeg a1))))), .ref 36], qp_mk I J)) (by with_unfolding_all rfl) hd1 ⟨(qp_vin (c := 6) (by decide) h3.1.1 h3.1.2), h3.2, trivial⟩ ?_
      obtain ⟨v1, I1, J1, e1, h⟩ := qp_bd_s h
      refine qp_cV qp_ok157 (rest := []) (oj := 10) qp_f154 rfl rfl (gM_asks l G (Int64.toInt32 (a2 / (Int32.toInt64 (I 41 (Int32.toNatClampNeg a1))))) I J e1 (Nat.le_refl 1)) rfl rfl rfl rfl (Nat.le_trans (by decide) hd) ?_
      obtain rfl := Option.some.inj h
      exact qp_retI_E qp_ok157 rfl qp_r157.1 ⟨rfl, rfl⟩ ⟨rfl, rfl⟩
    · replace h := qp_iff h2 h
      obtain ⟨h4, h⟩ := qp_gd_s h
      refine qp_run_E qp_ok157 14 (f := vp_in (((40 : Int32) * a1) + a4) 240 ∧ True) (c' := (44, [some (.ref 36), some (.int a1), some (.long (a2 + (Int32.toInt64 (I 40 (Int32.toNatClampNeg (((40 : Int32) * a1) + a4)))))), none, some (.int (a4 + 1))], [], qp_mk I J)) (by with_unfolding_all rfl) hd1 ⟨(qp_vin (c := 240) (by decide) h4.1 h4.2), trivial⟩ ?_
      exact ih a1 (a2 + (Int32.toInt64 (I 40 (Int32.toNatClampNeg (((40 : Int32) * a1) + a4))))) (a4 + 1) I J h
def fM_mean (p1 : Int32) (I : Nat → Nat → Int32) (J : Nat → Nat → Int64) : Option (Int32 × (Nat → Nat → Int32) × (Nat → Nat → Int64)) :=
  qp_bd (fM_isRow p1 I J) fun v1 I1 J1 =>
  if ¬ v1 = 0 then (
    qp_gd ((0 ≤ p1 ∧ p1 < 6)) <|
    if 0 ≤ (I1 41 (Int32.toNatClampNeg p1)) then (
      qp_gd ((0 ≤ p1 ∧ p1 < 6)) <|
      if ¬ (I1 41 (Int32.toNatClampNeg p1)) = 0 then (
        fM_mean_b44 100000 p1 0 0 I1 J1
      ) else (
        qp_bd (fM_finds 4 I1 J1) fun v2 I2 J2 =>
        some (v2, I2, J2)
      )
    ) else (
      qp_bd (fM_finds 1 I1 J1) fun v3 I3 J3 =>
      some (v3, I3, J3)
    )
  ) else (
    some ((-1), I1, J1)
  )
set_option maxRecDepth 8000 in
theorem gM_mean (l : Launch) (G : qp_G) (p1 : Int32) (I : Nat → Nat → Int32) (J : Nat → Nat → Int64) {v : Int32} {I' : Nat → Nat → Int32} {J' : Nat → Nat → Int64} (h : fM_mean p1 I J = some (v, I', J')) {d : Nat} (hd : 3 ≤ d) : qp_Met l G d 157 [.ref 36, .int p1] (qp_mk I J) 0 0 (qp_R8 (some (.int v)) I' J') := by
  have hd1 : Nat.ble 1 d = true := Nat.ble_eq_true_of_le (Nat.le_trans (by decide) hd)
  refine qp_Met_of (by decide) (by rw [qp_r157.2]; rfl) [some (.ref 36), some (.int p1), none, none, none] (by rw [qp_r157.2]; rfl) ?_
  unfold fM_mean at h
  refine qp_run_E qp_ok157 1 (c' := (1, [some (.ref 36), some (.int p1), none, none, none], [.int p1], qp_mk I J)) (by with_unfolding_all rfl) hd1 trivial ?_
  obtain ⟨v1, I1, J1, e1, h⟩ := qp_bd_s h
  refine qp_cS qp_ok157 (rest := []) (oj := 10) qp_f149 rfl rfl (gM_isRow l G p1 I J e1 (Nat.le_refl 2)) rfl rfl rfl (Nat.le_trans (by decide) hd) ?_
  refine qp_br_E qp_ok157 (f := ¬ v1 = 0) (ct := (9, [some (.ref 36), some (.int p1), none, none, none], [], qp_mk I1 J1)) (cf := (7, [some (.ref 36), some (.int p1), none, none, none], [], qp_mk I1 J1)) (by with_unfolding_all rfl) (fun h1 => ?_) (fun h1 => ?_)
  · replace h := qp_ift h1 h
    obtain ⟨h2, h⟩ := qp_gd_s h
    refine qp_run_E qp_ok157 4 (f := vp_in p1 6 ∧ True) (c' := (15, [some (.ref 36), some (.int p1), none, none, none], [.int (I1 41 (Int32.toNatClampNeg p1))], qp_mk I1 J1)) (by with_unfolding_all rfl) hd1 ⟨(qp_vin (c := 6) (by decide) h2.1 h2.2), trivial⟩ ?_
    refine qp_br_E qp_ok157 (f := 0 ≤ (I1 41 (Int32.toNatClampNeg p1))) (ct := (24, [some (.ref 36), some (.int p1), none, none, none], [], qp_mk I1 J1)) (cf := (18, [some (.ref 36), some (.int p1), none, none, none], [], qp_mk I1 J1)) (by with_unfolding_all rfl) (fun h3 => ?_) (fun h3 => ?_)
    · replace h := qp_ift h3 h
      obtain ⟨h4, h⟩ := qp_gd_s h
      refine qp_run_E qp_ok157 4 (f := vp_in p1 6 ∧ True) (c' := (30, [some (.ref 36), some (.int p1), none, none, none], [.int (I1 41 (Int32.toNatClampNeg p1))], qp_mk I1 J1)) (by with_unfolding_all rfl) hd1 ⟨(qp_vin (c := 6) (by decide) h4.1 h4.2), trivial⟩ ?_
      refine qp_br_E qp_ok157 (f := ¬ (I1 41 (Int32.toNatClampNeg p1)) = 0) (ct := (39, [some (.ref 36), some (.int p1), none, none, none], [], qp_mk I1 J1)) (cf := (33, [some (.ref 36), some (.int p1), none, none, none], [], qp_mk I1 J1)) (by with_unfolding_all rfl) (fun h5 => ?_) (fun h5 => ?_)
      · replace h := qp_ift h5 h
        refine qp_run_E qp_ok157 4 (c' := (44, [some (.ref 36), some (.int p1), some (.long 0), none, some (.int 0)], [], qp_mk I1 J1)) (by with_unfolding_all rfl) hd1 trivial ?_
        exact gM_mean_b44 hd 100000 p1 0 0 I1 J1 h
      · replace h := qp_iff h5 h
        refine qp_run_E qp_ok157 2 (c' := (35, [some (.ref 36), some (.int p1), none, none, none], [.int 4, .ref 36], qp_mk I1 J1)) (by with_unfolding_all rfl) hd1 trivial ?_
        obtain ⟨v2, I2, J2, e2, h⟩ := qp_bd_s h
        refine qp_cV qp_ok157 (rest := []) (oj := 10) qp_f151 rfl rfl (gM_finds l G 4 I1 J1 e2 (Nat.le_refl 1)) rfl rfl rfl rfl (Nat.le_trans (by decide) hd) ?_
        obtain ⟨rfl, rfl, rfl⟩ := qp_some3 h
        exact qp_retI_E qp_ok157 rfl qp_r157.1 ⟨rfl, rfl⟩ ⟨rfl, rfl⟩
    · replace h := qp_iff h3 h
      refine qp_run_E qp_ok157 2 (c' := (20, [some (.ref 36), some (.int p1), none, none, none], [.int 1, .ref 36], qp_mk I1 J1)) (by with_unfolding_all rfl) hd1 trivial ?_
      obtain ⟨v3, I3, J3, e3, h⟩ := qp_bd_s h
      refine qp_cV qp_ok157 (rest := []) (oj := 10) qp_f151 rfl rfl (gM_finds l G 1 I1 J1 e3 (Nat.le_refl 1)) rfl rfl rfl rfl (Nat.le_trans (by decide) hd) ?_
      obtain ⟨rfl, rfl, rfl⟩ := qp_some3 h
      exact qp_retI_E qp_ok157 rfl qp_r157.1 ⟨rfl, rfl⟩ ⟨rfl, rfl⟩
  · replace h := qp_iff h1 h
    refine qp_run_E qp_ok157 1 (c' := (8, [some (.ref 36), some (.int p1), none, none, none], [.int (-1)], qp_mk I1 J1)) (by with_unfolding_all rfl) hd1 trivial ?_
    obtain ⟨rfl, rfl, rfl⟩ := qp_some3 h
    exact qp_retI_E qp_ok157 rfl qp_r157.1 ⟨rfl, rfl⟩ ⟨rfl, rfl⟩
def fM_isText (p0 : Int32) (I : Nat → Nat → Int32) (J : Nat → Nat → Int64) : Option (Int32 × (Nat → Nat → Int32) × (Nat → Nat → Int64)) :=
  qp_bd (fM_in (Int32.toInt64 p0) 0 3 I J) fun v1 I1 J1 =>
  qp_gd (v1 = 0 ∨ v1 = 1) <| some (v1, I1, J1)
set_option maxRecDepth 8000 in
theorem gM_isText (l : Launch) (G : qp_G) (p0 : Int32) (I : Nat → Nat → Int32) (J : Nat → Nat → Int64) {v : Int32} {I' : Nat → Nat → Int32} {J' : Nat → Nat → Int64} (h : fM_isText p0 I J = some (v, I', J')) {d : Nat} (hd : 2 ≤ d) : qp_Met l G d 159 [.int p0] (qp_mk I J) 0 0 (qp_R8 (some (.int v)) I' J') := by
  have hd1 : Nat.ble 1 d = true := Nat.ble_eq_true_of_le (Nat.le_trans (by decide) hd)
  refine qp_Met_of (by decide) (by rw [qp_r159.2]; rfl) [some (.int p0)] (by rw [qp_r159.2]; rfl) ?_
  unfold fM_isText at h
  refine qp_run_E qp_ok159 4 (c' := (6, [some (.int p0)], [.long 3, .long 0, .long (Int32.toInt64 p0)], qp_mk I J)) (by with_unfolding_all rfl) hd1 trivial ?_
  obtain ⟨v1, I1, J1, e1, h⟩ := qp_bd_s h
  refine qp_cS qp_ok159 (rest := []) (oj := 10) qp_f150 rfl rfl (gM_in l G (Int32.toInt64 p0) 0 3 I J e1 (Nat.le_refl 1)) rfl rfl rfl (Nat.le_trans (by decide) hd) ?_
  obtain ⟨h1, h⟩ := qp_gd_s h
  obtain ⟨rfl, rfl, rfl⟩ := qp_some3 h
  exact qp_retZ_E qp_ok159 rfl qp_r159.1 (qp_nar01 h1) ⟨rfl, rfl⟩ ⟨rfl, rfl⟩
def fM_text_b34  : Nat → Int32 → Int32 → Int32 → (Nat → Nat → Int32) → (Nat → Nat → Int64) → Option (Int32 × (Nat → Nat → Int32) × (Nat → Nat → Int64))
  | 0, _, _, _, _, _ => none
  | n + 1, a1, a2, a3, I, J =>
    if a2 ≤ a3 then (
      some (a2, I, J)
    ) else (
      qp_gd ((0 ≤ (((60 : Int32) * a1) + a3) ∧ (((60 : Int32) * a1) + a3) < 240)) <|
      fM_text_b34 n a1 a2 (a3 + 1) (qp_up I 42 (Int32.toNatClampNeg (((60 : Int32) * a1) + a3)) 32) J
    )
set_option maxRecDepth 8000 in
theorem gM_text_b34 {l : Launch} {G : qp_G} {d : Nat} (hd : 3 ≤ d) {r : (Int32 × (Nat → Nat → Int32) × (Nat → Nat → Int64))} {I0 : Nat → Nat → Int32} {J0 : Nat → Nat → Int64}   : ∀ (n : Nat) (a1 : Int32) (a2 : Int32) (a3 : Int32) (I : Nat → Nat → Int32) (J : Nat → Nat → Int64), fM_text_b34  n a1 a2 a3 I J = some r → qp_E l G d 158 (qp_mk I0 J0) 0 0 (qp_R8 (some (.int r.1)) r.2.1 r.2.2) (34, [some (.ref 36), some (.int a1), some (.int a2), some (.int a3)], [], qp_mk I J) := by
  have hd1 : Nat.ble 1 d = true := Nat.ble_eq_true_of_le (Nat.le_trans (by decide) hd)
  intro n
  induction n with
  | zero => intro a1 a2 a3 I J h; exact absurd h (by simp [fM_text_b34])
  | succ n ih =>
    intro a1 a2 a3 I J h
    rw [fM_text_b34] at h
    refine qp_run_E qp_ok158 2 (c' := (36, [some (.ref 36), some (.int a1), some (.int a2), some (.int a3)], [.int a2, .int a3], qp_mk I J)) (by with_unfolding_all rfl) hd1 trivial ?_
    refine qp_br_E qp_ok158 (f := a2 ≤ a3) (ct := (58, [some (.ref 36), some (.int a1), some (.int a2), some (.int a3)], [], qp_mk I J)) (cf := (39, [some (.ref 36), some (.int a1), some (.int a2), some (.int a3)], [], qp_mk I J)) (by with_unfolding_all rfl) (fun h1 => ?_) (fun h1 => ?_)
    · replace h := qp_ift h1 h
      refine qp_run_E qp_ok158 1 (c' := (59, [some (.ref 36), some (.int a1), some (.int a2), some (.int a3)], [.int a2], qp_mk I J)) (by with_unfolding_all rfl) hd1 trivial ?_
      obtain rfl := Option.some.inj h
      exact qp_retI_E qp_ok158 rfl qp_r158.1 ⟨rfl, rfl⟩ ⟨rfl, rfl⟩
    · replace h := qp_iff h1 h
      obtain ⟨h2, h⟩ := qp_gd_s h
      refine qp_run_E qp_ok158 11 (f := vp_in (((60 : Int32) * a1) + a3) 240 ∧ True) (c' := (34, [some (.ref 36), some (.int a1), some (.int a2), some (.int (a3 + 1))], [], qp_mk (qp_up I 42 (Int32.toNatClampNeg (((60 : Int32) * a1) + a3)) 32) J)) (by with_unfolding_all rfl) hd1 ⟨(qp_vin (c := 240) (by decide) h2.1 h2.2), trivial⟩ ?_
      exact ih a1 a2 (a3 + 1) (qp_up I 42 (Int32.toNatClampNeg (((60 : Int32) * a1) + a3)) 32) J h
def fM_text (p1 : Int32) (p2 : Int32) (I : Nat → Nat → Int32) (J : Nat → Nat → Int64) : Option (Int32 × (Nat → Nat → Int32) × (Nat → Nat → Int64)) :=
  qp_bd (fM_isText p1 I J) fun v1 I1 J1 =>
  if v1 = 0 then (
    some ((-1), I1, J1)
  ) else (
    if p2 ≤ 60 then (
      if 0 ≤ p2 then (
        qp_gd ((0 ≤ p1 ∧ p1 < 4)) <|
        fM_text_b34 100000 p1 p2 0 (qp_up I1 43 (Int32.toNatClampNeg p1) p2) J1
      ) else (
        qp_bd (fM_finds 5 I1 J1) fun v2 I2 J2 =>
        some (v2, I2, J2)
      )
    ) else (
      some ((-1), I1, J1)
    )
  )
set_option maxRecDepth 8000 in
theorem gM_text (l : Launch) (G : qp_G) (p1 : Int32) (p2 : Int32) (I : Nat → Nat → Int32) (J : Nat → Nat → Int64) {v : Int32} {I' : Nat → Nat → Int32} {J' : Nat → Nat → Int64} (h : fM_text p1 p2 I J = some (v, I', J')) {d : Nat} (hd : 3 ≤ d) : qp_Met l G d 158 [.ref 36, .int p1, .int p2] (qp_mk I J) 0 0 (qp_R8 (some (.int v)) I' J') := by
  have hd1 : Nat.ble 1 d = true := Nat.ble_eq_true_of_le (Nat.le_trans (by decide) hd)
  refine qp_Met_of (by decide) (by rw [qp_r158.2]; rfl) [some (.ref 36), some (.int p1), some (.int p2), none] (by rw [qp_r158.2]; rfl) ?_
  unfold fM_text at h
  refine qp_run_E qp_ok158 1 (c' := (1, [some (.ref 36), some (.int p1), some (.int p2), none], [.int p1], qp_mk I J)) (by with_unfolding_all rfl) hd1 trivial ?_
  obtain ⟨v1, I1, J1, e1, h⟩ := qp_bd_s h
  refine qp_cS qp_ok158 (rest := []) (oj := 10) qp_f159 rfl rfl (gM_isText l G p1 I J e1 (Nat.le_refl 2)) rfl rfl rfl (Nat.le_trans (by decide) hd) ?_
  refine qp_br_E qp_ok158 (f := v1 = 0) (ct := (13, [some (.ref 36), some (.int p1), some (.int p2), none], [], qp_mk I1 J1)) (cf := (7, [some (.ref 36), some (.int p1), some (.int p2), none], [], qp_mk I1 J1)) (by with_unfolding_all rfl) (fun h1 => ?_) (fun h1 => ?_)
  · replace h := qp_ift h1 h
    refine qp_run_E qp_ok158 1 (c' := (14, [some (.ref 36), some (.int p1), some (.int p2), none], [.int (-1)], qp_mk I1 J1)) (by with_unfolding_all rfl) hd1 trivial ?_
    obtain ⟨rfl, rfl, rfl⟩ := qp_some3 h
    exact qp_retI_E qp_ok158 rfl qp_r158.1 ⟨rfl, rfl⟩ ⟨rfl, rfl⟩
  · replace h := qp_iff h1 h
    refine qp_run_E qp_ok158 2 (c' := (10, [some (.ref 36), some (.int p1), some (.int p2), none], [.int 60, .int p2], qp_mk I1 J1)) (by with_unfolding_all rfl) hd1 trivial ?_
    refine qp_br_E qp_ok158 (f := p2 ≤ 60) (ct := (15, [some (.ref 36), some (.int p1), some (.int p2), none], [], qp_mk I1 J1)) (cf := (13, [some (.ref 36), some (.int p1), some (.int p2), none], [], qp_mk I1 J1)) (by with_unfolding_all rfl) (fun h2 => ?_) (fun h2 => ?_)
    · replace h := qp_ift h2 h
      refine qp_run_E qp_ok158 1 (c' := (16, [some (.ref 36), some (.int p1), some (.int p2), none], [.int p2], qp_mk I1 J1)) (by with_unfolding_all rfl) hd1 trivial ?_
      refine qp_br_E qp_ok158 (f := 0 ≤ p2) (ct := (25, [some (.ref 36), some (.int p1), some (.int p2), none], [], qp_mk I1 J1)) (cf := (19, [some (.ref 36), some (.int p1), some (.int p2), none], [], qp_mk I1 J1)) (by with_unfolding_all rfl) (fun h3 => ?_) (fun h3 => ?_)
      · replace h := qp_ift h3 h
        obtain ⟨h4, h⟩ := qp_gd_s h
        refine qp_run_E qp_ok158 7 (f := vp_in p1 4 ∧ True) (c' := (34, [some (.ref 36), some (.int p1), some (.int p2), some (.int 0)], [], qp_mk (qp_up I1 43 (Int32.toNatClampNeg p1) p2) J1)) (by with_unfolding_all rfl) hd1 ⟨(qp_vin (c := 4) (by decide) h4.1 h4.2), trivial⟩ ?_
        exact gM_text_b34 hd 100000 p1 p2 0 (qp_up I1 43 (Int32.toNatClampNeg p1) p2) J1 h
      · replace h := qp_iff h3 h
        refine qp_run_E qp_ok158 2 (c' := (21, [some (.ref 36), some (.int p1), some (.int p2), none], [.int 5, .ref 36], qp_mk I1 J1)) (by with_unfolding_all rfl) hd1 trivial ?_
        obtain ⟨v2, I2, J2, e2, h⟩ := qp_bd_s h
        refine qp_cV qp_ok158 (rest := []) (oj := 10) qp_f151 rfl rfl (gM_finds l G 5 I1 J1 e2 (Nat.le_refl 1)) rfl rfl rfl rfl (Nat.le_trans (by decide) hd) ?_
        obtain ⟨rfl, rfl, rfl⟩ := qp_some3 h
        exact qp_retI_E qp_ok158 rfl qp_r158.1 ⟨rfl, rfl⟩ ⟨rfl, rfl⟩
    · replace h := qp_iff h2 h
      refine qp_run_E qp_ok158 1 (c' := (14, [some (.ref 36), some (.int p1), some (.int p2), none], [.int (-1)], qp_mk I1 J1)) (by with_unfolding_all rfl) hd1 trivial ?_
      obtain ⟨rfl, rfl, rfl⟩ := qp_some3 h
      exact qp_retI_E qp_ok158 rfl qp_r158.1 ⟨rfl, rfl⟩ ⟨rfl, rfl⟩
def fM_put (p1 : Int32) (p2 : Int32) (p3 : Int32) (I : Nat → Nat → Int32) (J : Nat → Nat → Int64) : Option (Int32 × (Nat → Nat → Int32) × (Nat → Nat → Int64)) :=
  qp_bd (fM_isText p1 I J) fun v1 I1 J1 =>
  if ¬ v1 = 0 then (
    qp_gd ((0 ≤ p1 ∧ p1 < 4)) <|
    if 0 ≤ (I1 43 (Int32.toNatClampNeg p1)) then (
      qp_gd ((0 ≤ p1 ∧ p1 < 4)) <|
      qp_bd (fM_in (Int32.toInt64 p2) 0 (Int32.toInt64 ((I1 43 (Int32.toNatClampNeg p1)) - 1)) I1 J1) fun v2 I2 J2 =>
      if ¬ v2 = 0 then (
        qp_gd ((0 ≤ (((60 : Int32) * p1) + p2) ∧ (((60 : Int32) * p1) + p2) < 240)) <|
        if (p3 &&& 255) ≤ 127 then (
          qp_gd ((0 ≤ (((60 : Int32) * p1) + p2) ∧ (((60 : Int32) * p1) + p2) < 240)) <|
          some (((I2 42 (Int32.toNatClampNeg (((60 : Int32) * p1) + p2))) + 1000), (qp_up I2 42 (Int32.toNatClampNeg (((60 : Int32) * p1) + p2)) (p3 &&& 255)), J2)
        ) else (
          qp_gd ((0 ≤ (((60 : Int32) * p1) + p2) ∧ (((60 : Int32) * p1) + p2) < 240)) <|
          some (((I2 42 (Int32.toNatClampNeg (((60 : Int32) * p1) + p2))) + 1000), (qp_up I2 42 (Int32.toNatClampNeg (((60 : Int32) * p1) + p2)) ((p3 &&& 255) - 256)), J2)
        )
      ) else (
        qp_bd (fM_finds 2 I2 J2) fun v3 I3 J3 =>
        some (v3, I3, J3)
      )
    ) else (
      qp_bd (fM_finds 1 I1 J1) fun v4 I4 J4 =>
      some (v4, I4, J4)
    )
  ) else (
    some ((-1), I1, J1)
  )
set_option maxRecDepth 8000 in
theorem gM_put (l : Launch) (G : qp_G) (p1 : Int32) (p2 : Int32) (p3 : Int32) (I : Nat → Nat → Int32) (J : Nat → Nat → Int64) {v : Int32} {I' : Nat → Nat → Int32} {J' : Nat → Nat → Int64} (h : fM_put p1 p2 p3 I J = some (v, I', J')) {d : Nat} (hd : 3 ≤ d) : qp_Met l G d 160 [.ref 36, .int p1, .int p2, .int p3] (qp_mk I J) 0 0 (qp_R8 (some (.int v)) I' J') := by
  have hd1 : Nat.ble 1 d = true := Nat.ble_eq_true_of_le (Nat.le_trans (by decide) hd)
  refine qp_Met_of (by decide) (by rw [qp_r160.2]; rfl) [some (.ref 36), some (.int p1), some (.int p2), some (.int p3), none, none] (by rw [qp_r160.2]; rfl) ?_
  unfold fM_put at h
  refine qp_run_E qp_ok160 1 (c' := (1, [some (.ref 36), some (.int p1), some (.int p2), some (.int p3), none, none], [.int p1], qp_mk I J)) (by with_unfolding_all rfl) hd1 trivial ?_
  obtain ⟨v1, I1, J1, e1, h⟩ := qp_bd_s h
  refine qp_cS qp_ok160 (rest := []) (oj := 10) qp_f159 rfl rfl (gM_isText l G p1 I J e1 (Nat.le_refl 2)) rfl rfl rfl (Nat.le_trans (by decide) hd) ?_
  refine qp_br_E qp_ok160 (f := ¬ v1 = 0) (ct := (9, [some (.ref 36), some (.int p1), some (.int p2), some (.int p3), none, none], [], qp_mk I1 J1)) (cf := (7, [some (.ref 36), some (.int p1), some (.int p2), some (.int p3), none, none], [], qp_mk I1 J1)) (by with_unfolding_all rfl) (fun h1 => ?_) (fun h1 => ?_)
  · replace h := qp_ift h1 h
    obtain ⟨h2, h⟩ := qp_gd_s h
    refine qp_run_E qp_ok160 4 (f := vp_in p1 4 ∧ True) (c' := (15, [some (.ref 36), some (.int p1), some (.int p2), some (.int p3), none, none], [.int (I1 43 (Int32.toNatClampNeg p1))], qp_mk I1 J1)) (by with_unfolding_all rfl) hd1 ⟨(qp_vin (c := 4) (by decide) h2.1 h2.2), trivial⟩ ?_
    refine qp_br_E qp_ok160 (f := 0 ≤ (I1 43 (Int32.toNatClampNeg p1))) (ct := (24, [some (.ref 36), some (.int p1), some (.int p2), some (.int p3), none, none], [], qp_mk I1 J1)) (cf := (18, [some (.ref 36), some (.int p1), some (.int p2), some (.int p3), none, none], [], qp_mk I1 J1)) (by with_unfolding_all rfl) (fun h3 => ?_) (fun h3 => ?_)
    · replace h := qp_ift h3 h
      obtain ⟨h4, h⟩ := qp_gd_s h
      refine qp_run_E qp_ok160 10 (f := vp_in p1 4 ∧ True) (c' := (36, [some (.ref 36), some (.int p1), some (.int p2), some (.int p3), none, none], [.long (Int32.toInt64 ((I1 43 (Int32.toNatClampNeg p1)) - 1)), .long 0, .long (Int32.toInt64 p2)], qp_mk I1 J1)) (by with_unfolding_all rfl) hd1 ⟨(qp_vin (c := 4) (by decide) h4.1 h4.2), trivial⟩ ?_
      obtain ⟨v2, I2, J2, e2, h⟩ := qp_bd_s h
      refine qp_cS qp_ok160 (rest := []) (oj := 10) qp_f150 rfl rfl (gM_in l G (Int32.toInt64 p2) 0 (Int32.toInt64 ((I1 43 (Int32.toNatClampNeg p1)) - 1)) I1 J1 e2 (Nat.le_refl 1)) rfl rfl rfl (Nat.le_trans (by decide) hd) ?_
      refine qp_br_E qp_ok160 (f := ¬ v2 = 0) (ct := (48, [some (.ref 36), some (.int p1), some (.int p2), some (.int p3), none, none], [], qp_mk I2 J2)) (cf := (42, [some (.ref 36), some (.int p1), some (.int p2), some (.int p3), none, none], [], qp_mk I2 J2)) (by with_unfolding_all rfl) (fun h5 => ?_) (fun h5 => ?_)
      · replace h := qp_ift h5 h
        obtain ⟨h6, h⟩ := qp_gd_s h
        refine qp_run_E qp_ok160 22 (f := vp_in (((60 : Int32) * p1) + p2) 240 ∧ True) (c' := (82, [some (.ref 36), some (.int p1), some (.int p2), some (.int p3), some (.int (I2 42 (Int32.toNatClampNeg (((60 : Int32) * p1) + p2)))), some (.int (p3 &&& 255))], [.int 127, .int (p3 &&& 255), .int (((60 : Int32) * p1) + p2), .ref 42], qp_mk I2 J2)) (by with_unfolding_all rfl) hd1 ⟨(qp_vin (c := 240) (by decide) h6.1 h6.2), trivial⟩ ?_
        refine qp_br_E qp_ok160 (f := (p3 &&& 255) ≤ 127) (ct := (94, [some (.ref 36), some (.int p1), some (.int p2), some (.int p3), some (.int (I2 42 (Int32.toNatClampNeg (((60 : Int32) * p1) + p2)))), some (.int (p3 &&& 255))], [.int (((60 : Int32) * p1) + p2), .ref 42], qp_mk I2 J2)) (cf := (85, [some (.ref 36), some (.int p1), some (.int p2), some (.int p3), some (.int (I2 42 (Int32.toNatClampNeg (((60 : Int32) * p1) + p2)))), some (.int (p3 &&& 255))], [.int (((60 : Int32) * p1) + p2), .ref 42], qp_mk I2 J2)) (by with_unfolding_all rfl) (fun h7 => ?_) (fun h7 => ?_)
        · replace h := qp_ift h7 h
          obtain ⟨h8, h⟩ := qp_gd_s h
          refine qp_run_E qp_ok160 5 (f := vp_in (((60 : Int32) * p1) + p2) 240 ∧ True) (c' := (103, [some (.ref 36), some (.int p1), some (.int p2), some (.int p3), some (.int (I2 42 (Int32.toNatClampNeg (((60 : Int32) * p1) + p2)))), some (.int (p3 &&& 255))], [.int ((I2 42 (Int32.toNatClampNeg (((60 : Int32) * p1) + p2))) + 1000)], qp_mk (qp_up I2 42 (Int32.toNatClampNeg (((60 : Int32) * p1) + p2)) (p3 &&& 255)) J2)) (by with_unfolding_all rfl) hd1 ⟨(qp_vin (c := 240) (by decide) h8.1 h8.2), trivial⟩ ?_
          obtain ⟨rfl, rfl, rfl⟩ := qp_some3 h
          exact qp_retI_E qp_ok160 rfl qp_r160.1 ⟨rfl, rfl⟩ ⟨rfl, rfl⟩
        · replace h := qp_iff h7 h
          obtain ⟨h9, h⟩ := qp_gd_s h
          refine qp_run_E qp_ok160 8 (f := vp_in (((60 : Int32) * p1) + p2) 240 ∧ True) (c' := (103, [some (.ref 36), some (.int p1), some (.int p2), some (.int p3), some (.int (I2 42 (Int32.toNatClampNeg (((60 : Int32) * p1) + p2)))), some (.int (p3 &&& 255))], [.int ((I2 42 (Int32.toNatClampNeg (((60 : Int32) * p1) + p2))) + 1000)], qp_mk (qp_up I2 42 (Int32.toNatClampNeg (((60 : Int32) * p1) + p2)) ((p3 &&& 255) - 256)) J2)) (by with_unfolding_all rfl) hd1 ⟨(qp_vin (c := 240) (by decide) h9.1 h9.2), trivial⟩ ?_
          obtain ⟨rfl, rfl, rfl⟩ := qp_some3 h
          exact qp_retI_E qp_ok160 rfl qp_r160.1 ⟨rfl, rfl⟩ ⟨rfl, rfl⟩
      · replace h := qp_iff h5 h
        refine qp_run_E qp_ok160 2 (c' := (44, [some (.ref 36), some (.int p1), some (.int p2), some (.int p3), none, none], [.int 2, .ref 36], qp_mk I2 J2)) (by with_unfolding_all rfl) hd1 trivial ?_
        obtain ⟨v3, I3, J3, e3, h⟩ := qp_bd_s h
        refine qp_cV qp_ok160 (rest := []) (oj := 10) qp_f151 rfl rfl (gM_finds l G 2 I2 J2 e3 (Nat.le_refl 1)) rfl rfl rfl rfl (Nat.le_trans (by decide) hd) ?_
        obtain ⟨rfl, rfl, rfl⟩ := qp_some3 h
        exact qp_retI_E qp_ok160 rfl qp_r160.1 ⟨rfl, rfl⟩ ⟨rfl, rfl⟩
    · replace h := qp_iff h3 h
      refine qp_run_E qp_ok160 2 (c' := (20, [some (.ref 36), some (.int p1), some (.int p2), some (.int p3), none, none], [.int 1, .ref 36], qp_mk I1 J1)) (by with_unfolding_all rfl) hd1 trivial ?_
      obtain ⟨v4, I4, J4, e4, h⟩ := qp_bd_s h
      refine qp_cV qp_ok160 (rest := []) (oj := 10) qp_f151 rfl rfl (gM_finds l G 1 I1 J1 e4 (Nat.le_refl 1)) rfl rfl rfl rfl (Nat.le_trans (by decide) hd) ?_
      obtain ⟨rfl, rfl, rfl⟩ := qp_some3 h
      exact qp_retI_E qp_ok160 rfl qp_r160.1 ⟨rfl, rfl⟩ ⟨rfl, rfl⟩
  · replace h := qp_iff h1 h
    refine qp_run_E qp_ok160 1 (c' := (8, [some (.ref 36), some (.int p1), some (.int p2), some (.int p3), none, none], [.int (-1)], qp_mk I1 J1)) (by with_unfolding_all rfl) hd1 trivial ?_
    obtain ⟨rfl, rfl, rfl⟩ := qp_some3 h
    exact qp_retI_E qp_ok160 rfl qp_r160.1 ⟨rfl, rfl⟩ ⟨rfl, rfl⟩
def fM_here (p1 : Int32) (I : Nat → Nat → Int32) (J : Nat → Nat → Int64) : Option (Int32 × (Nat → Nat → Int32) × (Nat → Nat → Int64)) :=
  qp_gd ((0 ≤ p1 ∧ p1 < 4)) <|
  if (I 43 (Int32.toNatClampNeg p1)) ≤ (I 36 14) then (
    some ((-9), I, J)
  ) else (
    qp_gd ((0 ≤ (((60 : Int32) * p1) + (I 36 14)) ∧ (((60 : Int32) * p1) + (I 36 14)) < 240)) <|
    some ((I 42 (Int32.toNatClampNeg (((60 : Int32) * p1) + (I 36 14)))), I, J)
  )
set_option maxRecDepth 8000 in
theorem gM_here (l : Launch) (G : qp_G) (p1 : Int32) (I : Nat → Nat → Int32) (J : Nat → Nat → Int64) {v : Int32} {I' : Nat → Nat → Int32} {J' : Nat → Nat → Int64} (h : fM_here p1 I J = some (v, I', J')) {d : Nat} (hd : 1 ≤ d) : qp_Met l G d 165 [.ref 36, .int p1] (qp_mk I J) 0 0 (qp_R8 (some (.int v)) I' J') := by
  have hd1 : Nat.ble 1 d = true := Nat.ble_eq_true_of_le (Nat.le_trans (by decide) hd)
  refine qp_Met_of (by decide) (by rw [qp_r165.2]; rfl) [some (.ref 36), some (.int p1)] (by rw [qp_r165.2]; rfl) ?_
  unfold fM_here at h
  obtain ⟨h1, h⟩ := qp_gd_s h
  refine qp_run_E qp_ok165 6 (f := vp_in p1 4 ∧ True) (c' := (10, [some (.ref 36), some (.int p1)], [.int (I 43 (Int32.toNatClampNeg p1)), .int (I 36 14)], qp_mk I J)) (by with_unfolding_all rfl) hd1 ⟨(qp_vin (c := 4) (by decide) h1.1 h1.2), trivial⟩ ?_
  refine qp_br_E qp_ok165 (f := (I 43 (Int32.toNatClampNeg p1)) ≤ (I 36 14)) (ct := (30, [some (.ref 36), some (.int p1)], [], qp_mk I J)) (cf := (13, [some (.ref 36), some (.int p1)], [], qp_mk I J)) (by with_unfolding_all rfl) (fun h2 => ?_) (fun h2 => ?_)
  · replace h := qp_ift h2 h
    refine qp_run_E qp_ok165 1 (c' := (32, [some (.ref 36), some (.int p1)], [.int (-9)], qp_mk I J)) (by with_unfolding_all rfl) hd1 trivial ?_
    obtain ⟨rfl, rfl, rfl⟩ := qp_some3 h
    exact qp_retI_E qp_ok165 rfl qp_r165.1 ⟨rfl, rfl⟩ ⟨rfl, rfl⟩
  · replace h := qp_iff h2 h
    obtain ⟨h3, h⟩ := qp_gd_s h
    refine qp_run_E qp_ok165 10 (f := vp_in (((60 : Int32) * p1) + (I 36 14)) 240 ∧ True) (c' := (32, [some (.ref 36), some (.int p1)], [.int (I 42 (Int32.toNatClampNeg (((60 : Int32) * p1) + (I 36 14))))], qp_mk I J)) (by with_unfolding_all rfl) hd1 ⟨(qp_vin (c := 240) (by decide) h3.1 h3.2), trivial⟩ ?_
    obtain ⟨rfl, rfl, rfl⟩ := qp_some3 h
    exact qp_retI_E qp_ok165 rfl qp_r165.1 ⟨rfl, rfl⟩ ⟨rfl, rfl⟩
def fM_skip_b0  : Nat → Int32 → (Nat → Nat → Int32) → (Nat → Nat → Int64) → Option (Unit × (Nat → Nat → Int32) × (Nat → Nat → Int64))
  | 0, _, _, _ => none
  | n + 1, a1, I, J =>
    qp_bd (fM_here a1 I J) fun v1 I1 J1 =>
    if ¬ v1 = 32 then (
      some ((), I1, J1)
    ) else (
      fM_skip_b0 n a1 (qp_up I1 36 14 ((I1 36 14) + 1)) J1
    )
set_option maxRecDepth 8000 in
theorem gM_skip_b0 {l : Launch} {G : qp_G} {d : Nat} (hd : 2 ≤ d) {r : (Unit × (Nat → Nat → Int32) × (Nat → Nat → Int64))} {I0 : Nat → Nat → Int32} {J0 : Nat → Nat → Int64}   : ∀ (n : Nat) (a1 : Int32) (I : Nat → Nat → Int32) (J : Nat → Nat → Int64), fM_skip_b0  n a1 I J = some r → qp_E l G d 164 (qp_mk I0 J0) 0 0 (qp_R8 none r.2.1 r.2.2) (0, [some (.ref 36), some (.int a1)], [], qp_mk I J) := by
  have hd1 : Nat.ble 1 d = true := Nat.ble_eq_true_of_le (Nat.le_trans (by decide) hd)
  intro n
  induction n with
  | zero => intro a1 I J h; exact absurd h (by simp [fM_skip_b0])
  | succ n ih =>
    intro a1 I J h
    rw [fM_skip_b0] at h
    refine qp_run_E qp_ok164 2 (c' := (2, [some (.ref 36), some (.int a1)], [.int a1, .ref 36], qp_mk I J)) (by with_unfolding_all rfl) hd1 trivial ?_
    obtain ⟨v1, I1, J1, e1, h⟩ := qp_bd_s h
    refine qp_cV qp_ok164 (rest := []) (oj := 10) qp_f165 rfl rfl (gM_here l G a1 I J e1 (Nat.le_refl 1)) rfl rfl rfl rfl (Nat.le_trans (by decide) hd) ?_
    refine qp_run_E qp_ok164 1 (c' := (7, [some (.ref 36), some (.int a1)], [.int 32, .int v1], qp_mk I1 J1)) (by with_unfolding_all rfl) hd1 trivial ?_
    refine qp_br_E qp_ok164 (f := ¬ v1 = 32) (ct := (23, [some (.ref 36), some (.int a1)], [], qp_mk I1 J1)) (cf := (10, [some (.ref 36), some (.int a1)], [], qp_mk I1 J1)) (by with_unfolding_all rfl) (fun h1 => ?_) (fun h1 => ?_)
    · replace h := qp_ift h1 h
      obtain rfl := Option.some.inj h
      exact qp_retV_E qp_ok164 rfl qp_r164.1 ⟨rfl, rfl⟩ ⟨rfl, rfl⟩
    · replace h := qp_iff h1 h
      refine qp_run_E qp_ok164 7 (c' := (0, [some (.ref 36), some (.int a1)], [], qp_mk (qp_up I1 36 14 ((I1 36 14) + 1)) J1)) (by with_unfolding_all rfl) hd1 trivial ?_
      exact ih a1 (qp_up I1 36 14 ((I1 36 14) + 1)) J1 h
def fM_skip (p1 : Int32) (I : Nat → Nat → Int32) (J : Nat → Nat → Int64) : Option (Unit × (Nat → Nat → Int32) × (Nat → Nat → Int64)) :=
  fM_skip_b0 100000 p1 I J
set_option maxRecDepth 8000 in
theorem gM_skip (l : Launch) (G : qp_G) (p1 : Int32) (I : Nat → Nat → Int32) (J : Nat → Nat → Int64) {v : Unit} {I' : Nat → Nat → Int32} {J' : Nat → Nat → Int64} (h : fM_skip p1 I J = some (v, I', J')) {d : Nat} (hd : 2 ≤ d) : qp_Met l G d 164 [.ref 36, .int p1] (qp_mk I J) 0 0 (qp_R8 none I' J') := by
  have hd1 : Nat.ble 1 d = true := Nat.ble_eq_true_of_le (Nat.le_trans (by decide) hd)
  refine qp_Met_of (by decide) (by rw [qp_r164.2]; rfl) [some (.ref 36), some (.int p1)] (by rw [qp_r164.2]; rfl) ?_
  unfold fM_skip at h
  exact gM_skip_b0 hd 100000 p1 I J h
def fM_takes (p1 : Int32) (p2 : Int32) (p3 : Int32) (I : Nat → Nat → Int32) (J : Nat → Nat → Int64) : Option (Int32 × (Nat → Nat → Int32) × (Nat → Nat → Int64)) :=
  qp_bd (fM_here p1 I J) fun v1 I1 J1 =>
  qp_bd (fM_in (Int32.toInt64 v1) (Int32.toInt64 ((48 : Int32) + p3)) 57 I1 J1) fun v2 I2 J2 =>
  if ¬ v2 = 0 then (
    qp_gd ((0 ≤ p2 ∧ p2 < 75)) <|
    some (1, (qp_up (qp_up I2 46 (Int32.toNatClampNeg p2) (v1 - 48)) 36 14 ((I2 36 14) + 1)), J2)
  ) else (
    some (0, I2, J2)
  )
set_option maxRecDepth 8000 in
theorem gM_takes (l : Launch) (G : qp_G) (p1 : Int32) (p2 : Int32) (p3 : Int32) (I : Nat → Nat → Int32) (J : Nat → Nat → Int64) {v : Int32} {I' : Nat → Nat → Int32} {J' : Nat → Nat → Int64} (h : fM_takes p1 p2 p3 I J = some (v, I', J')) {d : Nat} (hd : 2 ≤ d) : qp_Met l G d 166 [.ref 36, .int p1, .int p2, .int p3] (qp_mk I J) 0 0 (qp_R8 (some (.int v)) I' J') := by
  have hd1 : Nat.ble 1 d = true := Nat.ble_eq_true_of_le (Nat.le_trans (by decide) hd)
  refine qp_Met_of (by decide) (by rw [qp_r166.2]; rfl) [some (.ref 36), some (.int p1), some (.int p2), some (.int p3), none] (by rw [qp_r166.2]; rfl) ?_
  unfold fM_takes at h
  refine qp_run_E qp_ok166 2 (c' := (2, [some (.ref 36), some (.int p1), some (.int p2), some (.int p3), none], [.int p1, .ref 36], qp_mk I J)) (by with_unfolding_all rfl) hd1 trivial ?_
  obtain ⟨v1, I1, J1, e1, h⟩ := qp_bd_s h
  refine qp_cV qp_ok166 (rest := []) (oj := 10) qp_f165 rfl rfl (gM_here l G p1 I J e1 (Nat.le_refl 1)) rfl rfl rfl rfl (Nat.le_trans (by decide) hd) ?_
  refine qp_run_E qp_ok166 8 (c' := (18, [some (.ref 36), some (.int p1), some (.int p2), some (.int p3), some (.int v1)], [.long 57, .long (Int32.toInt64 ((48 : Int32) + p3)), .long (Int32.toInt64 v1)], qp_mk I1 J1)) (by with_unfolding_all rfl) hd1 trivial ?_
  obtain ⟨v2, I2, J2, e2, h⟩ := qp_bd_s h
  refine qp_cS qp_ok166 (rest := []) (oj := 10) qp_f150 rfl rfl (gM_in l G (Int32.toInt64 v1) (Int32.toInt64 ((48 : Int32) + p3)) 57 I1 J1 e2 (Nat.le_refl 1)) rfl rfl rfl (Nat.le_trans (by decide) hd) ?_
  refine qp_br_E qp_ok166 (f := ¬ v2 = 0) (ct := (26, [some (.ref 36), some (.int p1), some (.int p2), some (.int p3), some (.int v1)], [], qp_mk I2 J2)) (cf := (24, [some (.ref 36), some (.int p1), some (.int p2), some (.int p3), some (.int v1)], [], qp_mk I2 J2)) (by with_unfolding_all rfl) (fun h1 => ?_) (fun h1 => ?_)
  · replace h := qp_ift h1 h
    obtain ⟨h2, h⟩ := qp_gd_s h
    refine qp_run_E qp_ok166 14 (f := vp_in p2 75 ∧ True) (c' := (48, [some (.ref 36), some (.int p1), some (.int p2), some (.int p3), some (.int v1)], [.int 1], qp_mk (qp_up (qp_up I2 46 (Int32.toNatClampNeg p2) (v1 - 48)) 36 14 ((I2 36 14) + 1)) J2)) (by with_unfolding_all rfl) hd1 ⟨(qp_vin (c := 75) (by decide) h2.1 h2.2), trivial⟩ ?_
    obtain ⟨rfl, rfl, rfl⟩ := qp_some3 h
    exact qp_retZ_E qp_ok166 rfl qp_r166.1 rfl ⟨rfl, rfl⟩ ⟨rfl, rfl⟩
  · replace h := qp_iff h1 h
    refine qp_run_E qp_ok166 1 (c' := (25, [some (.ref 36), some (.int p1), some (.int p2), some (.int p3), some (.int v1)], [.int 0], qp_mk I2 J2)) (by with_unfolding_all rfl) hd1 trivial ?_
    obtain ⟨rfl, rfl, rfl⟩ := qp_some3 h
    exact qp_retZ_E qp_ok166 rfl qp_r166.1 rfl ⟨rfl, rfl⟩ ⟨rfl, rfl⟩
def fM_takesFirst (p1 : Int32) (I : Nat → Nat → Int32) (J : Nat → Nat → Int64) : Option (Int32 × (Nat → Nat → Int32) × (Nat → Nat → Int64)) :=
  qp_bd (fM_skip p1 I J) fun _u I1 J1 =>
  qp_bd (fM_here p1 I1 J1) fun v2 I2 J2 =>
  if v2 = 113 then (
    qp_bd (fM_takes p1 1 0 (qp_up I2 36 14 ((I2 36 14) + 1)) J2) fun v3 I3 J3 =>
    if ¬ v3 = 0 then (
      qp_bd (fM_takes p1 1 0 I3 J3) fun v4 I4 J4 =>
      if ¬ v4 = 0 then (
        if ((I4 46 1) + ((10 : Int32) * (I3 46 1))) ≤ 20 then (
          if 20 < ((I4 46 1) + ((10 : Int32) * (I3 46 1))) then (
            some (0, (qp_up (qp_up I4 46 1 ((I4 46 1) + ((10 : Int32) * (I3 46 1)))) 36 14 (I4 36 14)), J4)
          ) else (
            some (1, (qp_up (qp_up I4 46 1 ((I4 46 1) + ((10 : Int32) * (I3 46 1)))) 36 14 (I4 36 14)), J4)
          )
        ) else (
          if 20 < ((I4 46 1) + ((10 : Int32) * (I3 46 1))) then (
            some (0, (qp_up (qp_up I4 46 1 ((I4 46 1) + ((10 : Int32) * (I3 46 1)))) 36 14 ((I2 36 14) + 1)), J4)
          ) else (
            some (1, (qp_up (qp_up I4 46 1 ((I4 46 1) + ((10 : Int32) * (I3 46 1)))) 36 14 ((I2 36 14) + 1)), J4)
          )
        )
      ) else (
        some (0, I4, J4)
      )
    ) else (
      some (0, I3, J3)
    )
  ) else (
    some (0, I2, J2)
  )
set_option maxRecDepth 8000 in
theorem gM_takesFirst (l : Launch) (G : qp_G) (p1 : Int32) (I : Nat → Nat → Int32) (J : Nat → Nat → Int64) {v : Int32} {I' : Nat → Nat → Int32} {J' : Nat → Nat → Int64} (h : fM_takesFirst p1 I J = some (v, I', J')) {d : Nat} (hd : 3 ≤ d) : qp_Met l G d 163 [.ref 36, .int p1] (qp_mk I J) 0 0 (qp_R8 (some (.int v)) I' J') := by
  have hd1 : Nat.ble 1 d = true := Nat.ble_eq_true_of_le (Nat.le_trans (by decide) hd)
  refine qp_Met_of (by decide) (by rw [qp_r163.2]; rfl) [some (.ref 36), some (.int p1), none, none] (by rw [qp_r163.2]; rfl) ?_
  unfold fM_takesFirst at h
  refine qp_run_E qp_ok163 2 (c' := (2, [some (.ref 36), some (.int p1), none, none], [.int p1, .ref 36], qp_mk I J)) (by with_unfolding_all rfl) hd1 trivial ?_
  obtain ⟨v1, I1, J1, e1, h⟩ := qp_bd_s h
  refine qp_cV qp_ok163 (rest := []) (oj := 10) qp_f164 rfl rfl (gM_skip l G p1 I J e1 (Nat.le_refl 2)) rfl rfl rfl rfl (Nat.le_trans (by decide) hd) ?_
  refine qp_run_E qp_ok163 2 (c' := (7, [some (.ref 36), some (.int p1), none, none], [.int p1, .ref 36], qp_mk I1 J1)) (by with_unfolding_all rfl) hd1 trivial ?_
  obtain ⟨v2, I2, J2, e2, h⟩ := qp_bd_s h
  refine qp_cV qp_ok163 (rest := []) (oj := 10) qp_f165 rfl rfl (gM_here l G p1 I1 J1 e2 (Nat.le_refl 1)) rfl rfl rfl rfl (Nat.le_trans (by decide) hd) ?_
  refine qp_run_E qp_ok163 1 (c' := (12, [some (.ref 36), some (.int p1), none, none], [.int 113, .int v2], qp_mk I2 J2)) (by with_unfolding_all rfl) hd1 trivial ?_
  refine qp_br_E qp_ok163 (f := v2 = 113) (ct := (17, [some (.ref 36), some (.int p1), none, none], [], qp_mk I2 J2)) (cf := (15, [some (.ref 36), some (.int p1), none, none], [], qp_mk I2 J2)) (by with_unfolding_all rfl) (fun h1 => ?_) (fun h1 => ?_)
  · replace h := qp_ift h1 h
    refine qp_run_E qp_ok163 13 (c' := (36, [some (.ref 36), some (.int p1), some (.int ((I2 36 14) + 1)), none], [.int 0, .int 1, .int p1, .ref 36], qp_mk (qp_up I2 36 14 ((I2 36 14) + 1)) J2)) (by with_unfolding_all rfl) hd1 trivial ?_
    obtain ⟨v3, I3, J3, e3, h⟩ := qp_bd_s h
    refine qp_cV qp_ok163 (rest := []) (oj := 10) qp_f166 rfl rfl (gM_takes l G p1 1 0 (qp_up I2 36 14 ((I2 36 14) + 1)) J2 e3 (Nat.le_refl 2)) rfl rfl rfl rfl (Nat.le_trans (by decide) hd) ?_
    refine qp_br_E qp_ok163 (f := ¬ v3 = 0) (ct := (44, [some (.ref 36), some (.int p1), some (.int ((I2 36 14) + 1)), none], [], qp_mk I3 J3)) (cf := (42, [some (.ref 36), some (.int p1), some (.int ((I2 36 14) + 1)), none], [], qp_mk I3 J3)) (by with_unfolding_all rfl) (fun h2 => ?_) (fun h2 => ?_)
    · replace h := qp_ift h2 h
      refine qp_run_E qp_ok163 9 (f := vp_in 1 75 ∧ True) (c' := (55, [some (.ref 36), some (.int p1), some (.int ((I2 36 14) + 1)), some (.int (I3 46 1))], [.int 0, .int 1, .int p1, .ref 36], qp_mk I3 J3)) (by with_unfolding_all rfl) hd1 ⟨(qp_vin (c := 75) (by decide) (by decide) (by decide)), trivial⟩ ?_
      obtain ⟨v4, I4, J4, e4, h⟩ := qp_bd_s h
      refine qp_cV qp_ok163 (rest := []) (oj := 10) qp_f166 rfl rfl (gM_takes l G p1 1 0 I3 J3 e4 (Nat.le_refl 2)) rfl rfl rfl rfl (Nat.le_trans (by decide) hd) ?_
      refine qp_br_E qp_ok163 (f := ¬ v4 = 0) (ct := (63, [some (.ref 36), some (.int p1), some (.int ((I2 36 14) + 1)), some (.int (I3 46 1))], [], qp_mk I4 J4)) (cf := (61, [some (.ref 36), some (.int p1), some (.int ((I2 36 14) + 1)), some (.int (I3 46 1))], [], qp_mk I4 J4)) (by with_unfolding_all rfl) (fun h3 => ?_) (fun h3 => ?_)
      · replace h := qp_ift h3 h
        refine qp_run_E qp_ok163 16 (f := vp_in 1 75 ∧ vp_in 1 75 ∧ vp_in 1 75 ∧ True) (c' := (85, [some (.ref 36), some (.int p1), some (.int ((I2 36 14) + 1)), some (.int (I3 46 1))], [.int 20, .int ((I4 46 1) + ((10 : Int32) * (I3 46 1))), .ref 36], qp_mk (qp_up I4 46 1 ((I4 46 1) + ((10 : Int32) * (I3 46 1)))) J4)) (by with_unfolding_all rfl) hd1 ⟨(qp_vin (c := 75) (by decide) (by decide) (by decide)), (qp_vin (c := 75) (by decide) (by decide) (by decide)), (qp_vin (c := 75) (by decide) (by decide) (by decide)), trivial⟩ ?_
        refine qp_br_E qp_ok163 (f := ((I4 46 1) + ((10 : Int32) * (I3 46 1))) ≤ 20) (ct := (92, [some (.ref 36), some (.int p1), some (.int ((I2 36 14) + 1)), some (.int (I3 46 1))], [.ref 36], qp_mk (qp_up I4 46 1 ((I4 46 1) + ((10 : Int32) * (I3 46 1)))) J4)) (cf := (88, [some (.ref 36), some (.int p1), some (.int ((I2 36 14) + 1)), some (.int (I3 46 1))], [.ref 36], qp_mk (qp_up I4 46 1 ((I4 46 1) + ((10 : Int32) * (I3 46 1)))) J4)) (by with_unfolding_all rfl) (fun h4 => ?_) (fun h4 => ?_)
        · replace h := qp_ift h4 h
          refine qp_run_E qp_ok163 8 (f := vp_in 1 75 ∧ True) (c' := (107, [some (.ref 36), some (.int p1), some (.int ((I2 36 14) + 1)), some (.int (I3 46 1))], [.int 20, .int ((I4 46 1) + ((10 : Int32) * (I3 46 1)))], qp_mk (qp_up (qp_up I4 46 1 ((I4 46 1) + ((10 : Int32) * (I3 46 1)))) 36 14 (I4 36 14)) J4)) (by with_unfolding_all rfl) hd1 ⟨(qp_vin (c := 75) (by decide) (by decide) (by decide)), trivial⟩ ?_
          refine qp_br_E qp_ok163 (f := 20 < ((I4 46 1) + ((10 : Int32) * (I3 46 1)))) (ct := (114, [some (.ref 36), some (.int p1), some (.int ((I2 36 14) + 1)), some (.int (I3 46 1))], [], qp_mk (qp_up (qp_up I4 46 1 ((I4 46 1) + ((10 : Int32) * (I3 46 1)))) 36 14 (I4 36 14)) J4)) (cf := (110, [some (.ref 36), some (.int p1), some (.int ((I2 36 14) + 1)), some (.int (I3 46 1))], [], qp_mk (qp_up (qp_up I4 46 1 ((I4 46 1) + ((10 : Int32) * (I3 46 1)))) 36 14 (I4 36 14)) J4)) (by with_unfolding_all rfl) (fun h5 => ?_) (fun h5 => ?_)
          · replace h := qp_ift h5 h
            refine qp_run_E qp_ok163 1 (c' := (115, [some (.ref 36), some (.int p1), some (.int ((I2 36 14) + 1)), some (.int (I3 46 1))], [.int 0], qp_mk (qp_up (qp_up I4 46 1 ((I4 46 1) + ((10 : Int32) * (I3 46 1)))) 36 14 (I4 36 14)) J4)) (by with_unfolding_all rfl) hd1 trivial ?_
            obtain ⟨rfl, rfl, rfl⟩ := qp_some3 h
            exact qp_retZ_E qp_ok163 rfl qp_r163.1 rfl ⟨rfl, rfl⟩ ⟨rfl, rfl⟩
          · replace h := qp_iff h5 h
            refine qp_run_E qp_ok163 2 (c' := (115, [some (.ref 36), some (.int p1), some (.int ((I2 36 14) + 1)), some (.int (I3 46 1))], [.int 1], qp_mk (qp_up (qp_up I4 46 1 ((I4 46 1) + ((10 : Int32) * (I3 46 1)))) 36 14 (I4 36 14)) J4)) (by with_unfolding_all rfl) hd1 trivial ?_
            obtain ⟨rfl, rfl, rfl⟩ := qp_some3 h
            exact qp_retZ_E qp_ok163 rfl qp_r163.1 rfl ⟨rfl, rfl⟩ ⟨rfl, rfl⟩
        · replace h := qp_iff h4 h
          refine qp_run_E qp_ok163 8 (f := vp_in 1 75 ∧ True) (c' := (107, [some (.ref 36), some (.int p1), some (.int ((I2 36 14) + 1)), some (.int (I3 46 1))], [.int 20, .int ((I4 46 1) + ((10 : Int32) * (I3 46 1)))], qp_mk (qp_up (qp_up I4 46 1 ((I4 46 1) + ((10 : Int32) * (I3 46 1)))) 36 14 ((I2 36 14) + 1)) J4)) (by with_unfolding_all rfl) hd1 ⟨(qp_vin (c := 75) (by decide) (by decide) (by decide)), trivial⟩ ?_
          refine qp_br_E qp_ok163 (f := 20 < ((I4 46 1) + ((10 : Int32) * (I3 46 1)))) (ct := (114, [some (.ref 36), some (.int p1), some (.int ((I2 36 14) + 1)), some (.int (I3 46 1))], [], qp_mk (qp_up (qp_up I4 46 1 ((I4 46 1) + ((10 : Int32) * (I3 46 1)))) 36 14 ((I2 36 14) + 1)) J4)) (cf := (110, [some (.ref 36), some (.int p1), some (.int ((I2 36 14) + 1)), some (.int (I3 46 1))], [], qp_mk (qp_up (qp_up I4 46 1 ((I4 46 1) + ((10 : Int32) * (I3 46 1)))) 36 14 ((I2 36 14) + 1)) J4)) (by with_unfolding_all rfl) (fun h6 => ?_) (fun h6 => ?_)
          · replace h := qp_ift h6 h
            refine qp_run_E qp_ok163 1 (c' := (115, [some (.ref 36), some (.int p1), some (.int ((I2 36 14) + 1)), some (.int (I3 46 1))], [.int 0], qp_mk (qp_up (qp_up I4 46 1 ((I4 46 1) + ((10 : Int32) * (I3 46 1)))) 36 14 ((I2 36 14) + 1)) J4)) (by with_unfolding_all rfl) hd1 trivial ?_
            obtain ⟨rfl, rfl, rfl⟩ := qp_some3 h
            exact qp_retZ_E qp_ok163 rfl qp_r163.1 rfl ⟨rfl, rfl⟩ ⟨rfl, rfl⟩
          · replace h := qp_iff h6 h
            refine qp_run_E qp_ok163 2 (c' := (115, [some (.ref 36), some (.int p1), some (.int ((I2 36 14) + 1)), some (.int (I3 46 1))], [.int 1], qp_mk (qp_up (qp_up I4 46 1 ((I4 46 1) + ((10 : Int32) * (I3 46 1)))) 36 14 ((I2 36 14) + 1)) J4)) (by with_unfolding_all rfl) hd1 trivial ?_
            obtain ⟨rfl, rfl, rfl⟩ := qp_some3 h
            exact qp_retZ_E qp_ok163 rfl qp_r163.1 rfl ⟨rfl, rfl⟩ ⟨rfl, rfl⟩
      · replace h := qp_iff h3 h
        refine qp_run_E qp_ok163 1 (c' := (62, [some (.ref 36), some (.int p1), some (.int ((I2 36 14) + 1)), some (.int (I3 46 1))], [.int 0], qp_mk I4 J4)) (by with_unfolding_all rfl) hd1 trivial ?_
        obtain ⟨rfl, rfl, rfl⟩ := qp_some3 h
        exact qp_retZ_E qp_ok163 rfl qp_r163.1 rfl ⟨rfl, rfl⟩ ⟨rfl, rfl⟩
    · replace h := qp_iff h2 h
      refine qp_run_E qp_ok163 1 (c' := (43, [some (.ref 36), some (.int p1), some (.int ((I2 36 14) + 1)), none], [.int 0], qp_mk I3 J3)) (by with_unfolding_all rfl) hd1 trivial ?_
      obtain ⟨rfl, rfl, rfl⟩ := qp_some3 h
      exact qp_retZ_E qp_ok163 rfl qp_r163.1 rfl ⟨rfl, rfl⟩ ⟨rfl, rfl⟩
  · replace h := qp_iff h1 h
    refine qp_run_E qp_ok163 1 (c' := (16, [some (.ref 36), some (.int p1), none, none], [.int 0], qp_mk I2 J2)) (by with_unfolding_all rfl) hd1 trivial ?_
    obtain ⟨rfl, rfl, rfl⟩ := qp_some3 h
    exact qp_retZ_E qp_ok163 rfl qp_r163.1 rfl ⟨rfl, rfl⟩ ⟨rfl, rfl⟩
def fM_kindBy (p0 : Int32) (I : Nat → Nat → Int32) (J : Nat → Nat → Int64) : Option (Int32 × (Nat → Nat → Int32) × (Nat → Nat → Int64)) :=
  if ¬ p0 = 112 then (
    if ¬ p0 = 115 then (
      if ¬ p0 = 99 then (
        if ¬ p0 = 117 then (
          if ¬ p0 = 103 then (
            if ¬ p0 = 111 then (
              some ((-9), I, J)
            ) else (
              some (5, I, J)
            )
          ) else (
            some (4, I, J)
          )
        ) else (
          some (3, I, J)
        )
      ) else (
        some (2, I, J)
      )
    ) else (
      some (1, I, J)
    )
  ) else (
    some (0, I, J)
  )
set_option maxRecDepth 8000 in
theorem gM_kindBy (l : Launch) (G : qp_G) (p0 : Int32) (I : Nat → Nat → Int32) (J : Nat → Nat → Int64) {v : Int32} {I' : Nat → Nat → Int32} {J' : Nat → Nat → Int64} (h : fM_kindBy p0 I J = some (v, I', J')) {d : Nat} (hd : 1 ≤ d) : qp_Met l G d 168 [.int p0] (qp_mk I J) 0 0 (qp_R8 (some (.int v)) I' J') := by
  have hd1 : Nat.ble 1 d = true := Nat.ble_eq_true_of_le (Nat.le_trans (by decide) hd)
  refine qp_Met_of (by decide) (by rw [qp_r168.2]; rfl) [some (.int p0)] (by rw [qp_r168.2]; rfl) ?_
  unfold fM_kindBy at h
  refine qp_run_E qp_ok168 2 (c' := (3, [some (.int p0)], [.int 112, .int p0], qp_mk I J)) (by with_unfolding_all rfl) hd1 trivial ?_
  refine qp_br_E qp_ok168 (f := ¬ p0 = 112) (ct := (10, [some (.int p0)], [], qp_mk I J)) (cf := (6, [some (.int p0)], [], qp_mk I J)) (by with_unfolding_all rfl) (fun h1 => ?_) (fun h1 => ?_)
  · replace h := qp_ift h1 h
    refine qp_run_E qp_ok168 2 (c' := (13, [some (.int p0)], [.int 115, .int p0], qp_mk I J)) (by with_unfolding_all rfl) hd1 trivial ?_
    refine qp_br_E qp_ok168 (f := ¬ p0 = 115) (ct := (20, [some (.int p0)], [], qp_mk I J)) (cf := (16, [some (.int p0)], [], qp_mk I J)) (by with_unfolding_all rfl) (fun h2 => ?_) (fun h2 => ?_)
    · replace h := qp_ift h2 h
      refine qp_run_E qp_ok168 2 (c' := (23, [some (.int p0)], [.int 99, .int p0], qp_mk I J)) (by with_unfolding_all rfl) hd1 trivial ?_
      refine qp_br_E qp_ok168 (f := ¬ p0 = 99) (ct := (30, [some (.int p0)], [], qp_mk I J)) (cf := (26, [some (.int p0)], [], qp_mk I J)) (by with_unfolding_all rfl) (fun h3 => ?_) (fun h3 => ?_)
      · replace h := qp_ift h3 h
        refine qp_run_E qp_ok168 2 (c' := (33, [some (.int p0)], [.int 117, .int p0], qp_mk I J)) (by with_unfolding_all rfl) hd1 trivial ?_
        refine qp_br_E qp_ok168 (f := ¬ p0 = 117) (ct := (40, [some (.int p0)], [], qp_mk I J)) (cf := (36, [some (.int p0)], [], qp_mk I J)) (by with_unfolding_all rfl) (fun h4 => ?_) (fun h4 => ?_)
        · replace h := qp_ift h4 h
          refine qp_run_E qp_ok168 2 (c' := (43, [some (.int p0)], [.int 103, .int p0], qp_mk I J)) (by with_unfolding_all rfl) hd1 trivial ?_
          refine qp_br_E qp_ok168 (f := ¬ p0 = 103) (ct := (50, [some (.int p0)], [], qp_mk I J)) (cf := (46, [some (.int p0)], [], qp_mk I J)) (by with_unfolding_all rfl) (fun h5 => ?_) (fun h5 => ?_)
          · replace h := qp_ift h5 h
            refine qp_run_E qp_ok168 2 (c' := (53, [some (.int p0)], [.int 111, .int p0], qp_mk I J)) (by with_unfolding_all rfl) hd1 trivial ?_
            refine qp_br_E qp_ok168 (f := ¬ p0 = 111) (ct := (60, [some (.int p0)], [], qp_mk I J)) (cf := (56, [some (.int p0)], [], qp_mk I J)) (by with_unfolding_all rfl) (fun h6 => ?_) (fun h6 => ?_)
            · replace h := qp_ift h6 h
              refine qp_run_E qp_ok168 1 (c' := (62, [some (.int p0)], [.int (-9)], qp_mk I J)) (by with_unfolding_all rfl) hd1 trivial ?_
              obtain ⟨rfl, rfl, rfl⟩ := qp_some3 h
              exact qp_retI_E qp_ok168 rfl qp_r168.1 ⟨rfl, rfl⟩ ⟨rfl, rfl⟩
            · replace h := qp_iff h6 h
              refine qp_run_E qp_ok168 2 (c' := (62, [some (.int p0)], [.int 5], qp_mk I J)) (by with_unfolding_all rfl) hd1 trivial ?_
              obtain ⟨rfl, rfl, rfl⟩ := qp_some3 h
              exact qp_retI_E qp_ok168 rfl qp_r168.1 ⟨rfl, rfl⟩ ⟨rfl, rfl⟩
          · replace h := qp_iff h5 h
            refine qp_run_E qp_ok168 2 (c' := (62, [some (.int p0)], [.int 4], qp_mk I J)) (by with_unfolding_all rfl) hd1 trivial ?_
            obtain ⟨rfl, rfl, rfl⟩ := qp_some3 h
            exact qp_retI_E qp_ok168 rfl qp_r168.1 ⟨rfl, rfl⟩ ⟨rfl, rfl⟩
        · replace h := qp_iff h4 h
          refine qp_run_E qp_ok168 2 (c' := (62, [some (.int p0)], [.int 3], qp_mk I J)) (by with_unfolding_all rfl) hd1 trivial ?_
          obtain ⟨rfl, rfl, rfl⟩ := qp_some3 h
          exact qp_retI_E qp_ok168 rfl qp_r168.1 ⟨rfl, rfl⟩ ⟨rfl, rfl⟩
      · replace h := qp_iff h3 h
        refine qp_run_E qp_ok168 2 (c' := (62, [some (.int p0)], [.int 2], qp_mk I J)) (by with_unfolding_all rfl) hd1 trivial ?_
        obtain ⟨rfl, rfl, rfl⟩ := qp_some3 h
        exact qp_retI_E qp_ok168 rfl qp_r168.1 ⟨rfl, rfl⟩ ⟨rfl, rfl⟩
    · replace h := qp_iff h2 h
      refine qp_run_E qp_ok168 2 (c' := (62, [some (.int p0)], [.int 1], qp_mk I J)) (by with_unfolding_all rfl) hd1 trivial ?_
      obtain ⟨rfl, rfl, rfl⟩ := qp_some3 h
      exact qp_retI_E qp_ok168 rfl qp_r168.1 ⟨rfl, rfl⟩ ⟨rfl, rfl⟩
  · replace h := qp_iff h1 h
    refine qp_run_E qp_ok168 2 (c' := (62, [some (.int p0)], [.int 0], qp_mk I J)) (by with_unfolding_all rfl) hd1 trivial ?_
    obtain ⟨rfl, rfl, rfl⟩ := qp_some3 h
    exact qp_retI_E qp_ok168 rfl qp_r168.1 ⟨rfl, rfl⟩ ⟨rfl, rfl⟩
def fM_takesOne (p1 : Int32) (I : Nat → Nat → Int32) (J : Nat → Nat → Int64) : Option (Int32 × (Nat → Nat → Int32) × (Nat → Nat → Int64)) :=
  qp_bd (fM_here p1 I J) fun v1 I1 J1 =>
  qp_bd (fM_kindBy v1 I1 J1) fun v2 I2 J2 =>
  if v2 = (-9) then (
    some (0, I2, J2)
  ) else (
    if ¬ (I 46 0) = 6 then (
      qp_gd ((0 ≤ ((2 : Int32) + (I 46 0)) ∧ ((2 : Int32) + (I 46 0)) < 75)) <|
      qp_bd (fM_takes p1 ((8 : Int32) + (I 46 0)) 1 (qp_up (qp_up I2 46 (Int32.toNatClampNeg ((2 : Int32) + (I 46 0))) v2) 36 14 ((I2 36 14) + 1)) J2) fun v3 I3 J3 =>
      if ¬ v3 = 0 then (
        some (1, (qp_up I3 46 0 ((I3 46 0) + 1)), J3)
      ) else (
        some (0, I3, J3)
      )
    ) else (
      some (0, I2, J2)
    )
  )
set_option maxRecDepth 8000 in
theorem gM_takesOne (l : Launch) (G : qp_G) (p1 : Int32) (I : Nat → Nat → Int32) (J : Nat → Nat → Int64) {v : Int32} {I' : Nat → Nat → Int32} {J' : Nat → Nat → Int64} (h : fM_takesOne p1 I J = some (v, I', J')) {d : Nat} (hd : 3 ≤ d) : qp_Met l G d 167 [.ref 36, .int p1] (qp_mk I J) 0 0 (qp_R8 (some (.int v)) I' J') := by
  have hd1 : Nat.ble 1 d = true := Nat.ble_eq_true_of_le (Nat.le_trans (by decide) hd)
  refine qp_Met_of (by decide) (by rw [qp_r167.2]; rfl) [some (.ref 36), some (.int p1), none, none] (by rw [qp_r167.2]; rfl) ?_
  unfold fM_takesOne at h
  refine qp_run_E qp_ok167 7 (f := vp_in 0 75 ∧ True) (c' := (9, [some (.ref 36), some (.int p1), some (.int (I 46 0)), none], [.int p1, .ref 36], qp_mk I J)) (by with_unfolding_all rfl) hd1 ⟨(qp_vin (c := 75) (by decide) (by decide) (by decide)), trivial⟩ ?_
  obtain ⟨v1, I1, J1, e1, h⟩ := qp_bd_s h
  refine qp_cV qp_ok167 (rest := []) (oj := 10) qp_f165 rfl rfl (gM_here l G p1 I J e1 (Nat.le_refl 1)) rfl rfl rfl rfl (Nat.le_trans (by decide) hd) ?_
  obtain ⟨v2, I2, J2, e2, h⟩ := qp_bd_s h
  refine qp_cS qp_ok167 (rest := []) (oj := 10) qp_f168 rfl rfl (gM_kindBy l G v1 I1 J1 e2 (Nat.le_refl 1)) rfl rfl rfl (Nat.le_trans (by decide) hd) ?_
  refine qp_run_E qp_ok167 3 (c' := (19, [some (.ref 36), some (.int p1), some (.int (I 46 0)), some (.int v2)], [.int (-9), .int v2], qp_mk I2 J2)) (by with_unfolding_all rfl) hd1 trivial ?_
  refine qp_br_E qp_ok167 (f := v2 = (-9)) (ct := (28, [some (.ref 36), some (.int p1), some (.int (I 46 0)), some (.int v2)], [], qp_mk I2 J2)) (cf := (22, [some (.ref 36), some (.int p1), some (.int (I 46 0)), some (.int v2)], [], qp_mk I2 J2)) (by with_unfolding_all rfl) (fun h1 => ?_) (fun h1 => ?_)
  · replace h := qp_ift h1 h
    refine qp_run_E qp_ok167 1 (c' := (29, [some (.ref 36), some (.int p1), some (.int (I 46 0)), some (.int v2)], [.int 0], qp_mk I2 J2)) (by with_unfolding_all rfl) hd1 trivial ?_
    obtain ⟨rfl, rfl, rfl⟩ := qp_some3 h
    exact qp_retZ_E qp_ok167 rfl qp_r167.1 rfl ⟨rfl, rfl⟩ ⟨rfl, rfl⟩
  · replace h := qp_iff h1 h
    refine qp_run_E qp_ok167 2 (c' := (25, [some (.ref 36), some (.int p1), some (.int (I 46 0)), some (.int v2)], [.int 6, .int (I 46 0)], qp_mk I2 J2)) (by with_unfolding_all rfl) hd1 trivial ?_
    refine qp_br_E qp_ok167 (f := ¬ (I 46 0) = 6) (ct := (30, [some (.ref 36), some (.int p1), some (.int (I 46 0)), some (.int v2)], [], qp_mk I2 J2)) (cf := (28, [some (.ref 36), some (.int p1), some (.int (I 46 0)), some (.int v2)], [], qp_mk I2 J2)) (by with_unfolding_all rfl) (fun h2 => ?_) (fun h2 => ?_)
    · replace h := qp_ift h2 h
      obtain ⟨h3, h⟩ := qp_gd_s h
      refine qp_run_E qp_ok167 19 (f := vp_in ((2 : Int32) + (I 46 0)) 75 ∧ True) (c' := (56, [some (.ref 36), some (.int p1), some (.int (I 46 0)), some (.int v2)], [.int 1, .int ((8 : Int32) + (I 46 0)), .int p1, .ref 36], qp_mk (qp_up (qp_up I2 46 (Int32.toNatClampNeg ((2 : Int32) + (I 46 0))) v2) 36 14 ((I2 36 14) + 1)) J2)) (by with_unfolding_all rfl) hd1 ⟨(qp_vin (c := 75) (by decide) h3.1 h3.2), trivial⟩ ?_
      obtain ⟨v3, I3, J3, e3, h⟩ := qp_bd_s h
      refine qp_cV qp_ok167 (rest := []) (oj := 10) qp_f166 rfl rfl (gM_takes l G p1 ((8 : Int32) + (I 46 0)) 1 (qp_up (qp_up I2 46 (Int32.toNatClampNeg ((2 : Int32) + (I 46 0))) v2) 36 14 ((I2 36 14) + 1)) J2 e3 (Nat.le_refl 2)) rfl rfl rfl rfl (Nat.le_trans (by decide) hd) ?_
      refine qp_br_E qp_ok167 (f := ¬ v3 = 0) (ct := (64, [some (.ref 36), some (.int p1), some (.int (I 46 0)), some (.int v2)], [], qp_mk I3 J3)) (cf := (62, [some (.ref 36), some (.int p1), some (.int (I 46 0)), some (.int v2)], [], qp_mk I3 J3)) (by with_unfolding_all rfl) (fun h4 => ?_) (fun h4 => ?_)
      · replace h := qp_ift h4 h
        refine qp_run_E qp_ok167 9 (f := vp_in 0 75 ∧ vp_in 0 75 ∧ True) (c' := (75, [some (.ref 36), some (.int p1), some (.int (I 46 0)), some (.int v2)], [.int 1], qp_mk (qp_up I3 46 0 ((I3 46 0) + 1)) J3)) (by with_unfolding_all rfl) hd1 ⟨(qp_vin (c := 75) (by decide) (by decide) (by decide)), (qp_vin (c := 75) (by decide) (by decide) (by decide)), trivial⟩ ?_
        obtain ⟨rfl, rfl, rfl⟩ := qp_some3 h
        exact qp_retZ_E qp_ok167 rfl qp_r167.1 rfl ⟨rfl, rfl⟩ ⟨rfl, rfl⟩
      · replace h := qp_iff h4 h
        refine qp_run_E qp_ok167 1 (c' := (63, [some (.ref 36), some (.int p1), some (.int (I 46 0)), some (.int v2)], [.int 0], qp_mk I3 J3)) (by with_unfolding_all rfl) hd1 trivial ?_
        obtain ⟨rfl, rfl, rfl⟩ := qp_some3 h
        exact qp_retZ_E qp_ok167 rfl qp_r167.1 rfl ⟨rfl, rfl⟩ ⟨rfl, rfl⟩
    · replace h := qp_iff h2 h
      refine qp_run_E qp_ok167 1 (c' := (29, [some (.ref 36), some (.int p1), some (.int (I 46 0)), some (.int v2)], [.int 0], qp_mk I2 J2)) (by with_unfolding_all rfl) hd1 trivial ?_
      obtain ⟨rfl, rfl, rfl⟩ := qp_some3 h
      exact qp_retZ_E qp_ok167 rfl qp_r167.1 rfl ⟨rfl, rfl⟩ ⟨rfl, rfl⟩
def fM_faultOf_b27  : Nat → Int32 → Int32 → (Nat → Nat → Int32) → (Nat → Nat → Int64) → Option (Int32 × (Nat → Nat → Int32) × (Nat → Nat → Int64))
  | 0, _, _, _, _ => none
  | n + 1, a1, a2, I, J =>
    if a2 = 0 then (
      if a2 = 0 then (
        some ((I 36 14), I, J)
      ) else (
        if (I 46 0) ≤ 0 then (
          some ((I 36 14), I, J)
        ) else (
          some ((-9), I, J)
        )
      )
    ) else (
      qp_gd ((0 ≤ a1 ∧ a1 < 4)) <|
      if (I 43 (Int32.toNatClampNeg a1)) ≤ (I 36 14) then (
        if a2 = 0 then (
          some ((I 36 14), I, J)
        ) else (
          if (I 46 0) ≤ 0 then (
            some ((I 36 14), I, J)
          ) else (
            some ((-9), I, J)
          )
        )
      ) else (
        qp_bd (fM_takesOne a1 I J) fun v1 I1 J1 =>
        if v1 = 0 then (
          fM_faultOf_b27 n a1 v1 I1 J1
        ) else (
          qp_bd (fM_skip a1 I1 J1) fun _u I2 J2 =>
          fM_faultOf_b27 n a1 v1 I2 J2
        )
      )
    )
set_option maxRecDepth 8000 in
theorem gM_faultOf_b27 {l : Launch} {G : qp_G} {d : Nat} (hd : 4 ≤ d) {r : (Int32 × (Nat → Nat → Int32) × (Nat → Nat → Int64))} {I0 : Nat → Nat → Int32} {J0 : Nat → Nat → Int64}   : ∀ (n : Nat) (a1 : Int32) (a2 : Int32) (I : Nat → Nat → Int32) (J : Nat → Nat → Int64), fM_faultOf_b27  n a1 a2 I J = some r → qp_E l G d 162 (qp_mk I0 J0) 0 0 (qp_R8 (some (.int r.1)) r.2.1 r.2.2) (27, [some (.ref 36), some (.int a1), some (.int a2)], [], qp_mk I J) := by
  have hd1 : Nat.ble 1 d = true := Nat.ble_eq_true_of_le (Nat.le_trans (by decide) hd)
  intro n
  induction n with
  | zero => intro a1 a2 I J h; exact absurd h (by simp [fM_faultOf_b27])
  | succ n ih =>
    intro a1 a2 I J h
    rw [fM_faultOf_b27] at h
    refine qp_run_E qp_ok162 1 (c' := (28, [some (.ref 36), some (.int a1), some (.int a2)], [.int a2], qp_mk I J)) (by with_unfolding_all rfl) hd1 trivial ?_
    refine qp_br_E qp_ok162 (f := a2 = 0) (ct := (62, [some (.ref 36), some (.int a1), some (.int a2)], [], qp_mk I J)) (cf := (31, [some (.ref 36), some (.int a1), some (.int a2)], [], qp_mk I J)) (by with_unfolding_all rfl) (fun h1 => ?_) (fun h1 => ?_)
    · replace h := qp_ift h1 h
      refine qp_run_E qp_ok162 1 (c' := (63, [some (.ref 36), some (.int a1), some (.int a2)], [.int a2], qp_mk I J)) (by with_unfolding_all rfl) hd1 trivial ?_
      refine qp_br_E qp_ok162 (f := a2 = 0) (ct := (80, [some (.ref 36), some (.int a1), some (.int a2)], [], qp_mk I J)) (cf := (66, [some (.ref 36), some (.int a1), some (.int a2)], [], qp_mk I J)) (by with_unfolding_all rfl) (fun h2 => ?_) (fun h2 => ?_)
      · replace h := qp_ift h2 h
        refine qp_run_E qp_ok162 2 (c' := (84, [some (.ref 36), some (.int a1), some (.int a2)], [.int (I 36 14)], qp_mk I J)) (by with_unfolding_all rfl) hd1 trivial ?_
        obtain rfl := Option.some.inj h
        exact qp_retI_E qp_ok162 rfl qp_r162.1 ⟨rfl, rfl⟩ ⟨rfl, rfl⟩
      · replace h := qp_iff h2 h
        refine qp_run_E qp_ok162 4 (f := vp_in 0 75 ∧ True) (c' := (72, [some (.ref 36), some (.int a1), some (.int a2)], [.int (I 46 0)], qp_mk I J)) (by with_unfolding_all rfl) hd1 ⟨(qp_vin (c := 75) (by decide) (by decide) (by decide)), trivial⟩ ?_
        refine qp_br_E qp_ok162 (f := (I 46 0) ≤ 0) (ct := (80, [some (.ref 36), some (.int a1), some (.int a2)], [], qp_mk I J)) (cf := (75, [some (.ref 36), some (.int a1), some (.int a2)], [], qp_mk I J)) (by with_unfolding_all rfl) (fun h3 => ?_) (fun h3 => ?_)
        · replace h := qp_ift h3 h
          refine qp_run_E qp_ok162 2 (c' := (84, [some (.ref 36), some (.int a1), some (.int a2)], [.int (I 36 14)], qp_mk I J)) (by with_unfolding_all rfl) hd1 trivial ?_
          obtain rfl := Option.some.inj h
          exact qp_retI_E qp_ok162 rfl qp_r162.1 ⟨rfl, rfl⟩ ⟨rfl, rfl⟩
        · replace h := qp_iff h3 h
          refine qp_run_E qp_ok162 2 (c' := (84, [some (.ref 36), some (.int a1), some (.int a2)], [.int (-9)], qp_mk I J)) (by with_unfolding_all rfl) hd1 trivial ?_
          obtain rfl := Option.some.inj h
          exact qp_retI_E qp_ok162 rfl qp_r162.1 ⟨rfl, rfl⟩ ⟨rfl, rfl⟩
    · replace h := qp_iff h1 h
      obtain ⟨h4, h⟩ := qp_gd_s h
      refine qp_run_E qp_ok162 6 (f := vp_in a1 4 ∧ True) (c' := (41, [some (.ref 36), some (.int a1), some (.int a2)], [.int (I 43 (Int32.toNatClampNeg a1)), .int (I 36 14)], qp_mk I J)) (by with_unfolding_all rfl) hd1 ⟨(qp_vin (c := 4) (by decide) h4.1 h4.2), trivial⟩ ?_
      refine qp_br_E qp_ok162 (f := (I 43 (Int32.toNatClampNeg a1)) ≤ (I 36 14)) (ct := (62, [some (.ref 36), some (.int a1), some (.int a2)], [], qp_mk I J)) (cf := (44, [some (.ref 36), some (.int a1), some (.int a2)], [], qp_mk I J)) (by with_unfolding_all rfl) (fun h5 => ?_) (fun h5 => ?_)
      · replace h := qp_ift h5 h
        refine qp_run_E qp_ok162 1 (c' := (63, [some (.ref 36), some (.int a1), some (.int a2)], [.int a2], qp_mk I J)) (by with_unfolding_all rfl) hd1 trivial ?_
        refine qp_br_E qp_ok162 (f := a2 = 0) (ct := (80, [some (.ref 36), some (.int a1), some (.int a2)], [], qp_mk I J)) (cf := (66, [some (.ref 36), some (.int a1), some (.int a2)], [], qp_mk I J)) (by with_unfolding_all rfl) (fun h6 => ?_) (fun h6 => ?_)
        · replace h := qp_ift h6 h
          refine qp_run_E qp_ok162 2 (c' := (84, [some (.ref 36), some (.int a1), some (.int a2)], [.int (I 36 14)], qp_mk I J)) (by with_unfolding_all rfl) hd1 trivial ?_
          obtain rfl := Option.some.inj h
          exact qp_retI_E qp_ok162 rfl qp_r162.1 ⟨rfl, rfl⟩ ⟨rfl, rfl⟩
        · replace h := qp_iff h6 h
          refine qp_run_E qp_ok162 4 (f := vp_in 0 75 ∧ True) (c' := (72, [some (.ref 36), some (.int a1), some (.int a2)], [.int (I 46 0)], qp_mk I J)) (by with_unfolding_all rfl) hd1 ⟨(qp_vin (c := 75) (by decide) (by decide) (by decide)), trivial⟩ ?_
          refine qp_br_E qp_ok162 (f := (I 46 0) ≤ 0) (ct := (80, [some (.ref 36), some (.int a1), some (.int a2)], [], qp_mk I J)) (cf := (75, [some (.ref 36), some (.int a1), some (.int a2)], [], qp_mk I J)) (by with_unfolding_all rfl) (fun h7 => ?_) (fun h7 => ?_)
          · replace h := qp_ift h7 h
            refine qp_run_E qp_ok162 2 (c' := (84, [some (.ref 36), some (.int a1), some (.int a2)], [.int (I 36 14)], qp_mk I J)) (by with_unfolding_all rfl) hd1 trivial ?_
            obtain rfl := Option.some.inj h
            exact qp_retI_E qp_ok162 rfl qp_r162.1 ⟨rfl, rfl⟩ ⟨rfl, rfl⟩
          · replace h := qp_iff h7 h
            refine qp_run_E qp_ok162 2 (c' := (84, [some (.ref 36), some (.int a1), some (.int a2)], [.int (-9)], qp_mk I J)) (by with_unfolding_all rfl) hd1 trivial ?_
            obtain rfl := Option.some.inj h
            exact qp_retI_E qp_ok162 rfl qp_r162.1 ⟨rfl, rfl⟩ ⟨rfl, rfl⟩
      · replace h := qp_iff h5 h
        refine qp_run_E qp_ok162 2 (c' := (46, [some (.ref 36), some (.int a1), some (.int a2)], [.int a1, .ref 36], qp_mk I J)) (by with_unfolding_all rfl) hd1 trivial ?_
        obtain ⟨v1, I1, J1, e1, h⟩ := qp_bd_s h
        refine qp_cV qp_ok162 (rest := []) (oj := 10) qp_f167 rfl rfl (gM_takesOne l G a1 I J e1 (Nat.le_refl 3)) rfl rfl rfl rfl (Nat.le_trans (by decide) hd) ?_
        refine qp_run_E qp_ok162 2 (c' := (51, [some (.ref 36), some (.int a1), some (.int v1)], [.int v1], qp_mk I1 J1)) (by with_unfolding_all rfl) hd1 trivial ?_
        refine qp_br_E qp_ok162 (f := v1 = 0) (ct := (27, [some (.ref 36), some (.int a1), some (.int v1)], [], qp_mk I1 J1)) (cf := (54, [some (.ref 36), some (.int a1), some (.int v1)], [], qp_mk I1 J1)) (by with_unfolding_all rfl) (fun h8 => ?_) (fun h8 => ?_)
        · replace h := qp_ift h8 h
          exact ih a1 v1 I1 J1 h
        · replace h := qp_iff h8 h
          refine qp_run_E qp_ok162 2 (c' := (56, [some (.ref 36), some (.int a1), some (.int v1)], [.int a1, .ref 36], qp_mk I1 J1)) (by with_unfolding_all rfl) hd1 trivial ?_
          obtain ⟨v2, I2, J2, e2, h⟩ := qp_bd_s h
          refine qp_cV qp_ok162 (rest := []) (oj := 10) qp_f164 rfl rfl (gM_skip l G a1 I1 J1 e2 (Nat.le_refl 2)) rfl rfl rfl rfl (Nat.le_trans (by decide) hd) ?_
          refine qp_run_E qp_ok162 1 (c' := (27, [some (.ref 36), some (.int a1), some (.int v1)], [], qp_mk I2 J2)) (by with_unfolding_all rfl) hd1 trivial ?_
          exact ih a1 v1 I2 J2 h
def fM_faultOf (p1 : Int32) (I : Nat → Nat → Int32) (J : Nat → Nat → Int64) : Option (Int32 × (Nat → Nat → Int32) × (Nat → Nat → Int64)) :=
  qp_bd (fM_takesFirst p1 (qp_up (qp_up I 36 14 0) 46 0 0) J) fun v1 I1 J1 =>
  if v1 = 0 then (
    fM_faultOf_b27 100000 p1 v1 I1 J1
  ) else (
    qp_bd (fM_skip p1 I1 J1) fun _u I2 J2 =>
    fM_faultOf_b27 100000 p1 v1 I2 J2
  )
set_option maxRecDepth 8000 in
theorem gM_faultOf (l : Launch) (G : qp_G) (p1 : Int32) (I : Nat → Nat → Int32) (J : Nat → Nat → Int64) {v : Int32} {I' : Nat → Nat → Int32} {J' : Nat → Nat → Int64} (h : fM_faultOf p1 I J = some (v, I', J')) {d : Nat} (hd : 4 ≤ d) : qp_Met l G d 162 [.ref 36, .int p1] (qp_mk I J) 0 0 (qp_R8 (some (.int v)) I' J') := by
  have hd1 : Nat.ble 1 d = true := Nat.ble_eq_true_of_le (Nat.le_trans (by decide) hd)
  refine qp_Met_of (by decide) (by rw [qp_r162.2]; rfl) [some (.ref 36), some (.int p1), none] (by rw [qp_r162.2]; rfl) ?_
  unfold fM_faultOf at h
  refine qp_run_E qp_ok162 10 (f := vp_in 0 75 ∧ True) (c' := (14, [some (.ref 36), some (.int p1), none], [.int p1, .ref 36], qp_mk (qp_up (qp_up I 36 14 0) 46 0 0) J)) (by with_unfolding_all rfl) hd1 ⟨(qp_vin (c := 75) (by decide) (by decide) (by decide)), trivial⟩ ?_
  obtain ⟨v1, I1, J1, e1, h⟩ := qp_bd_s h
  refine qp_cV qp_ok162 (rest := []) (oj := 10) qp_f163 rfl rfl (gM_takesFirst l G p1 (qp_up (qp_up I 36 14 0) 46 0 0) J e1 (Nat.le_refl 3)) rfl rfl rfl rfl (Nat.le_trans (by decide) hd) ?_
  refine qp_run_E qp_ok162 2 (c' := (19, [some (.ref 36), some (.int p1), some (.int v1)], [.int v1], qp_mk I1 J1)) (by with_unfolding_all rfl) hd1 trivial ?_
  refine qp_br_E qp_ok162 (f := v1 = 0) (ct := (27, [some (.ref 36), some (.int p1), some (.int v1)], [], qp_mk I1 J1)) (cf := (22, [some (.ref 36), some (.int p1), some (.int v1)], [], qp_mk I1 J1)) (by with_unfolding_all rfl) (fun h1 => ?_) (fun h1 => ?_)
  · replace h := qp_ift h1 h
    exact gM_faultOf_b27 hd 100000 p1 v1 I1 J1 h
  · replace h := qp_iff h1 h
    refine qp_run_E qp_ok162 2 (c' := (24, [some (.ref 36), some (.int p1), some (.int v1)], [.int p1, .ref 36], qp_mk I1 J1)) (by with_unfolding_all rfl) hd1 trivial ?_
    obtain ⟨v2, I2, J2, e2, h⟩ := qp_bd_s h
    refine qp_cV qp_ok162 (rest := []) (oj := 10) qp_f164 rfl rfl (gM_skip l G p1 I1 J1 e2 (Nat.le_refl 2)) rfl rfl rfl rfl (Nat.le_trans (by decide) hd) ?_
    exact gM_faultOf_b27 hd 100000 p1 v1 I2 J2 h
def fM_fault (p1 : Int32) (I : Nat → Nat → Int32) (J : Nat → Nat → Int64) : Option (Int32 × (Nat → Nat → Int32) × (Nat → Nat → Int64)) :=
  qp_bd (fM_isText p1 I J) fun v1 I1 J1 =>
  if ¬ v1 = 0 then (
    qp_gd ((0 ≤ p1 ∧ p1 < 4)) <|
    if 0 ≤ (I1 43 (Int32.toNatClampNeg p1)) then (
      qp_bd (fM_faultOf p1 I1 J1) fun v2 I2 J2 =>
      some (v2, I2, J2)
    ) else (
      qp_bd (fM_finds 1 I1 J1) fun v3 I3 J3 =>
      some (v3, I3, J3)
    )
  ) else (
    some ((-1), I1, J1)
  )
set_option maxRecDepth 8000 in
theorem gM_fault (l : Launch) (G : qp_G) (p1 : Int32) (I : Nat → Nat → Int32) (J : Nat → Nat → Int64) {v : Int32} {I' : Nat → Nat → Int32} {J' : Nat → Nat → Int64} (h : fM_fault p1 I J = some (v, I', J')) {d : Nat} (hd : 5 ≤ d) : qp_Met l G d 161 [.ref 36, .int p1] (qp_mk I J) 0 0 (qp_R8 (some (.int v)) I' J') := by
  have hd1 : Nat.ble 1 d = true := Nat.ble_eq_true_of_le (Nat.le_trans (by decide) hd)
  refine qp_Met_of (by decide) (by rw [qp_r161.2]; rfl) [some (.ref 36), some (.int p1)] (by rw [qp_r161.2]; rfl) ?_
  unfold fM_fault at h
  refine qp_run_E qp_ok161 1 (c' := (1, [some (.ref 36), some (.int p1)], [.int p1], qp_mk I J)) (by with_unfolding_all rfl) hd1 trivial ?_
  obtain ⟨v1, I1, J1, e1, h⟩ := qp_bd_s h
  refine qp_cS qp_ok161 (rest := []) (oj := 10) qp_f159 rfl rfl (gM_isText l G p1 I J e1 (Nat.le_refl 2)) rfl rfl rfl (Nat.le_trans (by decide) hd) ?_
  refine qp_br_E qp_ok161 (f := ¬ v1 = 0) (ct := (9, [some (.ref 36), some (.int p1)], [], qp_mk I1 J1)) (cf := (7, [some (.ref 36), some (.int p1)], [], qp_mk I1 J1)) (by with_unfolding_all rfl) (fun h1 => ?_) (fun h1 => ?_)
  · replace h := qp_ift h1 h
    obtain ⟨h2, h⟩ := qp_gd_s h
    refine qp_run_E qp_ok161 4 (f := vp_in p1 4 ∧ True) (c' := (15, [some (.ref 36), some (.int p1)], [.int (I1 43 (Int32.toNatClampNeg p1))], qp_mk I1 J1)) (by with_unfolding_all rfl) hd1 ⟨(qp_vin (c := 4) (by decide) h2.1 h2.2), trivial⟩ ?_
    refine qp_br_E qp_ok161 (f := 0 ≤ (I1 43 (Int32.toNatClampNeg p1))) (ct := (26, [some (.ref 36), some (.int p1)], [], qp_mk I1 J1)) (cf := (18, [some (.ref 36), some (.int p1)], [], qp_mk I1 J1)) (by with_unfolding_all rfl) (fun h3 => ?_) (fun h3 => ?_)
    · replace h := qp_ift h3 h
      refine qp_run_E qp_ok161 2 (c' := (28, [some (.ref 36), some (.int p1)], [.int p1, .ref 36], qp_mk I1 J1)) (by with_unfolding_all rfl) hd1 trivial ?_
      obtain ⟨v2, I2, J2, e2, h⟩ := qp_bd_s h
      refine qp_cV qp_ok161 (rest := []) (oj := 10) qp_f162 rfl rfl (gM_faultOf l G p1 I1 J1 e2 (Nat.le_refl 4)) rfl rfl rfl rfl (Nat.le_trans (by decide) hd) ?_
      obtain ⟨rfl, rfl, rfl⟩ := qp_some3 h
      exact qp_retI_E qp_ok161 rfl qp_r161.1 ⟨rfl, rfl⟩ ⟨rfl, rfl⟩
    · replace h := qp_iff h3 h
      refine qp_run_E qp_ok161 2 (c' := (20, [some (.ref 36), some (.int p1)], [.int 1, .ref 36], qp_mk I1 J1)) (by with_unfolding_all rfl) hd1 trivial ?_
      obtain ⟨v3, I3, J3, e3, h⟩ := qp_bd_s h
      refine qp_cV qp_ok161 (rest := []) (oj := 10) qp_f151 rfl rfl (gM_finds l G 1 I1 J1 e3 (Nat.le_refl 1)) rfl rfl rfl rfl (Nat.le_trans (by decide) hd) ?_
      refine qp_run_E qp_ok161 1 (c' := (31, [some (.ref 36), some (.int p1)], [.int v3], qp_mk I3 J3)) (by with_unfolding_all rfl) hd1 trivial ?_
      obtain ⟨rfl, rfl, rfl⟩ := qp_some3 h
      exact qp_retI_E qp_ok161 rfl qp_r161.1 ⟨rfl, rfl⟩ ⟨rfl, rfl⟩
  · replace h := qp_iff h1 h
    refine qp_run_E qp_ok161 1 (c' := (8, [some (.ref 36), some (.int p1)], [.int (-1)], qp_mk I1 J1)) (by with_unfolding_all rfl) hd1 trivial ?_
    obtain ⟨rfl, rfl, rfl⟩ := qp_some3 h
    exact qp_retI_E qp_ok161 rfl qp_r161.1 ⟨rfl, rfl⟩ ⟨rfl, rfl⟩
def fM_begin_37_b14  : Nat → Int32 → (Nat → Nat → Int32) → (Nat → Nat → Int64) → Option (Unit × (Nat → Nat → Int32) × (Nat → Nat → Int64))
  | 0, _, _, _ => none
  | n + 1, a1, I, J =>
    if 6 ≤ a1 then (
      some ((), I, J)
    ) else (
      qp_gd ((0 ≤ ((69 : Int32) + a1) ∧ ((69 : Int32) + a1) < 75)) <|
      fM_begin_37_b14 n (a1 + 1) (qp_up I 37 (Int32.toNatClampNeg ((69 : Int32) + a1)) a1) J
    )
set_option maxRecDepth 8000 in
theorem gM_begin_37_b14 {l : Launch} {G : qp_G} {d : Nat} (hd : 1 ≤ d) {r : (Unit × (Nat → Nat → Int32) × (Nat → Nat → Int64))} {I0 : Nat → Nat → Int32} {J0 : Nat → Nat → Int64}   : ∀ (n : Nat) (a1 : Int32) (I : Nat → Nat → Int32) (J : Nat → Nat → Int64), fM_begin_37_b14  n a1 I J = some r → qp_E l G d 170 (qp_mk I0 J0) 0 0 (qp_R8 none r.2.1 r.2.2) (14, [some (.ref 37), some (.int a1)], [], qp_mk I J) := by
  have hd1 : Nat.ble 1 d = true := Nat.ble_eq_true_of_le (Nat.le_trans (by decide) hd)
  intro n
  induction n with
  | zero => intro a1 I J h; exact absurd h (by simp [fM_begin_37_b14])
  | succ n ih =>
    intro a1 I J h
    rw [fM_begin_37_b14] at h
    refine qp_run_E qp_ok170 2 (c' := (17, [some (.ref 37), some (.int a1)], [.int 6, .int a1], qp_mk I J)) (by with_unfolding_all rfl) hd1 trivial ?_
    refine qp_br_E qp_ok170 (f := 6 ≤ a1) (ct := (33, [some (.ref 37), some (.int a1)], [], qp_mk I J)) (cf := (20, [some (.ref 37), some (.int a1)], [], qp_mk I J)) (by with_unfolding_all rfl) (fun h1 => ?_) (fun h1 => ?_)
    · replace h := qp_ift h1 h
      obtain rfl := Option.some.inj h
      exact qp_retV_E qp_ok170 rfl qp_r170.1 ⟨rfl, rfl⟩ ⟨rfl, rfl⟩
    · replace h := qp_iff h1 h
      obtain ⟨h2, h⟩ := qp_gd_s h
      refine qp_run_E qp_ok170 8 (f := vp_in ((69 : Int32) + a1) 75 ∧ True) (c' := (14, [some (.ref 37), some (.int (a1 + 1))], [], qp_mk (qp_up I 37 (Int32.toNatClampNeg ((69 : Int32) + a1)) a1) J)) (by with_unfolding_all rfl) hd1 ⟨(qp_vin (c := 75) (by decide) h2.1 h2.2), trivial⟩ ?_
      exact ih (a1 + 1) (qp_up I 37 (Int32.toNatClampNeg ((69 : Int32) + a1)) a1) J h
def fM_begin_37  (I : Nat → Nat → Int32) (J : Nat → Nat → Int64) : Option (Unit × (Nat → Nat → Int32) × (Nat → Nat → Int64)) :=
  fM_begin_37_b14 100000 0 (qp_up (qp_up I 37 55 (I 37 1)) 37 56 0) J
set_option maxRecDepth 8000 in
theorem gM_begin_37 (l : Launch) (G : qp_G)  (I : Nat → Nat → Int32) (J : Nat → Nat → Int64) {v : Unit} {I' : Nat → Nat → Int32} {J' : Nat → Nat → Int64} (h : fM_begin_37  I J = some (v, I', J')) {d : Nat} (hd : 1 ≤ d) : qp_Met l G d 170 [.ref 37] (qp_mk I J) 0 0 (qp_R8 none I' J') := by
  have hd1 : Nat.ble 1 d = true := Nat.ble_eq_true_of_le (Nat.le_trans (by decide) hd)
  refine qp_Met_of (by decide) (by rw [qp_r170.2]; rfl) [some (.ref 37), none] (by rw [qp_r170.2]; rfl) ?_
  unfold fM_begin_37 at h
  refine qp_run_E qp_ok170 12 (f := vp_in 1 75 ∧ vp_in 55 75 ∧ vp_in 56 75 ∧ True) (c' := (14, [some (.ref 37), some (.int 0)], [], qp_mk (qp_up (qp_up I 37 55 (I 37 1)) 37 56 0) J)) (by with_unfolding_all rfl) hd1 ⟨(qp_vin (c := 75) (by decide) (by decide) (by decide)), (qp_vin (c := 75) (by decide) (by decide) (by decide)), (qp_vin (c := 75) (by decide) (by decide) (by decide)), trivial⟩ ?_
  exact gM_begin_37_b14 hd 100000 0 (qp_up (qp_up I 37 55 (I 37 1)) 37 56 0) J h
def fM_line_b80  : Nat → Int32 → (Nat → Nat → Int32) → (Nat → Nat → Int64) → Option (Int32 × (Nat → Nat → Int32) × (Nat → Nat → Int64))
  | 0, _, _, _ => none
  | n + 1, a2, I, J =>
    if 3 ≤ a2 then (
      some ((I 37 0), I, J)
    ) else (
      qp_gd ((0 ≤ a2 ∧ a2 < 3)) <|
      fM_line_b80 n (a2 + 1) (qp_up I 39 (Int32.toNatClampNeg a2) 0) J
    )
set_option maxRecDepth 8000 in
theorem gM_line_b80 {l : Launch} {G : qp_G} {d : Nat} (hd : 5 ≤ d) {r : (Int32 × (Nat → Nat → Int32) × (Nat → Nat → Int64))} {I0 : Nat → Nat → Int32} {J0 : Nat → Nat → Int64}   : ∀ (n : Nat) (a2 : Int32) (I : Nat → Nat → Int32) (J : Nat → Nat → Int64), fM_line_b80  n a2 I J = some r → qp_E l G d 169 (qp_mk I0 J0) 0 0 (qp_R8 (some (.int r.1)) r.2.1 r.2.2) (80, [some (.ref 36), none, some (.int a2)], [], qp_mk I J) := by
  have hd1 : Nat.ble 1 d = true := Nat.ble_eq_true_of_le (Nat.le_trans (by decide) hd)
  intro n
  induction n with
  | zero => intro a2 I J h; exact absurd h (by simp [fM_line_b80])
  | succ n ih =>
    intro a2 I J h
    rw [fM_line_b80] at h
    refine qp_run_E qp_ok169 2 (c' := (82, [some (.ref 36), none, some (.int a2)], [.int 3, .int a2], qp_mk I J)) (by with_unfolding_all rfl) hd1 trivial ?_
    refine qp_br_E qp_ok169 (f := 3 ≤ a2) (ct := (98, [some (.ref 36), none, some (.int a2)], [], qp_mk I J)) (cf := (85, [some (.ref 36), none, some (.int a2)], [], qp_mk I J)) (by with_unfolding_all rfl) (fun h1 => ?_) (fun h1 => ?_)
    · replace h := qp_ift h1 h
      refine qp_run_E qp_ok169 4 (f := vp_in 0 75 ∧ True) (c' := (104, [some (.ref 36), none, some (.int a2)], [.int (I 37 0)], qp_mk I J)) (by with_unfolding_all rfl) hd1 ⟨(qp_vin (c := 75) (by decide) (by decide) (by decide)), trivial⟩ ?_
      obtain rfl := Option.some.inj h
      exact qp_retI_E qp_ok169 rfl qp_r169.1 ⟨rfl, rfl⟩ ⟨rfl, rfl⟩
    · replace h := qp_iff h1 h
      obtain ⟨h2, h⟩ := qp_gd_s h
      refine qp_run_E qp_ok169 7 (f := (vp_in a2 3 ∧ vp_nar .boolean 0 = 0) ∧ True) (c' := (80, [some (.ref 36), none, some (.int (a2 + 1))], [], qp_mk (qp_up I 39 (Int32.toNatClampNeg a2) 0) J)) (by with_unfolding_all rfl) hd1 ⟨⟨(qp_vin (c := 3) (by decide) h2.1 h2.2), by rfl⟩, trivial⟩ ?_
      exact ih (a2 + 1) (qp_up I 39 (Int32.toNatClampNeg a2) 0) J h
def fM_line_b39  : Nat → Int32 → (Nat → Nat → Int32) → (Nat → Nat → Int64) → Option (Int32 × (Nat → Nat → Int32) × (Nat → Nat → Int64))
  | 0, _, _, _ => none
  | n + 1, a2, I, J =>
    if 14 ≤ a2 then (
      qp_bd (fM_begin_37 (qp_up I 37 14 0) J) fun _u I1 J1 =>
      fM_line_b80 100000 0 I1 J1
    ) else (
      qp_gd ((0 ≤ a2 ∧ a2 < 75)) <|
      fM_line_b39 n (a2 + 1) (qp_up I 37 (Int32.toNatClampNeg a2) (I 46 (Int32.toNatClampNeg a2))) J
    )
set_option maxRecDepth 8000 in
theorem gM_line_b39 {l : Launch} {G : qp_G} {d : Nat} (hd : 5 ≤ d) {r : (Int32 × (Nat → Nat → Int32) × (Nat → Nat → Int64))} {I0 : Nat → Nat → Int32} {J0 : Nat → Nat → Int64}   : ∀ (n : Nat) (a2 : Int32) (I : Nat → Nat → Int32) (J : Nat → Nat → Int64), fM_line_b39  n a2 I J = some r → qp_E l G d 169 (qp_mk I0 J0) 0 0 (qp_R8 (some (.int r.1)) r.2.1 r.2.2) (39, [some (.ref 36), none, some (.int a2)], [], qp_mk I J) := by
  have hd1 : Nat.ble 1 d = true := Nat.ble_eq_true_of_le (Nat.le_trans (by decide) hd)
  intro n
  induction n with
  | zero => intro a2 I J h; exact absurd h (by simp [fM_line_b39])
  | succ n ih =>
    intro a2 I J h
    rw [fM_line_b39] at h
    refine qp_run_E qp_ok169 2 (c' := (42, [some (.ref 36), none, some (.int a2)], [.int 14, .int a2], qp_mk I J)) (by with_unfolding_all rfl) hd1 trivial ?_
    refine qp_br_E qp_ok169 (f := 14 ≤ a2) (ct := (63, [some (.ref 36), none, some (.int a2)], [], qp_mk I J)) (cf := (45, [some (.ref 36), none, some (.int a2)], [], qp_mk I J)) (by with_unfolding_all rfl) (fun h1 => ?_) (fun h1 => ?_)
    · replace h := qp_ift h1 h
      refine qp_run_E qp_ok169 7 (f := vp_in 14 75 ∧ True) (c' := (75, [some (.ref 36), none, some (.int a2)], [.ref 37], qp_mk (qp_up I 37 14 0) J)) (by with_unfolding_all rfl) hd1 ⟨(qp_vin (c := 75) (by decide) (by decide) (by decide)), trivial⟩ ?_
      obtain ⟨v1, I1, J1, e1, h⟩ := qp_bd_s h
      refine qp_cS qp_ok169 (rest := []) (oj := 10) qp_f170 rfl rfl (gM_begin_37 l G (qp_up I 37 14 0) J e1 (Nat.le_refl 1)) rfl rfl rfl (Nat.le_trans (by decide) hd) ?_
      refine qp_run_E qp_ok169 2 (c' := (80, [some (.ref 36), none, some (.int 0)], [], qp_mk I1 J1)) (by with_unfolding_all rfl) hd1 trivial ?_
      exact gM_line_b80 hd 100000 0 I1 J1 h
    · replace h := qp_iff h1 h
      obtain ⟨h2, h⟩ := qp_gd_s h
      refine qp_run_E qp_ok169 10 (f := vp_in a2 75 ∧ vp_in a2 75 ∧ True) (c' := (39, [some (.ref 36), none, some (.int (a2 + 1))], [], qp_mk (qp_up I 37 (Int32.toNatClampNeg a2) (I 46 (Int32.toNatClampNeg a2))) J)) (by with_unfolding_all rfl) hd1 ⟨(qp_vin (c := 75) (by decide) h2.1 h2.2), (qp_vin (c := 75) (by decide) h2.1 h2.2), trivial⟩ ?_
      exact ih (a2 + 1) (qp_up I 37 (Int32.toNatClampNeg a2) (I 46 (Int32.toNatClampNeg a2))) J h
def fM_line (p1 : Int32) (I : Nat → Nat → Int32) (J : Nat → Nat → Int64) : Option (Int32 × (Nat → Nat → Int32) × (Nat → Nat → Int64)) :=
  qp_bd (fM_isText p1 I J) fun v1 I1 J1 =>
  if ¬ v1 = 0 then (
    qp_gd ((0 ≤ p1 ∧ p1 < 4)) <|
    if 0 ≤ (I1 43 (Int32.toNatClampNeg p1)) then (
      qp_bd (fM_faultOf p1 I1 J1) fun v2 I2 J2 =>
      if v2 = (-9) then (
        fM_line_b39 100000 0 I2 J2
      ) else (
        some ((-4), I2, J2)
      )
    ) else (
      qp_bd (fM_finds 1 I1 J1) fun v3 I3 J3 =>
      some (v3, I3, J3)
    )
  ) else (
    some ((-1), I1, J1)
  )
set_option maxRecDepth 8000 in
theorem gM_line (l : Launch) (G : qp_G) (p1 : Int32) (I : Nat → Nat → Int32) (J : Nat → Nat → Int64) {v : Int32} {I' : Nat → Nat → Int32} {J' : Nat → Nat → Int64} (h : fM_line p1 I J = some (v, I', J')) {d : Nat} (hd : 5 ≤ d) : qp_Met l G d 169 [.ref 36, .int p1] (qp_mk I J) 0 0 (qp_R8 (some (.int v)) I' J') := by
  have hd1 : Nat.ble 1 d = true := Nat.ble_eq_true_of_le (Nat.le_trans (by decide) hd)
  refine qp_Met_of (by decide) (by rw [qp_r169.2]; rfl) [some (.ref 36), some (.int p1), none] (by rw [qp_r169.2]; rfl) ?_
  unfold fM_line at h
  refine qp_run_E qp_ok169 1 (c' := (1, [some (.ref 36), some (.int p1), none], [.int p1], qp_mk I J)) (by with_unfolding_all rfl) hd1 trivial ?_
  obtain ⟨v1, I1, J1, e1, h⟩ := qp_bd_s h
  refine qp_cS qp_ok169 (rest := []) (oj := 10) qp_f159 rfl rfl (gM_isText l G p1 I J e1 (Nat.le_refl 2)) rfl rfl rfl (Nat.le_trans (by decide) hd) ?_
  refine qp_br_E qp_ok169 (f := ¬ v1 = 0) (ct := (9, [some (.ref 36), some (.int p1), none], [], qp_mk I1 J1)) (cf := (7, [some (.ref 36), some (.int p1), none], [], qp_mk I1 J1)) (by with_unfolding_all rfl) (fun h1 => ?_) (fun h1 => ?_)
  · replace h := qp_ift h1 h
    obtain ⟨h2, h⟩ := qp_gd_s h
    refine qp_run_E qp_ok169 4 (f := vp_in p1 4 ∧ True) (c' := (15, [some (.ref 36), some (.int p1), none], [.int (I1 43 (Int32.toNatClampNeg p1))], qp_mk I1 J1)) (by with_unfolding_all rfl) hd1 ⟨(qp_vin (c := 4) (by decide) h2.1 h2.2), trivial⟩ ?_
    refine qp_br_E qp_ok169 (f := 0 ≤ (I1 43 (Int32.toNatClampNeg p1))) (ct := (24, [some (.ref 36), some (.int p1), none], [], qp_mk I1 J1)) (cf := (18, [some (.ref 36), some (.int p1), none], [], qp_mk I1 J1)) (by with_unfolding_all rfl) (fun h3 => ?_) (fun h3 => ?_)
    · replace h := qp_ift h3 h
      refine qp_run_E qp_ok169 2 (c' := (26, [some (.ref 36), some (.int p1), none], [.int p1, .ref 36], qp_mk I1 J1)) (by with_unfolding_all rfl) hd1 trivial ?_
      obtain ⟨v2, I2, J2, e2, h⟩ := qp_bd_s h
      refine qp_cV qp_ok169 (rest := []) (oj := 10) qp_f162 rfl rfl (gM_faultOf l G p1 I1 J1 e2 (Nat.le_refl 4)) rfl rfl rfl rfl (Nat.le_trans (by decide) hd) ?_
      refine qp_run_E qp_ok169 1 (c' := (31, [some (.ref 36), some (.int p1), none], [.int (-9), .int v2], qp_mk I2 J2)) (by with_unfolding_all rfl) hd1 trivial ?_
      refine qp_br_E qp_ok169 (f := v2 = (-9)) (ct := (37, [some (.ref 36), some (.int p1), none], [], qp_mk I2 J2)) (cf := (34, [some (.ref 36), some (.int p1), none], [], qp_mk I2 J2)) (by with_unfolding_all rfl) (fun h4 => ?_) (fun h4 => ?_)
      · replace h := qp_ift h4 h
        refine qp_run_E qp_ok169 2 (c' := (39, [some (.ref 36), some (.int p1), some (.int 0)], [], qp_mk I2 J2)) (by with_unfolding_all rfl) hd1 trivial ?_
        exact qp_E_fg [true, false, true] (gM_line_b39 hd 100000 0 I2 J2 h)
      · replace h := qp_iff h4 h
        refine qp_run_E qp_ok169 1 (c' := (36, [some (.ref 36), some (.int p1), none], [.int (-4)], qp_mk I2 J2)) (by with_unfolding_all rfl) hd1 trivial ?_
        obtain ⟨rfl, rfl, rfl⟩ := qp_some3 h
        exact qp_retI_E qp_ok169 rfl qp_r169.1 ⟨rfl, rfl⟩ ⟨rfl, rfl⟩
    · replace h := qp_iff h3 h
      refine qp_run_E qp_ok169 2 (c' := (20, [some (.ref 36), some (.int p1), none], [.int 1, .ref 36], qp_mk I1 J1)) (by with_unfolding_all rfl) hd1 trivial ?_
      obtain ⟨v3, I3, J3, e3, h⟩ := qp_bd_s h
      refine qp_cV qp_ok169 (rest := []) (oj := 10) qp_f151 rfl rfl (gM_finds l G 1 I1 J1 e3 (Nat.le_refl 1)) rfl rfl rfl rfl (Nat.le_trans (by decide) hd) ?_
      obtain ⟨rfl, rfl, rfl⟩ := qp_some3 h
      exact qp_retI_E qp_ok169 rfl qp_r169.1 ⟨rfl, rfl⟩ ⟨rfl, rfl⟩
  · replace h := qp_iff h1 h
    refine qp_run_E qp_ok169 1 (c' := (8, [some (.ref 36), some (.int p1), none], [.int (-1)], qp_mk I1 J1)) (by with_unfolding_all rfl) hd1 trivial ?_
    obtain ⟨rfl, rfl, rfl⟩ := qp_some3 h
    exact qp_retI_E qp_ok169 rfl qp_r169.1 ⟨rfl, rfl⟩ ⟨rfl, rfl⟩
def fM_isOne (p1 : Int32) (I : Nat → Nat → Int32) (J : Nat → Nat → Int64) : Option (Int32 × (Nat → Nat → Int32) × (Nat → Nat → Int64)) :=
  qp_bd (fM_in (Int32.toInt64 p1) 0 (Int32.toInt64 ((I 37 0) - 1)) I J) fun v1 I1 J1 =>
  qp_gd (v1 = 0 ∨ v1 = 1) <| some (v1, I1, J1)
set_option maxRecDepth 8000 in
theorem gM_isOne (l : Launch) (G : qp_G) (p1 : Int32) (I : Nat → Nat → Int32) (J : Nat → Nat → Int64) {v : Int32} {I' : Nat → Nat → Int32} {J' : Nat → Nat → Int64} (h : fM_isOne p1 I J = some (v, I', J')) {d : Nat} (hd : 2 ≤ d) : qp_Met l G d 172 [.ref 36, .int p1] (qp_mk I J) 0 0 (qp_R8 (some (.int v)) I' J') := by
  have hd1 : Nat.ble 1 d = true := Nat.ble_eq_true_of_le (Nat.le_trans (by decide) hd)
  refine qp_Met_of (by decide) (by rw [qp_r172.2]; rfl) [some (.ref 36), some (.int p1)] (by rw [qp_r172.2]; rfl) ?_
  unfold fM_isOne at h
  refine qp_run_E qp_ok172 10 (f := vp_in 0 75 ∧ True) (c' := (12, [some (.ref 36), some (.int p1)], [.long (Int32.toInt64 ((I 37 0) - 1)), .long 0, .long (Int32.toInt64 p1)], qp_mk I J)) (by with_unfolding_all rfl) hd1 ⟨(qp_vin (c := 75) (by decide) (by decide) (by decide)), trivial⟩ ?_
  obtain ⟨v1, I1, J1, e1, h⟩ := qp_bd_s h
  refine qp_cS qp_ok172 (rest := []) (oj := 10) qp_f150 rfl rfl (gM_in l G (Int32.toInt64 p1) 0 (Int32.toInt64 ((I 37 0) - 1)) I J e1 (Nat.le_refl 1)) rfl rfl rfl (Nat.le_trans (by decide) hd) ?_
  obtain ⟨h1, h⟩ := qp_gd_s h
  obtain ⟨rfl, rfl, rfl⟩ := qp_some3 h
  exact qp_retZ_E qp_ok172 rfl qp_r172.1 (qp_nar01 h1) ⟨rfl, rfl⟩ ⟨rfl, rfl⟩
def fM_isSoldier (p0 : Int32) (I : Nat → Nat → Int32) (J : Nat → Nat → Int64) : Option (Int32 × (Nat → Nat → Int32) × (Nat → Nat → Int64)) :=
  if p0 = 1 then (
    some (1, I, J)
  ) else (
    if ¬ p0 = 4 then (
      some (0, I, J)
    ) else (
      some (1, I, J)
    )
  )
set_option maxRecDepth 8000 in
theorem gM_isSoldier (l : Launch) (G : qp_G) (p0 : Int32) (I : Nat → Nat → Int32) (J : Nat → Nat → Int64) {v : Int32} {I' : Nat → Nat → Int32} {J' : Nat → Nat → Int64} (h : fM_isSoldier p0 I J = some (v, I', J')) {d : Nat} (hd : 1 ≤ d) : qp_Met l G d 176 [.int p0] (qp_mk I J) 0 0 (qp_R8 (some (.int v)) I' J') := by
  have hd1 : Nat.ble 1 d = true := Nat.ble_eq_true_of_le (Nat.le_trans (by decide) hd)
  refine qp_Met_of (by decide) (by rw [qp_r176.2]; rfl) [some (.int p0)] (by rw [qp_r176.2]; rfl) ?_
  unfold fM_isSoldier at h
  refine qp_run_E qp_ok176 2 (c' := (2, [some (.int p0)], [.int 1, .int p0], qp_mk I J)) (by with_unfolding_all rfl) hd1 trivial ?_
  refine qp_br_E qp_ok176 (f := p0 = 1) (ct := (10, [some (.int p0)], [], qp_mk I J)) (cf := (5, [some (.int p0)], [], qp_mk I J)) (by with_unfolding_all rfl) (fun h1 => ?_) (fun h1 => ?_)
  · replace h := qp_ift h1 h
    refine qp_run_E qp_ok176 2 (c' := (15, [some (.int p0)], [.int 1], qp_mk I J)) (by with_unfolding_all rfl) hd1 trivial ?_
    obtain ⟨rfl, rfl, rfl⟩ := qp_some3 h
    exact qp_retZ_E qp_ok176 rfl qp_r176.1 rfl ⟨rfl, rfl⟩ ⟨rfl, rfl⟩
  · replace h := qp_iff h1 h
    refine qp_run_E qp_ok176 2 (c' := (7, [some (.int p0)], [.int 4, .int p0], qp_mk I J)) (by with_unfolding_all rfl) hd1 trivial ?_
    refine qp_br_E qp_ok176 (f := ¬ p0 = 4) (ct := (14, [some (.int p0)], [], qp_mk I J)) (cf := (10, [some (.int p0)], [], qp_mk I J)) (by with_unfolding_all rfl) (fun h2 => ?_) (fun h2 => ?_)
    · replace h := qp_ift h2 h
      refine qp_run_E qp_ok176 1 (c' := (15, [some (.int p0)], [.int 0], qp_mk I J)) (by with_unfolding_all rfl) hd1 trivial ?_
      obtain ⟨rfl, rfl, rfl⟩ := qp_some3 h
      exact qp_retZ_E qp_ok176 rfl qp_r176.1 rfl ⟨rfl, rfl⟩ ⟨rfl, rfl⟩
    · replace h := qp_iff h2 h
      refine qp_run_E qp_ok176 2 (c' := (15, [some (.int p0)], [.int 1], qp_mk I J)) (by with_unfolding_all rfl) hd1 trivial ?_
      obtain ⟨rfl, rfl, rfl⟩ := qp_some3 h
      exact qp_retZ_E qp_ok176 rfl qp_r176.1 rfl ⟨rfl, rfl⟩ ⟨rfl, rfl⟩
def fM_wantsAs (p0 : Int32) (p1 : Int32) (I : Nat → Nat → Int32) (J : Nat → Nat → Int64) : Option (Int32 × (Nat → Nat → Int32) × (Nat → Nat → Int64)) :=
  if p0 = 2 then (
    some (0, I, J)
  ) else
  if p0 = 3 then (
    some (2, I, J)
  ) else
  if p0 = 4 then (
    some (3, I, J)
  ) else
  if p0 = 5 then (
    if p1 = 0 then (
      some (0, I, J)
    ) else (
      some (1, I, J)
    )
  ) else
  some (1, I, J)
set_option maxRecDepth 8000 in
theorem gM_wantsAs (l : Launch) (G : qp_G) (p0 : Int32) (p1 : Int32) (I : Nat → Nat → Int32) (J : Nat → Nat → Int64) {v : Int32} {I' : Nat → Nat → Int32} {J' : Nat → Nat → Int64} (h : fM_wantsAs p0 p1 I J = some (v, I', J')) {d : Nat} (hd : 1 ≤ d) : qp_Met l G d 177 [.int p0, .int p1] (qp_mk I J) 0 0 (qp_R8 (some (.int v)) I' J') := by
  have hd1 : Nat.ble 1 d = true := Nat.ble_eq_true_of_le (Nat.le_trans (by decide) hd)
  refine qp_Met_of (by decide) (by rw [qp_r177.2]; rfl) [some (.int p0), some (.int p1)] (by rw [qp_r177.2]; rfl) ?_
  unfold fM_wantsAs at h
  refine qp_run_E qp_ok177 1 (c' := (1, [some (.int p0), some (.int p1)], [.int p0], qp_mk I J)) (by with_unfolding_all rfl) hd1 trivial ?_
  by_cases h1 : p0 = 2
  · replace h := qp_ift h1 h
    refine qp_run_E qp_ok177 1 (c' := (qp_swt 47 2 5 #[31, 33, 35, 37] 1 p0, [some (.int p0), some (.int p1)], [], qp_mk I J)) (by with_unfolding_all rfl) hd1 trivial ?_
    refine qp_E_pc (pc' := 32) (by rw [h1]; rfl) ?_
    refine qp_run_E qp_ok177 1 (c' := (33, [some (.int p0), some (.int p1)], [.int 0], qp_mk I J)) (by with_unfolding_all rfl) hd1 trivial ?_
    obtain ⟨rfl, rfl, rfl⟩ := qp_some3 h
    exact qp_retI_E qp_ok177 rfl qp_r177.1 ⟨rfl, rfl⟩ ⟨rfl, rfl⟩
  replace h := qp_iff h1 h
  by_cases h2 : p0 = 3
  · replace h := qp_ift h2 h
    refine qp_run_E qp_ok177 1 (c' := (qp_swt 47 2 5 #[31, 33, 35, 37] 1 p0, [some (.int p0), some (.int p1)], [], qp_mk I J)) (by with_unfolding_all rfl) hd1 trivial ?_
    refine qp_E_pc (pc' := 34) (by rw [h2]; rfl) ?_
    refine qp_run_E qp_ok177 1 (c' := (35, [some (.int p0), some (.int p1)], [.int 2], qp_mk I J)) (by with_unfolding_all rfl) hd1 trivial ?_
    obtain ⟨rfl, rfl, rfl⟩ := qp_some3 h
    exact qp_retI_E qp_ok177 rfl qp_r177.1 ⟨rfl, rfl⟩ ⟨rfl, rfl⟩
  replace h := qp_iff h2 h
  by_cases h3 : p0 = 4
  · replace h := qp_ift h3 h
    refine qp_run_E qp_ok177 1 (c' := (qp_swt 47 2 5 #[31, 33, 35, 37] 1 p0, [some (.int p0), some (.int p1)], [], qp_mk I J)) (by with_unfolding_all rfl) hd1 trivial ?_
    refine qp_E_pc (pc' := 36) (by rw [h3]; rfl) ?_
    refine qp_run_E qp_ok177 1 (c' := (37, [some (.int p0), some (.int p1)], [.int 3], qp_mk I J)) (by with_unfolding_all rfl) hd1 trivial ?_
    obtain ⟨rfl, rfl, rfl⟩ := qp_some3 h
    exact qp_retI_E qp_ok177 rfl qp_r177.1 ⟨rfl, rfl⟩ ⟨rfl, rfl⟩
  replace h := qp_iff h3 h
  by_cases h4 : p0 = 5
  · replace h := qp_ift h4 h
    refine qp_run_E qp_ok177 1 (c' := (qp_swt 47 2 5 #[31, 33, 35, 37] 1 p0, [some (.int p0), some (.int p1)], [], qp_mk I J)) (by with_unfolding_all rfl) hd1 trivial ?_
    refine qp_E_pc (pc' := 38) (by rw [h4]; rfl) ?_
    refine qp_run_E qp_ok177 1 (c' := (39, [some (.int p0), some (.int p1)], [.int p1], qp_mk I J)) (by with_unfolding_all rfl) hd1 trivial ?_
    refine qp_br_E qp_ok177 (f := p1 = 0) (ct := (46, [some (.int p0), some (.int p1)], [], qp_mk I J)) (cf := (42, [some (.int p0), some (.int p1)], [], qp_mk I J)) (by with_unfolding_all rfl) (fun h5 => ?_) (fun h5 => ?_)
    · replace h := qp_ift h5 h
      refine qp_run_E qp_ok177 1 (c' := (47, [some (.int p0), some (.int p1)], [.int 0], qp_mk I J)) (by with_unfolding_all rfl) hd1 trivial ?_
      obtain ⟨rfl, rfl, rfl⟩ := qp_some3 h
      exact qp_retI_E qp_ok177 rfl qp_r177.1 ⟨rfl, rfl⟩ ⟨rfl, rfl⟩
    · replace h := qp_iff h5 h
      refine qp_run_E qp_ok177 2 (c' := (47, [some (.int p0), some (.int p1)], [.int 1], qp_mk I J)) (by with_unfolding_all rfl) hd1 trivial ?_
      obtain ⟨rfl, rfl, rfl⟩ := qp_some3 h
      exact qp_retI_E qp_ok177 rfl qp_r177.1 ⟨rfl, rfl⟩ ⟨rfl, rfl⟩
  replace h := qp_iff h4 h
  refine qp_run_E qp_ok177 1 (c' := (qp_swt 47 2 5 #[31, 33, 35, 37] 1 p0, [some (.int p0), some (.int p1)], [], qp_mk I J)) (by with_unfolding_all rfl) hd1 trivial ?_
  refine qp_E_pc (pc' := 48) (qp_swt_df (lo' := 2) (hi' := 5) (by decide) (by decide) (by clear h; grind)) ?_
  refine qp_run_E qp_ok177 1 (c' := (49, [some (.int p0), some (.int p1)], [.int 1], qp_mk I J)) (by with_unfolding_all rfl) hd1 trivial ?_
  obtain ⟨rfl, rfl, rfl⟩ := qp_some3 h
  exact qp_retI_E qp_ok177 rfl qp_r177.1 ⟨rfl, rfl⟩ ⟨rfl, rfl⟩
def fM_serve_36_37_b93  (k26 : Int32 → Int32 → Int32 → Int32 → Int32 → (Nat → Nat → Int32) → (Nat → Nat → Int64) → Option (Unit × (Nat → Nat → Int32) × (Nat → Nat → Int64))) (a2 : Int32) (a3 : Int32) (a4 : Int32) (a5 : Int32) (a6 : Int32) (a7 : Int32) (s0 : Int32) (s1 : Int32) (s2 : Int32) (I : Nat → Nat → Int32) (J : Nat → Nat → Int64) : Option (Unit × (Nat → Nat → Int32) × (Nat → Nat → Int64)) :=
  qp_bd (fM_wantsAs s1 s0 I J) fun v1 I1 J1 =>
  qp_gd ((0 ≤ s2 ∧ s2 < 6) ∧ (0 ≤ a7 ∧ a7 < 6) ∧ (0 ≤ ((8 : Int32) + a7) ∧ ((8 : Int32) + a7) < 75)) <|
  if a4 ≤ (I1 37 (Int32.toNatClampNeg ((8 : Int32) + a7))) then (
    qp_gd ((0 ≤ a7 ∧ a7 < 6)) <|
    if (I1 36 20) ≤ ((qp_up I1 51 (Int32.toNatClampNeg s2) v1) 51 (Int32.toNatClampNeg a7)) then (
      qp_gd ((0 ≤ a7 ∧ a7 < 6)) <|
      k26 a2 a3 (a4 + 1) a5 (a6 + 1) (qp_up (qp_up (qp_up (qp_up (qp_up I1 51 (Int32.toNatClampNeg s2) v1) 49 (Int32.toNatClampNeg a7) a4) 50 (Int32.toNatClampNeg a7) (I1 36 20)) 48 (Int32.toNatClampNeg a7) (I1 36 20)) 36 20 ((I1 36 20) - ((qp_up I1 48 (Int32.toNatClampNeg a7) (I1 36 20)) 48 (Int32.toNatClampNeg a7)))) J1
    ) else (
      qp_gd ((0 ≤ a7 ∧ a7 < 6)) <|
      k26 a2 a3 (a4 + 1) a5 (a6 + 1) (qp_up (qp_up (qp_up (qp_up (qp_up I1 51 (Int32.toNatClampNeg s2) v1) 49 (Int32.toNatClampNeg a7) a4) 50 (Int32.toNatClampNeg a7) (I1 36 20)) 48 (Int32.toNatClampNeg a7) ((qp_up I1 51 (Int32.toNatClampNeg s2) v1) 51 (Int32.toNatClampNeg a7))) 36 20 ((I1 36 20) - ((qp_up I1 48 (Int32.toNatClampNeg a7) ((qp_up I1 51 (Int32.toNatClampNeg s2) v1) 51 (Int32.toNatClampNeg a7))) 48 (Int32.toNatClampNeg a7)))) J1
    )
  ) else (
    qp_gd ((0 ≤ a7 ∧ a7 < 6)) <|
    k26 a2 a3 (a4 + 1) a5 (a6 + 1) (qp_up (qp_up (qp_up (qp_up (qp_up I1 51 (Int32.toNatClampNeg s2) v1) 49 (Int32.toNatClampNeg a7) a4) 50 (Int32.toNatClampNeg a7) (I1 36 20)) 48 (Int32.toNatClampNeg a7) 0) 36 20 ((I1 36 20) - ((qp_up I1 48 (Int32.toNatClampNeg a7) 0) 48 (Int32.toNatClampNeg a7)))) J1
  )
set_option maxRecDepth 8000 in
theorem gM_serve_36_37_b93 {l : Launch} {G : qp_G} {d : Nat} (hd : 2 ≤ d) {r : (Unit × (Nat → Nat → Int32) × (Nat → Nat → Int64))} {I0 : Nat → Nat → Int32} {J0 : Nat → Nat → Int64}  (k26 : Int32 → Int32 → Int32 → Int32 → Int32 → (Nat → Nat → Int32) → (Nat → Nat → Int64) → Option (Unit × (Nat → Nat → Int32) × (Nat → Nat → Int64))) (hk26 : ∀ a2 a3 a4 a5 a6 I J, k26 a2 a3 a4 a5 a6 I J = some r → qp_E l G d 175 (qp_mk I0 J0) 0 0 (qp_R8 none r.2.1 r.2.2) (26, [some (.ref 36), some (.ref 37), some (.int a2), some (.int a3), some (.int a4), some (.int a5), some (.int a6), none], [], qp_mk I J)) : ∀ (a2 : Int32) (a3 : Int32) (a4 : Int32) (a5 : Int32) (a6 : Int32) (a7 : Int32) (s0 : Int32) (s1 : Int32) (s2 : Int32) (I : Nat → Nat → Int32) (J : Nat → Nat → Int64), fM_serve_36_37_b93 k26 a2 a3 a4 a5 a6 a7 s0 s1 s2 I J = some r → qp_E l G d 175 (qp_mk I0 J0) 0 0 (qp_R8 none r.2.1 r.2.2) (93, [some (.ref 36), some (.ref 37), some (.int a2), some (.int a3), some (.int a4), some (.int a5), some (.int a6), some (.int a7)], [.int s0, .int s1, .int s2, .ref 51], qp_mk I J) := by
  have hd1 : Nat.ble 1 d = true := Nat.ble_eq_true_of_le (Nat.le_trans (by decide) hd)
  intro a2 a3 a4 a5 a6 a7 s0 s1 s2 I J h
  unfold fM_serve_36_37_b93 at h
  obtain ⟨v1, I1, J1, e1, h⟩ := qp_bd_s h
  refine qp_cS qp_ok175 (rest := [.int s2, .ref 51]) (oj := 10) qp_f177 rfl rfl (gM_wantsAs l G s1 s0 I J e1 (Nat.le_refl 1)) rfl rfl rfl (Nat.le_trans (by decide) hd) ?_
  obtain ⟨h1, h⟩ := qp_gd_s h
  refine qp_run_E qp_ok175 22 (f := vp_in s2 6 ∧ vp_in a7 6 ∧ vp_in a7 6 ∧ vp_in ((8 : Int32) + a7) 75 ∧ True) (c' := (135, [some (.ref 36), some (.ref 37), some (.int a2), some (.int a3), some (.int a4), some (.int a5), some (.int a6), some (.int a7)], [.int (I1 37 (Int32.toNatClampNeg ((8 : Int32) + a7))), .int a4, .int a7, .ref 48], qp_mk (qp_up (qp_up (qp_up I1 51 (Int32.toNatClampNeg s2) v1) 49 (Int32.toNatClampNeg a7) a4) 50 (Int32.toNatClampNeg a7) (I1 36 20)) J1)) (by with_unfolding_all rfl) hd1 ⟨(qp_vin (c := 6) (by decide) h1.1.1 h1.1.2), (qp_vin (c := 6) (by decide) h1.2.1.1 h1.2.1.2), (qp_vin (c := 6) (by decide) h1.2.1.1 h1.2.1.2), (qp_vin (c := 75) (by decide) h1.2.2.1 h1.2.2.2), trivial⟩ ?_
  refine qp_br_E qp_ok175 (f := a4 ≤ (I1 37 (Int32.toNatClampNeg ((8 : Int32) + a7)))) (ct := (142, [some (.ref 36), some (.ref 37), some (.int a2), some (.int a3), some (.int a4), some (.int a5), some (.int a6), some (.int a7)], [.int a7, .ref 48], qp_mk (qp_up (qp_up (qp_up I1 51 (Int32.toNatClampNeg s2) v1) 49 (Int32.toNatClampNeg a7) a4) 50 (Int32.toNatClampNeg a7) (I1 36 20)) J1)) (cf := (138, [some (.ref 36), some (.ref 37), some (.int a2), some (.int a3), some (.int a4), some (.int a5), some (.int a6), some (.int a7)], [.int a7, .ref 48], qp_mk (qp_up (qp_up (qp_up I1 51 (Int32.toNatClampNeg s2) v1) 49 (Int32.toNatClampNeg a7) a4) 50 (Int32.toNatClampNeg a7) (I1 36 20)) J1)) (by with_unfolding_all rfl) (fun h2 => ?_) (fun h2 => ?_)
  · replace h := qp_ift h2 h
    obtain ⟨h3, h⟩ := qp_gd_s h
    refine qp_run_E qp_ok175 6 (f := vp_in a7 6 ∧ True) (c' := (153, [some (.ref 36), some (.ref 37), some (.int a2), some (.int a3), some (.int a4), some (.int a5), some (.int a6), some (.int a7)], [.int (I1 36 20), .int ((qp_up I1 51 (Int32.toNatClampNeg s2) v1) 51 (Int32.toNatClampNeg a7)), .int a7, .ref 48], qp_mk (qp_up (qp_up (qp_up I1 51 (Int32.toNatClampNeg s2) v1) 49 (Int32.toNatClampNeg a7) a4) 50 (Int32.toNatClampNeg a7) (I1 36 20)) J1)) (by with_unfolding_all rfl) hd1 ⟨(qp_vin (c := 6) (by decide) h3.1 h3.2), trivial⟩ ?_
    refine qp_br_E qp_ok175 (f := (I1 36 20) ≤ ((qp_up I1 51 (Int32.toNatClampNeg s2) v1) 51 (Int32.toNatClampNeg a7))) (ct := (166, [some (.ref 36), some (.ref 37), some (.int a2), some (.int a3), some (.int a4), some (.int a5), some (.int a6), some (.int a7)], [.int a7, .ref 48], qp_mk (qp_up (qp_up (qp_up I1 51 (Int32.toNatClampNeg s2) v1) 49 (Int32.toNatClampNeg a7) a4) 50 (Int32.toNatClampNeg a7) (I1 36 20)) J1)) (cf := (156, [some (.ref 36), some (.ref 37), some (.int a2), some (.int a3), some (.int a4), some (.int a5), some (.int a6), some (.int a7)], [.int a7, .ref 48], qp_mk (qp_up (qp_up (qp_up I1 51 (Int32.toNatClampNeg s2) v1) 49 (Int32.toNatClampNeg a7) a4) 50 (Int32.toNatClampNeg a7) (I1 36 20)) J1)) (by with_unfolding_all rfl) (fun h4 => ?_) (fun h4 => ?_)
    · replace h := qp_ift h4 h
      obtain ⟨h5, h⟩ := qp_gd_s h
      refine qp_run_E qp_ok175 15 (f := vp_in a7 6 ∧ vp_in a7 6 ∧ True) (c' := (26, [some (.ref 36), some (.ref 37), some (.int a2), some (.int a3), some (.int (a4 + 1)), some (.int a5), some (.int (a6 + 1)), some (.int a7)], [], qp_mk (qp_up (qp_up (qp_up (qp_up (qp_up I1 51 (Int32.toNatClampNeg s2) v1) 49 (Int32.toNatClampNeg a7) a4) 50 (Int32.toNatClampNeg a7) (I1 36 20)) 48 (Int32.toNatClampNeg a7) (I1 36 20)) 36 20 ((I1 36 20) - ((qp_up I1 48 (Int32.toNatClampNeg a7) (I1 36 20)) 48 (Int32.toNatClampNeg a7)))) J1)) (by with_unfolding_all rfl) hd1 ⟨(qp_vin (c := 6) (by decide) h5.1 h5.2), (qp_vin (c := 6) (by decide) h5.1 h5.2), trivial⟩ ?_
      exact qp_E_fg [true, true, true, true, true, true, true, false] (hk26 a2 a3 (a4 + 1) a5 (a6 + 1) (qp_up (qp_up (qp_up (qp_up (qp_up I1 51 (Int32.toNatClampNeg s2) v1) 49 (Int32.toNatClampNeg a7) a4) 50 (Int32.toNatClampNeg a7) (I1 36 20)) 48 (Int32.toNatClampNeg a7) (I1 36 20)) 36 20 ((I1 36 20) - ((qp_up I1 48 (Int32.toNatClampNeg a7) (I1 36 20)) 48 (Int32.toNatClampNeg a7)))) J1 h)
    · replace h := qp_iff h4 h
      obtain ⟨h6, h⟩ := qp_gd_s h
      refine qp_run_E qp_ok175 18 (f := vp_in a7 6 ∧ vp_in a7 6 ∧ vp_in a7 6 ∧ True) (c' := (26, [some (.ref 36), some (.ref 37), some (.int a2), some (.int a3), some (.int (a4 + 1)), some (.int a5), some (.int (a6 + 1)), some (.int a7)], [], qp_mk (qp_up (qp_up (qp_up (qp_up (qp_up I1 51 (Int32.toNatClampNeg s2) v1) 49 (Int32.toNatClampNeg a7) a4) 50 (Int32.toNatClampNeg a7) (I1 36 20)) 48 (Int32.toNatClampNeg a7) ((qp_up I1 51 (Int32.toNatClampNeg s2) v1) 51 (Int32.toNatClampNeg a7))) 36 20 ((I1 36 20) - ((qp_up I1 48 (Int32.toNatClampNeg a7) ((qp_up I1 51 (Int32.toNatClampNeg s2) v1) 51 (Int32.toNatClampNeg a7))) 48 (Int32.toNatClampNeg a7)))) J1)) (by with_unfolding_all rfl) hd1 ⟨(qp_vin (c := 6) (by decide) h6.1 h6.2), (qp_vin (c := 6) (by decide) h6.1 h6.2), (qp_vin (c := 6) (by decide) h6.1 h6.2), trivial⟩ ?_
      exact qp_E_fg [true, true, true, true, true, true, true, false] (hk26 a2 a3 (a4 + 1) a5 (a6 + 1) (qp_up (qp_up (qp_up (qp_up (qp_up I1 51 (Int32.toNatClampNeg s2) v1) 49 (Int32.toNatClampNeg a7) a4) 50 (Int32.toNatClampNeg a7) (I1 36 20)) 48 (Int32.toNatClampNeg a7) ((qp_up I1 51 (Int32.toNatClampNeg s2) v1) 51 (Int32.toNatClampNeg a7))) 36 20 ((I1 36 20) - ((qp_up I1 48 (Int32.toNatClampNeg a7) ((qp_up I1 51 (Int32.toNatClampNeg s2) v1) 51 (Int32.toNatClampNeg a7))) 48 (Int32.toNatClampNeg a7)))) J1 h)
  · replace h := qp_iff h2 h
    obtain ⟨h7, h⟩ := qp_gd_s h
    refine qp_run_E qp_ok175 15 (f := vp_in a7 6 ∧ vp_in a7 6 ∧ True) (c' := (26, [some (.ref 36), some (.ref 37), some (.int a2), some (.int a3), some (.int (a4 + 1)), some (.int a5), some (.int (a6 + 1)), some (.int a7)], [], qp_mk (qp_up (qp_up (qp_up (qp_up (qp_up I1 51 (Int32.toNatClampNeg s2) v1) 49 (Int32.toNatClampNeg a7) a4) 50 (Int32.toNatClampNeg a7) (I1 36 20)) 48 (Int32.toNatClampNeg a7) 0) 36 20 ((I1 36 20) - ((qp_up I1 48 (Int32.toNatClampNeg a7) 0) 48 (Int32.toNatClampNeg a7)))) J1)) (by with_unfolding_all rfl) hd1 ⟨(qp_vin (c := 6) (by decide) h7.1 h7.2), (qp_vin (c := 6) (by decide) h7.1 h7.2), trivial⟩ ?_
    exact qp_E_fg [true, true, true, true, true, true, true, false] (hk26 a2 a3 (a4 + 1) a5 (a6 + 1) (qp_up (qp_up (qp_up (qp_up (qp_up I1 51 (Int32.toNatClampNeg s2) v1) 49 (Int32.toNatClampNeg a7) a4) 50 (Int32.toNatClampNeg a7) (I1 36 20)) 48 (Int32.toNatClampNeg a7) 0) 36 20 ((I1 36 20) - ((qp_up I1 48 (Int32.toNatClampNeg a7) 0) 48 (Int32.toNatClampNeg a7)))) J1 h)
def fM_serve_36_37_b62  (k26 : Int32 → Int32 → Int32 → Int32 → Int32 → (Nat → Nat → Int32) → (Nat → Nat → Int64) → Option (Unit × (Nat → Nat → Int32) × (Nat → Nat → Int64))) (a2 : Int32) (a3 : Int32) (a4 : Int32) (a5 : Int32) (a6 : Int32) (a7 : Int32) (s0 : Int32) (s1 : Int32) (I : Nat → Nat → Int32) (J : Nat → Nat → Int64) : Option (Unit × (Nat → Nat → Int32) × (Nat → Nat → Int64)) :=
  if ¬ s1 = s0 then (
    k26 a2 a3 a4 a5 (a6 + 1) I J
  ) else (
    qp_gd ((0 ≤ ((2 : Int32) + a7) ∧ ((2 : Int32) + a7) < 75)) <|
    if ¬ a6 = (a3 - 1) then (
      fM_serve_36_37_b93 k26 a2 a3 a4 a5 a6 a7 0 (I 37 (Int32.toNatClampNeg ((2 : Int32) + a7))) a7 I J
    ) else (
      fM_serve_36_37_b93 k26 a2 a3 a4 a5 a6 a7 1 (I 37 (Int32.toNatClampNeg ((2 : Int32) + a7))) a7 I J
    )
  )
set_option maxRecDepth 8000 in
theorem gM_serve_36_37_b62 {l : Launch} {G : qp_G} {d : Nat} (hd : 2 ≤ d) {r : (Unit × (Nat → Nat → Int32) × (Nat → Nat → Int64))} {I0 : Nat → Nat → Int32} {J0 : Nat → Nat → Int64}  (k26 : Int32 → Int32 → Int32 → Int32 → Int32 → (Nat → Nat → Int32) → (Nat → Nat → Int64) → Option (Unit × (Nat → Nat → Int32) × (Nat → Nat → Int64))) (hk26 : ∀ a2 a3 a4 a5 a6 I J, k26 a2 a3 a4 a5 a6 I J = some r → qp_E l G d 175 (qp_mk I0 J0) 0 0 (qp_R8 none r.2.1 r.2.2) (26, [some (.ref 36), some (.ref 37), some (.int a2), some (.int a3), some (.int a4), some (.int a5), some (.int a6), none], [], qp_mk I J)) : ∀ (a2 : Int32) (a3 : Int32) (a4 : Int32) (a5 : Int32) (a6 : Int32) (a7 : Int32) (s0 : Int32) (s1 : Int32) (I : Nat → Nat → Int32) (J : Nat → Nat → Int64), fM_serve_36_37_b62 k26 a2 a3 a4 a5 a6 a7 s0 s1 I J = some r → qp_E l G d 175 (qp_mk I0 J0) 0 0 (qp_R8 none r.2.1 r.2.2) (62, [some (.ref 36), some (.ref 37), some (.int a2), some (.int a3), some (.int a4), some (.int a5), some (.int a6), some (.int a7)], [.int s0, .int s1], qp_mk I J) := by
  have hd1 : Nat.ble 1 d = true := Nat.ble_eq_true_of_le (Nat.le_trans (by decide) hd)
  intro a2 a3 a4 a5 a6 a7 s0 s1 I J h
  unfold fM_serve_36_37_b62 at h
  refine qp_br_E qp_ok175 (f := ¬ s1 = s0) (ct := (190, [some (.ref 36), some (.ref 37), some (.int a2), some (.int a3), some (.int a4), some (.int a5), some (.int a6), some (.int a7)], [], qp_mk I J)) (cf := (65, [some (.ref 36), some (.ref 37), some (.int a2), some (.int a3), some (.int a4), some (.int a5), some (.int a6), some (.int a7)], [], qp_mk I J)) (by with_unfolding_all rfl) (fun h1 => ?_) (fun h1 => ?_)
  · replace h := qp_ift h1 h
    refine qp_run_E qp_ok175 2 (c' := (26, [some (.ref 36), some (.ref 37), some (.int a2), some (.int a3), some (.int a4), some (.int a5), some (.int (a6 + 1)), some (.int a7)], [], qp_mk I J)) (by with_unfolding_all rfl) hd1 trivial ?_
    exact qp_E_fg [true, true, true, true, true, true, true, false] (hk26 a2 a3 a4 a5 (a6 + 1) I J h)
  · replace h := qp_iff h1 h
    obtain ⟨h2, h⟩ := qp_gd_s h
    refine qp_run_E qp_ok175 13 (f := vp_in ((2 : Int32) + a7) 75 ∧ True) (c' := (85, [some (.ref 36), some (.ref 37), some (.int a2), some (.int a3), some (.int a4), some (.int a5), some (.int a6), some (.int a7)], [.int (a3 - 1), .int a6, .int (I 37 (Int32.toNatClampNeg ((2 : Int32) + a7))), .int a7, .ref 51], qp_mk I J)) (by with_unfolding_all rfl) hd1 ⟨(qp_vin (c := 75) (by decide) h2.1 h2.2), trivial⟩ ?_
    refine qp_br_E qp_ok175 (f := ¬ a6 = (a3 - 1)) (ct := (92, [some (.ref 36), some (.ref 37), some (.int a2), some (.int a3), some (.int a4), some (.int a5), some (.int a6), some (.int a7)], [.int (I 37 (Int32.toNatClampNeg ((2 : Int32) + a7))), .int a7, .ref 51], qp_mk I J)) (cf := (88, [some (.ref 36), some (.ref 37), some (.int a2), some (.int a3), some (.int a4), some (.int a5), some (.int a6), some (.int a7)], [.int (I 37 (Int32.toNatClampNeg ((2 : Int32) + a7))), .int a7, .ref 51], qp_mk I J)) (by with_unfolding_all rfl) (fun h3 => ?_) (fun h3 => ?_)
    · replace h := qp_ift h3 h
      refine qp_run_E qp_ok175 1 (c' := (93, [some (.ref 36), some (.ref 37), some (.int a2), some (.int a3), some (.int a4), some (.int a5), some (.int a6), some (.int a7)], [.int 0, .int (I 37 (Int32.toNatClampNeg ((2 : Int32) + a7))), .int a7, .ref 51], qp_mk I J)) (by with_unfolding_all rfl) hd1 trivial ?_
      exact gM_serve_36_37_b93 hd k26 hk26 a2 a3 a4 a5 a6 a7 0 (I 37 (Int32.toNatClampNeg ((2 : Int32) + a7))) a7 I J h
    · replace h := qp_iff h3 h
      refine qp_run_E qp_ok175 2 (c' := (93, [some (.ref 36), some (.ref 37), some (.int a2), some (.int a3), some (.int a4), some (.int a5), some (.int a6), some (.int a7)], [.int 1, .int (I 37 (Int32.toNatClampNeg ((2 : Int32) + a7))), .int a7, .ref 51], qp_mk I J)) (by with_unfolding_all rfl) hd1 trivial ?_
      exact gM_serve_36_37_b93 hd k26 hk26 a2 a3 a4 a5 a6 a7 1 (I 37 (Int32.toNatClampNeg ((2 : Int32) + a7))) a7 I J h
def fM_serve_36_37_b26  (k17 : Int32 → Int32 → Int32 → Int32 → (Nat → Nat → Int32) → (Nat → Nat → Int64) → Option (Unit × (Nat → Nat → Int32) × (Nat → Nat → Int64))) : Nat → Int32 → Int32 → Int32 → Int32 → Int32 → (Nat → Nat → Int32) → (Nat → Nat → Int64) → Option (Unit × (Nat → Nat → Int32) × (Nat → Nat → Int64))
  | 0, _, _, _, _, _, _, _ => none
  | n + 1, a2, a3, a4, a5, a6, I, J =>
    if a3 ≤ a6 then (
      k17 a2 a3 a4 (a5 + 1) I J
    ) else (
      qp_gd ((0 ≤ (a2 + a6) ∧ (a2 + a6) < 75) ∧ (0 ≤ ((2 : Int32) + (I 37 (Int32.toNatClampNeg (a2 + a6)))) ∧ ((2 : Int32) + (I 37 (Int32.toNatClampNeg (a2 + a6)))) < 75)) <|
      qp_bd (fM_isSoldier (I 37 (Int32.toNatClampNeg ((2 : Int32) + (I 37 (Int32.toNatClampNeg (a2 + a6)))))) I J) fun v1 I1 J1 =>
      if ¬ a5 = 0 then (
        fM_serve_36_37_b62 (fun a0 a1 a2 a3 a4 I J => fM_serve_36_37_b26 k17 n a0 a1 a2 a3 a4 I J) a2 a3 a4 a5 a6 (I 37 (Int32.toNatClampNeg (a2 + a6))) 0 v1 I1 J1
      ) else (
        fM_serve_36_37_b62 (fun a0 a1 a2 a3 a4 I J => fM_serve_36_37_b26 k17 n a0 a1 a2 a3 a4 I J) a2 a3 a4 a5 a6 (I 37 (Int32.toNatClampNeg (a2 + a6))) 1 v1 I1 J1
      )
    )
set_option maxRecDepth 8000 in
theorem gM_serve_36_37_b26 {l : Launch} {G : qp_G} {d : Nat} (hd : 2 ≤ d) {r : (Unit × (Nat → Nat → Int32) × (Nat → Nat → Int64))} {I0 : Nat → Nat → Int32} {J0 : Nat → Nat → Int64}  (k17 : Int32 → Int32 → Int32 → Int32 → (Nat → Nat → Int32) → (Nat → Nat → Int64) → Option (Unit × (Nat → Nat → Int32) × (Nat → Nat → Int64))) (hk17 : ∀ a2 a3 a4 a5 I J, k17 a2 a3 a4 a5 I J = some r → qp_E l G d 175 (qp_mk I0 J0) 0 0 (qp_R8 none r.2.1 r.2.2) (17, [some (.ref 36), some (.ref 37), some (.int a2), some (.int a3), some (.int a4), some (.int a5), none, none], [], qp_mk I J)) : ∀ (n : Nat) (a2 : Int32) (a3 : Int32) (a4 : Int32) (a5 : Int32) (a6 : Int32) (I : Nat → Nat → Int32) (J : Nat → Nat → Int64), fM_serve_36_37_b26 k17 n a2 a3 a4 a5 a6 I J = some r → qp_E l G d 175 (qp_mk I0 J0) 0 0 (qp_R8 none r.2.1 r.2.2) (26, [some (.ref 36), some (.ref 37), some (.int a2), some (.int a3), some (.int a4), some (.int a5), some (.int a6), none], [], qp_mk I J) := by
  have hd1 : Nat.ble 1 d = true := Nat.ble_eq_true_of_le (Nat.le_trans (by decide) hd)
  intro n
  induction n with
  | zero => intro a2 a3 a4 a5 a6 I J h; exact absurd h (by simp [fM_serve_36_37_b26])
  | succ n ih =>
    intro a2 a3 a4 a5 a6 I J h
    rw [fM_serve_36_37_b26] at h
    refine qp_run_E qp_ok175 2 (c' := (29, [some (.ref 36), some (.ref 37), some (.int a2), some (.int a3), some (.int a4), some (.int a5), some (.int a6), none], [.int a3, .int a6], qp_mk I J)) (by with_unfolding_all rfl) hd1 trivial ?_
    refine qp_br_E qp_ok175 (f := a3 ≤ a6) (ct := (196, [some (.ref 36), some (.ref 37), some (.int a2), some (.int a3), some (.int a4), some (.int a5), some (.int a6), none], [], qp_mk I J)) (cf := (32, [some (.ref 36), some (.ref 37), some (.int a2), some (.int a3), some (.int a4), some (.int a5), some (.int a6), none], [], qp_mk I J)) (by with_unfolding_all rfl) (fun h1 => ?_) (fun h1 => ?_)
    · replace h := qp_ift h1 h
      refine qp_run_E qp_ok175 2 (c' := (17, [some (.ref 36), some (.ref 37), some (.int a2), some (.int a3), some (.int a4), some (.int (a5 + 1)), some (.int a6), none], [], qp_mk I J)) (by with_unfolding_all rfl) hd1 trivial ?_
      exact qp_E_fg [true, true, true, true, true, true, false, false] (hk17 a2 a3 a4 (a5 + 1) I J h)
    · replace h := qp_iff h1 h
      obtain ⟨h2, h⟩ := qp_gd_s h
      refine qp_run_E qp_ok175 12 (f := vp_in (a2 + a6) 75 ∧ vp_in ((2 : Int32) + (I 37 (Int32.toNatClampNeg (a2 + a6)))) 75 ∧ True) (c' := (49, [some (.ref 36), some (.ref 37), some (.int a2), some (.int a3), some (.int a4), some (.int a5), some (.int a6), some (.int (I 37 (Int32.toNatClampNeg (a2 + a6))))], [.int (I 37 (Int32.toNatClampNeg ((2 : Int32) + (I 37 (Int32.toNatClampNeg (a2 + a6))))))], qp_mk I J)) (by with_unfolding_all rfl) hd1 ⟨(qp_vin (c := 75) (by decide) h2.1.1 h2.1.2), (qp_vin (c := 75) (by decide) h2.2.1 h2.2.2), trivial⟩ ?_
      obtain ⟨v1, I1, J1, e1, h⟩ := qp_bd_s h
      refine qp_cS qp_ok175 (rest := []) (oj := 10) qp_f176 rfl rfl (gM_isSoldier l G (I 37 (Int32.toNatClampNeg ((2 : Int32) + (I 37 (Int32.toNatClampNeg (a2 + a6)))))) I J e1 (Nat.le_refl 1)) rfl rfl rfl (Nat.le_trans (by decide) hd) ?_
      refine qp_run_E qp_ok175 1 (c' := (54, [some (.ref 36), some (.ref 37), some (.int a2), some (.int a3), some (.int a4), some (.int a5), some (.int a6), some (.int (I 37 (Int32.toNatClampNeg (a2 + a6))))], [.int a5, .int v1], qp_mk I1 J1)) (by with_unfolding_all rfl) hd1 trivial ?_
      refine qp_br_E qp_ok175 (f := ¬ a5 = 0) (ct := (61, [some (.ref 36), some (.ref 37), some (.int a2), some (.int a3), some (.int a4), some (.int a5), some (.int a6), some (.int (I 37 (Int32.toNatClampNeg (a2 + a6))))], [.int v1], qp_mk I1 J1)) (cf := (57, [some (.ref 36), some (.ref 37), some (.int a2), some (.int a3), some (.int a4), some (.int a5), some (.int a6), some (.int (I 37 (Int32.toNatClampNeg (a2 + a6))))], [.int v1], qp_mk I1 J1)) (by with_unfolding_all rfl) (fun h3 => ?_) (fun h3 => ?_)
      · replace h := qp_ift h3 h
        refine qp_run_E qp_ok175 1 (c' := (62, [some (.ref 36), some (.ref 37), some (.int a2), some (.int a3), some (.int a4), some (.int a5), some (.int a6), some (.int (I 37 (Int32.toNatClampNeg (a2 + a6))))], [.int 0, .int v1], qp_mk I1 J1)) (by with_unfolding_all rfl) hd1 trivial ?_
        exact gM_serve_36_37_b62 hd (fun a0 a1 a2 a3 a4 I J => fM_serve_36_37_b26 k17 n a0 a1 a2 a3 a4 I J) (fun a0 a1 a2 a3 a4 I J h => ih a0 a1 a2 a3 a4 I J h) a2 a3 a4 a5 a6 (I 37 (Int32.toNatClampNeg (a2 + a6))) 0 v1 I1 J1 h
      · replace h := qp_iff h3 h
        refine qp_run_E qp_ok175 2 (c' := (62, [some (.ref 36), some (.ref 37), some (.int a2), some (.int a3), some (.int a4), some (.int a5), some (.int a6), some (.int (I 37 (Int32.toNatClampNeg (a2 + a6))))], [.int 1, .int v1], qp_mk I1 J1)) (by with_unfolding_all rfl) hd1 trivial ?_
        exact gM_serve_36_37_b62 hd (fun a0 a1 a2 a3 a4 I J => fM_serve_36_37_b26 k17 n a0 a1 a2 a3 a4 I J) (fun a0 a1 a2 a3 a4 I J h => ih a0 a1 a2 a3 a4 I J h) a2 a3 a4 a5 a6 (I 37 (Int32.toNatClampNeg (a2 + a6))) 1 v1 I1 J1 h
def fM_serve_36_37_b17  : Nat → Int32 → Int32 → Int32 → Int32 → (Nat → Nat → Int32) → (Nat → Nat → Int64) → Option (Unit × (Nat → Nat → Int32) × (Nat → Nat → Int64))
  | 0, _, _, _, _, _, _ => none
  | n + 1, a2, a3, a4, a5, I, J =>
    if 2 ≤ a5 then (
      some ((), I, J)
    ) else (
      fM_serve_36_37_b26 (fun a0 a1 a2 a3 I J => fM_serve_36_37_b17 n a0 a1 a2 a3 I J) 100000 a2 a3 a4 a5 0 I J
    )
set_option maxRecDepth 8000 in
theorem gM_serve_36_37_b17 {l : Launch} {G : qp_G} {d : Nat} (hd : 2 ≤ d) {r : (Unit × (Nat → Nat → Int32) × (Nat → Nat → Int64))} {I0 : Nat → Nat → Int32} {J0 : Nat → Nat → Int64}   : ∀ (n : Nat) (a2 : Int32) (a3 : Int32) (a4 : Int32) (a5 : Int32) (I : Nat → Nat → Int32) (J : Nat → Nat → Int64), fM_serve_36_37_b17  n a2 a3 a4 a5 I J = some r → qp_E l G d 175 (qp_mk I0 J0) 0 0 (qp_R8 none r.2.1 r.2.2) (17, [some (.ref 36), some (.ref 37), some (.int a2), some (.int a3), some (.int a4), some (.int a5), none, none], [], qp_mk I J) := by
  have hd1 : Nat.ble 1 d = true := Nat.ble_eq_true_of_le (Nat.le_trans (by decide) hd)
  intro n
  induction n with
  | zero => intro a2 a3 a4 a5 I J h; exact absurd h (by simp [fM_serve_36_37_b17])
  | succ n ih =>
    intro a2 a3 a4 a5 I J h
    rw [fM_serve_36_37_b17] at h
    refine qp_run_E qp_ok175 2 (c' := (20, [some (.ref 36), some (.ref 37), some (.int a2), some (.int a3), some (.int a4), some (.int a5), none, none], [.int 2, .int a5], qp_mk I J)) (by with_unfolding_all rfl) hd1 trivial ?_
    refine qp_br_E qp_ok175 (f := 2 ≤ a5) (ct := (202, [some (.ref 36), some (.ref 37), some (.int a2), some (.int a3), some (.int a4), some (.int a5), none, none], [], qp_mk I J)) (cf := (23, [some (.ref 36), some (.ref 37), some (.int a2), some (.int a3), some (.int a4), some (.int a5), none, none], [], qp_mk I J)) (by with_unfolding_all rfl) (fun h1 => ?_) (fun h1 => ?_)
    · replace h := qp_ift h1 h
      obtain rfl := Option.some.inj h
      exact qp_retV_E qp_ok175 rfl qp_r175.1 ⟨rfl, rfl⟩ ⟨rfl, rfl⟩
    · replace h := qp_iff h1 h
      refine qp_run_E qp_ok175 2 (c' := (26, [some (.ref 36), some (.ref 37), some (.int a2), some (.int a3), some (.int a4), some (.int a5), some (.int 0), none], [], qp_mk I J)) (by with_unfolding_all rfl) hd1 trivial ?_
      exact gM_serve_36_37_b26 hd (fun a0 a1 a2 a3 I J => fM_serve_36_37_b17 n a0 a1 a2 a3 I J) (fun a0 a1 a2 a3 I J h => ih a0 a1 a2 a3 I J h) 100000 a2 a3 a4 a5 0 I J h
def fM_serve_36_37 (p2 : Int32) (p3 : Int32) (I : Nat → Nat → Int32) (J : Nat → Nat → Int64) : Option (Unit × (Nat → Nat → Int32) × (Nat → Nat → Int64)) :=
  fM_serve_36_37_b17 100000 p2 p3 0 0 (qp_up I 36 20 (I 37 55)) J
set_option maxRecDepth 8000 in
theorem gM_serve_36_37 (l : Launch) (G : qp_G) (p2 : Int32) (p3 : Int32) (I : Nat → Nat → Int32) (J : Nat → Nat → Int64) {v : Unit} {I' : Nat → Nat → Int32} {J' : Nat → Nat → Int64} (h : fM_serve_36_37 p2 p3 I J = some (v, I', J')) {d : Nat} (hd : 2 ≤ d) : qp_Met l G d 175 [.ref 36, .ref 37, .int p2, .int p3] (qp_mk I J) 0 0 (qp_R8 none I' J') := by
  have hd1 : Nat.ble 1 d = true := Nat.ble_eq_true_of_le (Nat.le_trans (by decide) hd)
  refine qp_Met_of (by decide) (by rw [qp_r175.2]; rfl) [some (.ref 36), some (.ref 37), some (.int p2), some (.int p3), none, none, none, none] (by rw [qp_r175.2]; rfl) ?_
  unfold fM_serve_36_37 at h
  refine qp_run_E qp_ok175 10 (f := vp_in 55 75 ∧ True) (c' := (17, [some (.ref 36), some (.ref 37), some (.int p2), some (.int p3), some (.int 0), some (.int 0), none, none], [], qp_mk (qp_up I 36 20 (I 37 55)) J)) (by with_unfolding_all rfl) hd1 ⟨(qp_vin (c := 75) (by decide) (by decide) (by decide)), trivial⟩ ?_
  exact gM_serve_36_37_b17 hd 100000 p2 p3 0 0 (qp_up I 36 20 (I 37 55)) J h
def fM_serveNow  (I : Nat → Nat → Int32) (J : Nat → Nat → Int64) : Option (Unit × (Nat → Nat → Int32) × (Nat → Nat → Int64)) :=
  qp_bd (fM_serve_36_37 69 (I 37 0) I J) fun _u I1 J1 =>
  some ((), I1, J1)
set_option maxRecDepth 8000 in
theorem gM_serveNow (l : Launch) (G : qp_G)  (I : Nat → Nat → Int32) (J : Nat → Nat → Int64) {v : Unit} {I' : Nat → Nat → Int32} {J' : Nat → Nat → Int64} (h : fM_serveNow  I J = some (v, I', J')) {d : Nat} (hd : 3 ≤ d) : qp_Met l G d 174 [.ref 36] (qp_mk I J) 0 0 (qp_R8 none I' J') := by
  have hd1 : Nat.ble 1 d = true := Nat.ble_eq_true_of_le (Nat.le_trans (by decide) hd)
  refine qp_Met_of (by decide) (by rw [qp_r174.2]; rfl) [some (.ref 36)] (by rw [qp_r174.2]; rfl) ?_
  unfold fM_serveNow at h
  refine qp_run_E qp_ok174 8 (f := vp_in 0 75 ∧ True) (c' := (13, [some (.ref 36)], [.int (I 37 0), .int 69, .ref 37, .ref 36], qp_mk I J)) (by with_unfolding_all rfl) hd1 ⟨(qp_vin (c := 75) (by decide) (by decide) (by decide)), trivial⟩ ?_
  obtain ⟨v1, I1, J1, e1, h⟩ := qp_bd_s h
  refine qp_cV qp_ok174 (rest := []) (oj := 10) qp_f175 rfl rfl (gM_serve_36_37 l G 69 (I 37 0) I J e1 (Nat.le_refl 2)) rfl rfl rfl rfl (Nat.le_trans (by decide) hd) ?_
  obtain ⟨rfl, rfl, rfl⟩ := qp_some3 h
  exact qp_retV_E qp_ok174 rfl qp_r174.1 ⟨rfl, rfl⟩ ⟨rfl, rfl⟩
def fM_placeIn_37_b3  : Nat → Int32 → Int32 → Int32 → Int32 → (Nat → Nat → Int32) → (Nat → Nat → Int64) → Option (Int32 × (Nat → Nat → Int32) × (Nat → Nat → Int64))
  | 0, _, _, _, _, _, _ => none
  | n + 1, a1, a2, a3, a4, I, J =>
    if a2 ≤ a4 then (
      some (a4, I, J)
    ) else (
      qp_gd ((0 ≤ (a1 + a4) ∧ (a1 + a4) < 75)) <|
      if (I 37 (Int32.toNatClampNeg (a1 + a4))) = a3 then (
        some (a4, I, J)
      ) else (
        fM_placeIn_37_b3 n a1 a2 a3 (a4 + 1) I J
      )
    )
set_option maxRecDepth 8000 in
theorem gM_placeIn_37_b3 {l : Launch} {G : qp_G} {d : Nat} (hd : 1 ≤ d) {r : (Int32 × (Nat → Nat → Int32) × (Nat → Nat → Int64))} {I0 : Nat → Nat → Int32} {J0 : Nat → Nat → Int64}   : ∀ (n : Nat) (a1 : Int32) (a2 : Int32) (a3 : Int32) (a4 : Int32) (I : Nat → Nat → Int32) (J : Nat → Nat → Int64), fM_placeIn_37_b3  n a1 a2 a3 a4 I J = some r → qp_E l G d 179 (qp_mk I0 J0) 0 0 (qp_R8 (some (.int r.1)) r.2.1 r.2.2) (3, [some (.ref 37), some (.int a1), some (.int a2), some (.int a3), some (.int a4)], [], qp_mk I J) := by
  have hd1 : Nat.ble 1 d = true := Nat.ble_eq_true_of_le (Nat.le_trans (by decide) hd)
  intro n
  induction n with
  | zero => intro a1 a2 a3 a4 I J h; exact absurd h (by simp [fM_placeIn_37_b3])
  | succ n ih =>
    intro a1 a2 a3 a4 I J h
    rw [fM_placeIn_37_b3] at h
    refine qp_run_E qp_ok179 2 (c' := (6, [some (.ref 37), some (.int a1), some (.int a2), some (.int a3), some (.int a4)], [.int a2, .int a4], qp_mk I J)) (by with_unfolding_all rfl) hd1 trivial ?_
    refine qp_br_E qp_ok179 (f := a2 ≤ a4) (ct := (25, [some (.ref 37), some (.int a1), some (.int a2), some (.int a3), some (.int a4)], [], qp_mk I J)) (cf := (9, [some (.ref 37), some (.int a1), some (.int a2), some (.int a3), some (.int a4)], [], qp_mk I J)) (by with_unfolding_all rfl) (fun h1 => ?_) (fun h1 => ?_)
    · replace h := qp_ift h1 h
      refine qp_run_E qp_ok179 1 (c' := (27, [some (.ref 37), some (.int a1), some (.int a2), some (.int a3), some (.int a4)], [.int a4], qp_mk I J)) (by with_unfolding_all rfl) hd1 trivial ?_
      obtain rfl := Option.some.inj h
      exact qp_retI_E qp_ok179 rfl qp_r179.1 ⟨rfl, rfl⟩ ⟨rfl, rfl⟩
    · replace h := qp_iff h1 h
      obtain ⟨h2, h⟩ := qp_gd_s h
      refine qp_run_E qp_ok179 6 (f := vp_in (a1 + a4) 75 ∧ True) (c' := (16, [some (.ref 37), some (.int a1), some (.int a2), some (.int a3), some (.int a4)], [.int a3, .int (I 37 (Int32.toNatClampNeg (a1 + a4)))], qp_mk I J)) (by with_unfolding_all rfl) hd1 ⟨(qp_vin (c := 75) (by decide) h2.1 h2.2), trivial⟩ ?_
      refine qp_br_E qp_ok179 (f := (I 37 (Int32.toNatClampNeg (a1 + a4))) = a3) (ct := (25, [some (.ref 37), some (.int a1), some (.int a2), some (.int a3), some (.int a4)], [], qp_mk I J)) (cf := (19, [some (.ref 37), some (.int a1), some (.int a2), some (.int a3), some (.int a4)], [], qp_mk I J)) (by with_unfolding_all rfl) (fun h3 => ?_) (fun h3 => ?_)
      · replace h := qp_ift h3 h
        refine qp_run_E qp_ok179 1 (c' := (27, [some (.ref 37), some (.int a1), some (.int a2), some (.int a3), some (.int a4)], [.int a4], qp_mk I J)) (by with_unfolding_all rfl) hd1 trivial ?_
        obtain rfl := Option.some.inj h
        exact qp_retI_E qp_ok179 rfl qp_r179.1 ⟨rfl, rfl⟩ ⟨rfl, rfl⟩
      · replace h := qp_iff h3 h
        refine qp_run_E qp_ok179 2 (c' := (3, [some (.ref 37), some (.int a1), some (.int a2), some (.int a3), some (.int (a4 + 1))], [], qp_mk I J)) (by with_unfolding_all rfl) hd1 trivial ?_
        exact ih a1 a2 a3 (a4 + 1) I J h
def fM_placeIn_37 (p1 : Int32) (p2 : Int32) (p3 : Int32) (I : Nat → Nat → Int32) (J : Nat → Nat → Int64) : Option (Int32 × (Nat → Nat → Int32) × (Nat → Nat → Int64)) :=
  fM_placeIn_37_b3 100000 p1 p2 p3 0 I J
set_option maxRecDepth 8000 in
theorem gM_placeIn_37 (l : Launch) (G : qp_G) (p1 : Int32) (p2 : Int32) (p3 : Int32) (I : Nat → Nat → Int32) (J : Nat → Nat → Int64) {v : Int32} {I' : Nat → Nat → Int32} {J' : Nat → Nat → Int64} (h : fM_placeIn_37 p1 p2 p3 I J = some (v, I', J')) {d : Nat} (hd : 1 ≤ d) : qp_Met l G d 179 [.ref 37, .int p1, .int p2, .int p3] (qp_mk I J) 0 0 (qp_R8 (some (.int v)) I' J') := by
  have hd1 : Nat.ble 1 d = true := Nat.ble_eq_true_of_le (Nat.le_trans (by decide) hd)
  refine qp_Met_of (by decide) (by rw [qp_r179.2]; rfl) [some (.ref 37), some (.int p1), some (.int p2), some (.int p3), none] (by rw [qp_r179.2]; rfl) ?_
  unfold fM_placeIn_37 at h
  refine qp_run_E qp_ok179 2 (c' := (3, [some (.ref 37), some (.int p1), some (.int p2), some (.int p3), some (.int 0)], [], qp_mk I J)) (by with_unfolding_all rfl) hd1 trivial ?_
  exact gM_placeIn_37_b3 hd 100000 p1 p2 p3 0 I J h
def fM_placeOf (p1 : Int32) (I : Nat → Nat → Int32) (J : Nat → Nat → Int64) : Option (Int32 × (Nat → Nat → Int32) × (Nat → Nat → Int64)) :=
  qp_bd (fM_placeIn_37 69 (I 37 0) p1 I J) fun v1 I1 J1 =>
  some (v1, I1, J1)
set_option maxRecDepth 8000 in
theorem gM_placeOf (l : Launch) (G : qp_G) (p1 : Int32) (I : Nat → Nat → Int32) (J : Nat → Nat → Int64) {v : Int32} {I' : Nat → Nat → Int32} {J' : Nat → Nat → Int64} (h : fM_placeOf p1 I J = some (v, I', J')) {d : Nat} (hd : 2 ≤ d) : qp_Met l G d 178 [.ref 36, .int p1] (qp_mk I J) 0 0 (qp_R8 (some (.int v)) I' J') := by
  have hd1 : Nat.ble 1 d = true := Nat.ble_eq_true_of_le (Nat.le_trans (by decide) hd)
  refine qp_Met_of (by decide) (by rw [qp_r178.2]; rfl) [some (.ref 36), some (.int p1)] (by rw [qp_r178.2]; rfl) ?_
  unfold fM_placeOf at h
  refine qp_run_E qp_ok178 8 (f := vp_in 0 75 ∧ True) (c' := (13, [some (.ref 36), some (.int p1)], [.int p1, .int (I 37 0), .int 69, .ref 37], qp_mk I J)) (by with_unfolding_all rfl) hd1 ⟨(qp_vin (c := 75) (by decide) (by decide) (by decide)), trivial⟩ ?_
  obtain ⟨v1, I1, J1, e1, h⟩ := qp_bd_s h
  refine qp_cS qp_ok178 (rest := []) (oj := 10) qp_f179 rfl rfl (gM_placeIn_37 l G 69 (I 37 0) p1 I J e1 (Nat.le_refl 1)) rfl rfl rfl (Nat.le_trans (by decide) hd) ?_
  obtain ⟨rfl, rfl, rfl⟩ := qp_some3 h
  exact qp_retI_E qp_ok178 rfl qp_r178.1 ⟨rfl, rfl⟩ ⟨rfl, rfl⟩
def fM_metWith_b27   (a2 : Int32) (s0 : Int32) (I : Nat → Nat → Int32) (J : Nat → Nat → Int64) : Option (Int32 × (Nat → Nat → Int32) × (Nat → Nat → Int64)) :=
  if ((I 37 0) - 1) ≤ a2 then (
    some (s0, I, J)
  ) else (
    qp_gd ((0 ≤ (((69 : Int32) + a2) + 1) ∧ (((69 : Int32) + a2) + 1) < 75)) <|
    some ((s0 ||| ((1 : Int32) <<< ((I 37 (Int32.toNatClampNeg (((69 : Int32) + a2) + 1))) &&& 31))), I, J)
  )
set_option maxRecDepth 8000 in
theorem gM_metWith_b27 {l : Launch} {G : qp_G} {d : Nat} (hd : 3 ≤ d) {r : (Int32 × (Nat → Nat → Int32) × (Nat → Nat → Int64))} {I0 : Nat → Nat → Int32} {J0 : Nat → Nat → Int64}   : ∀ (a2 : Int32) (s0 : Int32) (I : Nat → Nat → Int32) (J : Nat → Nat → Int64), fM_metWith_b27  a2 s0 I J = some r → qp_E l G d 180 (qp_mk I0 J0) 0 0 (qp_R8 (some (.int r.1)) r.2.1 r.2.2) (27, [some (.ref 36), none, some (.int a2), none], [.int s0], qp_mk I J) := by
  have hd1 : Nat.ble 1 d = true := Nat.ble_eq_true_of_le (Nat.le_trans (by decide) hd)
  intro a2 s0 I J h
  unfold fM_metWith_b27 at h
  refine qp_run_E qp_ok180 8 (f := vp_in 0 75 ∧ True) (c' := (37, [some (.ref 36), none, some (.int a2), some (.int s0)], [.int ((I 37 0) - 1), .int a2], qp_mk I J)) (by with_unfolding_all rfl) hd1 ⟨(qp_vin (c := 75) (by decide) (by decide) (by decide)), trivial⟩ ?_
  refine qp_br_E qp_ok180 (f := ((I 37 0) - 1) ≤ a2) (ct := (58, [some (.ref 36), none, some (.int a2), some (.int s0)], [], qp_mk I J)) (cf := (40, [some (.ref 36), none, some (.int a2), some (.int s0)], [], qp_mk I J)) (by with_unfolding_all rfl) (fun h1 => ?_) (fun h1 => ?_)
  · replace h := qp_ift h1 h
    refine qp_run_E qp_ok180 1 (c' := (59, [some (.ref 36), none, some (.int a2), some (.int s0)], [.int s0], qp_mk I J)) (by with_unfolding_all rfl) hd1 trivial ?_
    obtain rfl := Option.some.inj h
    exact qp_retI_E qp_ok180 rfl qp_r180.1 ⟨rfl, rfl⟩ ⟨rfl, rfl⟩
  · replace h := qp_iff h1 h
    obtain ⟨h2, h⟩ := qp_gd_s h
    refine qp_run_E qp_ok180 13 (f := vp_in (((69 : Int32) + a2) + 1) 75 ∧ True) (c' := (59, [some (.ref 36), none, some (.int a2), some (.int s0)], [.int (s0 ||| ((1 : Int32) <<< ((I 37 (Int32.toNatClampNeg (((69 : Int32) + a2) + 1))) &&& 31)))], qp_mk I J)) (by with_unfolding_all rfl) hd1 ⟨(qp_vin (c := 75) (by decide) h2.1 h2.2), trivial⟩ ?_
    obtain rfl := Option.some.inj h
    exact qp_retI_E qp_ok180 rfl qp_r180.1 ⟨rfl, rfl⟩ ⟨rfl, rfl⟩
def fM_metWith (p1 : Int32) (I : Nat → Nat → Int32) (J : Nat → Nat → Int64) : Option (Int32 × (Nat → Nat → Int32) × (Nat → Nat → Int64)) :=
  qp_bd (fM_placeOf p1 I J) fun v1 I1 J1 =>
  if v1 ≤ 0 then (
    fM_metWith_b27 v1 0 I1 J1
  ) else (
    qp_gd ((0 ≤ (((69 : Int32) + v1) - 1) ∧ (((69 : Int32) + v1) - 1) < 75)) <|
    fM_metWith_b27 v1 ((1 : Int32) <<< ((I1 37 (Int32.toNatClampNeg (((69 : Int32) + v1) - 1))) &&& 31)) I1 J1
  )
set_option maxRecDepth 8000 in
theorem gM_metWith (l : Launch) (G : qp_G) (p1 : Int32) (I : Nat → Nat → Int32) (J : Nat → Nat → Int64) {v : Int32} {I' : Nat → Nat → Int32} {J' : Nat → Nat → Int64} (h : fM_metWith p1 I J = some (v, I', J')) {d : Nat} (hd : 3 ≤ d) : qp_Met l G d 180 [.ref 36, .int p1] (qp_mk I J) 0 0 (qp_R8 (some (.int v)) I' J') := by
  have hd1 : Nat.ble 1 d = true := Nat.ble_eq_true_of_le (Nat.le_trans (by decide) hd)
  refine qp_Met_of (by decide) (by rw [qp_r180.2]; rfl) [some (.ref 36), some (.int p1), none, none] (by rw [qp_r180.2]; rfl) ?_
  unfold fM_metWith at h
  refine qp_run_E qp_ok180 2 (c' := (2, [some (.ref 36), some (.int p1), none, none], [.int p1, .ref 36], qp_mk I J)) (by with_unfolding_all rfl) hd1 trivial ?_
  obtain ⟨v1, I1, J1, e1, h⟩ := qp_bd_s h
  refine qp_cV qp_ok180 (rest := []) (oj := 10) qp_f178 rfl rfl (gM_placeOf l G p1 I J e1 (Nat.le_refl 2)) rfl rfl rfl rfl (Nat.le_trans (by decide) hd) ?_
  refine qp_run_E qp_ok180 2 (c' := (7, [some (.ref 36), some (.int p1), some (.int v1), none], [.int v1], qp_mk I1 J1)) (by with_unfolding_all rfl) hd1 trivial ?_
  refine qp_br_E qp_ok180 (f := v1 ≤ 0) (ct := (26, [some (.ref 36), some (.int p1), some (.int v1), none], [], qp_mk I1 J1)) (cf := (10, [some (.ref 36), some (.int p1), some (.int v1), none], [], qp_mk I1 J1)) (by with_unfolding_all rfl) (fun h1 => ?_) (fun h1 => ?_)
  · replace h := qp_ift h1 h
    refine qp_run_E qp_ok180 1 (c' := (27, [some (.ref 36), some (.int p1), some (.int v1), none], [.int 0], qp_mk I1 J1)) (by with_unfolding_all rfl) hd1 trivial ?_
    exact qp_E_fg [true, false, true, false] (gM_metWith_b27 hd v1 0 I1 J1 h)
  · replace h := qp_iff h1 h
    obtain ⟨h2, h⟩ := qp_gd_s h
    refine qp_run_E qp_ok180 11 (f := vp_in (((69 : Int32) + v1) - 1) 75 ∧ True) (c' := (27, [some (.ref 36), some (.int p1), some (.int v1), none], [.int ((1 : Int32) <<< ((I1 37 (Int32.toNatClampNeg (((69 : Int32) + v1) - 1))) &&& 31))], qp_mk I1 J1)) (by with_unfolding_all rfl) hd1 ⟨(qp_vin (c := 75) (by decide) h2.1 h2.2), trivial⟩ ?_
    exact qp_E_fg [true, false, true, false] (gM_metWith_b27 hd v1 ((1 : Int32) <<< ((I1 37 (Int32.toNatClampNeg (((69 : Int32) + v1) - 1))) &&& 31)) I1 J1 h)
def fM_toldOf (p1 : Int32) (p2 : Int32) (I : Nat → Nat → Int32) (J : Nat → Nat → Int64) : Option (Int32 × (Nat → Nat → Int32) × (Nat → Nat → Int64)) :=
  qp_bd (fM_serveNow I J) fun _u I1 J1 =>
  if p2 = 0 then (
    qp_gd ((0 ≤ ((2 : Int32) + p1) ∧ ((2 : Int32) + p1) < 75)) <|
    some ((I1 37 (Int32.toNatClampNeg ((2 : Int32) + p1))), I1, J1)
  ) else
  if p2 = 1 then (
    qp_gd ((0 ≤ ((8 : Int32) + p1) ∧ ((8 : Int32) + p1) < 75)) <|
    some ((I1 37 (Int32.toNatClampNeg ((8 : Int32) + p1))), I1, J1)
  ) else
  if p2 = 2 then (
    qp_bd (fM_placeOf p1 I1 J1) fun v2 I2 J2 =>
    some (v2, I2, J2)
  ) else
  if p2 = 3 then (
    qp_gd ((0 ≤ p1 ∧ p1 < 6)) <|
    some ((I1 51 (Int32.toNatClampNeg p1)), I1, J1)
  ) else
  if p2 = 4 then (
    qp_gd ((0 ≤ p1 ∧ p1 < 6)) <|
    some ((I1 48 (Int32.toNatClampNeg p1)), I1, J1)
  ) else
  if p2 = 5 then (
    qp_gd ((0 ≤ p1 ∧ p1 < 6)) <|
    some ((I1 49 (Int32.toNatClampNeg p1)), I1, J1)
  ) else
  qp_bd (fM_metWith p1 I1 J1) fun v3 I3 J3 =>
  some (v3, I3, J3)
set_option maxRecDepth 8000 in
theorem gM_toldOf (l : Launch) (G : qp_G) (p1 : Int32) (p2 : Int32) (I : Nat → Nat → Int32) (J : Nat → Nat → Int64) {v : Int32} {I' : Nat → Nat → Int32} {J' : Nat → Nat → Int64} (h : fM_toldOf p1 p2 I J = some (v, I', J')) {d : Nat} (hd : 4 ≤ d) : qp_Met l G d 173 [.ref 36, .int p1, .int p2] (qp_mk I J) 0 0 (qp_R8 (some (.int v)) I' J') := by
  have hd1 : Nat.ble 1 d = true := Nat.ble_eq_true_of_le (Nat.le_trans (by decide) hd)
  refine qp_Met_of (by decide) (by rw [qp_r173.2]; rfl) [some (.ref 36), some (.int p1), some (.int p2)] (by rw [qp_r173.2]; rfl) ?_
  unfold fM_toldOf at h
  refine qp_run_E qp_ok173 1 (c' := (1, [some (.ref 36), some (.int p1), some (.int p2)], [.ref 36], qp_mk I J)) (by with_unfolding_all rfl) hd1 trivial ?_
  obtain ⟨v1, I1, J1, e1, h⟩ := qp_bd_s h
  refine qp_cV qp_ok173 (rest := []) (oj := 10) qp_f174 rfl rfl (gM_serveNow l G I J e1 (Nat.le_refl 3)) rfl rfl rfl rfl (Nat.le_trans (by decide) hd) ?_
  refine qp_run_E qp_ok173 1 (c' := (5, [some (.ref 36), some (.int p1), some (.int p2)], [.int p2], qp_mk I1 J1)) (by with_unfolding_all rfl) hd1 trivial ?_
  by_cases h1 : p2 = 0
  · replace h := qp_ift h1 h
    refine qp_run_E qp_ok173 1 (c' := (qp_swt 85 0 5 #[39, 48, 58, 64, 71, 78] 5 p2, [some (.ref 36), some (.int p1), some (.int p2)], [], qp_mk I1 J1)) (by with_unfolding_all rfl) hd1 trivial ?_
    refine qp_E_pc (pc' := 44) (by rw [h1]; rfl) ?_
    obtain ⟨h2, h⟩ := qp_gd_s h
    refine qp_run_E qp_ok173 6 (f := vp_in ((2 : Int32) + p1) 75 ∧ True) (c' := (52, [some (.ref 36), some (.int p1), some (.int p2)], [.int (I1 37 (Int32.toNatClampNeg ((2 : Int32) + p1)))], qp_mk I1 J1)) (by with_unfolding_all rfl) hd1 ⟨(qp_vin (c := 75) (by decide) h2.1 h2.2), trivial⟩ ?_
    obtain ⟨rfl, rfl, rfl⟩ := qp_some3 h
    exact qp_retI_E qp_ok173 rfl qp_r173.1 ⟨rfl, rfl⟩ ⟨rfl, rfl⟩
  replace h := qp_iff h1 h
  by_cases h3 : p2 = 1
  · replace h := qp_ift h3 h
    refine qp_run_E qp_ok173 1 (c' := (qp_swt 85 0 5 #[39, 48, 58, 64, 71, 78] 5 p2, [some (.ref 36), some (.int p1), some (.int p2)], [], qp_mk I1 J1)) (by with_unfolding_all rfl) hd1 trivial ?_
    refine qp_E_pc (pc' := 53) (by rw [h3]; rfl) ?_
    obtain ⟨h4, h⟩ := qp_gd_s h
    refine qp_run_E qp_ok173 6 (f := vp_in ((8 : Int32) + p1) 75 ∧ True) (c' := (62, [some (.ref 36), some (.int p1), some (.int p2)], [.int (I1 37 (Int32.toNatClampNeg ((8 : Int32) + p1)))], qp_mk I1 J1)) (by with_unfolding_all rfl) hd1 ⟨(qp_vin (c := 75) (by decide) h4.1 h4.2), trivial⟩ ?_
    obtain ⟨rfl, rfl, rfl⟩ := qp_some3 h
    exact qp_retI_E qp_ok173 rfl qp_r173.1 ⟨rfl, rfl⟩ ⟨rfl, rfl⟩
  replace h := qp_iff h3 h
  by_cases h5 : p2 = 2
  · replace h := qp_ift h5 h
    refine qp_run_E qp_ok173 1 (c' := (qp_swt 85 0 5 #[39, 48, 58, 64, 71, 78] 5 p2, [some (.ref 36), some (.int p1), some (.int p2)], [], qp_mk I1 J1)) (by with_unfolding_all rfl) hd1 trivial ?_
    refine qp_E_pc (pc' := 63) (by rw [h5]; rfl) ?_
    refine qp_run_E qp_ok173 2 (c' := (65, [some (.ref 36), some (.int p1), some (.int p2)], [.int p1, .ref 36], qp_mk I1 J1)) (by with_unfolding_all rfl) hd1 trivial ?_
    obtain ⟨v2, I2, J2, e2, h⟩ := qp_bd_s h
    refine qp_cV qp_ok173 (rest := []) (oj := 10) qp_f178 rfl rfl (gM_placeOf l G p1 I1 J1 e2 (Nat.le_refl 2)) rfl rfl rfl rfl (Nat.le_trans (by decide) hd) ?_
    obtain ⟨rfl, rfl, rfl⟩ := qp_some3 h
    exact qp_retI_E qp_ok173 rfl qp_r173.1 ⟨rfl, rfl⟩ ⟨rfl, rfl⟩
  replace h := qp_iff h5 h
  by_cases h6 : p2 = 3
  · replace h := qp_ift h6 h
    refine qp_run_E qp_ok173 1 (c' := (qp_swt 85 0 5 #[39, 48, 58, 64, 71, 78] 5 p2, [some (.ref 36), some (.int p1), some (.int p2)], [], qp_mk I1 J1)) (by with_unfolding_all rfl) hd1 trivial ?_
    refine qp_E_pc (pc' := 69) (by rw [h6]; rfl) ?_
    obtain ⟨h7, h⟩ := qp_gd_s h
    refine qp_run_E qp_ok173 4 (f := vp_in p1 6 ∧ True) (c' := (75, [some (.ref 36), some (.int p1), some (.int p2)], [.int (I1 51 (Int32.toNatClampNeg p1))], qp_mk I1 J1)) (by with_unfolding_all rfl) hd1 ⟨(qp_vin (c := 6) (by decide) h7.1 h7.2), trivial⟩ ?_
    obtain ⟨rfl, rfl, rfl⟩ := qp_some3 h
    exact qp_retI_E qp_ok173 rfl qp_r173.1 ⟨rfl, rfl⟩ ⟨rfl, rfl⟩
  replace h := qp_iff h6 h
  by_cases h8 : p2 = 4
  · replace h := qp_ift h8 h
    refine qp_run_E qp_ok173 1 (c' := (qp_swt 85 0 5 #[39, 48, 58, 64, 71, 78] 5 p2, [some (.ref 36), some (.int p1), some (.int p2)], [], qp_mk I1 J1)) (by with_unfolding_all rfl) hd1 trivial ?_
    refine qp_E_pc (pc' := 76) (by rw [h8]; rfl) ?_
    obtain ⟨h9, h⟩ := qp_gd_s h
    refine qp_run_E qp_ok173 4 (f := vp_in p1 6 ∧ True) (c' := (82, [some (.ref 36), some (.int p1), some (.int p2)], [.int (I1 48 (Int32.toNatClampNeg p1))], qp_mk I1 J1)) (by with_unfolding_all rfl) hd1 ⟨(qp_vin (c := 6) (by decide) h9.1 h9.2), trivial⟩ ?_
    obtain ⟨rfl, rfl, rfl⟩ := qp_some3 h
    exact qp_retI_E qp_ok173 rfl qp_r173.1 ⟨rfl, rfl⟩ ⟨rfl, rfl⟩
  replace h := qp_iff h8 h
  by_cases h10 : p2 = 5
  · replace h := qp_ift h10 h
    refine qp_run_E qp_ok173 1 (c' := (qp_swt 85 0 5 #[39, 48, 58, 64, 71, 78] 5 p2, [some (.ref 36), some (.int p1), some (.int p2)], [], qp_mk I1 J1)) (by with_unfolding_all rfl) hd1 trivial ?_
    refine qp_E_pc (pc' := 83) (by rw [h10]; rfl) ?_
    obtain ⟨h11, h⟩ := qp_gd_s h
    refine qp_run_E qp_ok173 4 (f := vp_in p1 6 ∧ True) (c' := (89, [some (.ref 36), some (.int p1), some (.int p2)], [.int (I1 49 (Int32.toNatClampNeg p1))], qp_mk I1 J1)) (by with_unfolding_all rfl) hd1 ⟨(qp_vin (c := 6) (by decide) h11.1 h11.2), trivial⟩ ?_
    obtain ⟨rfl, rfl, rfl⟩ := qp_some3 h
    exact qp_retI_E qp_ok173 rfl qp_r173.1 ⟨rfl, rfl⟩ ⟨rfl, rfl⟩
  replace h := qp_iff h10 h
  refine qp_run_E qp_ok173 1 (c' := (qp_swt 85 0 5 #[39, 48, 58, 64, 71, 78] 5 p2, [some (.ref 36), some (.int p1), some (.int p2)], [], qp_mk I1 J1)) (by with_unfolding_all rfl) hd1 trivial ?_
  refine qp_E_pc (pc' := 90) (qp_swt_df (lo' := 0) (hi' := 5) (by decide) (by decide) (by clear h; grind)) ?_
  refine qp_run_E qp_ok173 2 (c' := (92, [some (.ref 36), some (.int p1), some (.int p2)], [.int p1, .ref 36], qp_mk I1 J1)) (by with_unfolding_all rfl) hd1 trivial ?_
  obtain ⟨v3, I3, J3, e3, h⟩ := qp_bd_s h
  refine qp_cV qp_ok173 (rest := []) (oj := 10) qp_f180 rfl rfl (gM_metWith l G p1 I1 J1 e3 (Nat.le_refl 3)) rfl rfl rfl rfl (Nat.le_trans (by decide) hd) ?_
  obtain ⟨rfl, rfl, rfl⟩ := qp_some3 h
  exact qp_retI_E qp_ok173 rfl qp_r173.1 ⟨rfl, rfl⟩ ⟨rfl, rfl⟩
def fM_one (p1 : Int32) (p2 : Int32) (I : Nat → Nat → Int32) (J : Nat → Nat → Int64) : Option (Int32 × (Nat → Nat → Int32) × (Nat → Nat → Int64)) :=
  qp_bd (fM_isOne p1 I J) fun v1 I1 J1 =>
  if v1 = 0 then (
    some ((-1), I1, J1)
  ) else (
    qp_bd (fM_in (Int32.toInt64 p2) 0 6 I1 J1) fun v2 I2 J2 =>
    if v2 = 0 then (
      some ((-1), I2, J2)
    ) else (
      qp_bd (fM_toldOf p1 p2 I2 J2) fun v3 I3 J3 =>
      qp_bd (fM_asks v3 I3 J3) fun v4 I4 J4 =>
      some (v4, I4, J4)
    )
  )
set_option maxRecDepth 8000 in
theorem gM_one (l : Launch) (G : qp_G) (p1 : Int32) (p2 : Int32) (I : Nat → Nat → Int32) (J : Nat → Nat → Int64) {v : Int32} {I' : Nat → Nat → Int32} {J' : Nat → Nat → Int64} (h : fM_one p1 p2 I J = some (v, I', J')) {d : Nat} (hd : 5 ≤ d) : qp_Met l G d 171 [.ref 36, .int p1, .int p2] (qp_mk I J) 0 0 (qp_R8 (some (.int v)) I' J') := by
  have hd1 : Nat.ble 1 d = true := Nat.ble_eq_true_of_le (Nat.le_trans (by decide) hd)
  refine qp_Met_of (by decide) (by rw [qp_r171.2]; rfl) [some (.ref 36), some (.int p1), some (.int p2)] (by rw [qp_r171.2]; rfl) ?_
  unfold fM_one at h
  refine qp_run_E qp_ok171 2 (c' := (2, [some (.ref 36), some (.int p1), some (.int p2)], [.int p1, .ref 36], qp_mk I J)) (by with_unfolding_all rfl) hd1 trivial ?_
  obtain ⟨v1, I1, J1, e1, h⟩ := qp_bd_s h
  refine qp_cV qp_ok171 (rest := []) (oj := 10) qp_f172 rfl rfl (gM_isOne l G p1 I J e1 (Nat.le_refl 2)) rfl rfl rfl rfl (Nat.le_trans (by decide) hd) ?_
  refine qp_br_E qp_ok171 (f := v1 = 0) (ct := (33, [some (.ref 36), some (.int p1), some (.int p2)], [], qp_mk I1 J1)) (cf := (8, [some (.ref 36), some (.int p1), some (.int p2)], [], qp_mk I1 J1)) (by with_unfolding_all rfl) (fun h1 => ?_) (fun h1 => ?_)
  · replace h := qp_ift h1 h
    refine qp_run_E qp_ok171 1 (c' := (34, [some (.ref 36), some (.int p1), some (.int p2)], [.int (-1)], qp_mk I1 J1)) (by with_unfolding_all rfl) hd1 trivial ?_
    obtain ⟨rfl, rfl, rfl⟩ := qp_some3 h
    exact qp_retI_E qp_ok171 rfl qp_r171.1 ⟨rfl, rfl⟩ ⟨rfl, rfl⟩
  · replace h := qp_iff h1 h
    refine qp_run_E qp_ok171 4 (c' := (14, [some (.ref 36), some (.int p1), some (.int p2)], [.long 6, .long 0, .long (Int32.toInt64 p2)], qp_mk I1 J1)) (by with_unfolding_all rfl) hd1 trivial ?_
    obtain ⟨v2, I2, J2, e2, h⟩ := qp_bd_s h
    refine qp_cS qp_ok171 (rest := []) (oj := 10) qp_f150 rfl rfl (gM_in l G (Int32.toInt64 p2) 0 6 I1 J1 e2 (Nat.le_refl 1)) rfl rfl rfl (Nat.le_trans (by decide) hd) ?_
    refine qp_br_E qp_ok171 (f := v2 = 0) (ct := (33, [some (.ref 36), some (.int p1), some (.int p2)], [], qp_mk I2 J2)) (cf := (20, [some (.ref 36), some (.int p1), some (.int p2)], [], qp_mk I2 J2)) (by with_unfolding_all rfl) (fun h2 => ?_) (fun h2 => ?_)
    · replace h := qp_ift h2 h
      refine qp_run_E qp_ok171 1 (c' := (34, [some (.ref 36), some (.int p1), some (.int p2)], [.int (-1)], qp_mk I2 J2)) (by with_unfolding_all rfl) hd1 trivial ?_
      obtain ⟨rfl, rfl, rfl⟩ := qp_some3 h
      exact qp_retI_E qp_ok171 rfl qp_r171.1 ⟨rfl, rfl⟩ ⟨rfl, rfl⟩
    · replace h := qp_iff h2 h
      refine qp_run_E qp_ok171 4 (c' := (24, [some (.ref 36), some (.int p1), some (.int p2)], [.int p2, .int p1, .ref 36, .ref 36], qp_mk I2 J2)) (by with_unfolding_all rfl) hd1 trivial ?_
      obtain ⟨v3, I3, J3, e3, h⟩ := qp_bd_s h
      refine qp_cV qp_ok171 (rest := [.ref 36]) (oj := 10) qp_f173 rfl rfl (gM_toldOf l G p1 p2 I2 J2 e3 (Nat.le_refl 4)) rfl rfl rfl rfl (Nat.le_trans (by decide) hd) ?_
      obtain ⟨v4, I4, J4, e4, h⟩ := qp_bd_s h
      refine qp_cV qp_ok171 (rest := []) (oj := 10) qp_f154 rfl rfl (gM_asks l G v3 I3 J3 e4 (Nat.le_refl 1)) rfl rfl rfl rfl (Nat.le_trans (by decide) hd) ?_
      refine qp_run_E qp_ok171 1 (c' := (34, [some (.ref 36), some (.int p1), some (.int p2)], [.int v4], qp_mk I4 J4)) (by with_unfolding_all rfl) hd1 trivial ?_
      obtain ⟨rfl, rfl, rfl⟩ := qp_some3 h
      exact qp_retI_E qp_ok171 rfl qp_r171.1 ⟨rfl, rfl⟩ ⟨rfl, rfl⟩

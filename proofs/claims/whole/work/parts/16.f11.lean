/-! methods as functions, 11 -/
def fM_whoIs_b77  (k8 : Int32 → Int32 → Int32 → (Nat → Nat → Int32) → (Nat → Nat → Int64) → Option (Int32 × (Nat → Nat → Int32) × (Nat → Nat → Int64))) (a1 : Int32) (a2 : Int32) (a3 : Int32) (s0 : Int32) (I : Nat → Nat → Int32) (J : Nat → Nat → Int64) : Option (Int32 × (Nat → Nat → Int32) × (Nat → Nat → Int64)) :=
  if s0 = 0 then (
    k8 a1 (a2 ||| 0) (a3 + 1) I J
  ) else (
    k8 a1 (a2 ||| ((1 : Int32) <<< (a3 &&& 31))) (a3 + 1) I J
  )
set_option maxRecDepth 8000 in
theorem gM_whoIs_b77 {l : Launch} {G : qp_G} {d : Nat} (hd : 4 ≤ d) {r : (Int32 × (Nat → Nat → Int32) × (Nat → Nat → Int64))} {I0 : Nat → Nat → Int32} {J0 : Nat → Nat → Int64}  (k8 : Int32 → Int32 → Int32 → (Nat → Nat → Int32) → (Nat → Nat → Int64) → Option (Int32 × (Nat → Nat → Int32) × (Nat → Nat → Int64))) (hk8 : ∀ a1 a2 a3 I J, k8 a1 a2 a3 I J = some r → qp_E l G d 233 (qp_mk I0 J0) 0 0 (qp_R8 (some (.int r.1)) r.2.1 r.2.2) (8, [some (.ref 36), some (.int a1), some (.int a2), some (.int a3), none], [], qp_mk I J)) : ∀ (a1 : Int32) (a2 : Int32) (a3 : Int32) (s0 : Int32) (I : Nat → Nat → Int32) (J : Nat → Nat → Int64), fM_whoIs_b77 k8 a1 a2 a3 s0 I J = some r → qp_E l G d 233 (qp_mk I0 J0) 0 0 (qp_R8 (some (.int r.1)) r.2.1 r.2.2) (77, [some (.ref 36), some (.int a1), some (.int a2), some (.int a3), none], [.int s0], qp_mk I J) := by
  have hd1 : Nat.ble 1 d = true := Nat.ble_eq_true_of_le (Nat.le_trans (by decide) hd)
  intro a1 a2 a3 s0 I J h
  unfold fM_whoIs_b77 at h
  refine qp_run_E qp_ok233 3 (c' := (82, [some (.ref 36), some (.int a1), some (.int a2), some (.int a3), some (.int s0)], [.int s0, .int a2], qp_mk I J)) (by with_unfolding_all rfl) hd1 trivial ?_
  refine qp_br_E qp_ok233 (f := s0 = 0) (ct := (91, [some (.ref 36), some (.int a1), some (.int a2), some (.int a3), some (.int s0)], [.int a2], qp_mk I J)) (cf := (85, [some (.ref 36), some (.int a1), some (.int a2), some (.int a3), some (.int s0)], [.int a2], qp_mk I J)) (by with_unfolding_all rfl) (fun h1 => ?_) (fun h1 => ?_)
  · replace h := qp_ift h1 h
    refine qp_run_E qp_ok233 5 (c' := (8, [some (.ref 36), some (.int a1), some (.int (a2 ||| 0)), some (.int (a3 + 1)), some (.int s0)], [], qp_mk I J)) (by with_unfolding_all rfl) hd1 trivial ?_
    exact qp_E_fg [true, true, true, true, false] (hk8 a1 (a2 ||| 0) (a3 + 1) I J h)
  · replace h := qp_iff h1 h
    refine qp_run_E qp_ok233 8 (c' := (8, [some (.ref 36), some (.int a1), some (.int (a2 ||| ((1 : Int32) <<< (a3 &&& 31)))), some (.int (a3 + 1)), some (.int s0)], [], qp_mk I J)) (by with_unfolding_all rfl) hd1 trivial ?_
    exact qp_E_fg [true, true, true, true, false] (hk8 a1 (a2 ||| ((1 : Int32) <<< (a3 &&& 31))) (a3 + 1) I J h)
def fM_whoIs_b76  (k8 : Int32 → Int32 → Int32 → (Nat → Nat → Int32) → (Nat → Nat → Int64) → Option (Int32 × (Nat → Nat → Int32) × (Nat → Nat → Int64))) (a1 : Int32) (a2 : Int32) (a3 : Int32) (I : Nat → Nat → Int32) (J : Nat → Nat → Int64) : Option (Int32 × (Nat → Nat → Int32) × (Nat → Nat → Int64)) :=
  fM_whoIs_b77 k8 a1 a2 a3 0 I J
set_option maxRecDepth 8000 in
theorem gM_whoIs_b76 {l : Launch} {G : qp_G} {d : Nat} (hd : 4 ≤ d) {r : (Int32 × (Nat → Nat → Int32) × (Nat → Nat → Int64))} {I0 : Nat → Nat → Int32} {J0 : Nat → Nat → Int64}  (k8 : Int32 → Int32 → Int32 → (Nat → Nat → Int32) → (Nat → Nat → Int64) → Option (Int32 × (Nat → Nat → Int32) × (Nat → Nat → Int64))) (hk8 : ∀ a1 a2 a3 I J, k8 a1 a2 a3 I J = some r → qp_E l G d 233 (qp_mk I0 J0) 0 0 (qp_R8 (some (.int r.1)) r.2.1 r.2.2) (8, [some (.ref 36), some (.int a1), some (.int a2), some (.int a3), none], [], qp_mk I J)) : ∀ (a1 : Int32) (a2 : Int32) (a3 : Int32) (I : Nat → Nat → Int32) (J : Nat → Nat → Int64), fM_whoIs_b76 k8 a1 a2 a3 I J = some r → qp_E l G d 233 (qp_mk I0 J0) 0 0 (qp_R8 (some (.int r.1)) r.2.1 r.2.2) (76, [some (.ref 36), some (.int a1), some (.int a2), some (.int a3), none], [], qp_mk I J) := by
  have hd1 : Nat.ble 1 d = true := Nat.ble_eq_true_of_le (Nat.le_trans (by decide) hd)
  intro a1 a2 a3 I J h
  unfold fM_whoIs_b76 at h
  refine qp_run_E qp_ok233 1 (c' := (77, [some (.ref 36), some (.int a1), some (.int a2), some (.int a3), none], [.int 0], qp_mk I J)) (by with_unfolding_all rfl) hd1 trivial ?_
  exact gM_whoIs_b77 hd k8 hk8 a1 a2 a3 0 I J h
def fM_whoIs_b8  : Nat → Int32 → Int32 → Int32 → (Nat → Nat → Int32) → (Nat → Nat → Int64) → Option (Int32 × (Nat → Nat → Int32) × (Nat → Nat → Int64))
  | 0, _, _, _, _, _ => none
  | n + 1, a1, a2, a3, I, J =>
    if (I 37 0) ≤ a3 then (
      some (a2, I, J)
    ) else (
      if a1 = 0 then (
        qp_gd ((0 ≤ a3 ∧ a3 < 6)) <|
        if (I 51 (Int32.toNatClampNeg a3)) ≤ 0 then (
          fM_whoIs_b76 (fun a0 a1 a2 I J => fM_whoIs_b8 n a0 a1 a2 I J) a1 a2 a3 I J
        ) else (
          qp_gd ((0 ≤ a3 ∧ a3 < 6)) <|
          if ¬ (I 48 (Int32.toNatClampNeg a3)) = (I 51 (Int32.toNatClampNeg a3)) then (
            fM_whoIs_b76 (fun a0 a1 a2 I J => fM_whoIs_b8 n a0 a1 a2 I J) a1 a2 a3 I J
          ) else (
            fM_whoIs_b77 (fun a0 a1 a2 I J => fM_whoIs_b8 n a0 a1 a2 I J) a1 a2 a3 1 I J
          )
        )
      ) else (
        qp_gd ((0 ≤ a3 ∧ a3 < 6) ∧ (0 ≤ ((8 : Int32) + a3) ∧ ((8 : Int32) + a3) < 75)) <|
        if (I 49 (Int32.toNatClampNeg a3)) ≤ (I 37 (Int32.toNatClampNeg ((8 : Int32) + a3))) then (
          fM_whoIs_b77 (fun a0 a1 a2 I J => fM_whoIs_b8 n a0 a1 a2 I J) a1 a2 a3 0 I J
        ) else (
          fM_whoIs_b77 (fun a0 a1 a2 I J => fM_whoIs_b8 n a0 a1 a2 I J) a1 a2 a3 1 I J
        )
      )
    )
set_option maxRecDepth 8000 in
theorem gM_whoIs_b8 {l : Launch} {G : qp_G} {d : Nat} (hd : 4 ≤ d) {r : (Int32 × (Nat → Nat → Int32) × (Nat → Nat → Int64))} {I0 : Nat → Nat → Int32} {J0 : Nat → Nat → Int64}   : ∀ (n : Nat) (a1 : Int32) (a2 : Int32) (a3 : Int32) (I : Nat → Nat → Int32) (J : Nat → Nat → Int64), fM_whoIs_b8  n a1 a2 a3 I J = some r → qp_E l G d 233 (qp_mk I0 J0) 0 0 (qp_R8 (some (.int r.1)) r.2.1 r.2.2) (8, [some (.ref 36), some (.int a1), some (.int a2), some (.int a3), none], [], qp_mk I J) := by
  have hd1 : Nat.ble 1 d = true := Nat.ble_eq_true_of_le (Nat.le_trans (by decide) hd)
  intro n
  induction n with
  | zero => intro a1 a2 a3 I J h; exact absurd h (by simp [fM_whoIs_b8])
  | succ n ih =>
    intro a1 a2 a3 I J h
    rw [fM_whoIs_b8] at h
    refine qp_run_E qp_ok233 5 (f := vp_in 0 75 ∧ True) (c' := (15, [some (.ref 36), some (.int a1), some (.int a2), some (.int a3), none], [.int (I 37 0), .int a3], qp_mk I J)) (by with_unfolding_all rfl) hd1 ⟨(qp_vin (c := 75) (by decide) (by decide) (by decide)), trivial⟩ ?_
    refine qp_br_E qp_ok233 (f := (I 37 0) ≤ a3) (ct := (100, [some (.ref 36), some (.int a1), some (.int a2), some (.int a3), none], [], qp_mk I J)) (cf := (18, [some (.ref 36), some (.int a1), some (.int a2), some (.int a3), none], [], qp_mk I J)) (by with_unfolding_all rfl) (fun h1 => ?_) (fun h1 => ?_)
    · replace h := qp_ift h1 h
      refine qp_run_E qp_ok233 1 (c' := (101, [some (.ref 36), some (.int a1), some (.int a2), some (.int a3), none], [.int a2], qp_mk I J)) (by with_unfolding_all rfl) hd1 trivial ?_
      obtain rfl := Option.some.inj h
      exact qp_retI_E qp_ok233 rfl qp_r233.1 ⟨rfl, rfl⟩ ⟨rfl, rfl⟩
    · replace h := qp_iff h1 h
      refine qp_run_E qp_ok233 1 (c' := (19, [some (.ref 36), some (.int a1), some (.int a2), some (.int a3), none], [.int a1], qp_mk I J)) (by with_unfolding_all rfl) hd1 trivial ?_
      refine qp_br_E qp_ok233 (f := a1 = 0) (ct := (48, [some (.ref 36), some (.int a1), some (.int a2), some (.int a3), none], [], qp_mk I J)) (cf := (22, [some (.ref 36), some (.int a1), some (.int a2), some (.int a3), none], [], qp_mk I J)) (by with_unfolding_all rfl) (fun h2 => ?_) (fun h2 => ?_)
      · replace h := qp_ift h2 h
        obtain ⟨h3, h⟩ := qp_gd_s h
        refine qp_run_E qp_ok233 4 (f := vp_in a3 6 ∧ True) (c' := (54, [some (.ref 36), some (.int a1), some (.int a2), some (.int a3), none], [.int (I 51 (Int32.toNatClampNeg a3))], qp_mk I J)) (by with_unfolding_all rfl) hd1 ⟨(qp_vin (c := 6) (by decide) h3.1 h3.2), trivial⟩ ?_
        refine qp_br_E qp_ok233 (f := (I 51 (Int32.toNatClampNeg a3)) ≤ 0) (ct := (76, [some (.ref 36), some (.int a1), some (.int a2), some (.int a3), none], [], qp_mk I J)) (cf := (57, [some (.ref 36), some (.int a1), some (.int a2), some (.int a3), none], [], qp_mk I J)) (by with_unfolding_all rfl) (fun h4 => ?_) (fun h4 => ?_)
        · replace h := qp_ift h4 h
          exact gM_whoIs_b76 hd (fun a0 a1 a2 I J => fM_whoIs_b8 n a0 a1 a2 I J) (fun a0 a1 a2 I J h => ih a0 a1 a2 I J h) a1 a2 a3 I J h
        · replace h := qp_iff h4 h
          obtain ⟨h5, h⟩ := qp_gd_s h
          refine qp_run_E qp_ok233 8 (f := vp_in a3 6 ∧ vp_in a3 6 ∧ True) (c' := (69, [some (.ref 36), some (.int a1), some (.int a2), some (.int a3), none], [.int (I 51 (Int32.toNatClampNeg a3)), .int (I 48 (Int32.toNatClampNeg a3))], qp_mk I J)) (by with_unfolding_all rfl) hd1 ⟨(qp_vin (c := 6) (by decide) h5.1 h5.2), (qp_vin (c := 6) (by decide) h5.1 h5.2), trivial⟩ ?_
          refine qp_br_E qp_ok233 (f := ¬ (I 48 (Int32.toNatClampNeg a3)) = (I 51 (Int32.toNatClampNeg a3))) (ct := (76, [some (.ref 36), some (.int a1), some (.int a2), some (.int a3), none], [], qp_mk I J)) (cf := (72, [some (.ref 36), some (.int a1), some (.int a2), some (.int a3), none], [], qp_mk I J)) (by with_unfolding_all rfl) (fun h6 => ?_) (fun h6 => ?_)
          · replace h := qp_ift h6 h
            exact gM_whoIs_b76 hd (fun a0 a1 a2 I J => fM_whoIs_b8 n a0 a1 a2 I J) (fun a0 a1 a2 I J h => ih a0 a1 a2 I J h) a1 a2 a3 I J h
          · replace h := qp_iff h6 h
            refine qp_run_E qp_ok233 2 (c' := (77, [some (.ref 36), some (.int a1), some (.int a2), some (.int a3), none], [.int 1], qp_mk I J)) (by with_unfolding_all rfl) hd1 trivial ?_
            exact gM_whoIs_b77 hd (fun a0 a1 a2 I J => fM_whoIs_b8 n a0 a1 a2 I J) (fun a0 a1 a2 I J h => ih a0 a1 a2 I J h) a1 a2 a3 1 I J h
      · replace h := qp_iff h2 h
        obtain ⟨h7, h⟩ := qp_gd_s h
        refine qp_run_E qp_ok233 10 (f := vp_in a3 6 ∧ vp_in ((8 : Int32) + a3) 75 ∧ True) (c' := (37, [some (.ref 36), some (.int a1), some (.int a2), some (.int a3), none], [.int (I 37 (Int32.toNatClampNeg ((8 : Int32) + a3))), .int (I 49 (Int32.toNatClampNeg a3))], qp_mk I J)) (by with_unfolding_all rfl) hd1 ⟨(qp_vin (c := 6) (by decide) h7.1.1 h7.1.2), (qp_vin (c := 75) (by decide) h7.2.1 h7.2.2), trivial⟩ ?_
        refine qp_br_E qp_ok233 (f := (I 49 (Int32.toNatClampNeg a3)) ≤ (I 37 (Int32.toNatClampNeg ((8 : Int32) + a3)))) (ct := (44, [some (.ref 36), some (.int a1), some (.int a2), some (.int a3), none], [], qp_mk I J)) (cf := (40, [some (.ref 36), some (.int a1), some (.int a2), some (.int a3), none], [], qp_mk I J)) (by with_unfolding_all rfl) (fun h8 => ?_) (fun h8 => ?_)
        · replace h := qp_ift h8 h
          refine qp_run_E qp_ok233 2 (c' := (77, [some (.ref 36), some (.int a1), some (.int a2), some (.int a3), none], [.int 0], qp_mk I J)) (by with_unfolding_all rfl) hd1 trivial ?_
          exact gM_whoIs_b77 hd (fun a0 a1 a2 I J => fM_whoIs_b8 n a0 a1 a2 I J) (fun a0 a1 a2 I J h => ih a0 a1 a2 I J h) a1 a2 a3 0 I J h
        · replace h := qp_iff h8 h
          refine qp_run_E qp_ok233 2 (c' := (77, [some (.ref 36), some (.int a1), some (.int a2), some (.int a3), none], [.int 1], qp_mk I J)) (by with_unfolding_all rfl) hd1 trivial ?_
          exact gM_whoIs_b77 hd (fun a0 a1 a2 I J => fM_whoIs_b8 n a0 a1 a2 I J) (fun a0 a1 a2 I J h => ih a0 a1 a2 I J h) a1 a2 a3 1 I J h
def fM_whoIs (p1 : Int32) (I : Nat → Nat → Int32) (J : Nat → Nat → Int64) : Option (Int32 × (Nat → Nat → Int32) × (Nat → Nat → Int64)) :=
  qp_bd (fM_serveNow I J) fun _u I1 J1 =>
  fM_whoIs_b8 100000 p1 0 0 I1 J1
set_option maxRecDepth 8000 in
theorem gM_whoIs (l : Launch) (G : qp_G) (p1 : Int32) (I : Nat → Nat → Int32) (J : Nat → Nat → Int64) {v : Int32} {I' : Nat → Nat → Int32} {J' : Nat → Nat → Int64} (h : fM_whoIs p1 I J = some (v, I', J')) {d : Nat} (hd : 4 ≤ d) : qp_Met l G d 233 [.ref 36, .int p1] (qp_mk I J) 0 0 (qp_R8 (some (.int v)) I' J') := by
  have hd1 : Nat.ble 1 d = true := Nat.ble_eq_true_of_le (Nat.le_trans (by decide) hd)
  refine qp_Met_of (by decide) (by rw [qp_r233.2]; rfl) [some (.ref 36), some (.int p1), none, none, none] (by rw [qp_r233.2]; rfl) ?_
  unfold fM_whoIs at h
  refine qp_run_E qp_ok233 3 (c' := (3, [some (.ref 36), some (.int p1), some (.int 0), none, none], [.ref 36], qp_mk I J)) (by with_unfolding_all rfl) hd1 trivial ?_
  obtain ⟨v1, I1, J1, e1, h⟩ := qp_bd_s h
  refine qp_cV qp_ok233 (rest := []) (oj := 10) qp_f174 rfl rfl (gM_serveNow l G I J e1 (Nat.le_refl 3)) rfl rfl rfl rfl (Nat.le_trans (by decide) hd) ?_
  refine qp_run_E qp_ok233 2 (c' := (8, [some (.ref 36), some (.int p1), some (.int 0), some (.int 0), none], [], qp_mk I1 J1)) (by with_unfolding_all rfl) hd1 trivial ?_
  exact gM_whoIs_b8 hd 100000 p1 0 0 I1 J1 h
def fM_manyOf_b4  : Nat → Int32 → Int32 → Int32 → (Nat → Nat → Int32) → (Nat → Nat → Int64) → Option (Int32 × (Nat → Nat → Int32) × (Nat → Nat → Int64))
  | 0, _, _, _, _, _ => none
  | n + 1, a1, a2, a3, I, J =>
    if (I 37 0) ≤ a3 then (
      some (a2, I, J)
    ) else (
      qp_gd ((0 ≤ ((2 : Int32) + a3) ∧ ((2 : Int32) + a3) < 75)) <|
      qp_bd (fM_isOf (I 37 (Int32.toNatClampNeg ((2 : Int32) + a3))) a1 I J) fun v1 I1 J1 =>
      if v1 = 0 then (
        fM_manyOf_b4 n a1 (a2 + 0) (a3 + 1) I1 J1
      ) else (
        fM_manyOf_b4 n a1 (a2 + 1) (a3 + 1) I1 J1
      )
    )
set_option maxRecDepth 8000 in
theorem gM_manyOf_b4 {l : Launch} {G : qp_G} {d : Nat} (hd : 2 ≤ d) {r : (Int32 × (Nat → Nat → Int32) × (Nat → Nat → Int64))} {I0 : Nat → Nat → Int32} {J0 : Nat → Nat → Int64}   : ∀ (n : Nat) (a1 : Int32) (a2 : Int32) (a3 : Int32) (I : Nat → Nat → Int32) (J : Nat → Nat → Int64), fM_manyOf_b4  n a1 a2 a3 I J = some r → qp_E l G d 234 (qp_mk I0 J0) 0 0 (qp_R8 (some (.int r.1)) r.2.1 r.2.2) (4, [some (.ref 36), some (.int a1), some (.int a2), some (.int a3)], [], qp_mk I J) := by
  have hd1 : Nat.ble 1 d = true := Nat.ble_eq_true_of_le (Nat.le_trans (by decide) hd)
  intro n
  induction n with
  | zero => intro a1 a2 a3 I J h; exact absurd h (by simp [fM_manyOf_b4])
  | succ n ih =>
    intro a1 a2 a3 I J h
    rw [fM_manyOf_b4] at h
    refine qp_run_E qp_ok234 5 (f := vp_in 0 75 ∧ True) (c' := (11, [some (.ref 36), some (.int a1), some (.int a2), some (.int a3)], [.int (I 37 0), .int a3], qp_mk I J)) (by with_unfolding_all rfl) hd1 ⟨(qp_vin (c := 75) (by decide) (by decide) (by decide)), trivial⟩ ?_
    refine qp_br_E qp_ok234 (f := (I 37 0) ≤ a3) (ct := (43, [some (.ref 36), some (.int a1), some (.int a2), some (.int a3)], [], qp_mk I J)) (cf := (14, [some (.ref 36), some (.int a1), some (.int a2), some (.int a3)], [], qp_mk I J)) (by with_unfolding_all rfl) (fun h1 => ?_) (fun h1 => ?_)
    · replace h := qp_ift h1 h
      refine qp_run_E qp_ok234 1 (c' := (44, [some (.ref 36), some (.int a1), some (.int a2), some (.int a3)], [.int a2], qp_mk I J)) (by with_unfolding_all rfl) hd1 trivial ?_
      obtain rfl := Option.some.inj h
      exact qp_retI_E qp_ok234 rfl qp_r234.1 ⟨rfl, rfl⟩ ⟨rfl, rfl⟩
    · replace h := qp_iff h1 h
      obtain ⟨h2, h⟩ := qp_gd_s h
      refine qp_run_E qp_ok234 8 (f := vp_in ((2 : Int32) + a3) 75 ∧ True) (c' := (24, [some (.ref 36), some (.int a1), some (.int a2), some (.int a3)], [.int a1, .int (I 37 (Int32.toNatClampNeg ((2 : Int32) + a3))), .int a2], qp_mk I J)) (by with_unfolding_all rfl) hd1 ⟨(qp_vin (c := 75) (by decide) h2.1 h2.2), trivial⟩ ?_
      obtain ⟨v1, I1, J1, e1, h⟩ := qp_bd_s h
      refine qp_cS qp_ok234 (rest := [.int a2]) (oj := 10) qp_f182 rfl rfl (gM_isOf l G (I 37 (Int32.toNatClampNeg ((2 : Int32) + a3))) a1 I J e1 (Nat.le_refl 1)) rfl rfl rfl (Nat.le_trans (by decide) hd) ?_
      refine qp_br_E qp_ok234 (f := v1 = 0) (ct := (34, [some (.ref 36), some (.int a1), some (.int a2), some (.int a3)], [.int a2], qp_mk I1 J1)) (cf := (30, [some (.ref 36), some (.int a1), some (.int a2), some (.int a3)], [.int a2], qp_mk I1 J1)) (by with_unfolding_all rfl) (fun h3 => ?_) (fun h3 => ?_)
      · replace h := qp_ift h3 h
        refine qp_run_E qp_ok234 5 (c' := (4, [some (.ref 36), some (.int a1), some (.int (a2 + 0)), some (.int (a3 + 1))], [], qp_mk I1 J1)) (by with_unfolding_all rfl) hd1 trivial ?_
        exact ih a1 (a2 + 0) (a3 + 1) I1 J1 h
      · replace h := qp_iff h3 h
        refine qp_run_E qp_ok234 6 (c' := (4, [some (.ref 36), some (.int a1), some (.int (a2 + 1)), some (.int (a3 + 1))], [], qp_mk I1 J1)) (by with_unfolding_all rfl) hd1 trivial ?_
        exact ih a1 (a2 + 1) (a3 + 1) I1 J1 h
def fM_manyOf (p1 : Int32) (I : Nat → Nat → Int32) (J : Nat → Nat → Int64) : Option (Int32 × (Nat → Nat → Int32) × (Nat → Nat → Int64)) :=
  fM_manyOf_b4 100000 p1 0 0 I J
set_option maxRecDepth 8000 in
theorem gM_manyOf (l : Launch) (G : qp_G) (p1 : Int32) (I : Nat → Nat → Int32) (J : Nat → Nat → Int64) {v : Int32} {I' : Nat → Nat → Int32} {J' : Nat → Nat → Int64} (h : fM_manyOf p1 I J = some (v, I', J')) {d : Nat} (hd : 2 ≤ d) : qp_Met l G d 234 [.ref 36, .int p1] (qp_mk I J) 0 0 (qp_R8 (some (.int v)) I' J') := by
  have hd1 : Nat.ble 1 d = true := Nat.ble_eq_true_of_le (Nat.le_trans (by decide) hd)
  refine qp_Met_of (by decide) (by rw [qp_r234.2]; rfl) [some (.ref 36), some (.int p1), none, none] (by rw [qp_r234.2]; rfl) ?_
  unfold fM_manyOf at h
  refine qp_run_E qp_ok234 4 (c' := (4, [some (.ref 36), some (.int p1), some (.int 0), some (.int 0)], [], qp_mk I J)) (by with_unfolding_all rfl) hd1 trivial ?_
  exact gM_manyOf_b4 hd 100000 p1 0 0 I J h
def fM_manyThere_41_b4  : Nat → Int32 → Int32 → Int32 → (Nat → Nat → Int32) → (Nat → Nat → Int64) → Option (Int32 × (Nat → Nat → Int32) × (Nat → Nat → Int64))
  | 0, _, _, _, _, _ => none
  | n + 1, a1, a2, a3, I, J =>
    if a1 ≤ a3 then (
      some (a2, I, J)
    ) else (
      qp_gd ((0 ≤ a3 ∧ a3 < 6)) <|
      if 0 ≤ (I 41 (Int32.toNatClampNeg a3)) then (
        fM_manyThere_41_b4 n a1 (a2 + 1) (a3 + 1) I J
      ) else (
        fM_manyThere_41_b4 n a1 (a2 + 0) (a3 + 1) I J
      )
    )
set_option maxRecDepth 8000 in
theorem gM_manyThere_41_b4 {l : Launch} {G : qp_G} {d : Nat} (hd : 1 ≤ d) {r : (Int32 × (Nat → Nat → Int32) × (Nat → Nat → Int64))} {I0 : Nat → Nat → Int32} {J0 : Nat → Nat → Int64}   : ∀ (n : Nat) (a1 : Int32) (a2 : Int32) (a3 : Int32) (I : Nat → Nat → Int32) (J : Nat → Nat → Int64), fM_manyThere_41_b4  n a1 a2 a3 I J = some r → qp_E l G d 235 (qp_mk I0 J0) 0 0 (qp_R8 (some (.int r.1)) r.2.1 r.2.2) (4, [some (.ref 41), some (.int a1), some (.int a2), some (.int a3)], [], qp_mk I J) := by
  have hd1 : Nat.ble 1 d = true := Nat.ble_eq_true_of_le (Nat.le_trans (by decide) hd)
  intro n
  induction n with
  | zero => intro a1 a2 a3 I J h; exact absurd h (by simp [fM_manyThere_41_b4])
  | succ n ih =>
    intro a1 a2 a3 I J h
    rw [fM_manyThere_41_b4] at h
    refine qp_run_E qp_ok235 2 (c' := (6, [some (.ref 41), some (.int a1), some (.int a2), some (.int a3)], [.int a1, .int a3], qp_mk I J)) (by with_unfolding_all rfl) hd1 trivial ?_
    refine qp_br_E qp_ok235 (f := a1 ≤ a3) (ct := (29, [some (.ref 41), some (.int a1), some (.int a2), some (.int a3)], [], qp_mk I J)) (cf := (9, [some (.ref 41), some (.int a1), some (.int a2), some (.int a3)], [], qp_mk I J)) (by with_unfolding_all rfl) (fun h1 => ?_) (fun h1 => ?_)
    · replace h := qp_ift h1 h
      refine qp_run_E qp_ok235 1 (c' := (30, [some (.ref 41), some (.int a1), some (.int a2), some (.int a3)], [.int a2], qp_mk I J)) (by with_unfolding_all rfl) hd1 trivial ?_
      obtain rfl := Option.some.inj h
      exact qp_retI_E qp_ok235 rfl qp_r235.1 ⟨rfl, rfl⟩ ⟨rfl, rfl⟩
    · replace h := qp_iff h1 h
      obtain ⟨h2, h⟩ := qp_gd_s h
      refine qp_run_E qp_ok235 4 (f := vp_in a3 6 ∧ True) (c' := (13, [some (.ref 41), some (.int a1), some (.int a2), some (.int a3)], [.int (I 41 (Int32.toNatClampNeg a3)), .int a2], qp_mk I J)) (by with_unfolding_all rfl) hd1 ⟨(qp_vin (c := 6) (by decide) h2.1 h2.2), trivial⟩ ?_
      refine qp_br_E qp_ok235 (f := 0 ≤ (I 41 (Int32.toNatClampNeg a3))) (ct := (20, [some (.ref 41), some (.int a1), some (.int a2), some (.int a3)], [.int a2], qp_mk I J)) (cf := (16, [some (.ref 41), some (.int a1), some (.int a2), some (.int a3)], [.int a2], qp_mk I J)) (by with_unfolding_all rfl) (fun h3 => ?_) (fun h3 => ?_)
      · replace h := qp_ift h3 h
        refine qp_run_E qp_ok235 5 (c' := (4, [some (.ref 41), some (.int a1), some (.int (a2 + 1)), some (.int (a3 + 1))], [], qp_mk I J)) (by with_unfolding_all rfl) hd1 trivial ?_
        exact ih a1 (a2 + 1) (a3 + 1) I J h
      · replace h := qp_iff h3 h
        refine qp_run_E qp_ok235 6 (c' := (4, [some (.ref 41), some (.int a1), some (.int (a2 + 0)), some (.int (a3 + 1))], [], qp_mk I J)) (by with_unfolding_all rfl) hd1 trivial ?_
        exact ih a1 (a2 + 0) (a3 + 1) I J h
def fM_manyThere_41 (p1 : Int32) (I : Nat → Nat → Int32) (J : Nat → Nat → Int64) : Option (Int32 × (Nat → Nat → Int32) × (Nat → Nat → Int64)) :=
  fM_manyThere_41_b4 100000 p1 0 0 I J
set_option maxRecDepth 8000 in
theorem gM_manyThere_41 (l : Launch) (G : qp_G) (p1 : Int32) (I : Nat → Nat → Int32) (J : Nat → Nat → Int64) {v : Int32} {I' : Nat → Nat → Int32} {J' : Nat → Nat → Int64} (h : fM_manyThere_41 p1 I J = some (v, I', J')) {d : Nat} (hd : 1 ≤ d) : qp_Met l G d 235 [.ref 41, .int p1] (qp_mk I J) 0 0 (qp_R8 (some (.int v)) I' J') := by
  have hd1 : Nat.ble 1 d = true := Nat.ble_eq_true_of_le (Nat.le_trans (by decide) hd)
  refine qp_Met_of (by decide) (by rw [qp_r235.2]; rfl) [some (.ref 41), some (.int p1), none, none] (by rw [qp_r235.2]; rfl) ?_
  unfold fM_manyThere_41 at h
  refine qp_run_E qp_ok235 4 (c' := (4, [some (.ref 41), some (.int p1), some (.int 0), some (.int 0)], [], qp_mk I J)) (by with_unfolding_all rfl) hd1 trivial ?_
  exact gM_manyThere_41_b4 hd 100000 p1 0 0 I J h
def fM_manyThere_43_b4  : Nat → Int32 → Int32 → Int32 → (Nat → Nat → Int32) → (Nat → Nat → Int64) → Option (Int32 × (Nat → Nat → Int32) × (Nat → Nat → Int64))
  | 0, _, _, _, _, _ => none
  | n + 1, a1, a2, a3, I, J =>
    if a1 ≤ a3 then (
      some (a2, I, J)
    ) else (
      qp_gd ((0 ≤ a3 ∧ a3 < 4)) <|
      if 0 ≤ (I 43 (Int32.toNatClampNeg a3)) then (
        fM_manyThere_43_b4 n a1 (a2 + 1) (a3 + 1) I J
      ) else (
        fM_manyThere_43_b4 n a1 (a2 + 0) (a3 + 1) I J
      )
    )
set_option maxRecDepth 8000 in
theorem gM_manyThere_43_b4 {l : Launch} {G : qp_G} {d : Nat} (hd : 1 ≤ d) {r : (Int32 × (Nat → Nat → Int32) × (Nat → Nat → Int64))} {I0 : Nat → Nat → Int32} {J0 : Nat → Nat → Int64}   : ∀ (n : Nat) (a1 : Int32) (a2 : Int32) (a3 : Int32) (I : Nat → Nat → Int32) (J : Nat → Nat → Int64), fM_manyThere_43_b4  n a1 a2 a3 I J = some r → qp_E l G d 235 (qp_mk I0 J0) 0 0 (qp_R8 (some (.int r.1)) r.2.1 r.2.2) (4, [some (.ref 43), some (.int a1), some (.int a2), some (.int a3)], [], qp_mk I J) := by
  have hd1 : Nat.ble 1 d = true := Nat.ble_eq_true_of_le (Nat.le_trans (by decide) hd)
  intro n
  induction n with
  | zero => intro a1 a2 a3 I J h; exact absurd h (by simp [fM_manyThere_43_b4])
  | succ n ih =>
    intro a1 a2 a3 I J h
    rw [fM_manyThere_43_b4] at h
    refine qp_run_E qp_ok235 2 (c' := (6, [some (.ref 43), some (.int a1), some (.int a2), some (.int a3)], [.int a1, .int a3], qp_mk I J)) (by with_unfolding_all rfl) hd1 trivial ?_
    refine qp_br_E qp_ok235 (f := a1 ≤ a3) (ct := (29, [some (.ref 43), some (.int a1), some (.int a2), some (.int a3)], [], qp_mk I J)) (cf := (9, [some (.ref 43), some (.int a1), some (.int a2), some (.int a3)], [], qp_mk I J)) (by with_unfolding_all rfl) (fun h1 => ?_) (fun h1 => ?_)
    · replace h := qp_ift h1 h
      refine qp_run_E qp_ok235 1 (c' := (30, [some (.ref 43), some (.int a1), some (.int a2), some (.int a3)], [.int a2], qp_mk I J)) (by with_unfolding_all rfl) hd1 trivial ?_
      obtain rfl := Option.some.inj h
      exact qp_retI_E qp_ok235 rfl qp_r235.1 ⟨rfl, rfl⟩ ⟨rfl, rfl⟩
    · replace h := qp_iff h1 h
      obtain ⟨h2, h⟩ := qp_gd_s h
      refine qp_run_E qp_ok235 4 (f := vp_in a3 4 ∧ True) (c' := (13, [some (.ref 43), some (.int a1), some (.int a2), some (.int a3)], [.int (I 43 (Int32.toNatClampNeg a3)), .int a2], qp_mk I J)) (by with_unfolding_all rfl) hd1 ⟨(qp_vin (c := 4) (by decide) h2.1 h2.2), trivial⟩ ?_
      refine qp_br_E qp_ok235 (f := 0 ≤ (I 43 (Int32.toNatClampNeg a3))) (ct := (20, [some (.ref 43), some (.int a1), some (.int a2), some (.int a3)], [.int a2], qp_mk I J)) (cf := (16, [some (.ref 43), some (.int a1), some (.int a2), some (.int a3)], [.int a2], qp_mk I J)) (by with_unfolding_all rfl) (fun h3 => ?_) (fun h3 => ?_)
      · replace h := qp_ift h3 h
        refine qp_run_E qp_ok235 5 (c' := (4, [some (.ref 43), some (.int a1), some (.int (a2 + 1)), some (.int (a3 + 1))], [], qp_mk I J)) (by with_unfolding_all rfl) hd1 trivial ?_
        exact ih a1 (a2 + 1) (a3 + 1) I J h
      · replace h := qp_iff h3 h
        refine qp_run_E qp_ok235 6 (c' := (4, [some (.ref 43), some (.int a1), some (.int (a2 + 0)), some (.int (a3 + 1))], [], qp_mk I J)) (by with_unfolding_all rfl) hd1 trivial ?_
        exact ih a1 (a2 + 0) (a3 + 1) I J h
def fM_manyThere_43 (p1 : Int32) (I : Nat → Nat → Int32) (J : Nat → Nat → Int64) : Option (Int32 × (Nat → Nat → Int32) × (Nat → Nat → Int64)) :=
  fM_manyThere_43_b4 100000 p1 0 0 I J
set_option maxRecDepth 8000 in
theorem gM_manyThere_43 (l : Launch) (G : qp_G) (p1 : Int32) (I : Nat → Nat → Int32) (J : Nat → Nat → Int64) {v : Int32} {I' : Nat → Nat → Int32} {J' : Nat → Nat → Int64} (h : fM_manyThere_43 p1 I J = some (v, I', J')) {d : Nat} (hd : 1 ≤ d) : qp_Met l G d 235 [.ref 43, .int p1] (qp_mk I J) 0 0 (qp_R8 (some (.int v)) I' J') := by
  have hd1 : Nat.ble 1 d = true := Nat.ble_eq_true_of_le (Nat.le_trans (by decide) hd)
  refine qp_Met_of (by decide) (by rw [qp_r235.2]; rfl) [some (.ref 43), some (.int p1), none, none] (by rw [qp_r235.2]; rfl) ?_
  unfold fM_manyThere_43 at h
  refine qp_run_E qp_ok235 4 (c' := (4, [some (.ref 43), some (.int p1), some (.int 0), some (.int 0)], [], qp_mk I J)) (by with_unfolding_all rfl) hd1 trivial ?_
  exact gM_manyThere_43_b4 hd 100000 p1 0 0 I J h
def fM_counted_b153   (s0 : Int32) (I : Nat → Nat → Int32) (J : Nat → Nat → Int64) : Option (Int32 × (Nat → Nat → Int32) × (Nat → Nat → Int64)) :=
  if (I 39 1) = 0 then (
    if (I 39 2) = 0 then (
      some (((s0 + 0) + 0), I, J)
    ) else (
      some (((s0 + 0) + 1), I, J)
    )
  ) else (
    if (I 39 2) = 0 then (
      some (((s0 + 1) + 0), I, J)
    ) else (
      some (((s0 + 1) + 1), I, J)
    )
  )
set_option maxRecDepth 8000 in
theorem gM_counted_b153 {l : Launch} {G : qp_G} {d : Nat} (hd : 5 ≤ d) {r : (Int32 × (Nat → Nat → Int32) × (Nat → Nat → Int64))} {I0 : Nat → Nat → Int32} {J0 : Nat → Nat → Int64}   : ∀ (s0 : Int32) (I : Nat → Nat → Int32) (J : Nat → Nat → Int64), fM_counted_b153  s0 I J = some r → qp_E l G d 232 (qp_mk I0 J0) 0 0 (qp_R8 (some (.int r.1)) r.2.1 r.2.2) (153, [some (.ref 36), none], [.int s0], qp_mk I J) := by
  have hd1 : Nat.ble 1 d = true := Nat.ble_eq_true_of_le (Nat.le_trans (by decide) hd)
  intro s0 I J h
  unfold fM_counted_b153 at h
  refine qp_run_E qp_ok232 4 (f := vp_in 1 3 ∧ True) (c' := (159, [some (.ref 36), none], [.int (I 39 1), .int s0], qp_mk I J)) (by with_unfolding_all rfl) hd1 ⟨(qp_vin (c := 3) (by decide) (by decide) (by decide)), trivial⟩ ?_
  refine qp_br_E qp_ok232 (f := (I 39 1) = 0) (ct := (166, [some (.ref 36), none], [.int s0], qp_mk I J)) (cf := (162, [some (.ref 36), none], [.int s0], qp_mk I J)) (by with_unfolding_all rfl) (fun h1 => ?_) (fun h1 => ?_)
  · replace h := qp_ift h1 h
    refine qp_run_E qp_ok232 6 (f := vp_in 2 3 ∧ True) (c' := (174, [some (.ref 36), none], [.int (I 39 2), .int (s0 + 0)], qp_mk I J)) (by with_unfolding_all rfl) hd1 ⟨(qp_vin (c := 3) (by decide) (by decide) (by decide)), trivial⟩ ?_
    refine qp_br_E qp_ok232 (f := (I 39 2) = 0) (ct := (181, [some (.ref 36), none], [.int (s0 + 0)], qp_mk I J)) (cf := (177, [some (.ref 36), none], [.int (s0 + 0)], qp_mk I J)) (by with_unfolding_all rfl) (fun h2 => ?_) (fun h2 => ?_)
    · replace h := qp_ift h2 h
      refine qp_run_E qp_ok232 2 (c' := (183, [some (.ref 36), none], [.int ((s0 + 0) + 0)], qp_mk I J)) (by with_unfolding_all rfl) hd1 trivial ?_
      obtain rfl := Option.some.inj h
      exact qp_retI_E qp_ok232 rfl qp_r232.1 ⟨rfl, rfl⟩ ⟨rfl, rfl⟩
    · replace h := qp_iff h2 h
      refine qp_run_E qp_ok232 3 (c' := (183, [some (.ref 36), none], [.int ((s0 + 0) + 1)], qp_mk I J)) (by with_unfolding_all rfl) hd1 trivial ?_
      obtain rfl := Option.some.inj h
      exact qp_retI_E qp_ok232 rfl qp_r232.1 ⟨rfl, rfl⟩ ⟨rfl, rfl⟩
  · replace h := qp_iff h1 h
    refine qp_run_E qp_ok232 7 (f := vp_in 2 3 ∧ True) (c' := (174, [some (.ref 36), none], [.int (I 39 2), .int (s0 + 1)], qp_mk I J)) (by with_unfolding_all rfl) hd1 ⟨(qp_vin (c := 3) (by decide) (by decide) (by decide)), trivial⟩ ?_
    refine qp_br_E qp_ok232 (f := (I 39 2) = 0) (ct := (181, [some (.ref 36), none], [.int (s0 + 1)], qp_mk I J)) (cf := (177, [some (.ref 36), none], [.int (s0 + 1)], qp_mk I J)) (by with_unfolding_all rfl) (fun h3 => ?_) (fun h3 => ?_)
    · replace h := qp_ift h3 h
      refine qp_run_E qp_ok232 2 (c' := (183, [some (.ref 36), none], [.int ((s0 + 1) + 0)], qp_mk I J)) (by with_unfolding_all rfl) hd1 trivial ?_
      obtain rfl := Option.some.inj h
      exact qp_retI_E qp_ok232 rfl qp_r232.1 ⟨rfl, rfl⟩ ⟨rfl, rfl⟩
    · replace h := qp_iff h3 h
      refine qp_run_E qp_ok232 3 (c' := (183, [some (.ref 36), none], [.int ((s0 + 1) + 1)], qp_mk I J)) (by with_unfolding_all rfl) hd1 trivial ?_
      obtain rfl := Option.some.inj h
      exact qp_retI_E qp_ok232 rfl qp_r232.1 ⟨rfl, rfl⟩ ⟨rfl, rfl⟩
def fM_counted (p1 : Int32) (I : Nat → Nat → Int32) (J : Nat → Nat → Int64) : Option (Int32 × (Nat → Nat → Int32) × (Nat → Nat → Int64)) :=
  if p1 = 0 then (
    some ((I 37 0), I, J)
  ) else
  if p1 = 1 then (
    some ((I 37 55), I, J)
  ) else
  if p1 = 2 then (
    some ((I 37 56), I, J)
  ) else
  if p1 = 3 then (
    some ((I 37 14), I, J)
  ) else
  if p1 = 4 then (
    qp_bd (fM_whoIs 1 I J) fun v1 I1 J1 =>
    some (v1, I1, J1)
  ) else
  if p1 = 5 then (
    qp_bd (fM_gotAll I J) fun v2 I2 J2 =>
    some (v2, I2, J2)
  ) else
  if p1 = 6 then (
    qp_bd (fM_whoIs 0 I J) fun v3 I3 J3 =>
    some (v3, I3, J3)
  ) else
  if p1 = 7 then (
    qp_bd (fM_manyOf 1 I J) fun v4 I4 J4 =>
    some (v4, I4, J4)
  ) else
  if p1 = 8 then (
    qp_bd (fM_manyOf 2 I J) fun v5 I5 J5 =>
    some (v5, I5, J5)
  ) else
  if p1 = 9 then (
    qp_bd (fM_manyThere_41 6 I J) fun v6 I6 J6 =>
    some (v6, I6, J6)
  ) else
  if p1 = 10 then (
    qp_bd (fM_manyThere_43 4 I J) fun v7 I7 J7 =>
    some (v7, I7, J7)
  ) else
  if (I 39 0) = 0 then (
    fM_counted_b153 0 I J
  ) else (
    fM_counted_b153 1 I J
  )
set_option maxRecDepth 8000 in
theorem gM_counted (l : Launch) (G : qp_G) (p1 : Int32) (I : Nat → Nat → Int32) (J : Nat → Nat → Int64) {v : Int32} {I' : Nat → Nat → Int32} {J' : Nat → Nat → Int64} (h : fM_counted p1 I J = some (v, I', J')) {d : Nat} (hd : 5 ≤ d) : qp_Met l G d 232 [.ref 36, .int p1] (qp_mk I J) 0 0 (qp_R8 (some (.int v)) I' J') := by
  have hd1 : Nat.ble 1 d = true := Nat.ble_eq_true_of_le (Nat.le_trans (by decide) hd)
  refine qp_Met_of (by decide) (by rw [qp_r232.2]; rfl) [some (.ref 36), some (.int p1)] (by rw [qp_r232.2]; rfl) ?_
  unfold fM_counted at h
  refine qp_run_E qp_ok232 1 (c' := (1, [some (.ref 36), some (.int p1)], [.int p1], qp_mk I J)) (by with_unfolding_all rfl) hd1 trivial ?_
  by_cases h1 : p1 = 0
  · replace h := qp_ift h1 h
    refine qp_run_E qp_ok232 1 (c' := (qp_swt 138 0 10 #[59, 66, 74, 82, 90, 96, 101, 107, 113, 119, 129] 1 p1, [some (.ref 36), some (.int p1)], [], qp_mk I J)) (by with_unfolding_all rfl) hd1 trivial ?_
    refine qp_E_pc (pc' := 60) (by rw [h1]; rfl) ?_
    refine qp_run_E qp_ok232 4 (f := vp_in 0 75 ∧ True) (c' := (66, [some (.ref 36), some (.int p1)], [.int (I 37 0)], qp_mk I J)) (by with_unfolding_all rfl) hd1 ⟨(qp_vin (c := 75) (by decide) (by decide) (by decide)), trivial⟩ ?_
    obtain ⟨rfl, rfl, rfl⟩ := qp_some3 h
    exact qp_retI_E qp_ok232 rfl qp_r232.1 ⟨rfl, rfl⟩ ⟨rfl, rfl⟩
  replace h := qp_iff h1 h
  by_cases h2 : p1 = 1
  · replace h := qp_ift h2 h
    refine qp_run_E qp_ok232 1 (c' := (qp_swt 138 0 10 #[59, 66, 74, 82, 90, 96, 101, 107, 113, 119, 129] 1 p1, [some (.ref 36), some (.int p1)], [], qp_mk I J)) (by with_unfolding_all rfl) hd1 trivial ?_
    refine qp_E_pc (pc' := 67) (by rw [h2]; rfl) ?_
    refine qp_run_E qp_ok232 4 (f := vp_in 55 75 ∧ True) (c' := (74, [some (.ref 36), some (.int p1)], [.int (I 37 55)], qp_mk I J)) (by with_unfolding_all rfl) hd1 ⟨(qp_vin (c := 75) (by decide) (by decide) (by decide)), trivial⟩ ?_
    obtain ⟨rfl, rfl, rfl⟩ := qp_some3 h
    exact qp_retI_E qp_ok232 rfl qp_r232.1 ⟨rfl, rfl⟩ ⟨rfl, rfl⟩
  replace h := qp_iff h2 h
  by_cases h3 : p1 = 2
  · replace h := qp_ift h3 h
    refine qp_run_E qp_ok232 1 (c' := (qp_swt 138 0 10 #[59, 66, 74, 82, 90, 96, 101, 107, 113, 119, 129] 1 p1, [some (.ref 36), some (.int p1)], [], qp_mk I J)) (by with_unfolding_all rfl) hd1 trivial ?_
    refine qp_E_pc (pc' := 75) (by rw [h3]; rfl) ?_
    refine qp_run_E qp_ok232 4 (f := vp_in 56 75 ∧ True) (c' := (82, [some (.ref 36), some (.int p1)], [.int (I 37 56)], qp_mk I J)) (by with_unfolding_all rfl) hd1 ⟨(qp_vin (c := 75) (by decide) (by decide) (by decide)), trivial⟩ ?_
    obtain ⟨rfl, rfl, rfl⟩ := qp_some3 h
    exact qp_retI_E qp_ok232 rfl qp_r232.1 ⟨rfl, rfl⟩ ⟨rfl, rfl⟩
  replace h := qp_iff h3 h
  by_cases h4 : p1 = 3
  · replace h := qp_ift h4 h
    refine qp_run_E qp_ok232 1 (c' := (qp_swt 138 0 10 #[59, 66, 74, 82, 90, 96, 101, 107, 113, 119, 129] 1 p1, [some (.ref 36), some (.int p1)], [], qp_mk I J)) (by with_unfolding_all rfl) hd1 trivial ?_
    refine qp_E_pc (pc' := 83) (by rw [h4]; rfl) ?_
    refine qp_run_E qp_ok232 4 (f := vp_in 14 75 ∧ True) (c' := (90, [some (.ref 36), some (.int p1)], [.int (I 37 14)], qp_mk I J)) (by with_unfolding_all rfl) hd1 ⟨(qp_vin (c := 75) (by decide) (by decide) (by decide)), trivial⟩ ?_
    obtain ⟨rfl, rfl, rfl⟩ := qp_some3 h
    exact qp_retI_E qp_ok232 rfl qp_r232.1 ⟨rfl, rfl⟩ ⟨rfl, rfl⟩
  replace h := qp_iff h4 h
  by_cases h5 : p1 = 4
  · replace h := qp_ift h5 h
    refine qp_run_E qp_ok232 1 (c' := (qp_swt 138 0 10 #[59, 66, 74, 82, 90, 96, 101, 107, 113, 119, 129] 1 p1, [some (.ref 36), some (.int p1)], [], qp_mk I J)) (by with_unfolding_all rfl) hd1 trivial ?_
    refine qp_E_pc (pc' := 91) (by rw [h5]; rfl) ?_
    refine qp_run_E qp_ok232 2 (c' := (93, [some (.ref 36), some (.int p1)], [.int 1, .ref 36], qp_mk I J)) (by with_unfolding_all rfl) hd1 trivial ?_
    obtain ⟨v1, I1, J1, e1, h⟩ := qp_bd_s h
    refine qp_cV qp_ok232 (rest := []) (oj := 10) qp_f233 rfl rfl (gM_whoIs l G 1 I J e1 (Nat.le_refl 4)) rfl rfl rfl rfl (Nat.le_trans (by decide) hd) ?_
    obtain ⟨rfl, rfl, rfl⟩ := qp_some3 h
    exact qp_retI_E qp_ok232 rfl qp_r232.1 ⟨rfl, rfl⟩ ⟨rfl, rfl⟩
  replace h := qp_iff h5 h
  by_cases h6 : p1 = 5
  · replace h := qp_ift h6 h
    refine qp_run_E qp_ok232 1 (c' := (qp_swt 138 0 10 #[59, 66, 74, 82, 90, 96, 101, 107, 113, 119, 129] 1 p1, [some (.ref 36), some (.int p1)], [], qp_mk I J)) (by with_unfolding_all rfl) hd1 trivial ?_
    refine qp_E_pc (pc' := 97) (by rw [h6]; rfl) ?_
    refine qp_run_E qp_ok232 1 (c' := (98, [some (.ref 36), some (.int p1)], [.ref 36], qp_mk I J)) (by with_unfolding_all rfl) hd1 trivial ?_
    obtain ⟨v2, I2, J2, e2, h⟩ := qp_bd_s h
    refine qp_cV qp_ok232 (rest := []) (oj := 10) qp_f227 rfl rfl (gM_gotAll l G I J e2 (Nat.le_refl 4)) rfl rfl rfl rfl (Nat.le_trans (by decide) hd) ?_
    obtain ⟨rfl, rfl, rfl⟩ := qp_some3 h
    exact qp_retI_E qp_ok232 rfl qp_r232.1 ⟨rfl, rfl⟩ ⟨rfl, rfl⟩
  replace h := qp_iff h6 h
  by_cases h7 : p1 = 6
  · replace h := qp_ift h7 h
    refine qp_run_E qp_ok232 1 (c' := (qp_swt 138 0 10 #[59, 66, 74, 82, 90, 96, 101, 107, 113, 119, 129] 1 p1, [some (.ref 36), some (.int p1)], [], qp_mk I J)) (by with_unfolding_all rfl) hd1 trivial ?_
    refine qp_E_pc (pc' := 102) (by rw [h7]; rfl) ?_
    refine qp_run_E qp_ok232 2 (c' := (104, [some (.ref 36), some (.int p1)], [.int 0, .ref 36], qp_mk I J)) (by with_unfolding_all rfl) hd1 trivial ?_
    obtain ⟨v3, I3, J3, e3, h⟩ := qp_bd_s h
    refine qp_cV qp_ok232 (rest := []) (oj := 10) qp_f233 rfl rfl (gM_whoIs l G 0 I J e3 (Nat.le_refl 4)) rfl rfl rfl rfl (Nat.le_trans (by decide) hd) ?_
    obtain ⟨rfl, rfl, rfl⟩ := qp_some3 h
    exact qp_retI_E qp_ok232 rfl qp_r232.1 ⟨rfl, rfl⟩ ⟨rfl, rfl⟩
  replace h := qp_iff h7 h
  by_cases h8 : p1 = 7
  · replace h := qp_ift h8 h
    refine qp_run_E qp_ok232 1 (c' := (qp_swt 138 0 10 #[59, 66, 74, 82, 90, 96, 101, 107, 113, 119, 129] 1 p1, [some (.ref 36), some (.int p1)], [], qp_mk I J)) (by with_unfolding_all rfl) hd1 trivial ?_
    refine qp_E_pc (pc' := 108) (by rw [h8]; rfl) ?_
    refine qp_run_E qp_ok232 2 (c' := (110, [some (.ref 36), some (.int p1)], [.int 1, .ref 36], qp_mk I J)) (by with_unfolding_all rfl) hd1 trivial ?_
    obtain ⟨v4, I4, J4, e4, h⟩ := qp_bd_s h
    refine qp_cV qp_ok232 (rest := []) (oj := 10) qp_f234 rfl rfl (gM_manyOf l G 1 I J e4 (Nat.le_refl 2)) rfl rfl rfl rfl (Nat.le_trans (by decide) hd) ?_
    obtain ⟨rfl, rfl, rfl⟩ := qp_some3 h
    exact qp_retI_E qp_ok232 rfl qp_r232.1 ⟨rfl, rfl⟩ ⟨rfl, rfl⟩
  replace h := qp_iff h8 h
  by_cases h9 : p1 = 8
  · replace h := qp_ift h9 h
    refine qp_run_E qp_ok232 1 (c' := (qp_swt 138 0 10 #[59, 66, 74, 82, 90, 96, 101, 107, 113, 119, 129] 1 p1, [some (.ref 36), some (.int p1)], [], qp_mk I J)) (by with_unfolding_all rfl) hd1 trivial ?_
    refine qp_E_pc (pc' := 114) (by rw [h9]; rfl) ?_
    refine qp_run_E qp_ok232 2 (c' := (116, [some (.ref 36), some (.int p1)], [.int 2, .ref 36], qp_mk I J)) (by with_unfolding_all rfl) hd1 trivial ?_
    obtain ⟨v5, I5, J5, e5, h⟩ := qp_bd_s h
    refine qp_cV qp_ok232 (rest := []) (oj := 10) qp_f234 rfl rfl (gM_manyOf l G 2 I J e5 (Nat.le_refl 2)) rfl rfl rfl rfl (Nat.le_trans (by decide) hd) ?_
    obtain ⟨rfl, rfl, rfl⟩ := qp_some3 h
    exact qp_retI_E qp_ok232 rfl qp_r232.1 ⟨rfl, rfl⟩ ⟨rfl, rfl⟩
  replace h := qp_iff h9 h
  by_cases h10 : p1 = 9
  · replace h := qp_ift h10 h
    refine qp_run_E qp_ok232 1 (c' := (qp_swt 138 0 10 #[59, 66, 74, 82, 90, 96, 101, 107, 113, 119, 129] 1 p1, [some (.ref 36), some (.int p1)], [], qp_mk I J)) (by with_unfolding_all rfl) hd1 trivial ?_
    refine qp_E_pc (pc' := 120) (by rw [h10]; rfl) ?_
    refine qp_run_E qp_ok232 3 (c' := (126, [some (.ref 36), some (.int p1)], [.int 6, .ref 41], qp_mk I J)) (by with_unfolding_all rfl) hd1 trivial ?_
    obtain ⟨v6, I6, J6, e6, h⟩ := qp_bd_s h
    refine qp_cS qp_ok232 (rest := []) (oj := 10) qp_f235 rfl rfl (gM_manyThere_41 l G 6 I J e6 (Nat.le_refl 1)) rfl rfl rfl (Nat.le_trans (by decide) hd) ?_
    obtain ⟨rfl, rfl, rfl⟩ := qp_some3 h
    exact qp_retI_E qp_ok232 rfl qp_r232.1 ⟨rfl, rfl⟩ ⟨rfl, rfl⟩
  replace h := qp_iff h10 h
  by_cases h11 : p1 = 10
  · replace h := qp_ift h11 h
    refine qp_run_E qp_ok232 1 (c' := (qp_swt 138 0 10 #[59, 66, 74, 82, 90, 96, 101, 107, 113, 119, 129] 1 p1, [some (.ref 36), some (.int p1)], [], qp_mk I J)) (by with_unfolding_all rfl) hd1 trivial ?_
    refine qp_E_pc (pc' := 130) (by rw [h11]; rfl) ?_
    refine qp_run_E qp_ok232 3 (c' := (135, [some (.ref 36), some (.int p1)], [.int 4, .ref 43], qp_mk I J)) (by with_unfolding_all rfl) hd1 trivial ?_
    obtain ⟨v7, I7, J7, e7, h⟩ := qp_bd_s h
    refine qp_cS qp_ok232 (rest := []) (oj := 10) qp_f235 rfl rfl (gM_manyThere_43 l G 4 I J e7 (Nat.le_refl 1)) rfl rfl rfl (Nat.le_trans (by decide) hd) ?_
    obtain ⟨rfl, rfl, rfl⟩ := qp_some3 h
    exact qp_retI_E qp_ok232 rfl qp_r232.1 ⟨rfl, rfl⟩ ⟨rfl, rfl⟩
  replace h := qp_iff h11 h
  refine qp_run_E qp_ok232 1 (c' := (qp_swt 138 0 10 #[59, 66, 74, 82, 90, 96, 101, 107, 113, 119, 129] 1 p1, [some (.ref 36), some (.int p1)], [], qp_mk I J)) (by with_unfolding_all rfl) hd1 trivial ?_
  refine qp_E_pc (pc' := 139) (qp_swt_df (lo' := 0) (hi' := 10) (by decide) (by decide) (by clear h; grind)) ?_
  refine qp_run_E qp_ok232 4 (f := vp_in 0 3 ∧ True) (c' := (145, [some (.ref 36), some (.int p1)], [.int (I 39 0)], qp_mk I J)) (by with_unfolding_all rfl) hd1 ⟨(qp_vin (c := 3) (by decide) (by decide) (by decide)), trivial⟩ ?_
  refine qp_br_E qp_ok232 (f := (I 39 0) = 0) (ct := (152, [some (.ref 36), some (.int p1)], [], qp_mk I J)) (cf := (148, [some (.ref 36), some (.int p1)], [], qp_mk I J)) (by with_unfolding_all rfl) (fun h12 => ?_) (fun h12 => ?_)
  · replace h := qp_ift h12 h
    refine qp_run_E qp_ok232 1 (c' := (153, [some (.ref 36), some (.int p1)], [.int 0], qp_mk I J)) (by with_unfolding_all rfl) hd1 trivial ?_
    exact qp_E_fg [true, false] (gM_counted_b153 hd 0 I J h)
  · replace h := qp_iff h12 h
    refine qp_run_E qp_ok232 2 (c' := (153, [some (.ref 36), some (.int p1)], [.int 1], qp_mk I J)) (by with_unfolding_all rfl) hd1 trivial ?_
    exact qp_E_fg [true, false] (gM_counted_b153 hd 1 I J h)
def fM_count (p1 : Int32) (I : Nat → Nat → Int32) (J : Nat → Nat → Int64) : Option (Int32 × (Nat → Nat → Int32) × (Nat → Nat → Int64)) :=
  qp_bd (fM_in (Int32.toInt64 p1) 0 11 I J) fun v1 I1 J1 =>
  if v1 = 0 then (
    some ((-1), I1, J1)
  ) else (
    qp_bd (fM_counted p1 I1 J1) fun v2 I2 J2 =>
    some (v2, I2, J2)
  )
set_option maxRecDepth 8000 in
theorem gM_count (l : Launch) (G : qp_G) (p1 : Int32) (I : Nat → Nat → Int32) (J : Nat → Nat → Int64) {v : Int32} {I' : Nat → Nat → Int32} {J' : Nat → Nat → Int64} (h : fM_count p1 I J = some (v, I', J')) {d : Nat} (hd : 6 ≤ d) : qp_Met l G d 231 [.ref 36, .int p1] (qp_mk I J) 0 0 (qp_R8 (some (.int v)) I' J') := by
  have hd1 : Nat.ble 1 d = true := Nat.ble_eq_true_of_le (Nat.le_trans (by decide) hd)
  refine qp_Met_of (by decide) (by rw [qp_r231.2]; rfl) [some (.ref 36), some (.int p1)] (by rw [qp_r231.2]; rfl) ?_
  unfold fM_count at h
  refine qp_run_E qp_ok231 4 (c' := (6, [some (.ref 36), some (.int p1)], [.long 11, .long 0, .long (Int32.toInt64 p1)], qp_mk I J)) (by with_unfolding_all rfl) hd1 trivial ?_
  obtain ⟨v1, I1, J1, e1, h⟩ := qp_bd_s h
  refine qp_cS qp_ok231 (rest := []) (oj := 10) qp_f150 rfl rfl (gM_in l G (Int32.toInt64 p1) 0 11 I J e1 (Nat.le_refl 1)) rfl rfl rfl (Nat.le_trans (by decide) hd) ?_
  refine qp_br_E qp_ok231 (f := v1 = 0) (ct := (20, [some (.ref 36), some (.int p1)], [], qp_mk I1 J1)) (cf := (12, [some (.ref 36), some (.int p1)], [], qp_mk I1 J1)) (by with_unfolding_all rfl) (fun h1 => ?_) (fun h1 => ?_)
  · replace h := qp_ift h1 h
    refine qp_run_E qp_ok231 1 (c' := (21, [some (.ref 36), some (.int p1)], [.int (-1)], qp_mk I1 J1)) (by with_unfolding_all rfl) hd1 trivial ?_
    obtain ⟨rfl, rfl, rfl⟩ := qp_some3 h
    exact qp_retI_E qp_ok231 rfl qp_r231.1 ⟨rfl, rfl⟩ ⟨rfl, rfl⟩
  · replace h := qp_iff h1 h
    refine qp_run_E qp_ok231 2 (c' := (14, [some (.ref 36), some (.int p1)], [.int p1, .ref 36], qp_mk I1 J1)) (by with_unfolding_all rfl) hd1 trivial ?_
    obtain ⟨v2, I2, J2, e2, h⟩ := qp_bd_s h
    refine qp_cV qp_ok231 (rest := []) (oj := 10) qp_f232 rfl rfl (gM_counted l G p1 I1 J1 e2 (Nat.le_refl 5)) rfl rfl rfl rfl (Nat.le_trans (by decide) hd) ?_
    refine qp_run_E qp_ok231 1 (c' := (21, [some (.ref 36), some (.int p1)], [.int v2], qp_mk I2 J2)) (by with_unfolding_all rfl) hd1 trivial ?_
    obtain ⟨rfl, rfl, rfl⟩ := qp_some3 h
    exact qp_retI_E qp_ok231 rfl qp_r231.1 ⟨rfl, rfl⟩ ⟨rfl, rfl⟩
def fM_finding  (I : Nat → Nat → Int32) (J : Nat → Nat → Int64) : Option (Int32 × (Nat → Nat → Int32) × (Nat → Nat → Int64)) :=
  some ((I 36 8), I, J)
set_option maxRecDepth 8000 in
theorem gM_finding (l : Launch) (G : qp_G)  (I : Nat → Nat → Int32) (J : Nat → Nat → Int64) {v : Int32} {I' : Nat → Nat → Int32} {J' : Nat → Nat → Int64} (h : fM_finding  I J = some (v, I', J')) {d : Nat} (hd : 1 ≤ d) : qp_Met l G d 236 [.ref 36] (qp_mk I J) 0 0 (qp_R8 (some (.int v)) I' J') := by
  have hd1 : Nat.ble 1 d = true := Nat.ble_eq_true_of_le (Nat.le_trans (by decide) hd)
  refine qp_Met_of (by decide) (by rw [qp_r236.2]; rfl) [some (.ref 36)] (by rw [qp_r236.2]; rfl) ?_
  unfold fM_finding at h
  refine qp_run_E qp_ok236 2 (c' := (4, [some (.ref 36)], [.int (I 36 8)], qp_mk I J)) (by with_unfolding_all rfl) hd1 trivial ?_
  obtain ⟨rfl, rfl, rfl⟩ := qp_some3 h
  exact qp_retI_E qp_ok236 rfl qp_r236.1 ⟨rfl, rfl⟩ ⟨rfl, rfl⟩
def fM_findings (p1 : Int32) (I : Nat → Nat → Int32) (J : Nat → Nat → Int64) : Option (Int32 × (Nat → Nat → Int32) × (Nat → Nat → Int64)) :=
  qp_bd (fM_in (Int32.toInt64 p1) 1 5 I J) fun v1 I1 J1 =>
  if v1 = 0 then (
    some ((-1), I1, J1)
  ) else (
    qp_gd ((0 ≤ p1 ∧ p1 < 6)) <|
    some ((I1 44 (Int32.toNatClampNeg p1)), I1, J1)
  )
set_option maxRecDepth 8000 in
theorem gM_findings (l : Launch) (G : qp_G) (p1 : Int32) (I : Nat → Nat → Int32) (J : Nat → Nat → Int64) {v : Int32} {I' : Nat → Nat → Int32} {J' : Nat → Nat → Int64} (h : fM_findings p1 I J = some (v, I', J')) {d : Nat} (hd : 2 ≤ d) : qp_Met l G d 237 [.ref 36, .int p1] (qp_mk I J) 0 0 (qp_R8 (some (.int v)) I' J') := by
  have hd1 : Nat.ble 1 d = true := Nat.ble_eq_true_of_le (Nat.le_trans (by decide) hd)
  refine qp_Met_of (by decide) (by rw [qp_r237.2]; rfl) [some (.ref 36), some (.int p1)] (by rw [qp_r237.2]; rfl) ?_
  unfold fM_findings at h
  refine qp_run_E qp_ok237 4 (c' := (6, [some (.ref 36), some (.int p1)], [.long 5, .long 1, .long (Int32.toInt64 p1)], qp_mk I J)) (by with_unfolding_all rfl) hd1 trivial ?_
  obtain ⟨v1, I1, J1, e1, h⟩ := qp_bd_s h
  refine qp_cS qp_ok237 (rest := []) (oj := 10) qp_f150 rfl rfl (gM_in l G (Int32.toInt64 p1) 1 5 I J e1 (Nat.le_refl 1)) rfl rfl rfl (Nat.le_trans (by decide) hd) ?_
  refine qp_br_E qp_ok237 (f := v1 = 0) (ct := (21, [some (.ref 36), some (.int p1)], [], qp_mk I1 J1)) (cf := (12, [some (.ref 36), some (.int p1)], [], qp_mk I1 J1)) (by with_unfolding_all rfl) (fun h1 => ?_) (fun h1 => ?_)
  · replace h := qp_ift h1 h
    refine qp_run_E qp_ok237 1 (c' := (22, [some (.ref 36), some (.int p1)], [.int (-1)], qp_mk I1 J1)) (by with_unfolding_all rfl) hd1 trivial ?_
    obtain ⟨rfl, rfl, rfl⟩ := qp_some3 h
    exact qp_retI_E qp_ok237 rfl qp_r237.1 ⟨rfl, rfl⟩ ⟨rfl, rfl⟩
  · replace h := qp_iff h1 h
    obtain ⟨h2, h⟩ := qp_gd_s h
    refine qp_run_E qp_ok237 5 (f := vp_in p1 6 ∧ True) (c' := (22, [some (.ref 36), some (.int p1)], [.int (I1 44 (Int32.toNatClampNeg p1))], qp_mk I1 J1)) (by with_unfolding_all rfl) hd1 ⟨(qp_vin (c := 6) (by decide) h2.1 h2.2), trivial⟩ ?_
    obtain ⟨rfl, rfl, rfl⟩ := qp_some3 h
    exact qp_retI_E qp_ok237 rfl qp_r237.1 ⟨rfl, rfl⟩ ⟨rfl, rfl⟩
def fM_digest_b275  (k253 : Int64 → Int32 → (Nat → Nat → Int32) → (Nat → Nat → Int64) → Option (Int64 × (Nat → Nat → Int32) × (Nat → Nat → Int64))) : Nat → Int64 → Int32 → Int32 → (Nat → Nat → Int32) → (Nat → Nat → Int64) → Option (Int64 × (Nat → Nat → Int32) × (Nat → Nat → Int64))
  | 0, _, _, _, _, _ => none
  | n + 1, a1, a3, a4, I, J =>
    qp_gd ((0 ≤ a3 ∧ a3 < 4)) <|
    if (I 43 (Int32.toNatClampNeg a3)) ≤ a4 then (
      k253 a1 (a3 + 1) I J
    ) else (
      qp_gd ((0 ≤ (((60 : Int32) * a3) + a4) ∧ (((60 : Int32) * a3) + a4) < 240)) <|
      fM_digest_b275 k253 n (((31 : Int64) * a1) + (Int32.toInt64 (I 42 (Int32.toNatClampNeg (((60 : Int32) * a3) + a4))))) a3 (a4 + 1) I J
    )
set_option maxRecDepth 8000 in
theorem gM_digest_b275 {l : Launch} {G : qp_G} {d : Nat} (hd : 6 ≤ d) {r : (Int64 × (Nat → Nat → Int32) × (Nat → Nat → Int64))} {I0 : Nat → Nat → Int32} {J0 : Nat → Nat → Int64}  (k253 : Int64 → Int32 → (Nat → Nat → Int32) → (Nat → Nat → Int64) → Option (Int64 × (Nat → Nat → Int32) × (Nat → Nat → Int64))) (hk253 : ∀ a1 a3 I J, k253 a1 a3 I J = some r → qp_E l G d 238 (qp_mk I0 J0) 0 0 (qp_R8 (some (.long r.1)) r.2.1 r.2.2) (253, [some (.ref 36), some (.long a1), none, some (.int a3), none], [], qp_mk I J)) : ∀ (n : Nat) (a1 : Int64) (a3 : Int32) (a4 : Int32) (I : Nat → Nat → Int32) (J : Nat → Nat → Int64), fM_digest_b275 k253 n a1 a3 a4 I J = some r → qp_E l G d 238 (qp_mk I0 J0) 0 0 (qp_R8 (some (.long r.1)) r.2.1 r.2.2) (275, [some (.ref 36), some (.long a1), none, some (.int a3), some (.int a4)], [], qp_mk I J) := by
  have hd1 : Nat.ble 1 d = true := Nat.ble_eq_true_of_le (Nat.le_trans (by decide) hd)
  intro n
  induction n with
  | zero => intro a1 a3 a4 I J h; exact absurd h (by simp [fM_digest_b275])
  | succ n ih =>
    intro a1 a3 a4 I J h
    rw [fM_digest_b275] at h
    obtain ⟨h1, h⟩ := qp_gd_s h
    refine qp_run_E qp_ok238 5 (f := vp_in a3 4 ∧ True) (c' := (283, [some (.ref 36), some (.long a1), none, some (.int a3), some (.int a4)], [.int (I 43 (Int32.toNatClampNeg a3)), .int a4], qp_mk I J)) (by with_unfolding_all rfl) hd1 ⟨(qp_vin (c := 4) (by decide) h1.1 h1.2), trivial⟩ ?_
    refine qp_br_E qp_ok238 (f := (I 43 (Int32.toNatClampNeg a3)) ≤ a4) (ct := (312, [some (.ref 36), some (.long a1), none, some (.int a3), some (.int a4)], [], qp_mk I J)) (cf := (286, [some (.ref 36), some (.long a1), none, some (.int a3), some (.int a4)], [], qp_mk I J)) (by with_unfolding_all rfl) (fun h2 => ?_) (fun h2 => ?_)
    · replace h := qp_ift h2 h
      refine qp_run_E qp_ok238 2 (c' := (253, [some (.ref 36), some (.long a1), none, some (.int (a3 + 1)), some (.int a4)], [], qp_mk I J)) (by with_unfolding_all rfl) hd1 trivial ?_
      exact qp_E_fg [true, true, false, true, false] (hk253 a1 (a3 + 1) I J h)
    · replace h := qp_iff h2 h
      obtain ⟨h3, h⟩ := qp_gd_s h
      refine qp_run_E qp_ok238 16 (f := vp_in (((60 : Int32) * a3) + a4) 240 ∧ True) (c' := (275, [some (.ref 36), some (.long (((31 : Int64) * a1) + (Int32.toInt64 (I 42 (Int32.toNatClampNeg (((60 : Int32) * a3) + a4)))))), none, some (.int a3), some (.int (a4 + 1))], [], qp_mk I J)) (by with_unfolding_all rfl) hd1 ⟨(qp_vin (c := 240) (by decide) h3.1 h3.2), trivial⟩ ?_
      exact ih (((31 : Int64) * a1) + (Int32.toInt64 (I 42 (Int32.toNatClampNeg (((60 : Int32) * a3) + a4))))) a3 (a4 + 1) I J h
def fM_digest_b253  : Nat → Int64 → Int32 → (Nat → Nat → Int32) → (Nat → Nat → Int64) → Option (Int64 × (Nat → Nat → Int32) × (Nat → Nat → Int64))
  | 0, _, _, _, _ => none
  | n + 1, a1, a3, I, J =>
    if 4 ≤ a3 then (
      some (a1, I, J)
    ) else (
      qp_gd ((0 ≤ a3 ∧ a3 < 4)) <|
      fM_digest_b275 (fun a0 a1 I J => fM_digest_b253 n a0 a1 I J) 100000 (((31 : Int64) * a1) + (Int32.toInt64 (I 43 (Int32.toNatClampNeg a3)))) a3 0 I J
    )
set_option maxRecDepth 8000 in
theorem gM_digest_b253 {l : Launch} {G : qp_G} {d : Nat} (hd : 6 ≤ d) {r : (Int64 × (Nat → Nat → Int32) × (Nat → Nat → Int64))} {I0 : Nat → Nat → Int32} {J0 : Nat → Nat → Int64}   : ∀ (n : Nat) (a1 : Int64) (a3 : Int32) (I : Nat → Nat → Int32) (J : Nat → Nat → Int64), fM_digest_b253  n a1 a3 I J = some r → qp_E l G d 238 (qp_mk I0 J0) 0 0 (qp_R8 (some (.long r.1)) r.2.1 r.2.2) (253, [some (.ref 36), some (.long a1), none, some (.int a3), none], [], qp_mk I J) := by
  have hd1 : Nat.ble 1 d = true := Nat.ble_eq_true_of_le (Nat.le_trans (by decide) hd)
  intro n
  induction n with
  | zero => intro a1 a3 I J h; exact absurd h (by simp [fM_digest_b253])
  | succ n ih =>
    intro a1 a3 I J h
    rw [fM_digest_b253] at h
    refine qp_run_E qp_ok238 2 (c' := (255, [some (.ref 36), some (.long a1), none, some (.int a3), none], [.int 4, .int a3], qp_mk I J)) (by with_unfolding_all rfl) hd1 trivial ?_
    refine qp_br_E qp_ok238 (f := 4 ≤ a3) (ct := (318, [some (.ref 36), some (.long a1), none, some (.int a3), none], [], qp_mk I J)) (cf := (258, [some (.ref 36), some (.long a1), none, some (.int a3), none], [], qp_mk I J)) (by with_unfolding_all rfl) (fun h1 => ?_) (fun h1 => ?_)
    · replace h := qp_ift h1 h
      refine qp_run_E qp_ok238 1 (c' := (319, [some (.ref 36), some (.long a1), none, some (.int a3), none], [.long a1], qp_mk I J)) (by with_unfolding_all rfl) hd1 trivial ?_
      obtain rfl := Option.some.inj h
      exact qp_retL_E qp_ok238 rfl qp_r238.1 ⟨rfl, rfl⟩ ⟨rfl, rfl⟩
    · replace h := qp_iff h1 h
      obtain ⟨h2, h⟩ := qp_gd_s h
      refine qp_run_E qp_ok238 12 (f := vp_in a3 4 ∧ True) (c' := (275, [some (.ref 36), some (.long (((31 : Int64) * a1) + (Int32.toInt64 (I 43 (Int32.toNatClampNeg a3))))), none, some (.int a3), some (.int 0)], [], qp_mk I J)) (by with_unfolding_all rfl) hd1 ⟨(qp_vin (c := 4) (by decide) h2.1 h2.2), trivial⟩ ?_
      exact gM_digest_b275 hd (fun a0 a1 I J => fM_digest_b253 n a0 a1 I J) (fun a0 a1 I J h => ih a0 a1 I J h) 100000 (((31 : Int64) * a1) + (Int32.toInt64 (I 43 (Int32.toNatClampNeg a3)))) a3 0 I J h
def fM_digest_b208  (k185 : Int64 → Int32 → (Nat → Nat → Int32) → (Nat → Nat → Int64) → Option (Int64 × (Nat → Nat → Int32) × (Nat → Nat → Int64))) : Nat → Int64 → Int32 → Int32 → (Nat → Nat → Int32) → (Nat → Nat → Int64) → Option (Int64 × (Nat → Nat → Int32) × (Nat → Nat → Int64))
  | 0, _, _, _, _, _ => none
  | n + 1, a1, a3, a4, I, J =>
    qp_gd ((0 ≤ a3 ∧ a3 < 6)) <|
    if (I 41 (Int32.toNatClampNeg a3)) ≤ a4 then (
      k185 a1 (a3 + 1) I J
    ) else (
      qp_gd ((0 ≤ (((40 : Int32) * a3) + a4) ∧ (((40 : Int32) * a3) + a4) < 240)) <|
      fM_digest_b208 k185 n (((31 : Int64) * a1) + (Int32.toInt64 (I 40 (Int32.toNatClampNeg (((40 : Int32) * a3) + a4))))) a3 (a4 + 1) I J
    )
set_option maxRecDepth 8000 in
theorem gM_digest_b208 {l : Launch} {G : qp_G} {d : Nat} (hd : 6 ≤ d) {r : (Int64 × (Nat → Nat → Int32) × (Nat → Nat → Int64))} {I0 : Nat → Nat → Int32} {J0 : Nat → Nat → Int64}  (k185 : Int64 → Int32 → (Nat → Nat → Int32) → (Nat → Nat → Int64) → Option (Int64 × (Nat → Nat → Int32) × (Nat → Nat → Int64))) (hk185 : ∀ a1 a3 I J, k185 a1 a3 I J = some r → qp_E l G d 238 (qp_mk I0 J0) 0 0 (qp_R8 (some (.long r.1)) r.2.1 r.2.2) (185, [some (.ref 36), some (.long a1), none, some (.int a3), none], [], qp_mk I J)) : ∀ (n : Nat) (a1 : Int64) (a3 : Int32) (a4 : Int32) (I : Nat → Nat → Int32) (J : Nat → Nat → Int64), fM_digest_b208 k185 n a1 a3 a4 I J = some r → qp_E l G d 238 (qp_mk I0 J0) 0 0 (qp_R8 (some (.long r.1)) r.2.1 r.2.2) (208, [some (.ref 36), some (.long a1), none, some (.int a3), some (.int a4)], [], qp_mk I J) := by
  have hd1 : Nat.ble 1 d = true := Nat.ble_eq_true_of_le (Nat.le_trans (by decide) hd)
  intro n
  induction n with
  | zero => intro a1 a3 a4 I J h; exact absurd h (by simp [fM_digest_b208])
  | succ n ih =>
    intro a1 a3 a4 I J h
    rw [fM_digest_b208] at h
    obtain ⟨h1, h⟩ := qp_gd_s h
    refine qp_run_E qp_ok238 5 (f := vp_in a3 6 ∧ True) (c' := (216, [some (.ref 36), some (.long a1), none, some (.int a3), some (.int a4)], [.int (I 41 (Int32.toNatClampNeg a3)), .int a4], qp_mk I J)) (by with_unfolding_all rfl) hd1 ⟨(qp_vin (c := 6) (by decide) h1.1 h1.2), trivial⟩ ?_
    refine qp_br_E qp_ok238 (f := (I 41 (Int32.toNatClampNeg a3)) ≤ a4) (ct := (245, [some (.ref 36), some (.long a1), none, some (.int a3), some (.int a4)], [], qp_mk I J)) (cf := (219, [some (.ref 36), some (.long a1), none, some (.int a3), some (.int a4)], [], qp_mk I J)) (by with_unfolding_all rfl) (fun h2 => ?_) (fun h2 => ?_)
    · replace h := qp_ift h2 h
      refine qp_run_E qp_ok238 2 (c' := (185, [some (.ref 36), some (.long a1), none, some (.int (a3 + 1)), some (.int a4)], [], qp_mk I J)) (by with_unfolding_all rfl) hd1 trivial ?_
      exact qp_E_fg [true, true, false, true, false] (hk185 a1 (a3 + 1) I J h)
    · replace h := qp_iff h2 h
      obtain ⟨h3, h⟩ := qp_gd_s h
      refine qp_run_E qp_ok238 16 (f := vp_in (((40 : Int32) * a3) + a4) 240 ∧ True) (c' := (208, [some (.ref 36), some (.long (((31 : Int64) * a1) + (Int32.toInt64 (I 40 (Int32.toNatClampNeg (((40 : Int32) * a3) + a4)))))), none, some (.int a3), some (.int (a4 + 1))], [], qp_mk I J)) (by with_unfolding_all rfl) hd1 ⟨(qp_vin (c := 240) (by decide) h3.1 h3.2), trivial⟩ ?_
      exact ih (((31 : Int64) * a1) + (Int32.toInt64 (I 40 (Int32.toNatClampNeg (((40 : Int32) * a3) + a4))))) a3 (a4 + 1) I J h
def fM_digest_b185  : Nat → Int64 → Int32 → (Nat → Nat → Int32) → (Nat → Nat → Int64) → Option (Int64 × (Nat → Nat → Int32) × (Nat → Nat → Int64))
  | 0, _, _, _, _ => none
  | n + 1, a1, a3, I, J =>
    if 6 ≤ a3 then (
      fM_digest_b253 100000 a1 0 I J
    ) else (
      qp_gd ((0 ≤ a3 ∧ a3 < 6)) <|
      fM_digest_b208 (fun a0 a1 I J => fM_digest_b185 n a0 a1 I J) 100000 (((31 : Int64) * a1) + (Int32.toInt64 (I 41 (Int32.toNatClampNeg a3)))) a3 0 I J
    )
set_option maxRecDepth 8000 in
theorem gM_digest_b185 {l : Launch} {G : qp_G} {d : Nat} (hd : 6 ≤ d) {r : (Int64 × (Nat → Nat → Int32) × (Nat → Nat → Int64))} {I0 : Nat → Nat → Int32} {J0 : Nat → Nat → Int64}   : ∀ (n : Nat) (a1 : Int64) (a3 : Int32) (I : Nat → Nat → Int32) (J : Nat → Nat → Int64), fM_digest_b185  n a1 a3 I J = some r → qp_E l G d 238 (qp_mk I0 J0) 0 0 (qp_R8 (some (.long r.1)) r.2.1 r.2.2) (185, [some (.ref 36), some (.long a1), none, some (.int a3), none], [], qp_mk I J) := by
  have hd1 : Nat.ble 1 d = true := Nat.ble_eq_true_of_le (Nat.le_trans (by decide) hd)
  intro n
  induction n with
  | zero => intro a1 a3 I J h; exact absurd h (by simp [fM_digest_b185])
  | succ n ih =>
    intro a1 a3 I J h
    rw [fM_digest_b185] at h
    refine qp_run_E qp_ok238 2 (c' := (188, [some (.ref 36), some (.long a1), none, some (.int a3), none], [.int 6, .int a3], qp_mk I J)) (by with_unfolding_all rfl) hd1 trivial ?_
    refine qp_br_E qp_ok238 (f := 6 ≤ a3) (ct := (251, [some (.ref 36), some (.long a1), none, some (.int a3), none], [], qp_mk I J)) (cf := (191, [some (.ref 36), some (.long a1), none, some (.int a3), none], [], qp_mk I J)) (by with_unfolding_all rfl) (fun h1 => ?_) (fun h1 => ?_)
    · replace h := qp_ift h1 h
      refine qp_run_E qp_ok238 2 (c' := (253, [some (.ref 36), some (.long a1), none, some (.int 0), none], [], qp_mk I J)) (by with_unfolding_all rfl) hd1 trivial ?_
      exact gM_digest_b253 hd 100000 a1 0 I J h
    · replace h := qp_iff h1 h
      obtain ⟨h2, h⟩ := qp_gd_s h
      refine qp_run_E qp_ok238 12 (f := vp_in a3 6 ∧ True) (c' := (208, [some (.ref 36), some (.long (((31 : Int64) * a1) + (Int32.toInt64 (I 41 (Int32.toNatClampNeg a3))))), none, some (.int a3), some (.int 0)], [], qp_mk I J)) (by with_unfolding_all rfl) hd1 ⟨(qp_vin (c := 6) (by decide) h2.1 h2.2), trivial⟩ ?_
      exact gM_digest_b208 hd (fun a0 a1 I J => fM_digest_b185 n a0 a1 I J) (fun a0 a1 I J h => ih a0 a1 I J h) 100000 (((31 : Int64) * a1) + (Int32.toInt64 (I 41 (Int32.toNatClampNeg a3)))) a3 0 I J h
def fM_digest_b139  : Nat → Int64 → Int32 → (Nat → Nat → Int32) → (Nat → Nat → Int64) → Option (Int64 × (Nat → Nat → Int32) × (Nat → Nat → Int64))
  | 0, _, _, _, _ => none
  | n + 1, a1, a3, I, J =>
    if 3 ≤ a3 then (
      fM_digest_b185 100000 a1 0 I J
    ) else (
      qp_gd ((0 ≤ a3 ∧ a3 < 3)) <|
      if (I 39 (Int32.toNatClampNeg a3)) = 0 then (
        fM_digest_b139 n (((31 : Int64) * a1) + (Int32.toInt64 (-1))) (a3 + 1) I J
      ) else (
        qp_gd ((0 ≤ (((75 : Int32) * a3) + 14) ∧ (((75 : Int32) * a3) + 14) < 225)) <|
        fM_digest_b139 n (((31 : Int64) * a1) + (Int32.toInt64 (I 38 (Int32.toNatClampNeg (((75 : Int32) * a3) + 14))))) (a3 + 1) I J
      )
    )
set_option maxRecDepth 8000 in
theorem gM_digest_b139 {l : Launch} {G : qp_G} {d : Nat} (hd : 6 ≤ d) {r : (Int64 × (Nat → Nat → Int32) × (Nat → Nat → Int64))} {I0 : Nat → Nat → Int32} {J0 : Nat → Nat → Int64}   : ∀ (n : Nat) (a1 : Int64) (a3 : Int32) (I : Nat → Nat → Int32) (J : Nat → Nat → Int64), fM_digest_b139  n a1 a3 I J = some r → qp_E l G d 238 (qp_mk I0 J0) 0 0 (qp_R8 (some (.long r.1)) r.2.1 r.2.2) (139, [some (.ref 36), some (.long a1), none, some (.int a3), none], [], qp_mk I J) := by
  have hd1 : Nat.ble 1 d = true := Nat.ble_eq_true_of_le (Nat.le_trans (by decide) hd)
  intro n
  induction n with
  | zero => intro a1 a3 I J h; exact absurd h (by simp [fM_digest_b139])
  | succ n ih =>
    intro a1 a3 I J h
    rw [fM_digest_b139] at h
    refine qp_run_E qp_ok238 2 (c' := (141, [some (.ref 36), some (.long a1), none, some (.int a3), none], [.int 3, .int a3], qp_mk I J)) (by with_unfolding_all rfl) hd1 trivial ?_
    refine qp_br_E qp_ok238 (f := 3 ≤ a3) (ct := (183, [some (.ref 36), some (.long a1), none, some (.int a3), none], [], qp_mk I J)) (cf := (144, [some (.ref 36), some (.long a1), none, some (.int a3), none], [], qp_mk I J)) (by with_unfolding_all rfl) (fun h1 => ?_) (fun h1 => ?_)
    · replace h := qp_ift h1 h
      refine qp_run_E qp_ok238 2 (c' := (185, [some (.ref 36), some (.long a1), none, some (.int 0), none], [], qp_mk I J)) (by with_unfolding_all rfl) hd1 trivial ?_
      exact gM_digest_b185 hd 100000 a1 0 I J h
    · replace h := qp_iff h1 h
      obtain ⟨h2, h⟩ := qp_gd_s h
      refine qp_run_E qp_ok238 7 (f := vp_in a3 3 ∧ True) (c' := (155, [some (.ref 36), some (.long a1), none, some (.int a3), none], [.int (I 39 (Int32.toNatClampNeg a3)), .long ((31 : Int64) * a1)], qp_mk I J)) (by with_unfolding_all rfl) hd1 ⟨(qp_vin (c := 3) (by decide) h2.1 h2.2), trivial⟩ ?_
      refine qp_br_E qp_ok238 (f := (I 39 (Int32.toNatClampNeg a3)) = 0) (ct := (173, [some (.ref 36), some (.long a1), none, some (.int a3), none], [.long ((31 : Int64) * a1)], qp_mk I J)) (cf := (158, [some (.ref 36), some (.long a1), none, some (.int a3), none], [.long ((31 : Int64) * a1)], qp_mk I J)) (by with_unfolding_all rfl) (fun h3 => ?_) (fun h3 => ?_)
      · replace h := qp_ift h3 h
        refine qp_run_E qp_ok238 6 (c' := (139, [some (.ref 36), some (.long (((31 : Int64) * a1) + (Int32.toInt64 (-1)))), none, some (.int (a3 + 1)), none], [], qp_mk I J)) (by with_unfolding_all rfl) hd1 trivial ?_
        exact ih (((31 : Int64) * a1) + (Int32.toInt64 (-1))) (a3 + 1) I J h
      · replace h := qp_iff h3 h
        obtain ⟨h4, h⟩ := qp_gd_s h
        refine qp_run_E qp_ok238 14 (f := vp_in (((75 : Int32) * a3) + 14) 225 ∧ True) (c' := (139, [some (.ref 36), some (.long (((31 : Int64) * a1) + (Int32.toInt64 (I 38 (Int32.toNatClampNeg (((75 : Int32) * a3) + 14)))))), none, some (.int (a3 + 1)), none], [], qp_mk I J)) (by with_unfolding_all rfl) hd1 ⟨(qp_vin (c := 225) (by decide) h4.1 h4.2), trivial⟩ ?_
        exact ih (((31 : Int64) * a1) + (Int32.toInt64 (I 38 (Int32.toNatClampNeg (((75 : Int32) * a3) + 14))))) (a3 + 1) I J h
def fM_digest_b82  : Nat → Int64 → Int32 → (Nat → Nat → Int32) → (Nat → Nat → Int64) → Option (Int64 × (Nat → Nat → Int32) × (Nat → Nat → Int64))
  | 0, _, _, _, _ => none
  | n + 1, a1, a3, I, J =>
    if (I 37 56) ≤ a3 then (
      fM_digest_b139 100000 a1 0 I J
    ) else (
      qp_gd ((0 ≤ ((57 : Int32) + a3) ∧ ((57 : Int32) + a3) < 75)) <|
      fM_digest_b82 n (((31 : Int64) * (((31 : Int64) * a1) + (Int32.toInt64 ((I 37 (Int32.toNatClampNeg ((57 : Int32) + a3))) / 8)))) + (Int32.toInt64 ((I 37 (Int32.toNatClampNeg ((57 : Int32) + a3))) - (I 37 (Int32.toNatClampNeg ((57 : Int32) + a3))) / 8 * 8))) (a3 + 1) I J
    )
set_option maxRecDepth 8000 in
theorem gM_digest_b82 {l : Launch} {G : qp_G} {d : Nat} (hd : 6 ≤ d) {r : (Int64 × (Nat → Nat → Int32) × (Nat → Nat → Int64))} {I0 : Nat → Nat → Int32} {J0 : Nat → Nat → Int64}   : ∀ (n : Nat) (a1 : Int64) (a3 : Int32) (I : Nat → Nat → Int32) (J : Nat → Nat → Int64), fM_digest_b82  n a1 a3 I J = some r → qp_E l G d 238 (qp_mk I0 J0) 0 0 (qp_R8 (some (.long r.1)) r.2.1 r.2.2) (82, [some (.ref 36), some (.long a1), none, some (.int a3), none], [], qp_mk I J) := by
  have hd1 : Nat.ble 1 d = true := Nat.ble_eq_true_of_le (Nat.le_trans (by decide) hd)
  intro n
  induction n with
  | zero => intro a1 a3 I J h; exact absurd h (by simp [fM_digest_b82])
  | succ n ih =>
    intro a1 a3 I J h
    rw [fM_digest_b82] at h
    refine qp_run_E qp_ok238 5 (f := vp_in 56 75 ∧ True) (c' := (90, [some (.ref 36), some (.long a1), none, some (.int a3), none], [.int (I 37 56), .int a3], qp_mk I J)) (by with_unfolding_all rfl) hd1 ⟨(qp_vin (c := 75) (by decide) (by decide) (by decide)), trivial⟩ ?_
    refine qp_br_E qp_ok238 (f := (I 37 56) ≤ a3) (ct := (137, [some (.ref 36), some (.long a1), none, some (.int a3), none], [], qp_mk I J)) (cf := (93, [some (.ref 36), some (.long a1), none, some (.int a3), none], [], qp_mk I J)) (by with_unfolding_all rfl) (fun h1 => ?_) (fun h1 => ?_)
    · replace h := qp_ift h1 h
      refine qp_run_E qp_ok238 2 (c' := (139, [some (.ref 36), some (.long a1), none, some (.int 0), none], [], qp_mk I J)) (by with_unfolding_all rfl) hd1 trivial ?_
      exact gM_digest_b139 hd 100000 a1 0 I J h
    · replace h := qp_iff h1 h
      obtain ⟨h2, h⟩ := qp_gd_s h
      refine qp_run_E qp_ok238 28 (f := vp_in ((57 : Int32) + a3) 75 ∧ ¬ (8 : Int32) = 0 ∧ vp_in ((57 : Int32) + a3) 75 ∧ ¬ (8 : Int32) = 0 ∧ True) (c' := (82, [some (.ref 36), some (.long (((31 : Int64) * (((31 : Int64) * a1) + (Int32.toInt64 ((I 37 (Int32.toNatClampNeg ((57 : Int32) + a3))) / 8)))) + (Int32.toInt64 ((I 37 (Int32.toNatClampNeg ((57 : Int32) + a3))) - (I 37 (Int32.toNatClampNeg ((57 : Int32) + a3))) / 8 * 8)))), none, some (.int (a3 + 1)), none], [], qp_mk I J)) (by with_unfolding_all rfl) hd1 ⟨(qp_vin (c := 75) (by decide) h2.1 h2.2), (by decide), (qp_vin (c := 75) (by decide) h2.1 h2.2), (by decide), trivial⟩ ?_
      exact ih (((31 : Int64) * (((31 : Int64) * a1) + (Int32.toInt64 ((I 37 (Int32.toNatClampNeg ((57 : Int32) + a3))) / 8)))) + (Int32.toInt64 ((I 37 (Int32.toNatClampNeg ((57 : Int32) + a3))) - (I 37 (Int32.toNatClampNeg ((57 : Int32) + a3))) / 8 * 8))) (a3 + 1) I J h
def fM_digest_b46  (k33 : Int64 → Int32 → (Nat → Nat → Int32) → (Nat → Nat → Int64) → Option (Int64 × (Nat → Nat → Int32) × (Nat → Nat → Int64))) : Nat → Int64 → Int32 → Int32 → (Nat → Nat → Int32) → (Nat → Nat → Int64) → Option (Int64 × (Nat → Nat → Int32) × (Nat → Nat → Int64))
  | 0, _, _, _, _, _ => none
  | n + 1, a1, a3, a4, I, J =>
    if 7 ≤ a4 then (
      k33 a1 (a3 + 1) I J
    ) else (
      qp_bd (fM_toldOf a3 a4 I J) fun v1 I1 J1 =>
      fM_digest_b46 k33 n (((31 : Int64) * a1) + (Int32.toInt64 v1)) a3 (a4 + 1) I1 J1
    )
set_option maxRecDepth 8000 in
theorem gM_digest_b46 {l : Launch} {G : qp_G} {d : Nat} (hd : 6 ≤ d) {r : (Int64 × (Nat → Nat → Int32) × (Nat → Nat → Int64))} {I0 : Nat → Nat → Int32} {J0 : Nat → Nat → Int64}  (k33 : Int64 → Int32 → (Nat → Nat → Int32) → (Nat → Nat → Int64) → Option (Int64 × (Nat → Nat → Int32) × (Nat → Nat → Int64))) (hk33 : ∀ a1 a3 I J, k33 a1 a3 I J = some r → qp_E l G d 238 (qp_mk I0 J0) 0 0 (qp_R8 (some (.long r.1)) r.2.1 r.2.2) (33, [some (.ref 36), some (.long a1), none, some (.int a3), none], [], qp_mk I J)) : ∀ (n : Nat) (a1 : Int64) (a3 : Int32) (a4 : Int32) (I : Nat → Nat → Int32) (J : Nat → Nat → Int64), fM_digest_b46 k33 n a1 a3 a4 I J = some r → qp_E l G d 238 (qp_mk I0 J0) 0 0 (qp_R8 (some (.long r.1)) r.2.1 r.2.2) (46, [some (.ref 36), some (.long a1), none, some (.int a3), some (.int a4)], [], qp_mk I J) := by
  have hd1 : Nat.ble 1 d = true := Nat.ble_eq_true_of_le (Nat.le_trans (by decide) hd)
  intro n
  induction n with
  | zero => intro a1 a3 a4 I J h; exact absurd h (by simp [fM_digest_b46])
  | succ n ih =>
    intro a1 a3 a4 I J h
    rw [fM_digest_b46] at h
    refine qp_run_E qp_ok238 2 (c' := (50, [some (.ref 36), some (.long a1), none, some (.int a3), some (.int a4)], [.int 7, .int a4], qp_mk I J)) (by with_unfolding_all rfl) hd1 trivial ?_
    refine qp_br_E qp_ok238 (f := 7 ≤ a4) (ct := (74, [some (.ref 36), some (.long a1), none, some (.int a3), some (.int a4)], [], qp_mk I J)) (cf := (53, [some (.ref 36), some (.long a1), none, some (.int a3), some (.int a4)], [], qp_mk I J)) (by with_unfolding_all rfl) (fun h1 => ?_) (fun h1 => ?_)
    · replace h := qp_ift h1 h
      refine qp_run_E qp_ok238 2 (c' := (33, [some (.ref 36), some (.long a1), none, some (.int (a3 + 1)), some (.int a4)], [], qp_mk I J)) (by with_unfolding_all rfl) hd1 trivial ?_
      exact qp_E_fg [true, true, false, true, false] (hk33 a1 (a3 + 1) I J h)
    · replace h := qp_iff h1 h
      refine qp_run_E qp_ok238 6 (c' := (62, [some (.ref 36), some (.long a1), none, some (.int a3), some (.int a4)], [.int a4, .int a3, .ref 36, .long ((31 : Int64) * a1)], qp_mk I J)) (by with_unfolding_all rfl) hd1 trivial ?_
      obtain ⟨v1, I1, J1, e1, h⟩ := qp_bd_s h
      refine qp_cV qp_ok238 (rest := [.long ((31 : Int64) * a1)]) (oj := 10) qp_f173 rfl rfl (gM_toldOf l G a3 a4 I J e1 (Nat.le_refl 4)) rfl rfl rfl rfl (Nat.le_trans (by decide) hd) ?_
      refine qp_run_E qp_ok238 5 (c' := (46, [some (.ref 36), some (.long (((31 : Int64) * a1) + (Int32.toInt64 v1))), none, some (.int a3), some (.int (a4 + 1))], [], qp_mk I1 J1)) (by with_unfolding_all rfl) hd1 trivial ?_
      exact ih (((31 : Int64) * a1) + (Int32.toInt64 v1)) a3 (a4 + 1) I1 J1 h
def fM_digest_b33  : Nat → Int64 → Int32 → (Nat → Nat → Int32) → (Nat → Nat → Int64) → Option (Int64 × (Nat → Nat → Int32) × (Nat → Nat → Int64))
  | 0, _, _, _, _ => none
  | n + 1, a1, a3, I, J =>
    if (I 37 0) ≤ a3 then (
      fM_digest_b82 100000 a1 0 I J
    ) else (
      fM_digest_b46 (fun a0 a1 I J => fM_digest_b33 n a0 a1 I J) 100000 a1 a3 0 I J
    )
set_option maxRecDepth 8000 in
theorem gM_digest_b33 {l : Launch} {G : qp_G} {d : Nat} (hd : 6 ≤ d) {r : (Int64 × (Nat → Nat → Int32) × (Nat → Nat → Int64))} {I0 : Nat → Nat → Int32} {J0 : Nat → Nat → Int64}   : ∀ (n : Nat) (a1 : Int64) (a3 : Int32) (I : Nat → Nat → Int32) (J : Nat → Nat → Int64), fM_digest_b33  n a1 a3 I J = some r → qp_E l G d 238 (qp_mk I0 J0) 0 0 (qp_R8 (some (.long r.1)) r.2.1 r.2.2) (33, [some (.ref 36), some (.long a1), none, some (.int a3), none], [], qp_mk I J) := by
  have hd1 : Nat.ble 1 d = true := Nat.ble_eq_true_of_le (Nat.le_trans (by decide) hd)
  intro n
  induction n with
  | zero => intro a1 a3 I J h; exact absurd h (by simp [fM_digest_b33])
  | succ n ih =>
    intro a1 a3 I J h
    rw [fM_digest_b33] at h
    refine qp_run_E qp_ok238 5 (f := vp_in 0 75 ∧ True) (c' := (40, [some (.ref 36), some (.long a1), none, some (.int a3), none], [.int (I 37 0), .int a3], qp_mk I J)) (by with_unfolding_all rfl) hd1 ⟨(qp_vin (c := 75) (by decide) (by decide) (by decide)), trivial⟩ ?_
    refine qp_br_E qp_ok238 (f := (I 37 0) ≤ a3) (ct := (80, [some (.ref 36), some (.long a1), none, some (.int a3), none], [], qp_mk I J)) (cf := (43, [some (.ref 36), some (.long a1), none, some (.int a3), none], [], qp_mk I J)) (by with_unfolding_all rfl) (fun h1 => ?_) (fun h1 => ?_)
    · replace h := qp_ift h1 h
      refine qp_run_E qp_ok238 2 (c' := (82, [some (.ref 36), some (.long a1), none, some (.int 0), none], [], qp_mk I J)) (by with_unfolding_all rfl) hd1 trivial ?_
      exact gM_digest_b82 hd 100000 a1 0 I J h
    · replace h := qp_iff h1 h
      refine qp_run_E qp_ok238 2 (c' := (46, [some (.ref 36), some (.long a1), none, some (.int a3), some (.int 0)], [], qp_mk I J)) (by with_unfolding_all rfl) hd1 trivial ?_
      exact gM_digest_b46 hd (fun a0 a1 I J => fM_digest_b33 n a0 a1 I J) (fun a0 a1 I J h => ih a0 a1 I J h) 100000 a1 a3 0 I J h
def fM_digest_b6  : Nat → Int64 → Int32 → (Nat → Nat → Int32) → (Nat → Nat → Int64) → Option (Int64 × (Nat → Nat → Int32) × (Nat → Nat → Int64))
  | 0, _, _, _, _ => none
  | n + 1, a1, a3, I, J =>
    if 12 ≤ a3 then (
      fM_digest_b33 100000 a1 0 I J
    ) else (
      qp_bd (fM_counted a3 I J) fun v1 I1 J1 =>
      fM_digest_b6 n (((31 : Int64) * a1) + (Int32.toInt64 v1)) (a3 + 1) I1 J1
    )
set_option maxRecDepth 8000 in
theorem gM_digest_b6 {l : Launch} {G : qp_G} {d : Nat} (hd : 6 ≤ d) {r : (Int64 × (Nat → Nat → Int32) × (Nat → Nat → Int64))} {I0 : Nat → Nat → Int32} {J0 : Nat → Nat → Int64}   : ∀ (n : Nat) (a1 : Int64) (a3 : Int32) (I : Nat → Nat → Int32) (J : Nat → Nat → Int64), fM_digest_b6  n a1 a3 I J = some r → qp_E l G d 238 (qp_mk I0 J0) 0 0 (qp_R8 (some (.long r.1)) r.2.1 r.2.2) (6, [some (.ref 36), some (.long a1), none, some (.int a3), none], [], qp_mk I J) := by
  have hd1 : Nat.ble 1 d = true := Nat.ble_eq_true_of_le (Nat.le_trans (by decide) hd)
  intro n
  induction n with
  | zero => intro a1 a3 I J h; exact absurd h (by simp [fM_digest_b6])
  | succ n ih =>
    intro a1 a3 I J h
    rw [fM_digest_b6] at h
    refine qp_run_E qp_ok238 2 (c' := (9, [some (.ref 36), some (.long a1), none, some (.int a3), none], [.int 12, .int a3], qp_mk I J)) (by with_unfolding_all rfl) hd1 trivial ?_
    refine qp_br_E qp_ok238 (f := 12 ≤ a3) (ct := (31, [some (.ref 36), some (.long a1), none, some (.int a3), none], [], qp_mk I J)) (cf := (12, [some (.ref 36), some (.long a1), none, some (.int a3), none], [], qp_mk I J)) (by with_unfolding_all rfl) (fun h1 => ?_) (fun h1 => ?_)
    · replace h := qp_ift h1 h
      refine qp_run_E qp_ok238 2 (c' := (33, [some (.ref 36), some (.long a1), none, some (.int 0), none], [], qp_mk I J)) (by with_unfolding_all rfl) hd1 trivial ?_
      exact gM_digest_b33 hd 100000 a1 0 I J h
    · replace h := qp_iff h1 h
      refine qp_run_E qp_ok238 5 (c' := (19, [some (.ref 36), some (.long a1), none, some (.int a3), none], [.int a3, .ref 36, .long ((31 : Int64) * a1)], qp_mk I J)) (by with_unfolding_all rfl) hd1 trivial ?_
      obtain ⟨v1, I1, J1, e1, h⟩ := qp_bd_s h
      refine qp_cV qp_ok238 (rest := [.long ((31 : Int64) * a1)]) (oj := 10) qp_f232 rfl rfl (gM_counted l G a3 I J e1 (Nat.le_refl 5)) rfl rfl rfl rfl (Nat.le_trans (by decide) hd) ?_
      refine qp_run_E qp_ok238 5 (c' := (6, [some (.ref 36), some (.long (((31 : Int64) * a1) + (Int32.toInt64 v1))), none, some (.int (a3 + 1)), none], [], qp_mk I1 J1)) (by with_unfolding_all rfl) hd1 trivial ?_
      exact ih (((31 : Int64) * a1) + (Int32.toInt64 v1)) (a3 + 1) I1 J1 h
def fM_digest  (I : Nat → Nat → Int32) (J : Nat → Nat → Int64) : Option (Int64 × (Nat → Nat → Int32) × (Nat → Nat → Int64)) :=
  fM_digest_b6 100000 17 0 I J
set_option maxRecDepth 8000 in
theorem gM_digest (l : Launch) (G : qp_G)  (I : Nat → Nat → Int32) (J : Nat → Nat → Int64) {v : Int64} {I' : Nat → Nat → Int32} {J' : Nat → Nat → Int64} (h : fM_digest  I J = some (v, I', J')) {d : Nat} (hd : 6 ≤ d) : qp_Met l G d 238 [.ref 36] (qp_mk I J) 0 0 (qp_R8 (some (.long v)) I' J') := by
  have hd1 : Nat.ble 1 d = true := Nat.ble_eq_true_of_le (Nat.le_trans (by decide) hd)
  refine qp_Met_of (by decide) (by rw [qp_r238.2]; rfl) [some (.ref 36), none, none, none, none] (by rw [qp_r238.2]; rfl) ?_
  unfold fM_digest at h
  refine qp_run_E qp_ok238 4 (c' := (6, [some (.ref 36), some (.long 17), none, some (.int 0), none], [], qp_mk I J)) (by with_unfolding_all rfl) hd1 trivial ?_
  exact gM_digest_b6 hd 100000 17 0 I J h

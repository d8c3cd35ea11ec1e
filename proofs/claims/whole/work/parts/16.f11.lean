/-! methods as functions, 11 -/
def fM_digest_b275  (k253 : Int64 → Int32 → (Nat → Nat → Int32) → (Nat → Nat → Int64) → Option (Int64 × (Nat → Nat → Int32) × (Nat → Nat → Int64))) : Nat → Int64 → Int32 → Int32 → (Nat → Nat → Int32) → (Nat → Nat → Int64) → Option (Int64 × (Nat → Nat → Int32) × (Nat → Nat → Int64))
  | 0, _, _, _, _, _ => none
  | n + 1, a1, a3, a4, I, J =>
    qp_gd ((0 ≤ a3 ∧ a3 < 4)) <|
    if (I 43 (Int32.toNatClampNeg a3)) ≤ a4 then (
      k253 a1 (a3 + 1) I J
    ) else (
      qp_gd ((0 ≤ (((60 : Int32) * a3) + a4) ∧ (((60 : Int32) * a3) + a4) < 240)) <|
      fM_digest_b275 k253 n (((31 : Int64) * a1) + (Int32.toInt64 (I 42 (Int32.toNatClampNeg (((60 : Int32) * a3) + a4))))) a3 (a4 + 1) I J
    )
set_option maxRecDepth 8000 in
theorem gM_digest_b275 {l : Launch} {G : qp_G} {d : Nat} (hd : 6 ≤ d) {r : (Int64 × (Nat → Nat → Int32) × (Nat → Nat → Int64))} {I0 : Nat → Nat → Int32} {J0 : Nat → Nat → Int64}  (k253 : Int64 → Int32 → (Nat → Nat → Int32) → (Nat → Nat → Int64) → Option (Int64 × (Nat → Nat → Int32) × (Nat → Nat → Int64))) (hk253 : ∀ a1 a3 I J, k253 a1 a3 I J = some r → qp_E l G d 237 (qp_mk I0 J0) 0 0 (qp_R8 (some (.long r.1)) r.2.1 r.2.2) (253, [some (.ref 36), some (.long a1), none, some (.int a3), none], [], qp_mk I J)) : ∀ (n : Nat) (a1 : Int64) (a3 : Int32) (a4 : Int32) (I : Nat → Nat → Int32) (J : Nat → Nat → Int64), fM_digest_b275 k253 n a1 a3 a4 I J = some r → qp_E l G d 237 (qp_mk I0 J0) 0 0 (qp_R8 (some (.long r.1)) r.2.1 r.2.2) (275, [some (.ref 36), some (.long a1), none, some (.int a3), some (.int a4)], [], qp_mk I J) := by
  have hd1 : Nat.ble 1 d = true := Nat.ble_eq_true_of_le (Nat.le_trans (by decide) hd)
  intro n
  induction n with
  | zero => intro a1 a3 a4 I J h; exact absurd h (by simp [fM_digest_b275])
  | succ n ih =>
    intro a1 a3 a4 I J h
    rw [fM_digest_b275] at h
    obtain ⟨h1, h⟩ := qp_gd_s h
    refine qp_run_E qp_ok237 5 (f := vp_in a3 4 ∧ True) (c' := (283, [some (.ref 36), some (.long a1), none, some (.int a3), some (.int a4)], [.int (I 43 (Int32.toNatClampNeg a3)), .int a4], qp_mk I J)) (by with_unfolding_all rfl) hd1 ⟨(qp_vin (c := 4) (by decide) h1.1 h1.2), trivial⟩ ?_
    refine qp_br_E qp_ok237 (f := (I 43 (Int32.toNatClampNeg a3)) ≤ a4) (ct := (312, [some (.ref 36), some (.long a1), none, some (.int a3), some (.int a4)], [], qp_mk I J)) (cf := (286, [some (.ref 36), some (.long a1), none, some (.int a3), some (.int a4)], [], qp_mk I J)) (by with_unfolding_all rfl) (fun h2 => ?_) (fun h2 => ?_)
    · replace h := qp_ift h2 h
      refine qp_run_E qp_ok237 2 (c' := (253, [some (.ref 36), some (.long a1), none, some (.int (a3 + 1)), some (.int a4)], [], qp_mk I J)) (by with_unfolding_all rfl) hd1 trivial ?_
      exact qp_E_fg [true, true, false, true, false] (hk253 a1 (a3 + 1) I J h)
    · replace h := qp_iff h2 h
      obtain ⟨h3, h⟩ := qp_gd_s h
      refine qp_run_E qp_ok237 16 (f := vp_in (((60 : Int32) * a3) + a4) 240 ∧ True) (c' := (275, [some (.ref 36), some (.long (((31 : Int64) * a1) + (Int32.toInt64 (I 42 (Int32.toNatClampNeg (((60 : Int32) * a3) + a4)))))), none, some (.int a3), some (.int (a4 + 1))], [], qp_mk I J)) (by with_unfolding_all rfl) hd1 ⟨(qp_vin (c := 240) (by decide) h3.1 h3.2), trivial⟩ ?_
      exact ih (((31 : Int64) * a1) + (Int32.toInt64 (I 42 (Int32.toNatClampNeg (((60 : Int32) * a3) + a4))))) a3 (a4 + 1) I J h
def fM_digest_b253  : Nat → Int64 → Int32 → (Nat → Nat → Int32) → (Nat → Nat → Int64) → Option (Int64 × (Nat → Nat → Int32) × (Nat → Nat → Int64))
  | 0, _, _, _, _ => none
  | n + 1, a1, a3, I, J =>
    if 4 ≤ a3 then (
      some (a1, I, J)
    ) else (
      qp_gd ((0 ≤ a3 ∧ a3 < 4)) <|
      fM_digest_b275 (fun a0 a1 I J => fM_digest_b253 n a0 a1 I J) 100000 (((31 : Int64) * a1) + (Int32.toInt64 (I 43 (Int32.toNatClampNeg a3)))) a3 0 I J
    )
set_option maxRecDepth 8000 in
theorem gM_digest_b253 {l : Launch} {G : qp_G} {d : Nat} (hd : 6 ≤ d) {r : (Int64 × (Nat → Nat → Int32) × (Nat → Nat → Int64))} {I0 : Nat → Nat → Int32} {J0 : Nat → Nat → Int64}   : ∀ (n : Nat) (a1 : Int64) (a3 : Int32) (I : Nat → Nat → Int32) (J : Nat → Nat → Int64), fM_digest_b253  n a1 a3 I J = some r → qp_E l G d 237 (qp_mk I0 J0) 0 0 (qp_R8 (some (.long r.1)) r.2.1 r.2.2) (253, [some (.ref 36), some (.long a1), none, some (.int a3), none], [], qp_mk I J) := by
  have hd1 : Nat.ble 1 d = true := Nat.ble_eq_true_of_le (Nat.le_trans (by decide) hd)
  intro n
  induction n with
  | zero => intro a1 a3 I J h; exact absurd h (by simp [fM_digest_b253])
  | succ n ih =>
    intro a1 a3 I J h
    rw [fM_digest_b253] at h
    refine qp_run_E qp_ok237 2 (c' := (255, [some (.ref 36), some (.long a1), none, some (.int a3), none], [.int 4, .int a3], qp_mk I J)) (by with_unfolding_all rfl) hd1 trivial ?_
    refine qp_br_E qp_ok237 (f := 4 ≤ a3) (ct := (318, [some (.ref 36), some (.long a1), none, some (.int a3), none], [], qp_mk I J)) (cf := (258, [some (.ref 36), some (.long a1), none, some (.int a3), none], [], qp_mk I J)) (by with_unfolding_all rfl) (fun h1 => ?_) (fun h1 => ?_)
    · replace h := qp_ift h1 h
      refine qp_run_E qp_ok237 1 (c' := (319, [some (.ref 36), some (.long a1), none, some (.int a3), none], [.long a1], qp_mk I J)) (by with_unfolding_all rfl) hd1 trivial ?_
      obtain rfl := Option.some.inj h
      exact qp_retL_E qp_ok237 rfl qp_r237.1 ⟨rfl, rfl⟩ ⟨rfl, rfl⟩
    · replace h := qp_iff h1 h
      obtain ⟨h2, h⟩ := qp_gd_s h
      refine qp_run_E qp_ok237 12 (f := vp_in a3 4 ∧ True) (c' := (275, [some (.ref 36), some (.long (((31 : Int64) * a1) + (Int32.toInt64 (I 43 (Int32.toNatClampNeg a3))))), none, some (.int a3), some (.int 0)], [], qp_mk I J)) (by with_unfolding_all rfl) hd1 ⟨(qp_vin (c := 4) (by decide) h2.1 h2.2), trivial⟩ ?_
      exact gM_digest_b275 hd (fun a0 a1 I J => fM_digest_b253 n a0 a1 I J) (fun a0 a1 I J h => ih a0 a1 I J h) 100000 (((31 : Int64) * a1) + (Int32.toInt64 (I 43 (Int32.toNatClampNeg a3)))) a3 0 I J h
def fM_digest_b208  (k185 : Int64 → Int32 → (Nat → Nat → Int32) → (Nat → Nat → Int64) → Option (Int64 × (Nat → Nat → Int32) × (Nat → Nat → Int64))) : Nat → Int64 → Int32 → Int32 → (Nat → Nat → Int32) → (Nat → Nat → Int64) → Option (Int64 × (Nat → Nat → Int32) × (Nat → Nat → Int64))
  | 0, _, _, _, _, _ => none
  | n + 1, a1, a3, a4, I, J =>
    qp_gd ((0 ≤ a3 ∧ a3 < 6)) <|
    if (I 41 (Int32.toNatClampNeg a3)) ≤ a4 then (
      k185 a1 (a3 + 1) I J
    ) else (
      qp_gd ((0 ≤ (((40 : Int32) * a3) + a4) ∧ (((40 : Int32) * a3) + a4) < 240)) <|
      fM_digest_b208 k185 n (((31 : Int64) * a1) + (Int32.toInt64 (I 40 (Int32.toNatClampNeg (((40 : Int32) * a3) + a4))))) a3 (a4 + 1) I J
    )
set_option maxRecDepth 8000 in
theorem gM_digest_b208 {l : Launch} {G : qp_G} {d : Nat} (hd : 6 ≤ d) {r : (Int64 × (Nat → Nat → Int32) × (Nat → Nat → Int64))} {I0 : Nat → Nat → Int32} {J0 : Nat → Nat → Int64}  (k185 : Int64 → Int32 → (Nat → Nat → Int32) → (Nat → Nat → Int64) → Option (Int64 × (Nat → Nat → Int32) × (Nat → Nat → Int64))) (hk185 : ∀ a1 a3 I J, k185 a1 a3 I J = some r → qp_E l G d 237 (qp_mk I0 J0) 0 0 (qp_R8 (some (.long r.1)) r.2.1 r.2.2) (185, [some (.ref 36), some (.long a1), none, some (.int a3), none], [], qp_mk I J)) : ∀ (n : Nat) (a1 : Int64) (a3 : Int32) (a4 : Int32) (I : Nat → Nat → Int32) (J : Nat → Nat → Int64), fM_digest_b208 k185 n a1 a3 a4 I J = some r → qp_E l G d 237 (qp_mk I0 J0) 0 0 (qp_R8 (some (.long r.1)) r.2.1 r.2.2) (208, [some (.ref 36), some (.long a1), none, some (.int a3), some (.int a4)], [], qp_mk I J) := by
  have hd1 : Nat.ble 1 d = true := Nat.ble_eq_true_of_le (Nat.le_trans (by decide) hd)
  intro n
  induction n with
  | zero => intro a1 a3 a4 I J h; exact absurd h (by simp [fM_digest_b208])
  | succ n ih =>
    intro a1 a3 a4 I J h
    rw [fM_digest_b208] at h
    obtain ⟨h1, h⟩ := qp_gd_s h
    refine qp_run_E qp_ok237 5 (f := vp_in a3 6 ∧ True) (c' := (216, [some (.ref 36), some (.long a1), none, some (.int a3), some (.int a4)], [.int (I 41 (Int32.toNatClampNeg a3)), .int a4], qp_mk I J)) (by with_unfolding_all rfl) hd1 ⟨(qp_vin (c := 6) (by decide) h1.1 h1.2), trivial⟩ ?_
    refine qp_br_E qp_ok237 (f := (I 41 (Int32.toNatClampNeg a3)) ≤ a4) (ct := (245, [some (.ref 36), some (.long a1), none, some (.int a3), some (.int a4)], [], qp_mk I J)) (cf := (219, [some (.ref 36), some (.long a1), none, some (.int a3), some (.int a4)], [], qp_mk I J)) (by with_unfolding_all rfl) (fun h2 => ?_) (fun h2 => ?_)
    · replace h := qp_ift h2 h
      refine qp_run_E qp_ok237 2 (c' := (185, [some (.ref 36), some (.long a1), none, some (.int (a3 + 1)), some (.int a4)], [], qp_mk I J)) (by with_unfolding_all rfl) hd1 trivial ?_
      exact qp_E_fg [true, true, false, true, false] (hk185 a1 (a3 + 1) I J h)
    · replace h := qp_iff h2 h
      obtain ⟨h3, h⟩ := qp_gd_s h
      refine qp_run_E qp_ok237 16 (f := vp_in (((40 : Int32) * a3) + a4) 240 ∧ True) (c' := (208, [some (.ref 36), some (.long (((31 : Int64) * a1) + (Int32.toInt64 (I 40 (Int32.toNatClampNeg (((40 : Int32) * a3) + a4)))))), none, some (.int a3), some (.int (a4 + 1))], [], qp_mk I J)) (by with_unfolding_all rfl) hd1 ⟨(qp_vin (c := 240) (by decide) h3.1 h3.2), trivial⟩ ?_
      exact ih (((31 : Int64) * a1) + (Int32.toInt64 (I 40 (Int32.toNatClampNeg (((40 : Int32) * a3) + a4))))) a3 (a4 + 1) I J h
def fM_digest_b185  : Nat → Int64 → Int32 → (Nat → Nat → Int32) → (Nat → Nat → Int64) → Option (Int64 × (Nat → Nat → Int32) × (Nat → Nat → Int64))
  | 0, _, _, _, _ => none
  | n + 1, a1, a3, I, J =>
    if 6 ≤ a3 then (
      fM_digest_b253 100000 a1 0 I J
    ) else (
      qp_gd ((0 ≤ a3 ∧ a3 < 6)) <|
      fM_digest_b208 (fun a0 a1 I J => fM_digest_b185 n a0 a1 I J) 100000 (((31 : Int64) * a1) + (Int32.toInt64 (I 41 (Int32.toNatClampNeg a3)))) a3 0 I J
    )
set_option maxRecDepth 8000 in
theorem gM_digest_b185 {l : Launch} {G : qp_G} {d : Nat} (hd : 6 ≤ d) {r : (Int64 × (Nat → Nat → Int32) × (Nat → Nat → Int64))} {I0 : Nat → Nat → Int32} {J0 : Nat → Nat → Int64}   : ∀ (n : Nat) (a1 : Int64) (a3 : Int32) (I : Nat → Nat → Int32) (J : Nat → Nat → Int64), fM_digest_b185  n a1 a3 I J = some r → qp_E l G d 237 (qp_mk I0 J0) 0 0 (qp_R8 (some (.long r.1)) r.2.1 r.2.2) (185, [some (.ref 36), some (.long a1), none, some (.int a3), none], [], qp_mk I J) := by
  have hd1 : Nat.ble 1 d = true := Nat.ble_eq_true_of_le (Nat.le_trans (by decide) hd)
  intro n
  induction n with
  | zero => intro a1 a3 I J h; exact absurd h (by simp [fM_digest_b185])
  | succ n ih =>
    intro a1 a3 I J h
    rw [fM_digest_b185] at h
    refine qp_run_E qp_ok237 2 (c' := (188, [some (.ref 36), some (.long a1), none, some (.int a3), none], [.int 6, .int a3], qp_mk I J)) (by with_unfolding_all rfl) hd1 trivial ?_
    refine qp_br_E qp_ok237 (f := 6 ≤ a3) (ct := (251, [some (.ref 36), some (.long a1), none, some (.int a3), none], [], qp_mk I J)) (cf := (191, [some (.ref 36), some (.long a1), none, some (.int a3), none], [], qp_mk I J)) (by with_unfolding_all rfl) (fun h1 => ?_) (fun h1 => ?_)
    · replace h := qp_ift h1 h
      refine qp_run_E qp_ok237 2 (c' := (253, [some (.ref 36), some (.long a1), none, some (.int 0), none], [], qp_mk I J)) (by with_unfolding_all rfl) hd1 trivial ?_
      exact gM_digest_b253 hd 100000 a1 0 I J h
    · replace h := qp_iff h1 h
      obtain ⟨h2, h⟩ := qp_gd_s h
      refine qp_run_E qp_ok237 12 (f := vp_in a3 6 ∧ True) (c' := (208, [some (.ref 36), some (.long (((31 : Int64) * a1) + (Int32.toInt64 (I 41 (Int32.toNatClampNeg a3))))), none, some (.int a3), some (.int 0)], [], qp_mk I J)) (by with_unfolding_all rfl) hd1 ⟨(qp_vin (c := 6) (by decide) h2.1 h2.2), trivial⟩ ?_
      exact gM_digest_b208 hd (fun a0 a1 I J => fM_digest_b185 n a0 a1 I J) (fun a0 a1 I J h => ih a0 a1 I J h) 100000 (((31 : Int64) * a1) + (Int32.toInt64 (I 41 (Int32.toNatClampNeg a3)))) a3 0 I J h
def fM_digest_b139  : Nat → Int64 → Int32 → (Nat → Nat → Int32) → (Nat → Nat → Int64) → Option (Int64 × (Nat → Nat → Int32) × (Nat → Nat → Int64))
  | 0, _, _, _, _ => none
  | n + 1, a1, a3, I, J =>
    if 3 ≤ a3 then (
      fM_digest_b185 100000 a1 0 I J
    ) else (
      qp_gd ((0 ≤ a3 ∧ a3 < 3)) <|
      if (I 39 (Int32.toNatClampNeg a3)) = 0 then (
        fM_digest_b139 n (((31 : Int64) * a1) + (Int32.toInt64 (-1))) (a3 + 1) I J
      ) else (
        qp_gd ((0 ≤ (((75 : Int32) * a3) + 14) ∧ (((75 : Int32) * a3) + 14) < 225)) <|
        fM_digest_b139 n (((31 : Int64) * a1) + (Int32.toInt64 (I 38 (Int32.toNatClampNeg (((75 : Int32) * a3) + 14))))) (a3 + 1) I J
      )
    )
set_option maxRecDepth 8000 in
theorem gM_digest_b139 {l : Launch} {G : qp_G} {d : Nat} (hd : 6 ≤ d) {r : (Int64 × (Nat → Nat → Int32) × (Nat → Nat → Int64))} {I0 : Nat → Nat → Int32} {J0 : Nat → Nat → Int64}   : ∀ (n : Nat) (a1 : Int64) (a3 : Int32) (I : Nat → Nat → Int32) (J : Nat → Nat → Int64), fM_digest_b139  n a1 a3 I J = some r → qp_E l G d 237 (qp_mk I0 J0) 0 0 (qp_R8 (some (.long r.1)) r.2.1 r.2.2) (139, [some (.ref 36), some (.long a1), none, some (.int a3), none], [], qp_mk I J) := by
  have hd1 : Nat.ble 1 d = true := Nat.ble_eq_true_of_le (Nat.le_trans (by decide) hd)
  intro n
  induction n with
  | zero => intro a1 a3 I J h; exact absurd h (by simp [fM_digest_b139])
  | succ n ih =>
    intro a1 a3 I J h
    rw [fM_digest_b139] at h
    refine qp_run_E qp_ok237 2 (c' := (141, [some (.ref 36), some (.long a1), none, some (.int a3), none], [.int 3, .int a3], qp_mk I J)) (by with_unfolding_all rfl) hd1 trivial ?_
    refine qp_br_E qp_ok237 (f := 3 ≤ a3) (ct := (183, [some (.ref 36), some (.long a1), none, some (.int a3), none], [], qp_mk I J)) (cf := (144, [some (.ref 36), some (.long a1), none, some (.int a3), none], [], qp_mk I J)) (by with_unfolding_all rfl) (fun h1 => ?_) (fun h1 => ?_)
    · replace h := qp_ift h1 h
      refine qp_run_E qp_ok237 2 (c' := (185, [some (.ref 36), some (.long a1), none, some (.int 0), none], [], qp_mk I J)) (by with_unfolding_all rfl) hd1 trivial ?_
      exact gM_digest_b185 hd 100000 a1 0 I J h
    · replace h := qp_iff h1 h
      obtain ⟨h2, h⟩ := qp_gd_s h
      refine qp_run_E qp_ok237 7 (f := vp_in a3 3 ∧ True) (c' := (155, [some (.ref 36), some (.long a1), none, some (.int a3), none], [.int (I 39 (Int32.toNatClampNeg a3)), .long ((31 : Int64) * a1)], qp_mk I J)) (by with_unfolding_all rfl) hd1 ⟨(qp_vin (c := 3) (by decide) h2.1 h2.2), trivial⟩ ?_
      refine qp_br_E qp_ok237 (f := (I 39 (Int32.toNatClampNeg a3)) = 0) (ct := (173, [some (.ref 36), some (.long a1), none, some (.int a3), none], [.long ((31 : Int64) * a1)], qp_mk I J)) (cf := (158, [some (.ref 36), some (.long a1), none, some (.int a3), none], [.long ((31 : Int64) * a1)], qp_mk I J)) (by with_unfolding_all rfl) (fun h3 => ?_) (fun h3 => ?_)
      · replace h := qp_ift h3 h
        refine qp_run_E qp_ok237 6 (c' := (139, [some (.ref 36), some (.long (((31 : Int64) * a1) + (Int32.toInt64 (-1)))), none, some (.int (a3 + 1)), none], [], qp_mk I J)) (by with_unfolding_all rfl) hd1 trivial ?_
        exact ih (((31 : Int64) * a1) + (Int32.toInt64 (-1))) (a3 + 1) I J h
      · replace h := qp_iff h3 h
        obtain ⟨h4, h⟩ := qp_gd_s h
        refine qp_run_E qp_ok237 14 (f := vp_in (((75 : Int32) * a3) + 14) 225 ∧ True) (c' := (139, [some (.ref 36), some (.long (((31 : Int64) * a1) + (Int32.toInt64 (I 38 (Int32.toNatClampNeg (((75 : Int32) * a3) + 14)))))), none, some (.int (a3 + 1)), none], [], qp_mk I J)) (by with_unfolding_all rfl) hd1 ⟨(qp_vin (c := 225) (by decide) h4.1 h4.2), trivial⟩ ?_
        exact ih (((31 : Int64) * a1) + (Int32.toInt64 (I 38 (Int32.toNatClampNeg (((75 : Int32) * a3) + 14))))) (a3 + 1) I J h
def fM_digest_b82  : Nat → Int64 → Int32 → (Nat → Nat → Int32) → (Nat → Nat → Int64) → Option (Int64 × (Nat → Nat → Int32) × (Nat → Nat → Int64))
  | 0, _, _, _, _ => none
  | n + 1, a1, a3, I, J =>
    if (I 37 56) ≤ a3 then (
      fM_digest_b139 100000 a1 0 I J
    ) else (
      qp_gd ((0 ≤ ((57 : Int32) + a3) ∧ ((57 : Int32) + a3) < 75)) <|
      fM_digest_b82 n (((31 : Int64) * (((31 : Int64) * a1) + (Int32.toInt64 ((I 37 (Int32.toNatClampNeg ((57 : Int32) + a3))) / 8)))) + (Int32.toInt64 ((I 37 (Int32.toNatClampNeg ((57 : Int32) + a3))) - (I 37 (Int32.toNatClampNeg ((57 : Int32) + a3))) / 8 * 8))) (a3 + 1) I J
    )
set_option maxRecDepth 8000 in
theorem gM_digest_b82 {l : Launch} {G : qp_G} {d : Nat} (hd : 6 ≤ d) {r : (Int64 × (Nat → Nat → Int32) × (Nat → Nat → Int64))} {I0 : Nat → Nat → Int32} {J0 : Nat → Nat → Int64}   : ∀ (n : Nat) (a1 : Int64) (a3 : Int32) (I : Nat → Nat → Int32) (J : Nat → Nat → Int64), fM_digest_b82  n a1 a3 I J = some r → qp_E l G d 237 (qp_mk I0 J0) 0 0 (qp_R8 (some (.long r.1)) r.2.1 r.2.2) (82, [some (.ref 36), some (.long a1), none, some (.int a3), none], [], qp_mk I J) := by
  have hd1 : Nat.ble 1 d = true := Nat.ble_eq_true_of_le (Nat.le_trans (by decide) hd)
  intro n
  induction n with
  | zero => intro a1 a3 I J h; exact absurd h (by simp [fM_digest_b82])
  | succ n ih =>
    intro a1 a3 I J h
    rw [fM_digest_b82] at h
    refine qp_run_E qp_ok237 5 (f := vp_in 56 75 ∧ True) (c' := (90, [some (.ref 36), some (.long a1), none, some (.int a3), none], [.int (I 37 56), .int a3], qp_mk I J)) (by with_unfolding_all rfl) hd1 ⟨(qp_vin (c := 75) (by decide) (by decide) (by decide)), trivial⟩ ?_
    refine qp_br_E qp_ok237 (f := (I 37 56) ≤ a3) (ct := (137, [some (.ref 36), some (.long a1), none, some (.int a3), none], [], qp_mk I J)) (cf := (93, [some (.ref 36), some (.long a1), none, some (.int a3), none], [], qp_mk I J)) (by with_unfolding_all rfl) (fun h1 => ?_) (fun h1 => ?_)
    · replace h := qp_ift h1 h
      refine qp_run_E qp_ok237 2 (c' := (139, [some (.ref 36), some (.long a1), none, some (.int 0), none], [], qp_mk I J)) (by with_unfolding_all rfl) hd1 trivial ?_
      exact gM_digest_b139 hd 100000 a1 0 I J h
    · replace h := qp_iff h1 h
      obtain ⟨h2, h⟩ := qp_gd_s h
      refine qp_run_E qp_ok237 28 (f := vp_in ((57 : Int32) + a3) 75 ∧ ¬ (8 : Int32) = 0 ∧ vp_in ((57 : Int32) + a3) 75 ∧ ¬ (8 : Int32) = 0 ∧ True) (c' := (82, [some (.ref 36), some (.long (((31 : Int64) * (((31 : Int64) * a1) + (Int32.toInt64 ((I 37 (Int32.toNatClampNeg ((57 : Int32) + a3))) / 8)))) + (Int32.toInt64 ((I 37 (Int32.toNatClampNeg ((57 : Int32) + a3))) - (I 37 (Int32.toNatClampNeg ((57 : Int32) + a3))) / 8 * 8)))), none, some (.int (a3 + 1)), none], [], qp_mk I J)) (by with_unfolding_all rfl) hd1 ⟨(qp_vin (c := 75) (by decide) h2.1 h2.2), (by decide), (qp_vin (c := 75) (by decide) h2.1 h2.2), (by decide), trivial⟩ ?_
      exact ih (((31 : Int64) * (((31 : Int64) * a1) + (Int32.toInt64 ((I 37 (Int32.toNatClampNeg ((57 : Int32) + a3))) / 8)))) + (Int32.toInt64 ((I 37 (Int32.toNatClampNeg ((57 : Int32) + a3))) - (I 37 (Int32.toNatClampNeg ((57 : Int32) + a3))) / 8 * 8))) (a3 + 1) I J h
def fM_digest_b46  (k33 : Int64 → Int32 → (Nat → Nat → Int32) → (Nat → Nat → Int64) → Option (Int64 × (Nat → Nat → Int32) × (Nat → Nat → Int64))) : Nat → Int64 → Int32 → Int32 → (Nat → Nat → Int32) → (Nat → Nat → Int64) → Option (Int64 × (Nat → Nat → Int32) × (Nat → Nat → Int64))
  | 0, _, _, _, _, _ => none
  | n + 1, a1, a3, a4, I, J =>
    if 7 ≤ a4 then (
      k33 a1 (a3 + 1) I J
    ) else (
      qp_bd (fM_toldOf a3 a4 I J) fun v1 I1 J1 =>
      fM_digest_b46 k33 n (((31 : Int64) * a1) + (Int32.toInt64 v1)) a3 (a4 + 1) I1 J1
    )
set_option maxRecDepth 8000 in
theorem gM_digest_b46 {l : Launch} {G : qp_G} {d : Nat} (hd : 6 ≤ d) {r : (Int64 × (Nat → Nat → Int32) × (Nat → Nat → Int64))} {I0 : Nat → Nat → Int32} {J0 : Nat → Nat → Int64}  (k33 : Int64 → Int32 → (Nat → Nat → Int32) → (Nat → Nat → Int64) → Option (Int64 × (Nat → Nat → Int32) × (Nat → Nat → Int64))) (hk33 : ∀ a1 a3 I J, k33 a1 a3 I J = some r → qp_E l G d 237 (qp_mk I0 J0) 0 0 (qp_R8 (some (.long r.1)) r.2.1 r.2.2) (33, [some (.ref 36), some (.long a1), none, some (.int a3), none], [], qp_mk I J)) : ∀ (n : Nat) (a1 : Int64) (a3 : Int32) (a4 : Int32) (I : Nat → Nat → Int32) (J : Nat → Nat → Int64), fM_digest_b46 k33 n a1 a3 a4 I J = some r → qp_E l G d 237 (qp_mk I0 J0) 0 0 (qp_R8 (some (.long r.1)) r.2.1 r.2.2) (46, [some (.ref 36), some (.long a1), none, some (.int a3), some (.int a4)], [], qp_mk I J) := by
  have hd1 : Nat.ble 1 d = true := Nat.ble_eq_true_of_le (Nat.le_trans (by decide) hd)
  intro n
  induction n with
  | zero => intro a1 a3 a4 I J h; exact absurd h (by simp [fM_digest_b46])
  | succ n ih =>
    intro a1 a3 a4 I J h
    rw [fM_digest_b46] at h
    refine qp_run_E qp_ok237 2 (c' := (50, [some (.ref 36), some (.long a1), none, some (.int a3), some (.int a4)], [.int 7, .int a4], qp_mk I J)) (by with_unfolding_all rfl) hd1 trivial ?_
    refine qp_br_E qp_ok237 (f := 7 ≤ a4) (ct := (74, [some (.ref 36), some (.long a1), none, some (.int a3), some (.int a4)], [], qp_mk I J)) (cf := (53, [some (.ref 36), some (.long a1), none, some (.int a3), some (.int a4)], [], qp_mk I J)) (by with_unfolding_all rfl) (fun h1 => ?_) (fun h1 => ?_)
    · replace h := qp_ift h1 h
      refine qp_run_E qp_ok237 2 (c' := (33, [some (.ref 36), some (.long a1), none, some (.int (a3 + 1)), some (.int a4)], [], qp_mk I J)) (by with_unfolding_all rfl) hd1 trivial ?_
      exact qp_E_fg [true, true, false, true, false] (hk33 a1 (a3 + 1) I J h)
    · replace h := qp_iff h1 h
      refine qp_run_E qp_ok237 6 (c' := (62, [some (.ref 36), some (.long a1), none, some (.int a3), some (.int a4)], [.int a4, .int a3, .ref 36, .long ((31 : Int64) * a1)], qp_mk I J)) (by with_unfolding_all rfl) hd1 trivial ?_
      obtain ⟨v1, I1, J1, e1, h⟩ := qp_bd_s h
      refine qp_cV qp_ok237 (rest := [.long ((31 : Int64) * a1)]) (oj := 10) qp_f172 rfl rfl (gM_toldOf l G a3 a4 I J e1 (Nat.le_refl 4)) rfl rfl rfl rfl (Nat.le_trans (by decide) hd) ?_
      refine qp_run_E qp_ok237 5 (c' := (46, [some (.ref 36), some (.long (((31 : Int64) * a1) + (Int32.toInt64 v1))), none, some (.int a3), some (.int (a4 + 1))], [], qp_mk I1 J1)) (by with_unfolding_all rfl) hd1 trivial ?_
      exact ih (((31 : Int64) * a1) + (Int32.toInt64 v1)) a3 (a4 + 1) I1 J1 h
def fM_digest_b33  : Nat → Int64 → Int32 → (Nat → Nat → Int32) → (Nat → Nat → Int64) → Option (Int64 × (Nat → Nat → Int32) × (Nat → Nat → Int64))
  | 0, _, _, _, _ => none
  | n + 1, a1, a3, I, J =>
    if (I 37 0) ≤ a3 then (
      fM_digest_b82 100000 a1 0 I J
    ) else (
      fM_digest_b46 (fun a0 a1 I J => fM_digest_b33 n a0 a1 I J) 100000 a1 a3 0 I J
    )
set_option maxRecDepth 8000 in
theorem gM_digest_b33 {l : Launch} {G : qp_G} {d : Nat} (hd : 6 ≤ d) {r : (Int64 × (Nat → Nat → Int32) × (Nat → Nat → Int64))} {I0 : Nat → Nat → Int32} {J0 : Nat → Nat → Int64}   : ∀ (n : Nat) (a1 : Int64) (a3 : Int32) (I : Nat → Nat → Int32) (J : Nat → Nat → Int64), fM_digest_b33  n a1 a3 I J = some r → qp_E l G d 237 (qp_mk I0 J0) 0 0 (qp_R8 (some (.long r.1)) r.2.1 r.2.2) (33, [some (.ref 36), some (.long a1), none, some (.int a3), none], [], qp_mk I J) := by
  have hd1 : Nat.ble 1 d = true := Nat.ble_eq_true_of_le (Nat.le_trans (by decide) hd)
  intro n
  induction n with
  | zero => intro a1 a3 I J h; exact absurd h (by simp [fM_digest_b33])
  | succ n ih =>
    intro a1 a3 I J h
    rw [fM_digest_b33] at h
    refine qp_run_E qp_ok237 5 (f := vp_in 0 75 ∧ True) (c' := (40, [some (.ref 36), some (.long a1), none, some (.int a3), none], [.int (I 37 0), .int a3], qp_mk I J)) (by with_unfolding_all rfl) hd1 ⟨(qp_vin (c := 75) (by decide) (by decide) (by decide)), trivial⟩ ?_
    refine qp_br_E qp_ok237 (f := (I 37 0) ≤ a3) (ct := (80, [some (.ref 36), some (.long a1), none, some (.int a3), none], [], qp_mk I J)) (cf := (43, [some (.ref 36), some (.long a1), none, some (.int a3), none], [], qp_mk I J)) (by with_unfolding_all rfl) (fun h1 => ?_) (fun h1 => ?_)
    · replace h := qp_ift h1 h
      refine qp_run_E qp_ok237 2 (c' := (82, [some (.ref 36), some (.long a1), none, some (.int 0), none], [], qp_mk I J)) (by with_unfolding_all rfl) hd1 trivial ?_
      exact gM_digest_b82 hd 100000 a1 0 I J h
    · replace h := qp_iff h1 h
      refine qp_run_E qp_ok237 2 (c' := (46, [some (.ref 36), some (.long a1), none, some (.int a3), some (.int 0)], [], qp_mk I J)) (by with_unfolding_all rfl) hd1 trivial ?_
      exact gM_digest_b46 hd (fun a0 a1 I J => fM_digest_b33 n a0 a1 I J) (fun a0 a1 I J h => ih a0 a1 I J h) 100000 a1 a3 0 I J h
def fM_digest_b6  : Nat → Int64 → Int32 → (Nat → Nat → Int32) → (Nat → Nat → Int64) → Option (Int64 × (Nat → Nat → Int32) × (Nat → Nat → Int64))
  | 0, _, _, _, _ => none
  | n + 1, a1, a3, I, J =>
    if 12 ≤ a3 then (
      fM_digest_b33 100000 a1 0 I J
    ) else (
      qp_bd (fM_counted a3 I J) fun v1 I1 J1 =>
      fM_digest_b6 n (((31 : Int64) * a1) + (Int32.toInt64 v1)) (a3 + 1) I1 J1
    )
set_option maxRecDepth 8000 in
theorem gM_digest_b6 {l : Launch} {G : qp_G} {d : Nat} (hd : 6 ≤ d) {r : (Int64 × (Nat → Nat → Int32) × (Nat → Nat → Int64))} {I0 : Nat → Nat → Int32} {J0 : Nat → Nat → Int64}   : ∀ (n : Nat) (a1 : Int64) (a3 : Int32) (I : Nat → Nat → Int32) (J : Nat → Nat → Int64), fM_digest_b6  n a1 a3 I J = some r → qp_E l G d 237 (qp_mk I0 J0) 0 0 (qp_R8 (some (.long r.1)) r.2.1 r.2.2) (6, [some (.ref 36), some (.long a1), none, some (.int a3), none], [], qp_mk I J) := by
  have hd1 : Nat.ble 1 d = true := Nat.ble_eq_true_of_le (Nat.le_trans (by decide) hd)
  intro n
  induction n with
  | zero => intro a1 a3 I J h; exact absurd h (by simp [fM_digest_b6])
  | succ n ih =>
    intro a1 a3 I J h
    rw [fM_digest_b6] at h
    refine qp_run_E qp_ok237 2 (c' := (9, [some (.ref 36), some (.long a1), none, some (.int a3), none], [.int 12, .int a3], qp_mk I J)) (by with_unfolding_all rfl) hd1 trivial ?_
    refine qp_br_E qp_ok237 (f := 12 ≤ a3) (ct := (31, [some (.ref 36), some (.long a1), none, some (.int a3), none], [], qp_mk I J)) (cf := (12, [some (.ref 36), some (.long a1), none, some (.int a3), none], [], qp_mk I J)) (by with_unfolding_all rfl) (fun h1 => ?_) (fun h1 => ?_)
    · replace h := qp_ift h1 h
      refine qp_run_E qp_ok237 2 (c' := (33, [some (.ref 36), some (.long a1), none, some (.int 0), none], [], qp_mk I J)) (by with_unfolding_all rfl) hd1 trivial ?_
      exact gM_digest_b33 hd 100000 a1 0 I J h
    · replace h := qp_iff h1 h
      refine qp_run_E qp_ok237 5 (c' := (19, [some (.ref 36), some (.long a1), none, some (.int a3), none], [.int a3, .ref 36, .long ((31 : Int64) * a1)], qp_mk I J)) (by with_unfolding_all rfl) hd1 trivial ?_
      obtain ⟨v1, I1, J1, e1, h⟩ := qp_bd_s h
      refine qp_cV qp_ok237 (rest := [.long ((31 : Int64) * a1)]) (oj := 10) qp_f231 rfl rfl (gM_counted l G a3 I J e1 (Nat.le_refl 5)) rfl rfl rfl rfl (Nat.le_trans (by decide) hd) ?_
      refine qp_run_E qp_ok237 5 (c' := (6, [some (.ref 36), some (.long (((31 : Int64) * a1) + (Int32.toInt64 v1))), none, some (.int (a3 + 1)), none], [], qp_mk I1 J1)) (by with_unfolding_all rfl) hd1 trivial ?_
      exact ih (((31 : Int64) * a1) + (Int32.toInt64 v1)) (a3 + 1) I1 J1 h
def fM_digest  (I : Nat → Nat → Int32) (J : Nat → Nat → Int64) : Option (Int64 × (Nat → Nat → Int32) × (Nat → Nat → Int64)) :=
  fM_digest_b6 100000 17 0 I J
set_option maxRecDepth 8000 in
theorem gM_digest (l : Launch) (G : qp_G)  (I : Nat → Nat → Int32) (J : Nat → Nat → Int64) {v : Int64} {I' : Nat → Nat → Int32} {J' : Nat → Nat → Int64} (h : fM_digest  I J = some (v, I', J')) {d : Nat} (hd : 6 ≤ d) : qp_Met l G d 237 [.ref 36] (qp_mk I J) 0 0 (qp_R8 (some (.long v)) I' J') := by
  have hd1 : Nat.ble 1 d = true := Nat.ble_eq_true_of_le (Nat.le_trans (by decide) hd)
  refine qp_Met_of (by decide) (by rw [qp_r237.2]; rfl) [some (.ref 36), none, none, none, none] (by rw [qp_r237.2]; rfl) ?_
  unfold fM_digest at h
  refine qp_run_E qp_ok237 4 (c' := (6, [some (.ref 36), some (.long 17), none, some (.int 0), none], [], qp_mk I J)) (by with_unfolding_all rfl) hd1 trivial ?_
  exact gM_digest_b6 hd 100000 17 0 I J h

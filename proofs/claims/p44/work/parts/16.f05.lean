/-! methods as functions: 16.f 5 -/
def fS_digested_1_b32  (k5 : Int64 → Int32 → (Nat → Nat → Int32) → (Nat → Nat → Int64) → Option (Int64 × (Nat → Nat → Int32) × (Nat → Nat → Int64))) : Nat → Int64 → Int32 → Int32 → (Nat → Nat → Int32) → (Nat → Nat → Int64) → Option (Int64 × (Nat → Nat → Int32) × (Nat → Nat → Int64))
  | 0, _, _, _, _, _ => none
  | n + 1, a3, a5, a6, I, J =>
    qp_bd (fS_sizeOf_1 a5 I J) fun v1 I1 J1 =>
    if v1 ≤ a6 then (
      k5 a3 (a5 + 1) I1 J1
    ) else (
      qp_bd (fS_get_1 a5 a6 I1 J1) fun v2 I2 J2 =>
      fS_digested_1_b32 k5 n (((31 : Int64) * a3) + (Int32.toInt64 v2)) a5 (a6 + 1) I2 J2
    )
set_option maxRecDepth 8000 in
theorem gS_digested_1_b32 {l : Launch} {G : qp_G} {d : Nat} (hd : 4 ≤ d) {r : (Int64 × (Nat → Nat → Int32) × (Nat → Nat → Int64))} {I0 : Nat → Nat → Int32} {J0 : Nat → Nat → Int64}  (k5 : Int64 → Int32 → (Nat → Nat → Int32) → (Nat → Nat → Int64) → Option (Int64 × (Nat → Nat → Int32) × (Nat → Nat → Int64))) (hk5 : ∀ a3 a5 I J, k5 a3 a5 I J = some r → qp_E l G d 130 (qp_mk I0 J0) 0 0 (qp_R8 (some (.long r.1)) r.2.1 r.2.2) (5, [some (.ref 1), none, none, some (.long a3), none, some (.int a5), none], [], qp_mk I J)) : ∀ (n : Nat) (a3 : Int64) (a5 : Int32) (a6 : Int32) (I : Nat → Nat → Int32) (J : Nat → Nat → Int64), fS_digested_1_b32 k5 n a3 a5 a6 I J = some r → qp_E l G d 130 (qp_mk I0 J0) 0 0 (qp_R8 (some (.long r.1)) r.2.1 r.2.2) (32, [some (.ref 1), none, none, some (.long a3), none, some (.int a5), some (.int a6)], [], qp_mk I J) := by
  have hd1 : Nat.ble 1 d = true := Nat.ble_eq_true_of_le (Nat.le_trans (by decide) hd)
  intro n
  induction n with
  | zero => intro a3 a5 a6 I J h; exact absurd h (by simp [fS_digested_1_b32])
  | succ n ih =>
    intro a3 a5 a6 I J h
    rw [fS_digested_1_b32] at h
    refine qp_run_E qp_ok130 3 (c' := (37, [some (.ref 1), none, none, some (.long a3), none, some (.int a5), some (.int a6)], [.int a5, .ref 1, .int a6], qp_mk I J)) (by with_unfolding_all rfl) hd1 trivial ?_
    obtain ⟨v1, I1, J1, e1, h⟩ := qp_bd_s h
    refine qp_cV qp_ok130 (rest := [.int a6]) (oj := 1) qp_f22 rfl rfl (gS_sizeOf_1 l G a5 I J e1 (Nat.le_refl 2)) rfl rfl rfl rfl (Nat.le_trans (by decide) hd) ?_
    refine qp_br_E qp_ok130 (f := v1 ≤ a6) (ct := (65, [some (.ref 1), none, none, some (.long a3), none, some (.int a5), some (.int a6)], [], qp_mk I1 J1)) (cf := (43, [some (.ref 1), none, none, some (.long a3), none, some (.int a5), some (.int a6)], [], qp_mk I1 J1)) (by with_unfolding_all rfl) (fun h1 => ?_) (fun h1 => ?_)
    · replace h := qp_ift h1 h
      refine qp_run_E qp_ok130 2 (c' := (5, [some (.ref 1), none, none, some (.long a3), none, some (.int (a5 + 1)), some (.int a6)], [], qp_mk I1 J1)) (by with_unfolding_all rfl) hd1 trivial ?_
      exact qp_E_fg [true, false, false, true, false, true, false] (hk5 a3 (a5 + 1) I1 J1 h)
    · replace h := qp_iff h1 h
      refine qp_run_E qp_ok130 6 (c' := (53, [some (.ref 1), none, none, some (.long a3), none, some (.int a5), some (.int a6)], [.int a6, .int a5, .ref 1, .long ((31 : Int64) * a3)], qp_mk I1 J1)) (by with_unfolding_all rfl) hd1 trivial ?_
      obtain ⟨v2, I2, J2, e2, h⟩ := qp_bd_s h
      refine qp_cV qp_ok130 (rest := [.long ((31 : Int64) * a3)]) (oj := 1) qp_f23 rfl rfl (gS_get_1 l G a5 a6 I1 J1 e2 (Nat.le_refl 3)) rfl rfl rfl rfl (Nat.le_trans (by decide) hd) ?_
      refine qp_run_E qp_ok130 5 (c' := (32, [some (.ref 1), none, none, some (.long (((31 : Int64) * a3) + (Int32.toInt64 v2))), none, some (.int a5), some (.int (a6 + 1))], [], qp_mk I2 J2)) (by with_unfolding_all rfl) hd1 trivial ?_
      exact ih (((31 : Int64) * a3) + (Int32.toInt64 v2)) a5 (a6 + 1) I2 J2 h
def fS_digested_1_b5  : Nat → Int64 → Int32 → (Nat → Nat → Int32) → (Nat → Nat → Int64) → Option (Int64 × (Nat → Nat → Int32) × (Nat → Nat → Int64))
  | 0, _, _, _, _ => none
  | n + 1, a3, a5, I, J =>
    if 6 ≤ a5 then (
      some (a3, I, J)
    ) else (
      qp_bd (fS_sizeOf_1 a5 I J) fun v1 I1 J1 =>
      fS_digested_1_b32 (fun a0 a1 I J => fS_digested_1_b5 n a0 a1 I J) 100000 (((31 : Int64) * a3) + (Int32.toInt64 v1)) a5 0 I1 J1
    )
set_option maxRecDepth 8000 in
theorem gS_digested_1_b5 {l : Launch} {G : qp_G} {d : Nat} (hd : 4 ≤ d) {r : (Int64 × (Nat → Nat → Int32) × (Nat → Nat → Int64))} {I0 : Nat → Nat → Int32} {J0 : Nat → Nat → Int64}   : ∀ (n : Nat) (a3 : Int64) (a5 : Int32) (I : Nat → Nat → Int32) (J : Nat → Nat → Int64), fS_digested_1_b5  n a3 a5 I J = some r → qp_E l G d 130 (qp_mk I0 J0) 0 0 (qp_R8 (some (.long r.1)) r.2.1 r.2.2) (5, [some (.ref 1), none, none, some (.long a3), none, some (.int a5), none], [], qp_mk I J) := by
  have hd1 : Nat.ble 1 d = true := Nat.ble_eq_true_of_le (Nat.le_trans (by decide) hd)
  intro n
  induction n with
  | zero => intro a3 a5 I J h; exact absurd h (by simp [fS_digested_1_b5])
  | succ n ih =>
    intro a3 a5 I J h
    rw [fS_digested_1_b5] at h
    refine qp_run_E qp_ok130 4 (c' := (12, [some (.ref 1), none, none, some (.long a3), none, some (.int a5), none], [.int 6, .int a5], qp_mk I J)) (by with_unfolding_all rfl) hd1 trivial ?_
    refine qp_br_E qp_ok130 (f := 6 ≤ a5) (ct := (71, [some (.ref 1), none, none, some (.long a3), none, some (.int a5), none], [], qp_mk I J)) (cf := (15, [some (.ref 1), none, none, some (.long a3), none, some (.int a5), none], [], qp_mk I J)) (by with_unfolding_all rfl) (fun h1 => ?_) (fun h1 => ?_)
    · replace h := qp_ift h1 h
      refine qp_run_E qp_ok130 1 (c' := (72, [some (.ref 1), none, none, some (.long a3), none, some (.int a5), none], [.long a3], qp_mk I J)) (by with_unfolding_all rfl) hd1 trivial ?_
      obtain rfl := Option.some.inj h
      exact qp_retL_E qp_ok130 rfl qp_r130.1 ⟨rfl, rfl⟩ ⟨rfl, rfl⟩
    · replace h := qp_iff h1 h
      refine qp_run_E qp_ok130 5 (c' := (23, [some (.ref 1), none, none, some (.long a3), none, some (.int a5), none], [.int a5, .ref 1, .long ((31 : Int64) * a3)], qp_mk I J)) (by with_unfolding_all rfl) hd1 trivial ?_
      obtain ⟨v1, I1, J1, e1, h⟩ := qp_bd_s h
      refine qp_cV qp_ok130 (rest := [.long ((31 : Int64) * a3)]) (oj := 1) qp_f22 rfl rfl (gS_sizeOf_1 l G a5 I J e1 (Nat.le_refl 2)) rfl rfl rfl rfl (Nat.le_trans (by decide) hd) ?_
      refine qp_run_E qp_ok130 5 (c' := (32, [some (.ref 1), none, none, some (.long (((31 : Int64) * a3) + (Int32.toInt64 v1))), none, some (.int a5), some (.int 0)], [], qp_mk I1 J1)) (by with_unfolding_all rfl) hd1 trivial ?_
      exact gS_digested_1_b32 hd (fun a0 a1 I J => fS_digested_1_b5 n a0 a1 I J) (fun a0 a1 I J h => ih a0 a1 I J h) 100000 (((31 : Int64) * a3) + (Int32.toInt64 v1)) a5 0 I1 J1 h
def fS_digested_1 (p1 : Int64) (I : Nat → Nat → Int32) (J : Nat → Nat → Int64) : Option (Int64 × (Nat → Nat → Int32) × (Nat → Nat → Int64)) :=
  fS_digested_1_b5 100000 p1 0 I J
set_option maxRecDepth 8000 in
theorem gS_digested_1 (l : Launch) (G : qp_G) (p1 : Int64) (I : Nat → Nat → Int32) (J : Nat → Nat → Int64) {v : Int64} {I' : Nat → Nat → Int32} {J' : Nat → Nat → Int64} (h : fS_digested_1 p1 I J = some (v, I', J')) {d : Nat} (hd : 4 ≤ d) : qp_Met l G d 130 [.ref 1, .long p1] (qp_mk I J) 0 0 (qp_R8 (some (.long v)) I' J') := by
  have hd1 : Nat.ble 1 d = true := Nat.ble_eq_true_of_le (Nat.le_trans (by decide) hd)
  refine qp_Met_of (by decide) (by rw [qp_r130.2]; rfl) [some (.ref 1), some (.long p1), none, none, none, none, none] (by rw [qp_r130.2]; rfl) ?_
  unfold fS_digested_1 at h
  refine qp_run_E qp_ok130 4 (c' := (5, [some (.ref 1), some (.long p1), none, some (.long p1), none, some (.int 0), none], [], qp_mk I J)) (by with_unfolding_all rfl) hd1 trivial ?_
  exact qp_E_fg [true, false, false, true, false, true, false] (gS_digested_1_b5 hd 100000 p1 0 I J h)
def fS_digested_4_b32  (k5 : Int64 → Int32 → (Nat → Nat → Int32) → (Nat → Nat → Int64) → Option (Int64 × (Nat → Nat → Int32) × (Nat → Nat → Int64))) : Nat → Int64 → Int32 → Int32 → (Nat → Nat → Int32) → (Nat → Nat → Int64) → Option (Int64 × (Nat → Nat → Int32) × (Nat → Nat → Int64))
  | 0, _, _, _, _, _ => none
  | n + 1, a3, a5, a6, I, J =>
    qp_bd (fS_sizeOf_4 a5 I J) fun v1 I1 J1 =>
    if v1 ≤ a6 then (
      k5 a3 (a5 + 1) I1 J1
    ) else (
      qp_bd (fS_get_4 a5 a6 I1 J1) fun v2 I2 J2 =>
      fS_digested_4_b32 k5 n (((31 : Int64) * a3) + (Int32.toInt64 v2)) a5 (a6 + 1) I2 J2
    )
set_option maxRecDepth 8000 in
theorem gS_digested_4_b32 {l : Launch} {G : qp_G} {d : Nat} (hd : 4 ≤ d) {r : (Int64 × (Nat → Nat → Int32) × (Nat → Nat → Int64))} {I0 : Nat → Nat → Int32} {J0 : Nat → Nat → Int64}  (k5 : Int64 → Int32 → (Nat → Nat → Int32) → (Nat → Nat → Int64) → Option (Int64 × (Nat → Nat → Int32) × (Nat → Nat → Int64))) (hk5 : ∀ a3 a5 I J, k5 a3 a5 I J = some r → qp_E l G d 130 (qp_mk I0 J0) 0 0 (qp_R8 (some (.long r.1)) r.2.1 r.2.2) (5, [some (.ref 4), none, none, some (.long a3), none, some (.int a5), none], [], qp_mk I J)) : ∀ (n : Nat) (a3 : Int64) (a5 : Int32) (a6 : Int32) (I : Nat → Nat → Int32) (J : Nat → Nat → Int64), fS_digested_4_b32 k5 n a3 a5 a6 I J = some r → qp_E l G d 130 (qp_mk I0 J0) 0 0 (qp_R8 (some (.long r.1)) r.2.1 r.2.2) (32, [some (.ref 4), none, none, some (.long a3), none, some (.int a5), some (.int a6)], [], qp_mk I J) := by
  have hd1 : Nat.ble 1 d = true := Nat.ble_eq_true_of_le (Nat.le_trans (by decide) hd)
  intro n
  induction n with
  | zero => intro a3 a5 a6 I J h; exact absurd h (by simp [fS_digested_4_b32])
  | succ n ih =>
    intro a3 a5 a6 I J h
    rw [fS_digested_4_b32] at h
    refine qp_run_E qp_ok130 3 (c' := (37, [some (.ref 4), none, none, some (.long a3), none, some (.int a5), some (.int a6)], [.int a5, .ref 4, .int a6], qp_mk I J)) (by with_unfolding_all rfl) hd1 trivial ?_
    obtain ⟨v1, I1, J1, e1, h⟩ := qp_bd_s h
    refine qp_cV qp_ok130 (rest := [.int a6]) (oj := 1) qp_f22 rfl rfl (gS_sizeOf_4 l G a5 I J e1 (Nat.le_refl 2)) rfl rfl rfl rfl (Nat.le_trans (by decide) hd) ?_
    refine qp_br_E qp_ok130 (f := v1 ≤ a6) (ct := (65, [some (.ref 4), none, none, some (.long a3), none, some (.int a5), some (.int a6)], [], qp_mk I1 J1)) (cf := (43, [some (.ref 4), none, none, some (.long a3), none, some (.int a5), some (.int a6)], [], qp_mk I1 J1)) (by with_unfolding_all rfl) (fun h1 => ?_) (fun h1 => ?_)
    · replace h := qp_ift h1 h
      refine qp_run_E qp_ok130 2 (c' := (5, [some (.ref 4), none, none, some (.long a3), none, some (.int (a5 + 1)), some (.int a6)], [], qp_mk I1 J1)) (by with_unfolding_all rfl) hd1 trivial ?_
      exact qp_E_fg [true, false, false, true, false, true, false] (hk5 a3 (a5 + 1) I1 J1 h)
    · replace h := qp_iff h1 h
      refine qp_run_E qp_ok130 6 (c' := (53, [some (.ref 4), none, none, some (.long a3), none, some (.int a5), some (.int a6)], [.int a6, .int a5, .ref 4, .long ((31 : Int64) * a3)], qp_mk I1 J1)) (by with_unfolding_all rfl) hd1 trivial ?_
      obtain ⟨v2, I2, J2, e2, h⟩ := qp_bd_s h
      refine qp_cV qp_ok130 (rest := [.long ((31 : Int64) * a3)]) (oj := 1) qp_f23 rfl rfl (gS_get_4 l G a5 a6 I1 J1 e2 (Nat.le_refl 3)) rfl rfl rfl rfl (Nat.le_trans (by decide) hd) ?_
      refine qp_run_E qp_ok130 5 (c' := (32, [some (.ref 4), none, none, some (.long (((31 : Int64) * a3) + (Int32.toInt64 v2))), none, some (.int a5), some (.int (a6 + 1))], [], qp_mk I2 J2)) (by with_unfolding_all rfl) hd1 trivial ?_
      exact ih (((31 : Int64) * a3) + (Int32.toInt64 v2)) a5 (a6 + 1) I2 J2 h
def fS_digested_4_b5  : Nat → Int64 → Int32 → (Nat → Nat → Int32) → (Nat → Nat → Int64) → Option (Int64 × (Nat → Nat → Int32) × (Nat → Nat → Int64))
  | 0, _, _, _, _ => none
  | n + 1, a3, a5, I, J =>
    if 4 ≤ a5 then (
      some (a3, I, J)
    ) else (
      qp_bd (fS_sizeOf_4 a5 I J) fun v1 I1 J1 =>
      fS_digested_4_b32 (fun a0 a1 I J => fS_digested_4_b5 n a0 a1 I J) 100000 (((31 : Int64) * a3) + (Int32.toInt64 v1)) a5 0 I1 J1
    )
set_option maxRecDepth 8000 in
theorem gS_digested_4_b5 {l : Launch} {G : qp_G} {d : Nat} (hd : 4 ≤ d) {r : (Int64 × (Nat → Nat → Int32) × (Nat → Nat → Int64))} {I0 : Nat → Nat → Int32} {J0 : Nat → Nat → Int64}   : ∀ (n : Nat) (a3 : Int64) (a5 : Int32) (I : Nat → Nat → Int32) (J : Nat → Nat → Int64), fS_digested_4_b5  n a3 a5 I J = some r → qp_E l G d 130 (qp_mk I0 J0) 0 0 (qp_R8 (some (.long r.1)) r.2.1 r.2.2) (5, [some (.ref 4), none, none, some (.long a3), none, some (.int a5), none], [], qp_mk I J) := by
  have hd1 : Nat.ble 1 d = true := Nat.ble_eq_true_of_le (Nat.le_trans (by decide) hd)
  intro n
  induction n with
  | zero => intro a3 a5 I J h; exact absurd h (by simp [fS_digested_4_b5])
  | succ n ih =>
    intro a3 a5 I J h
    rw [fS_digested_4_b5] at h
    refine qp_run_E qp_ok130 4 (c' := (12, [some (.ref 4), none, none, some (.long a3), none, some (.int a5), none], [.int 4, .int a5], qp_mk I J)) (by with_unfolding_all rfl) hd1 trivial ?_
    refine qp_br_E qp_ok130 (f := 4 ≤ a5) (ct := (71, [some (.ref 4), none, none, some (.long a3), none, some (.int a5), none], [], qp_mk I J)) (cf := (15, [some (.ref 4), none, none, some (.long a3), none, some (.int a5), none], [], qp_mk I J)) (by with_unfolding_all rfl) (fun h1 => ?_) (fun h1 => ?_)
    · replace h := qp_ift h1 h
      refine qp_run_E qp_ok130 1 (c' := (72, [some (.ref 4), none, none, some (.long a3), none, some (.int a5), none], [.long a3], qp_mk I J)) (by with_unfolding_all rfl) hd1 trivial ?_
      obtain rfl := Option.some.inj h
      exact qp_retL_E qp_ok130 rfl qp_r130.1 ⟨rfl, rfl⟩ ⟨rfl, rfl⟩
    · replace h := qp_iff h1 h
      refine qp_run_E qp_ok130 5 (c' := (23, [some (.ref 4), none, none, some (.long a3), none, some (.int a5), none], [.int a5, .ref 4, .long ((31 : Int64) * a3)], qp_mk I J)) (by with_unfolding_all rfl) hd1 trivial ?_
      obtain ⟨v1, I1, J1, e1, h⟩ := qp_bd_s h
      refine qp_cV qp_ok130 (rest := [.long ((31 : Int64) * a3)]) (oj := 1) qp_f22 rfl rfl (gS_sizeOf_4 l G a5 I J e1 (Nat.le_refl 2)) rfl rfl rfl rfl (Nat.le_trans (by decide) hd) ?_
      refine qp_run_E qp_ok130 5 (c' := (32, [some (.ref 4), none, none, some (.long (((31 : Int64) * a3) + (Int32.toInt64 v1))), none, some (.int a5), some (.int 0)], [], qp_mk I1 J1)) (by with_unfolding_all rfl) hd1 trivial ?_
      exact gS_digested_4_b32 hd (fun a0 a1 I J => fS_digested_4_b5 n a0 a1 I J) (fun a0 a1 I J h => ih a0 a1 I J h) 100000 (((31 : Int64) * a3) + (Int32.toInt64 v1)) a5 0 I1 J1 h
def fS_digested_4 (p1 : Int64) (I : Nat → Nat → Int32) (J : Nat → Nat → Int64) : Option (Int64 × (Nat → Nat → Int32) × (Nat → Nat → Int64)) :=
  fS_digested_4_b5 100000 p1 0 I J
set_option maxRecDepth 8000 in
theorem gS_digested_4 (l : Launch) (G : qp_G) (p1 : Int64) (I : Nat → Nat → Int32) (J : Nat → Nat → Int64) {v : Int64} {I' : Nat → Nat → Int32} {J' : Nat → Nat → Int64} (h : fS_digested_4 p1 I J = some (v, I', J')) {d : Nat} (hd : 4 ≤ d) : qp_Met l G d 130 [.ref 4, .long p1] (qp_mk I J) 0 0 (qp_R8 (some (.long v)) I' J') := by
  have hd1 : Nat.ble 1 d = true := Nat.ble_eq_true_of_le (Nat.le_trans (by decide) hd)
  refine qp_Met_of (by decide) (by rw [qp_r130.2]; rfl) [some (.ref 4), some (.long p1), none, none, none, none, none] (by rw [qp_r130.2]; rfl) ?_
  unfold fS_digested_4 at h
  refine qp_run_E qp_ok130 4 (c' := (5, [some (.ref 4), some (.long p1), none, some (.long p1), none, some (.int 0), none], [], qp_mk I J)) (by with_unfolding_all rfl) hd1 trivial ?_
  exact qp_E_fg [true, false, false, true, false, true, false] (gS_digested_4_b5 hd 100000 p1 0 I J h)
def fL_saleOf (p1 : Int32) (I : Nat → Nat → Int32) (J : Nat → Nat → Int64) : Option (Int32 × (Nat → Nat → Int32) × (Nat → Nat → Int64)) :=
  if p1 < 0 then (
    some (0, I, J)
  ) else (
    if 12 ≤ p1 then (
      some (0, I, J)
    ) else (
      qp_gd ((0 ≤ p1 ∧ p1 < 12)) <|
      some ((I 23 (Int32.toNatClampNeg p1)), I, J)
    )
  )
set_option maxRecDepth 8000 in
theorem gL_saleOf (l : Launch) (G : qp_G) (p1 : Int32) (I : Nat → Nat → Int32) (J : Nat → Nat → Int64) {v : Int32} {I' : Nat → Nat → Int32} {J' : Nat → Nat → Int64} (h : fL_saleOf p1 I J = some (v, I', J')) {d : Nat} (hd : 1 ≤ d) : qp_Met l G d 129 [.ref 14, .int p1] (qp_mk I J) 0 0 (qp_R8 (some (.int v)) I' J') := by
  have hd1 : Nat.ble 1 d = true := Nat.ble_eq_true_of_le (Nat.le_trans (by decide) hd)
  refine qp_Met_of (by decide) (by rw [qp_r129.2]; rfl) [some (.ref 14), some (.int p1)] (by rw [qp_r129.2]; rfl) ?_
  unfold fL_saleOf at h
  refine qp_run_E qp_ok129 1 (c' := (1, [some (.ref 14), some (.int p1)], [.int p1], qp_mk I J)) (by with_unfolding_all rfl) hd1 trivial ?_
  refine qp_br_E qp_ok129 (f := p1 < 0) (ct := (22, [some (.ref 14), some (.int p1)], [], qp_mk I J)) (cf := (4, [some (.ref 14), some (.int p1)], [], qp_mk I J)) (by with_unfolding_all rfl) (fun h1 => ?_) (fun h1 => ?_)
  · replace h := qp_ift h1 h
    refine qp_run_E qp_ok129 1 (c' := (23, [some (.ref 14), some (.int p1)], [.int 0], qp_mk I J)) (by with_unfolding_all rfl) hd1 trivial ?_
    obtain ⟨rfl, rfl, rfl⟩ := qp_some3 h
    exact qp_retI_E qp_ok129 rfl qp_r129.1 ⟨rfl, rfl⟩ ⟨rfl, rfl⟩
  · replace h := qp_iff h1 h
    refine qp_run_E qp_ok129 4 (c' := (10, [some (.ref 14), some (.int p1)], [.int 12, .int p1], qp_mk I J)) (by with_unfolding_all rfl) hd1 trivial ?_
    refine qp_br_E qp_ok129 (f := 12 ≤ p1) (ct := (22, [some (.ref 14), some (.int p1)], [], qp_mk I J)) (cf := (13, [some (.ref 14), some (.int p1)], [], qp_mk I J)) (by with_unfolding_all rfl) (fun h2 => ?_) (fun h2 => ?_)
    · replace h := qp_ift h2 h
      refine qp_run_E qp_ok129 1 (c' := (23, [some (.ref 14), some (.int p1)], [.int 0], qp_mk I J)) (by with_unfolding_all rfl) hd1 trivial ?_
      obtain ⟨rfl, rfl, rfl⟩ := qp_some3 h
      exact qp_retI_E qp_ok129 rfl qp_r129.1 ⟨rfl, rfl⟩ ⟨rfl, rfl⟩
    · replace h := qp_iff h2 h
      obtain ⟨h3, h⟩ := qp_gd_s h
      refine qp_run_E qp_ok129 5 (f := vp_in p1 12 ∧ True) (c' := (23, [some (.ref 14), some (.int p1)], [.int (I 23 (Int32.toNatClampNeg p1))], qp_mk I J)) (by with_unfolding_all rfl) hd1 ⟨(qp_vin (c := 12) (by decide) h3.1 h3.2), trivial⟩ ?_
      obtain ⟨rfl, rfl, rfl⟩ := qp_some3 h
      exact qp_retI_E qp_ok129 rfl qp_r129.1 ⟨rfl, rfl⟩ ⟨rfl, rfl⟩
def fX_digest_b157  : Nat → Int64 → Int32 → (Nat → Nat → Int32) → (Nat → Nat → Int64) → Option (Int64 × (Nat → Nat → Int32) × (Nat → Nat → Int64))
  | 0, _, _, _, _ => none
  | n + 1, a1, a3, I, J =>
    if 3 ≤ a3 then (
      qp_bd (fS_digested_1 a1 I J) fun v1 I1 J1 =>
      qp_bd (fS_digested_4 v1 I1 J1) fun v2 I2 J2 =>
      some (v2, I2, J2)
    ) else (
      qp_bd (fS_sizeOf_7 a3 I J) fun v3 I3 J3 =>
      fX_digest_b157 n (((31 : Int64) * a1) + (Int32.toInt64 v3)) (a3 + 1) I3 J3
    )
set_option maxRecDepth 8000 in
theorem gX_digest_b157 {l : Launch} {G : qp_G} {d : Nat} (hd : 6 ≤ d) {r : (Int64 × (Nat → Nat → Int32) × (Nat → Nat → Int64))} {I0 : Nat → Nat → Int32} {J0 : Nat → Nat → Int64}   : ∀ (n : Nat) (a1 : Int64) (a3 : Int32) (I : Nat → Nat → Int32) (J : Nat → Nat → Int64), fX_digest_b157  n a1 a3 I J = some r → qp_E l G d 125 (qp_mk I0 J0) 0 0 (qp_R8 (some (.long r.1)) r.2.1 r.2.2) (157, [some (.ref 0), some (.long a1), none, some (.int a3), none], [], qp_mk I J) := by
  have hd1 : Nat.ble 1 d = true := Nat.ble_eq_true_of_le (Nat.le_trans (by decide) hd)
  intro n
  induction n with
  | zero => intro a1 a3 I J h; exact absurd h (by simp [fX_digest_b157])
  | succ n ih =>
    intro a1 a3 I J h
    rw [fX_digest_b157] at h
    refine qp_run_E qp_ok125 2 (c' := (159, [some (.ref 0), some (.long a1), none, some (.int a3), none], [.int 3, .int a3], qp_mk I J)) (by with_unfolding_all rfl) hd1 trivial ?_
    refine qp_br_E qp_ok125 (f := 3 ≤ a3) (ct := (184, [some (.ref 0), some (.long a1), none, some (.int a3), none], [], qp_mk I J)) (cf := (162, [some (.ref 0), some (.long a1), none, some (.int a3), none], [], qp_mk I J)) (by with_unfolding_all rfl) (fun h1 => ?_) (fun h1 => ?_)
    · replace h := qp_ift h1 h
      refine qp_run_E qp_ok125 5 (c' := (193, [some (.ref 0), some (.long a1), none, some (.int a3), none], [.long a1, .ref 1, .ref 4], qp_mk I J)) (by with_unfolding_all rfl) hd1 trivial ?_
      obtain ⟨v1, I1, J1, e1, h⟩ := qp_bd_s h
      refine qp_cV qp_ok125 (rest := [.ref 4]) (oj := 1) qp_f130 rfl rfl (gS_digested_1 l G a1 I J e1 (Nat.le_refl 4)) rfl rfl rfl rfl (Nat.le_trans (by decide) hd) ?_
      obtain ⟨v2, I2, J2, e2, h⟩ := qp_bd_s h
      refine qp_cV qp_ok125 (rest := []) (oj := 1) qp_f130 rfl rfl (gS_digested_4 l G v1 I1 J1 e2 (Nat.le_refl 4)) rfl rfl rfl rfl (Nat.le_trans (by decide) hd) ?_
      obtain rfl := Option.some.inj h
      exact qp_retL_E qp_ok125 rfl qp_r125.1 ⟨rfl, rfl⟩ ⟨rfl, rfl⟩
    · replace h := qp_iff h1 h
      refine qp_run_E qp_ok125 6 (c' := (172, [some (.ref 0), some (.long a1), none, some (.int a3), none], [.int a3, .ref 7, .long ((31 : Int64) * a1)], qp_mk I J)) (by with_unfolding_all rfl) hd1 trivial ?_
      obtain ⟨v3, I3, J3, e3, h⟩ := qp_bd_s h
      refine qp_cV qp_ok125 (rest := [.long ((31 : Int64) * a1)]) (oj := 1) qp_f22 rfl rfl (gS_sizeOf_7 l G a3 I J e3 (Nat.le_refl 2)) rfl rfl rfl rfl (Nat.le_trans (by decide) hd) ?_
      refine qp_run_E qp_ok125 5 (c' := (157, [some (.ref 0), some (.long (((31 : Int64) * a1) + (Int32.toInt64 v3))), none, some (.int (a3 + 1)), none], [], qp_mk I3 J3)) (by with_unfolding_all rfl) hd1 trivial ?_
      exact ih (((31 : Int64) * a1) + (Int32.toInt64 v3)) (a3 + 1) I3 J3 h
def fX_digest_b100  : Nat → Int64 → Int32 → (Nat → Nat → Int32) → (Nat → Nat → Int64) → Option (Int64 × (Nat → Nat → Int32) × (Nat → Nat → Int64))
  | 0, _, _, _, _ => none
  | n + 1, a1, a3, I, J =>
    if (I 14 4) ≤ a3 then (
      fX_digest_b157 100000 a1 0 I J
    ) else (
      qp_bd (fL_saleOf a3 I J) fun v1 I1 J1 =>
      qp_bd (fL_saleOf a3 I1 J1) fun v2 I2 J2 =>
      fX_digest_b100 n (((31 : Int64) * (((31 : Int64) * a1) + (Int32.toInt64 (v1 / 8)))) + (Int32.toInt64 (v2 - v2 / 8 * 8))) (a3 + 1) I2 J2
    )
set_option maxRecDepth 8000 in
theorem gX_digest_b100 {l : Launch} {G : qp_G} {d : Nat} (hd : 6 ≤ d) {r : (Int64 × (Nat → Nat → Int32) × (Nat → Nat → Int64))} {I0 : Nat → Nat → Int32} {J0 : Nat → Nat → Int64}   : ∀ (n : Nat) (a1 : Int64) (a3 : Int32) (I : Nat → Nat → Int32) (J : Nat → Nat → Int64), fX_digest_b100  n a1 a3 I J = some r → qp_E l G d 125 (qp_mk I0 J0) 0 0 (qp_R8 (some (.long r.1)) r.2.1 r.2.2) (100, [some (.ref 0), some (.long a1), none, some (.int a3), none], [], qp_mk I J) := by
  have hd1 : Nat.ble 1 d = true := Nat.ble_eq_true_of_le (Nat.le_trans (by decide) hd)
  intro n
  induction n with
  | zero => intro a1 a3 I J h; exact absurd h (by simp [fX_digest_b100])
  | succ n ih =>
    intro a1 a3 I J h
    rw [fX_digest_b100] at h
    refine qp_run_E qp_ok125 4 (c' := (108, [some (.ref 0), some (.long a1), none, some (.int a3), none], [.int (I 14 4), .int a3], qp_mk I J)) (by with_unfolding_all rfl) hd1 trivial ?_
    refine qp_br_E qp_ok125 (f := (I 14 4) ≤ a3) (ct := (155, [some (.ref 0), some (.long a1), none, some (.int a3), none], [], qp_mk I J)) (cf := (111, [some (.ref 0), some (.long a1), none, some (.int a3), none], [], qp_mk I J)) (by with_unfolding_all rfl) (fun h1 => ?_) (fun h1 => ?_)
    · replace h := qp_ift h1 h
      refine qp_run_E qp_ok125 2 (c' := (157, [some (.ref 0), some (.long a1), none, some (.int 0), none], [], qp_mk I J)) (by with_unfolding_all rfl) hd1 trivial ?_
      exact gX_digest_b157 hd 100000 a1 0 I J h
    · replace h := qp_iff h1 h
      refine qp_run_E qp_ok125 6 (c' := (121, [some (.ref 0), some (.long a1), none, some (.int a3), none], [.int a3, .ref 14, .long ((31 : Int64) * a1)], qp_mk I J)) (by with_unfolding_all rfl) hd1 trivial ?_
      obtain ⟨v1, I1, J1, e1, h⟩ := qp_bd_s h
      refine qp_cV qp_ok125 (rest := [.long ((31 : Int64) * a1)]) (oj := 4) qp_f129 rfl rfl (gL_saleOf l G a3 I J e1 (Nat.le_refl 1)) rfl rfl rfl rfl (Nat.le_trans (by decide) hd) ?_
      refine qp_run_E qp_ok125 11 (f := ¬ (8 : Int32) = 0 ∧ True) (c' := (140, [some (.ref 0), some (.long (((31 : Int64) * a1) + (Int32.toInt64 (v1 / 8)))), none, some (.int a3), none], [.int a3, .ref 14, .long ((31 : Int64) * (((31 : Int64) * a1) + (Int32.toInt64 (v1 / 8))))], qp_mk I1 J1)) (by with_unfolding_all rfl) hd1 ⟨(by decide), trivial⟩ ?_
      obtain ⟨v2, I2, J2, e2, h⟩ := qp_bd_s h
      refine qp_cV qp_ok125 (rest := [.long ((31 : Int64) * (((31 : Int64) * a1) + (Int32.toInt64 (v1 / 8))))]) (oj := 4) qp_f129 rfl rfl (gL_saleOf l G a3 I1 J1 e2 (Nat.le_refl 1)) rfl rfl rfl rfl (Nat.le_trans (by decide) hd) ?_
      refine qp_run_E qp_ok125 7 (f := ¬ (8 : Int32) = 0 ∧ True) (c' := (100, [some (.ref 0), some (.long (((31 : Int64) * (((31 : Int64) * a1) + (Int32.toInt64 (v1 / 8)))) + (Int32.toInt64 (v2 - v2 / 8 * 8)))), none, some (.int (a3 + 1)), none], [], qp_mk I2 J2)) (by with_unfolding_all rfl) hd1 ⟨(by decide), trivial⟩ ?_
      exact ih (((31 : Int64) * (((31 : Int64) * a1) + (Int32.toInt64 (v1 / 8)))) + (Int32.toInt64 (v2 - v2 / 8 * 8))) (a3 + 1) I2 J2 h
def fX_digest_b64  (k47 : Int64 → Int32 → (Nat → Nat → Int32) → (Nat → Nat → Int64) → Option (Int64 × (Nat → Nat → Int32) × (Nat → Nat → Int64))) : Nat → Int64 → Int32 → Int32 → (Nat → Nat → Int32) → (Nat → Nat → Int64) → Option (Int64 × (Nat → Nat → Int32) × (Nat → Nat → Int64))
  | 0, _, _, _, _, _ => none
  | n + 1, a1, a3, a4, I, J =>
    if 6 < a4 then (
      k47 a1 (a3 + 1) I J
    ) else (
      qp_bd (fX_trait a3 a4 I J) fun v1 I1 J1 =>
      fX_digest_b64 k47 n (((31 : Int64) * a1) + (Int32.toInt64 v1)) a3 (a4 + 1) I1 J1
    )
set_option maxRecDepth 8000 in
theorem gX_digest_b64 {l : Launch} {G : qp_G} {d : Nat} (hd : 6 ≤ d) {r : (Int64 × (Nat → Nat → Int32) × (Nat → Nat → Int64))} {I0 : Nat → Nat → Int32} {J0 : Nat → Nat → Int64}  (k47 : Int64 → Int32 → (Nat → Nat → Int32) → (Nat → Nat → Int64) → Option (Int64 × (Nat → Nat → Int32) × (Nat → Nat → Int64))) (hk47 : ∀ a1 a3 I J, k47 a1 a3 I J = some r → qp_E l G d 125 (qp_mk I0 J0) 0 0 (qp_R8 (some (.long r.1)) r.2.1 r.2.2) (47, [some (.ref 0), some (.long a1), none, some (.int a3), none], [], qp_mk I J)) : ∀ (n : Nat) (a1 : Int64) (a3 : Int32) (a4 : Int32) (I : Nat → Nat → Int32) (J : Nat → Nat → Int64), fX_digest_b64 k47 n a1 a3 a4 I J = some r → qp_E l G d 125 (qp_mk I0 J0) 0 0 (qp_R8 (some (.long r.1)) r.2.1 r.2.2) (64, [some (.ref 0), some (.long a1), none, some (.int a3), some (.int a4)], [], qp_mk I J) := by
  have hd1 : Nat.ble 1 d = true := Nat.ble_eq_true_of_le (Nat.le_trans (by decide) hd)
  intro n
  induction n with
  | zero => intro a1 a3 a4 I J h; exact absurd h (by simp [fX_digest_b64])
  | succ n ih =>
    intro a1 a3 a4 I J h
    rw [fX_digest_b64] at h
    refine qp_run_E qp_ok125 2 (c' := (68, [some (.ref 0), some (.long a1), none, some (.int a3), some (.int a4)], [.int 6, .int a4], qp_mk I J)) (by with_unfolding_all rfl) hd1 trivial ?_
    refine qp_br_E qp_ok125 (f := 6 < a4) (ct := (92, [some (.ref 0), some (.long a1), none, some (.int a3), some (.int a4)], [], qp_mk I J)) (cf := (71, [some (.ref 0), some (.long a1), none, some (.int a3), some (.int a4)], [], qp_mk I J)) (by with_unfolding_all rfl) (fun h1 => ?_) (fun h1 => ?_)
    · replace h := qp_ift h1 h
      refine qp_run_E qp_ok125 2 (c' := (47, [some (.ref 0), some (.long a1), none, some (.int (a3 + 1)), some (.int a4)], [], qp_mk I J)) (by with_unfolding_all rfl) hd1 trivial ?_
      exact qp_E_fg [true, true, false, true, false] (hk47 a1 (a3 + 1) I J h)
    · replace h := qp_iff h1 h
      refine qp_run_E qp_ok125 6 (c' := (80, [some (.ref 0), some (.long a1), none, some (.int a3), some (.int a4)], [.int a4, .int a3, .ref 0, .long ((31 : Int64) * a1)], qp_mk I J)) (by with_unfolding_all rfl) hd1 trivial ?_
      obtain ⟨v1, I1, J1, e1, h⟩ := qp_bd_s h
      refine qp_cV qp_ok125 (rest := [.long ((31 : Int64) * a1)]) (oj := 0) qp_f126 rfl rfl (gX_trait l G a3 a4 I J e1 (Nat.le_refl 5)) rfl rfl rfl rfl (Nat.le_trans (by decide) hd) ?_
      refine qp_run_E qp_ok125 5 (c' := (64, [some (.ref 0), some (.long (((31 : Int64) * a1) + (Int32.toInt64 v1))), none, some (.int a3), some (.int (a4 + 1))], [], qp_mk I1 J1)) (by with_unfolding_all rfl) hd1 trivial ?_
      exact ih (((31 : Int64) * a1) + (Int32.toInt64 v1)) a3 (a4 + 1) I1 J1 h
def fX_digest_b47  : Nat → Int64 → Int32 → (Nat → Nat → Int32) → (Nat → Nat → Int64) → Option (Int64 × (Nat → Nat → Int32) × (Nat → Nat → Int64))
  | 0, _, _, _, _ => none
  | n + 1, a1, a3, I, J =>
    if (I 15 0) ≤ a3 then (
      fX_digest_b100 100000 a1 0 I J
    ) else (
      fX_digest_b64 (fun a0 a1 I J => fX_digest_b47 n a0 a1 I J) 100000 a1 a3 0 I J
    )
set_option maxRecDepth 8000 in
theorem gX_digest_b47 {l : Launch} {G : qp_G} {d : Nat} (hd : 6 ≤ d) {r : (Int64 × (Nat → Nat → Int32) × (Nat → Nat → Int64))} {I0 : Nat → Nat → Int32} {J0 : Nat → Nat → Int64}   : ∀ (n : Nat) (a1 : Int64) (a3 : Int32) (I : Nat → Nat → Int32) (J : Nat → Nat → Int64), fX_digest_b47  n a1 a3 I J = some r → qp_E l G d 125 (qp_mk I0 J0) 0 0 (qp_R8 (some (.long r.1)) r.2.1 r.2.2) (47, [some (.ref 0), some (.long a1), none, some (.int a3), none], [], qp_mk I J) := by
  have hd1 : Nat.ble 1 d = true := Nat.ble_eq_true_of_le (Nat.le_trans (by decide) hd)
  intro n
  induction n with
  | zero => intro a1 a3 I J h; exact absurd h (by simp [fX_digest_b47])
  | succ n ih =>
    intro a1 a3 I J h
    rw [fX_digest_b47] at h
    refine qp_run_E qp_ok125 5 (c' := (58, [some (.ref 0), some (.long a1), none, some (.int a3), none], [.int (I 15 0), .int a3], qp_mk I J)) (by with_unfolding_all rfl) hd1 trivial ?_
    refine qp_br_E qp_ok125 (f := (I 15 0) ≤ a3) (ct := (98, [some (.ref 0), some (.long a1), none, some (.int a3), none], [], qp_mk I J)) (cf := (61, [some (.ref 0), some (.long a1), none, some (.int a3), none], [], qp_mk I J)) (by with_unfolding_all rfl) (fun h1 => ?_) (fun h1 => ?_)
    · replace h := qp_ift h1 h
      refine qp_run_E qp_ok125 2 (c' := (100, [some (.ref 0), some (.long a1), none, some (.int 0), none], [], qp_mk I J)) (by with_unfolding_all rfl) hd1 trivial ?_
      exact gX_digest_b100 hd 100000 a1 0 I J h
    · replace h := qp_iff h1 h
      refine qp_run_E qp_ok125 2 (c' := (64, [some (.ref 0), some (.long a1), none, some (.int a3), some (.int 0)], [], qp_mk I J)) (by with_unfolding_all rfl) hd1 trivial ?_
      exact gX_digest_b64 hd (fun a0 a1 I J => fX_digest_b47 n a0 a1 I J) (fun a0 a1 I J h => ih a0 a1 I J h) 100000 a1 a3 0 I J h
def fX_digest_b20  : Nat → Int64 → Int32 → (Nat → Nat → Int32) → (Nat → Nat → Int64) → Option (Int64 × (Nat → Nat → Int32) × (Nat → Nat → Int64))
  | 0, _, _, _, _ => none
  | n + 1, a1, a3, I, J =>
    if 11 < a3 then (
      fX_digest_b47 100000 a1 0 I J
    ) else (
      qp_bd (fX_amount a3 I J) fun v1 I1 J1 =>
      fX_digest_b20 n (((31 : Int64) * a1) + (Int32.toInt64 v1)) (a3 + 1) I1 J1
    )
set_option maxRecDepth 8000 in
theorem gX_digest_b20 {l : Launch} {G : qp_G} {d : Nat} (hd : 6 ≤ d) {r : (Int64 × (Nat → Nat → Int32) × (Nat → Nat → Int64))} {I0 : Nat → Nat → Int32} {J0 : Nat → Nat → Int64}   : ∀ (n : Nat) (a1 : Int64) (a3 : Int32) (I : Nat → Nat → Int32) (J : Nat → Nat → Int64), fX_digest_b20  n a1 a3 I J = some r → qp_E l G d 125 (qp_mk I0 J0) 0 0 (qp_R8 (some (.long r.1)) r.2.1 r.2.2) (20, [some (.ref 0), some (.long a1), none, some (.int a3), none], [], qp_mk I J) := by
  have hd1 : Nat.ble 1 d = true := Nat.ble_eq_true_of_le (Nat.le_trans (by decide) hd)
  intro n
  induction n with
  | zero => intro a1 a3 I J h; exact absurd h (by simp [fX_digest_b20])
  | succ n ih =>
    intro a1 a3 I J h
    rw [fX_digest_b20] at h
    refine qp_run_E qp_ok125 2 (c' := (23, [some (.ref 0), some (.long a1), none, some (.int a3), none], [.int 11, .int a3], qp_mk I J)) (by with_unfolding_all rfl) hd1 trivial ?_
    refine qp_br_E qp_ok125 (f := 11 < a3) (ct := (45, [some (.ref 0), some (.long a1), none, some (.int a3), none], [], qp_mk I J)) (cf := (26, [some (.ref 0), some (.long a1), none, some (.int a3), none], [], qp_mk I J)) (by with_unfolding_all rfl) (fun h1 => ?_) (fun h1 => ?_)
    · replace h := qp_ift h1 h
      refine qp_run_E qp_ok125 2 (c' := (47, [some (.ref 0), some (.long a1), none, some (.int 0), none], [], qp_mk I J)) (by with_unfolding_all rfl) hd1 trivial ?_
      exact gX_digest_b47 hd 100000 a1 0 I J h
    · replace h := qp_iff h1 h
      refine qp_run_E qp_ok125 5 (c' := (33, [some (.ref 0), some (.long a1), none, some (.int a3), none], [.int a3, .ref 0, .long ((31 : Int64) * a1)], qp_mk I J)) (by with_unfolding_all rfl) hd1 trivial ?_
      obtain ⟨v1, I1, J1, e1, h⟩ := qp_bd_s h
      refine qp_cV qp_ok125 (rest := [.long ((31 : Int64) * a1)]) (oj := 0) qp_f122 rfl rfl (gX_amount l G a3 I J e1 (Nat.le_refl 5)) rfl rfl rfl rfl (Nat.le_trans (by decide) hd) ?_
      refine qp_run_E qp_ok125 5 (c' := (20, [some (.ref 0), some (.long (((31 : Int64) * a1) + (Int32.toInt64 v1))), none, some (.int (a3 + 1)), none], [], qp_mk I1 J1)) (by with_unfolding_all rfl) hd1 trivial ?_
      exact ih (((31 : Int64) * a1) + (Int32.toInt64 v1)) (a3 + 1) I1 J1 h
def fX_digest  (I : Nat → Nat → Int32) (J : Nat → Nat → Int64) : Option (Int64 × (Nat → Nat → Int32) × (Nat → Nat → Int64)) :=
  qp_bd (fL_serve (I 14 2) I J) fun _u I1 J1 =>
  fX_digest_b20 100000 17 0 I1 J1
set_option maxRecDepth 8000 in
theorem gX_digest (l : Launch) (G : qp_G)  (I : Nat → Nat → Int32) (J : Nat → Nat → Int64) {v : Int64} {I' : Nat → Nat → Int32} {J' : Nat → Nat → Int64} (h : fX_digest  I J = some (v, I', J')) {d : Nat} (hd : 6 ≤ d) : qp_Met l G d 125 [.ref 0] (qp_mk I J) 0 0 (qp_R8 (some (.long v)) I' J') := by
  have hd1 : Nat.ble 1 d = true := Nat.ble_eq_true_of_le (Nat.le_trans (by decide) hd)
  refine qp_Met_of (by decide) (by rw [qp_r125.2]; rfl) [some (.ref 0), none, none, none, none] (by rw [qp_r125.2]; rfl) ?_
  unfold fX_digest at h
  refine qp_run_E qp_ok125 5 (c' := (11, [some (.ref 0), none, none, none, none], [.int (I 14 2), .ref 14], qp_mk I J)) (by with_unfolding_all rfl) hd1 trivial ?_
  obtain ⟨v1, I1, J1, e1, h⟩ := qp_bd_s h
  refine qp_cV qp_ok125 (rest := []) (oj := 4) qp_f67 rfl rfl (gL_serve l G (I 14 2) I J e1 (Nat.le_refl 4)) rfl rfl rfl rfl (Nat.le_trans (by decide) hd) ?_
  refine qp_run_E qp_ok125 4 (c' := (20, [some (.ref 0), some (.long 17), none, some (.int 0), none], [], qp_mk I1 J1)) (by with_unfolding_all rfl) hd1 trivial ?_
  exact gX_digest_b20 hd 100000 17 0 I1 J1 h

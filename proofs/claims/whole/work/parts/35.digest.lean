/-! DIGEST -/
def zdg (f : Nat → Int64) : Nat → Nat → Int64 → Int64
  | 0, _, h => h
  | k + 1, b, h => zdg f k (b + 1) (31 * h + f b)
def zdg2 (g : Nat → Nat → Int64) : Nat → Nat → Int64 → Int64
  | 0, _, h => h
  | k + 1, i, h => zdg2 g k (i + 1) (zdg (g i) 7 0 h)
def zdt (tk : List Nat) : Nat → Nat → Int64 → Int64
  | 0, _, h => h
  | k + 1, b, h => zdt tk k (b + 1) (31 * (31 * h + Int32.toInt64 (qn (zat tk b / 8))) + Int32.toInt64 (qn (zat tk b % 8)))
/-- rows: the size, then the places -/
def zdr (sz R : Nat → Int32) (most : Nat) : Nat → Nat → Int64 → Int64
  | 0, _, h => h
  | k + 1, r, h => zdr sz R most k (r + 1) (zdg (fun j => Int32.toInt64 (R (r * most + j))) (Int32.toNatClampNeg (sz r)) 0 (31 * h + Int32.toInt64 (sz r)))
theorem q_clm1 : Int32.toNatClampNeg (-qn 1) = 0 := by decide
section DG
variable {n L0 : Nat} {K P : Nat → Nat} {ds : List Nat} {kp : Nat → Option (List Nat)} {I : Nat → Nat → Int32} {J : Nat → Nat → Int64}
theorem eX_dig20 {f : Nat → Int32} {h : Int64} (ha : ∀ w, w ≤ 11 → fX_amount (qn w) I J = some (f w, I, J)) : fX_digest_b20 100000 h (qn 0) I J = fX_digest_b47 100000 (zdg (fun w => Int32.toInt64 (f w)) 12 0 h) (qn 0) I J := by
  refine lp (σ := Int64) (R := fun o => o = fX_digest_b47 100000 (zdg (fun w => Int32.toInt64 (f w)) 12 0 h) (qn 0) I J) (Inv := fun w a => zdg (fun w => Int32.toInt64 (f w)) (12 - w) w a = zdg (fun w => Int32.toInt64 (f w)) 12 0 h) (fun fu w a => fX_digest_b20 fu a (qn w) I J) 12 100000 0 h (Nat.zero_le _) (by omega) rfl ?_ ?_
  · intro fu a hi
    have hi' : a = zdg (fun w => Int32.toInt64 (f w)) 12 0 h := hi
    rw [fX_digest_b20, if_pos (by decide), hi']; rfl
  · intro fu w a hw hi
    rw [show 12 - w = (12 - (w + 1)) + 1 by omega] at hi
    refine Or.inr ⟨_, hi, ?_⟩
    rw [fX_digest_b20, if_neg (by show ¬ qn 11 < qn w; rw [qn_lt (by omega) (by omega)]; omega), ha w (by omega), qp_bd_t, show qn w + 1 = qn (w + 1) from qn_add w 1]
theorem eX_dig64 {g : Nat → Int32} {h : Int64} {i : Nat} {k47 : Int64 → Int32 → (Nat → Nat → Int32) → (Nat → Nat → Int64) → Option (Int64 × (Nat → Nat → Int32) × (Nat → Nat → Int64))} (ha : ∀ w, w ≤ 6 → fX_trait (qn i) (qn w) I J = some (g w, I, J)) : fX_digest_b64 k47 100000 h (qn i) (qn 0) I J = k47 (zdg (fun w => Int32.toInt64 (g w)) 7 0 h) (qn (i + 1)) I J := by
  refine lp (σ := Int64) (R := fun o => o = k47 (zdg (fun w => Int32.toInt64 (g w)) 7 0 h) (qn (i + 1)) I J) (Inv := fun w a => zdg (fun w => Int32.toInt64 (g w)) (7 - w) w a = zdg (fun w => Int32.toInt64 (g w)) 7 0 h) (fun fu w a => fX_digest_b64 k47 fu a (qn i) (qn w) I J) 7 100000 0 h (Nat.zero_le _) (by omega) rfl ?_ ?_
  · intro fu a hi
    have hi' : a = zdg (fun w => Int32.toInt64 (g w)) 7 0 h := hi
    rw [fX_digest_b64, if_pos (by decide), hi', show qn i + 1 = qn (i + 1) from qn_add i 1]
  · intro fu w a hw hi
    rw [show 7 - w = (7 - (w + 1)) + 1 by omega] at hi
    refine Or.inr ⟨_, hi, ?_⟩
    rw [fX_digest_b64, if_neg (by show ¬ qn 6 < qn w; rw [qn_lt (by omega) (by omega)]; omega), ha w (by omega), qp_bd_t, show qn w + 1 = qn (w + 1) from qn_add w 1]
theorem eX_dig47 {g : Nat → Nat → Int32} {h : Int64} (hn : n ≤ 6) (e0 : I 15 0 = qn n) (ha : ∀ i, i < n → ∀ w, w ≤ 6 → fX_trait (qn i) (qn w) I J = some (g i w, I, J)) : fX_digest_b47 100000 h (qn 0) I J = fX_digest_b100 100000 (zdg2 (fun i w => Int32.toInt64 (g i w)) n 0 h) (qn 0) I J := by
  refine lp (σ := Int64) (R := fun o => o = fX_digest_b100 100000 (zdg2 (fun i w => Int32.toInt64 (g i w)) n 0 h) (qn 0) I J) (Inv := fun i a => zdg2 (fun i w => Int32.toInt64 (g i w)) (n - i) i a = zdg2 (fun i w => Int32.toInt64 (g i w)) n 0 h) (fun fu i a => fX_digest_b47 fu a (qn i) I J) n 100000 0 h (Nat.zero_le _) (by omega) rfl ?_ ?_
  · intro fu a hi
    rw [Nat.sub_self] at hi
    have hi' : a = zdg2 (fun i w => Int32.toInt64 (g i w)) n 0 h := hi
    rw [fX_digest_b47, e0, if_pos (Int32.le_refl _), hi']; rfl
  · intro fu i a hin hi
    rw [show n - i = (n - (i + 1)) + 1 by omega] at hi
    refine Or.inr ⟨_, hi, ?_⟩
    rw [fX_digest_b47, e0, if_neg (by rw [qn_le (by omega) (by omega)]; omega)]
    exact eX_dig64 (ha i hin)
theorem eX_dig100 {tk : List Nat} {h : Int64} (hl : tk.length ≤ 12) (hT : zT 6 tk) (e4 : I 14 4 = qn tk.length) (hr : zr0 tk (I 23)) : fX_digest_b100 100000 h (qn 0) I J = fX_digest_b157 100000 (zdt tk tk.length 0 h) (qn 0) I J := by
  refine lp (σ := Int64) (R := fun o => o = fX_digest_b157 100000 (zdt tk tk.length 0 h) (qn 0) I J) (Inv := fun k a => zdt tk (tk.length - k) k a = zdt tk tk.length 0 h) (fun fu k a => fX_digest_b100 fu a (qn k) I J) tk.length 100000 0 h (Nat.zero_le _) (by omega) rfl ?_ ?_
  · intro fu a hi
    rw [Nat.sub_self] at hi
    have hi' : a = zdt tk tk.length 0 h := hi
    rw [fX_digest_b100, e4, if_pos (Int32.le_refl _), hi']; rfl
  · intro fu k a hk hi
    rw [show tk.length - k = (tk.length - (k + 1)) + 1 by omega] at hi
    refine Or.inr ⟨_, hi, ?_⟩
    obtain ⟨t1, t2⟩ := zT_at hT hk
    have es : fL_saleOf (qn k) I J = some (qn (zat tk k), I, J) := by
      unfold fL_saleOf
      have ek := hr k hk
      simp (disch := omega) only [ek, qn_l0, qn_l1, qn_l2, qn_l3, qn_l4, qn_l5, qn_l6, qn_l7, qn_l8, qn_l9, qn_l10, qn_l11, qn_l12, qn_l13, qn_l14, qn_l15, qn_l16, qn_l17, qn_l18, qn_l19, qn_l20, qn_l21, qn_l22, qn_l23, qn_l24, qn_l26, qn_l27, qn_l28, qn_l31, qn_l32, qn_l33, qn_l34, qn_l36, qn_l37, qn_l38, qn_l39, qn_l40, qn_l47, qn_l48, qn_l49, qn_l50, qn_l51, qn_l54, qn_l55, qn_l56, qn_l57, qn_l60, qn_l63, qn_l64, qn_l69, qn_l70, qn_l75, qn_l99, qn_l100, qn_l103, qn_l111, qn_l112, qn_l113, qn_l115, qn_l117, qn_l120, qn_l127, qn_l128, qn_l200, qn_l225, qn_l240, qn_l255, qn_l256, qn_l300, qn_l720, qn_l1000, qn_l48271, qn_l1000000, qn_l2147483646, qn_l2147483647, qn_add, qn_mul, qn_sub, qn_addneg, qn_div, qn_mod, qn_modn, qn_lt, qn_le, qn_eq, qn_nat, qn_m1, qn_m1', qn_c1, qn_g1, qn_g1', qn_c1', qn_and, qn_or, qn_shl1, qn_shr1, qn_64, ql_32, ql_add, ql_mul, ql_sub, ql_div, ql_mod, ql_lt, ql_le, ql_eq, ql_l0, ql_l1, qp_gd_T, qp_bd_t, ↓reduceIte, qt_le, qf_le, qt_lt, qf_lt, qt_eq, qf_eq, and_self, not_true_eq_false, not_false_eq_true, true_and, and_true, or_true, true_or, or_false, false_or, and_false, false_and, Nat.reduceAdd, Nat.reduceMul, Nat.reduceSub, Nat.reduceDiv, Nat.reduceMod, Nat.reducePow, Nat.zero_add, Nat.add_zero, Nat.zero_le, Nat.mul_zero, Nat.zero_mul, qm_nk, qm_eq, qm_nj]
    have d1 : qn (zat tk k) / 8 = qn (zat tk k / 8) := qn_div (b := 8) (by omega) (by omega)
    have d2 : qn (zat tk k) - qn (zat tk k / 8) * 8 = qn (zat tk k % 8) := by
      show qn (zat tk k) - qn (zat tk k / 8) * qn 8 = _
      rw [qn_mul, qn_mod]
    rw [fX_digest_b100, e4, if_neg (by rw [qn_le (by omega) (by omega)]; omega), es, qp_bd_t, es, qp_bd_t, d1, d2, show qn k + 1 = qn (k + 1) from qn_add k 1]
theorem eX_dig157 {h : Int64} (h8 : ∀ k, k < 3 → I 8 k = I 8 k) : fX_digest_b157 100000 h (qn 0) I J = (qp_bd (fS_digested_1 (zdg (fun k => Int32.toInt64 (I 8 k)) 3 0 h) I J) fun v1 I1 J1 => qp_bd (fS_digested_4 v1 I1 J1) fun v2 I2 J2 => some (v2, I2, J2)) := by
  refine lp (σ := Int64) (R := fun o => o = (qp_bd (fS_digested_1 (zdg (fun k => Int32.toInt64 (I 8 k)) 3 0 h) I J) fun v1 I1 J1 => qp_bd (fS_digested_4 v1 I1 J1) fun v2 I2 J2 => some (v2, I2, J2))) (Inv := fun w a => zdg (fun k => Int32.toInt64 (I 8 k)) (3 - w) w a = zdg (fun k => Int32.toInt64 (I 8 k)) 3 0 h) (fun fu w a => fX_digest_b157 fu a (qn w) I J) 3 100000 0 h (Nat.zero_le _) (by omega) rfl ?_ ?_
  · intro fu a hi
    have hi' : a = zdg (fun k => Int32.toInt64 (I 8 k)) 3 0 h := hi
    rw [fX_digest_b157, if_pos (by decide), hi']
  · intro fu w a hw hi
    rw [show 3 - w = (3 - (w + 1)) + 1 by omega] at hi
    refine Or.inr ⟨_, hi, ?_⟩
    rw [fX_digest_b157, if_neg (by show ¬ qn 3 ≤ qn w; rw [qn_le (by omega) (by omega)]; omega), eS7_size hw, qp_bd_t, show qn w + 1 = qn (w + 1) from qn_add w 1]
theorem eS1_digR {r m : Nat} {h : Int64} {k5 : Int64 → Int32 → (Nat → Nat → Int32) → (Nat → Nat → Int64) → Option (Int64 × (Nat → Nat → Int32) × (Nat → Nat → Int64))} (hc : I 1 0 = qn 40) (hr : r < 6) (e : I 2 r = qn m) (hm : m ≤ 40) :
    fS_digested_1_b32 k5 100000 h (qn r) (qn 0) I J = k5 (zdg (fun j => Int32.toInt64 (I 3 (r * 40 + j))) m 0 h) (qn (r + 1)) I J := by
  refine lp (σ := Int64) (R := fun o => o = k5 (zdg (fun j => Int32.toInt64 (I 3 (r * 40 + j))) m 0 h) (qn (r + 1)) I J) (Inv := fun w a => zdg (fun j => Int32.toInt64 (I 3 (r * 40 + j))) (m - w) w a = zdg (fun j => Int32.toInt64 (I 3 (r * 40 + j))) m 0 h) (fun fu w a => fS_digested_1_b32 k5 fu a (qn r) (qn w) I J) m 100000 0 h (Nat.zero_le _) (by omega) rfl ?_ ?_
  · intro fu a hi
    rw [Nat.sub_self] at hi
    have hi' : a = zdg (fun j => Int32.toInt64 (I 3 (r * 40 + j))) m 0 h := hi
    rw [fS_digested_1_b32, eS1_size hr, qp_bd_t, e, if_pos (Int32.le_refl _), hi', show qn r + 1 = qn (r + 1) from qn_add r 1]
  · intro fu w a hw hi
    rw [show m - w = (m - (w + 1)) + 1 by omega] at hi
    refine Or.inr ⟨_, hi, ?_⟩
    rw [fS_digested_1_b32, eS1_size hr, qp_bd_t, e, if_neg (by rw [qn_le (by omega) (by omega)]; omega), eS1_get hc hr e hm hw, qp_bd_t, show qn w + 1 = qn (w + 1) from qn_add w 1]
theorem eS1_dig {h : Int64} (hc : I 1 0 = qn 40) (hs : ∀ r, r < 6 → I 2 r = -qn 1 ∨ ∃ m, m ≤ 40 ∧ I 2 r = qn m) : fS_digested_1 h I J = some (zdr (I 2) (I 3) 40 6 0 h, I, J) := by
  unfold fS_digested_1
  refine lp (σ := Int64) (R := fun o => o = some (zdr (I 2) (I 3) 40 6 0 h, I, J)) (Inv := fun r a => zdr (I 2) (I 3) 40 (6 - r) r a = zdr (I 2) (I 3) 40 6 0 h) (fun fu r a => fS_digested_1_b5 fu a (qn r) I J) 6 100000 0 h (Nat.zero_le _) (by omega) rfl ?_ ?_
  · intro fu a hi
    have hi' : a = zdr (I 2) (I 3) 40 6 0 h := hi
    rw [fS_digested_1_b5, if_pos (by decide), hi']
  · intro fu r a hr hi
    rw [show 6 - r = (6 - (r + 1)) + 1 by omega] at hi
    refine Or.inr ⟨_, hi, ?_⟩
    rw [fS_digested_1_b5, if_neg (by show ¬ qn 6 ≤ qn r; rw [qn_le (by omega) (by omega)]; omega), eS1_size hr, qp_bd_t]
    rcases hs r hr with e | ⟨m, hm, e⟩
    · rw [show (100000 : Nat) = 99999 + 1 from rfl, fS_digested_1_b32, eS1_size hr, qp_bd_t, e, if_pos (by decide), q_clm1, show qn r + 1 = qn (r + 1) from qn_add r 1]; rfl
    · refine (eS1_digR hc hr e hm).trans ?_
      rw [e, qn_nat (by omega)]
theorem eS4_digR {r m : Nat} {h : Int64} {k5 : Int64 → Int32 → (Nat → Nat → Int32) → (Nat → Nat → Int64) → Option (Int64 × (Nat → Nat → Int32) × (Nat → Nat → Int64))} (hc : I 4 0 = qn 60) (hr : r < 4) (e : I 5 r = qn m) (hm : m ≤ 60) :
    fS_digested_4_b32 k5 100000 h (qn r) (qn 0) I J = k5 (zdg (fun j => Int32.toInt64 (I 6 (r * 60 + j))) m 0 h) (qn (r + 1)) I J := by
  refine lp (σ := Int64) (R := fun o => o = k5 (zdg (fun j => Int32.toInt64 (I 6 (r * 60 + j))) m 0 h) (qn (r + 1)) I J) (Inv := fun w a => zdg (fun j => Int32.toInt64 (I 6 (r * 60 + j))) (m - w) w a = zdg (fun j => Int32.toInt64 (I 6 (r * 60 + j))) m 0 h) (fun fu w a => fS_digested_4_b32 k5 fu a (qn r) (qn w) I J) m 100000 0 h (Nat.zero_le _) (by omega) rfl ?_ ?_
  · intro fu a hi
    rw [Nat.sub_self] at hi
    have hi' : a = zdg (fun j => Int32.toInt64 (I 6 (r * 60 + j))) m 0 h := hi
    rw [fS_digested_4_b32, eS4_size hr, qp_bd_t, e, if_pos (Int32.le_refl _), hi', show qn r + 1 = qn (r + 1) from qn_add r 1]
  · intro fu w a hw hi
    rw [show m - w = (m - (w + 1)) + 1 by omega] at hi
    refine Or.inr ⟨_, hi, ?_⟩
    rw [fS_digested_4_b32, eS4_size hr, qp_bd_t, e, if_neg (by rw [qn_le (by omega) (by omega)]; omega), eS4_get hc hr e hm hw, qp_bd_t, show qn w + 1 = qn (w + 1) from qn_add w 1]
theorem eS4_dig {h : Int64} (hc : I 4 0 = qn 60) (hs : ∀ r, r < 4 → I 5 r = -qn 1 ∨ ∃ m, m ≤ 60 ∧ I 5 r = qn m) : fS_digested_4 h I J = some (zdr (I 5) (I 6) 60 4 0 h, I, J) := by
  unfold fS_digested_4
  refine lp (σ := Int64) (R := fun o => o = some (zdr (I 5) (I 6) 60 4 0 h, I, J)) (Inv := fun r a => zdr (I 5) (I 6) 60 (4 - r) r a = zdr (I 5) (I 6) 60 4 0 h) (fun fu r a => fS_digested_4_b5 fu a (qn r) I J) 4 100000 0 h (Nat.zero_le _) (by omega) rfl ?_ ?_
  · intro fu a hi
    have hi' : a = zdr (I 5) (I 6) 60 4 0 h := hi
    rw [fS_digested_4_b5, if_pos (by decide), hi']
  · intro fu r a hr hi
    rw [show 4 - r = (4 - (r + 1)) + 1 by omega] at hi
    refine Or.inr ⟨_, hi, ?_⟩
    rw [fS_digested_4_b5, if_neg (by show ¬ qn 4 ≤ qn r; rw [qn_le (by omega) (by omega)]; omega), eS4_size hr, qp_bd_t]
    rcases hs r hr with e | ⟨m, hm, e⟩
    · rw [show (100000 : Nat) = 99999 + 1 from rfl, fS_digested_4_b32, eS4_size hr, qp_bd_t, e, if_pos (by decide), q_clm1, show qn r + 1 = qn (r + 1) from qn_add r 1]; rfl
    · refine (eS4_digR hc hr e hm).trans ?_
      rw [e, qn_nat (by omega)]
theorem eM_digR43 {r m : Nat} {h : Int64} {k5 : Int64 → Int32 → (Nat → Nat → Int32) → (Nat → Nat → Int64) → Option (Int64 × (Nat → Nat → Int32) × (Nat → Nat → Int64))} (hr : r < 4) (e : I 43 r = qn m) (hm : m ≤ 60) :
    fM_digest_b275 k5 100000 h (qn r) (qn 0) I J = k5 (zdg (fun j => Int32.toInt64 (I 42 (r * 60 + j))) m 0 h) (qn (r + 1)) I J := by
  have g0 : (0 : Int32) ≤ qn r ∧ qn r < 4 := by
    show qn 0 ≤ qn r ∧ qn r < qn 4
    rw [qn_le (by omega) (by omega), qn_lt (by omega) (by omega)]; omega
  refine lp (σ := Int64) (R := fun o => o = k5 (zdg (fun j => Int32.toInt64 (I 42 (r * 60 + j))) m 0 h) (qn (r + 1)) I J) (Inv := fun w a => zdg (fun j => Int32.toInt64 (I 42 (r * 60 + j))) (m - w) w a = zdg (fun j => Int32.toInt64 (I 42 (r * 60 + j))) m 0 h) (fun fu w a => fM_digest_b275 k5 fu a (qn r) (qn w) I J) m 100000 0 h (Nat.zero_le _) (by omega) rfl ?_ ?_
  · intro fu a hi
    rw [Nat.sub_self] at hi
    have hi' : a = zdg (fun j => Int32.toInt64 (I 42 (r * 60 + j))) m 0 h := hi
    rw [fM_digest_b275, qp_gd_t g0, qn_nat (by omega), e, if_pos (Int32.le_refl _), hi', show qn r + 1 = qn (r + 1) from qn_add r 1]
  · intro fu w a hw hi
    rw [show m - w = (m - (w + 1)) + 1 by omega] at hi
    refine Or.inr ⟨_, hi, ?_⟩
    have e2 : ((60 : Int32) * qn r) + qn w = qn (r * 60 + w) := by
      show qn 60 * qn r + qn w = _
      rw [qn_mul, qn_add, Nat.mul_comm]
    have g1 : (0 : Int32) ≤ qn (r * 60 + w) ∧ qn (r * 60 + w) < 240 := by
      show qn 0 ≤ qn (r * 60 + w) ∧ qn (r * 60 + w) < qn 240
      rw [qn_le (by omega) (by omega), qn_lt (by omega) (by omega)]; omega
    rw [fM_digest_b275, qp_gd_t g0, qn_nat (by omega), e, if_neg (by rw [qn_le (by omega) (by omega)]; omega), e2, qp_gd_t g1, qn_nat (by omega), show qn w + 1 = qn (w + 1) from qn_add w 1]
theorem eM_dig43 {h : Int64} (hs : ∀ r, r < 4 → I 43 r = -qn 1 ∨ ∃ m, m ≤ 60 ∧ I 43 r = qn m) : fM_digest_b253 100000 h (qn 0) I J = some (zdr (I 43) (I 42) 60 4 0 h, I, J) := by
  refine lp (σ := Int64) (R := fun o => o = some (zdr (I 43) (I 42) 60 4 0 h, I, J)) (Inv := fun r a => zdr (I 43) (I 42) 60 (4 - r) r a = zdr (I 43) (I 42) 60 4 0 h) (fun fu r a => fM_digest_b253 fu a (qn r) I J) 4 100000 0 h (Nat.zero_le _) (by omega) rfl ?_ ?_
  · intro fu a hi
    have hi' : a = zdr (I 43) (I 42) 60 4 0 h := hi
    rw [fM_digest_b253, if_pos (by decide), hi']
  · intro fu r a hr hi
    rw [show 4 - r = (4 - (r + 1)) + 1 by omega] at hi
    refine Or.inr ⟨_, hi, ?_⟩
    have g0 : (0 : Int32) ≤ qn r ∧ qn r < 4 := by
      show qn 0 ≤ qn r ∧ qn r < qn 4
      rw [qn_le (by omega) (by omega), qn_lt (by omega) (by omega)]; omega
    rw [fM_digest_b253, if_neg (by show ¬ qn 4 ≤ qn r; rw [qn_le (by omega) (by omega)]; omega), qp_gd_t g0, qn_nat (by omega)]
    rcases hs r hr with e | ⟨m, hm, e⟩
    · rw [show (100000 : Nat) = 99999 + 1 from rfl, fM_digest_b275, qp_gd_t g0, qn_nat (by omega), e, if_pos (by decide), q_clm1, show qn r + 1 = qn (r + 1) from qn_add r 1]; rfl
    · refine (eM_digR43 hr e hm).trans ?_
      rw [e, qn_nat (by omega)]
theorem eM_digR41 {r m : Nat} {h : Int64} {k5 : Int64 → Int32 → (Nat → Nat → Int32) → (Nat → Nat → Int64) → Option (Int64 × (Nat → Nat → Int32) × (Nat → Nat → Int64))} (hr : r < 6) (e : I 41 r = qn m) (hm : m ≤ 40) :
    fM_digest_b208 k5 100000 h (qn r) (qn 0) I J = k5 (zdg (fun j => Int32.toInt64 (I 40 (r * 40 + j))) m 0 h) (qn (r + 1)) I J := by
  have g0 : (0 : Int32) ≤ qn r ∧ qn r < 6 := by
    show qn 0 ≤ qn r ∧ qn r < qn 6
    rw [qn_le (by omega) (by omega), qn_lt (by omega) (by omega)]; omega
  refine lp (σ := Int64) (R := fun o => o = k5 (zdg (fun j => Int32.toInt64 (I 40 (r * 40 + j))) m 0 h) (qn (r + 1)) I J) (Inv := fun w a => zdg (fun j => Int32.toInt64 (I 40 (r * 40 + j))) (m - w) w a = zdg (fun j => Int32.toInt64 (I 40 (r * 40 + j))) m 0 h) (fun fu w a => fM_digest_b208 k5 fu a (qn r) (qn w) I J) m 100000 0 h (Nat.zero_le _) (by omega) rfl ?_ ?_
  · intro fu a hi
    rw [Nat.sub_self] at hi
    have hi' : a = zdg (fun j => Int32.toInt64 (I 40 (r * 40 + j))) m 0 h := hi
    rw [fM_digest_b208, qp_gd_t g0, qn_nat (by omega), e, if_pos (Int32.le_refl _), hi', show qn r + 1 = qn (r + 1) from qn_add r 1]
  · intro fu w a hw hi
    rw [show m - w = (m - (w + 1)) + 1 by omega] at hi
    refine Or.inr ⟨_, hi, ?_⟩
    have e2 : ((40 : Int32) * qn r) + qn w = qn (r * 40 + w) := by
      show qn 40 * qn r + qn w = _
      rw [qn_mul, qn_add, Nat.mul_comm]
    have g1 : (0 : Int32) ≤ qn (r * 40 + w) ∧ qn (r * 40 + w) < 240 := by
      show qn 0 ≤ qn (r * 40 + w) ∧ qn (r * 40 + w) < qn 240
      rw [qn_le (by omega) (by omega), qn_lt (by omega) (by omega)]; omega
    rw [fM_digest_b208, qp_gd_t g0, qn_nat (by omega), e, if_neg (by rw [qn_le (by omega) (by omega)]; omega), e2, qp_gd_t g1, qn_nat (by omega), show qn w + 1 = qn (w + 1) from qn_add w 1]
theorem eM_dig41 {h : Int64} (hs : ∀ r, r < 6 → I 41 r = -qn 1 ∨ ∃ m, m ≤ 40 ∧ I 41 r = qn m) : fM_digest_b185 100000 h (qn 0) I J = fM_digest_b253 100000 (zdr (I 41) (I 40) 40 6 0 h) (qn 0) I J := by
  refine lp (σ := Int64) (R := fun o => o = fM_digest_b253 100000 (zdr (I 41) (I 40) 40 6 0 h) (qn 0) I J) (Inv := fun r a => zdr (I 41) (I 40) 40 (6 - r) r a = zdr (I 41) (I 40) 40 6 0 h) (fun fu r a => fM_digest_b185 fu a (qn r) I J) 6 100000 0 h (Nat.zero_le _) (by omega) rfl ?_ ?_
  · intro fu a hi
    have hi' : a = zdr (I 41) (I 40) 40 6 0 h := hi
    rw [fM_digest_b185, if_pos (by decide), hi']; rfl
  · intro fu r a hr hi
    rw [show 6 - r = (6 - (r + 1)) + 1 by omega] at hi
    refine Or.inr ⟨_, hi, ?_⟩
    have g0 : (0 : Int32) ≤ qn r ∧ qn r < 6 := by
      show qn 0 ≤ qn r ∧ qn r < qn 6
      rw [qn_le (by omega) (by omega), qn_lt (by omega) (by omega)]; omega
    rw [fM_digest_b185, if_neg (by show ¬ qn 6 ≤ qn r; rw [qn_le (by omega) (by omega)]; omega), qp_gd_t g0, qn_nat (by omega)]
    rcases hs r hr with e | ⟨m, hm, e⟩
    · rw [show (100000 : Nat) = 99999 + 1 from rfl, fM_digest_b208, qp_gd_t g0, qn_nat (by omega), e, if_pos (by decide), q_clm1, show qn r + 1 = qn (r + 1) from qn_add r 1]; rfl
    · refine (eM_digR41 hr e hm).trans ?_
      rw [e, qn_nat (by omega)]
theorem eM_dig6 {f : Nat → Int32} {h : Int64} (Pm : (Nat → Nat → Int32) → Prop) (hP0 : Pm I) (ha : ∀ I, Pm I → ∀ w, w ≤ 11 → ∃ I', fM_counted (qn w) I J = some (f w, I', J) ∧ Pm I') : ∃ I', fM_digest_b6 100000 h (qn 0) I J = fM_digest_b33 100000 (zdg (fun w => Int32.toInt64 (f w)) 12 0 h) (qn 0) I' J ∧ Pm I' := by
  refine lp (σ := Int64 × (Nat → Nat → Int32)) (R := fun o => ∃ I', o = fM_digest_b33 100000 (zdg (fun w => Int32.toInt64 (f w)) 12 0 h) (qn 0) I' J ∧ Pm I') (Inv := fun w q => zdg (fun w => Int32.toInt64 (f w)) (12 - w) w q.1 = zdg (fun w => Int32.toInt64 (f w)) 12 0 h ∧ Pm q.2) (fun fu w q => fM_digest_b6 fu q.1 (qn w) q.2 J) 12 100000 0 (h, I) (Nat.zero_le _) (by omega) ⟨rfl, hP0⟩ ?_ ?_
  · rintro fu ⟨a, I1⟩ ⟨hi, hp⟩
    dsimp only at hi hp ⊢
    have hi' : a = zdg (fun w => Int32.toInt64 (f w)) 12 0 h := hi
    exact ⟨I1, by rw [fM_digest_b6, if_pos (by decide), hi']; rfl, hp⟩
  · rintro fu w ⟨a, I1⟩ hw ⟨hi, hp⟩
    dsimp only at hi hp ⊢
    rw [show 12 - w = (12 - (w + 1)) + 1 by omega] at hi
    obtain ⟨I2, a1, a2⟩ := ha I1 hp w (by omega)
    refine Or.inr ⟨(_, I2), ⟨hi, a2⟩, ?_⟩
    rw [fM_digest_b6, if_neg (by show ¬ qn 12 ≤ qn w; rw [qn_le (by omega) (by omega)]; omega), a1, qp_bd_t, show qn w + 1 = qn (w + 1) from qn_add w 1]
theorem eM_dig46 {g : Nat → Int32} {h : Int64} {i : Nat} {k33 : Int64 → Int32 → (Nat → Nat → Int32) → (Nat → Nat → Int64) → Option (Int64 × (Nat → Nat → Int32) × (Nat → Nat → Int64))} (Pm : (Nat → Nat → Int32) → Prop) (hP0 : Pm I) (ha : ∀ I, Pm I → ∀ w, w ≤ 6 → ∃ I', fM_toldOf (qn i) (qn w) I J = some (g w, I', J) ∧ Pm I') : ∃ I', fM_digest_b46 k33 100000 h (qn i) (qn 0) I J = k33 (zdg (fun w => Int32.toInt64 (g w)) 7 0 h) (qn (i + 1)) I' J ∧ Pm I' := by
  refine lp (σ := Int64 × (Nat → Nat → Int32)) (R := fun o => ∃ I', o = k33 (zdg (fun w => Int32.toInt64 (g w)) 7 0 h) (qn (i + 1)) I' J ∧ Pm I') (Inv := fun w q => zdg (fun w => Int32.toInt64 (g w)) (7 - w) w q.1 = zdg (fun w => Int32.toInt64 (g w)) 7 0 h ∧ Pm q.2) (fun fu w q => fM_digest_b46 k33 fu q.1 (qn i) (qn w) q.2 J) 7 100000 0 (h, I) (Nat.zero_le _) (by omega) ⟨rfl, hP0⟩ ?_ ?_
  · rintro fu ⟨a, I1⟩ ⟨hi, hp⟩
    dsimp only at hi hp ⊢
    have hi' : a = zdg (fun w => Int32.toInt64 (g w)) 7 0 h := hi
    exact ⟨I1, by rw [fM_digest_b46, if_pos (by decide), hi', show qn i + 1 = qn (i + 1) from qn_add i 1], hp⟩
  · rintro fu w ⟨a, I1⟩ hw ⟨hi, hp⟩
    dsimp only at hi hp ⊢
    rw [show 7 - w = (7 - (w + 1)) + 1 by omega] at hi
    obtain ⟨I2, a1, a2⟩ := ha I1 hp w (by omega)
    refine Or.inr ⟨(_, I2), ⟨hi, a2⟩, ?_⟩
    rw [fM_digest_b46, if_neg (by show ¬ qn 7 ≤ qn w; rw [qn_le (by omega) (by omega)]; omega), a1, qp_bd_t, show qn w + 1 = qn (w + 1) from qn_add w 1]
theorem eM_dig33 {g : Nat → Nat → Int32} {h : Int64} (hn : n ≤ 6) (Pm : (Nat → Nat → Int32) → Prop) (hP0 : Pm I) (e0 : ∀ I, Pm I → I 37 0 = qn n) (ha : ∀ i, i < n → ∀ I, Pm I → ∀ w, w ≤ 6 → ∃ I', fM_toldOf (qn i) (qn w) I J = some (g i w, I', J) ∧ Pm I') : ∃ I', fM_digest_b33 100000 h (qn 0) I J = fM_digest_b82 100000 (zdg2 (fun i w => Int32.toInt64 (g i w)) n 0 h) (qn 0) I' J ∧ Pm I' := by
  refine lp (σ := Int64 × (Nat → Nat → Int32)) (R := fun o => ∃ I', o = fM_digest_b82 100000 (zdg2 (fun i w => Int32.toInt64 (g i w)) n 0 h) (qn 0) I' J ∧ Pm I') (Inv := fun i q => zdg2 (fun i w => Int32.toInt64 (g i w)) (n - i) i q.1 = zdg2 (fun i w => Int32.toInt64 (g i w)) n 0 h ∧ Pm q.2) (fun fu i q => fM_digest_b33 fu q.1 (qn i) q.2 J) n 100000 0 (h, I) (Nat.zero_le _) (by omega) ⟨rfl, hP0⟩ ?_ ?_
  · rintro fu ⟨a, I1⟩ ⟨hi, hp⟩
    dsimp only at hi hp ⊢
    rw [Nat.sub_self] at hi
    have hi' : a = zdg2 (fun i w => Int32.toInt64 (g i w)) n 0 h := hi
    exact ⟨I1, by rw [fM_digest_b33, e0 I1 hp, if_pos (Int32.le_refl _), hi']; rfl, hp⟩
  · rintro fu i ⟨a, I1⟩ hin ⟨hi, hp⟩
    dsimp only at hi hp ⊢
    rw [show n - i = (n - (i + 1)) + 1 by omega] at hi
    obtain ⟨I2, a1, a2⟩ := eM_dig46 (J := J) (g := g i) (h := a) (i := i) (k33 := fun a0 a1 I J => fM_digest_b33 fu a0 a1 I J) Pm hp (ha i hin)
    refine Or.inr ⟨(_, I2), ⟨hi, a2⟩, ?_⟩
    rw [fM_digest_b33, e0 I1 hp, if_neg (by rw [qn_le (by omega) (by omega)]; omega)]
    exact a1
theorem eM_dig82 {tk : List Nat} {h : Int64} (hl : tk.length ≤ 12) (hT : zT 6 tk) (e4 : I 37 56 = qn tk.length) (hr : zrow 57 tk (I 37)) : fM_digest_b82 100000 h (qn 0) I J = fM_digest_b139 100000 (zdt tk tk.length 0 h) (qn 0) I J := by
  refine lp (σ := Int64) (R := fun o => o = fM_digest_b139 100000 (zdt tk tk.length 0 h) (qn 0) I J) (Inv := fun k a => zdt tk (tk.length - k) k a = zdt tk tk.length 0 h) (fun fu k a => fM_digest_b82 fu a (qn k) I J) tk.length 100000 0 h (Nat.zero_le _) (by omega) rfl ?_ ?_
  · intro fu a hi
    rw [Nat.sub_self] at hi
    have hi' : a = zdt tk tk.length 0 h := hi
    rw [fM_digest_b82, e4, if_pos (Int32.le_refl _), hi']; rfl
  · intro fu k a hk hi
    rw [show tk.length - k = (tk.length - (k + 1)) + 1 by omega] at hi
    refine Or.inr ⟨_, hi, ?_⟩
    obtain ⟨t1, t2⟩ := zT_at hT hk
    have d1 : qn (zat tk k) / 8 = qn (zat tk k / 8) := qn_div (b := 8) (by omega) (by omega)
    have d2 : qn (zat tk k) - qn (zat tk k / 8) * 8 = qn (zat tk k % 8) := by
      show qn (zat tk k) - qn (zat tk k / 8) * qn 8 = _
      rw [qn_mul, qn_mod]
    have e5 : (57 : Int32) + qn k = qn (57 + k) := qn_add 57 k
    have g1 : (0 : Int32) ≤ qn (57 + k) ∧ qn (57 + k) < 75 := by
      show qn 0 ≤ qn (57 + k) ∧ qn (57 + k) < qn 75
      rw [qn_le (by omega) (by omega), qn_lt (by omega) (by omega)]; omega
    rw [fM_digest_b82, e4, if_neg (by rw [qn_le (by omega) (by omega)]; omega), e5, qp_gd_t g1, qn_nat (by omega), hr k hk, d1, d2, show qn k + 1 = qn (k + 1) from qn_add k 1]
theorem eM_dig139 {f : Nat → Int32} {h : Int64} (ha : ∀ k, k < 3 → (I 39 k = qn 0 ∧ f k = -qn 1) ∨ (I 39 k = qn 1 ∧ f k = I 38 (75 * k + 14))) : fM_digest_b139 100000 h (qn 0) I J = fM_digest_b185 100000 (zdg (fun k => Int32.toInt64 (f k)) 3 0 h) (qn 0) I J := by
  refine lp (σ := Int64) (R := fun o => o = fM_digest_b185 100000 (zdg (fun k => Int32.toInt64 (f k)) 3 0 h) (qn 0) I J) (Inv := fun w a => zdg (fun k => Int32.toInt64 (f k)) (3 - w) w a = zdg (fun k => Int32.toInt64 (f k)) 3 0 h) (fun fu w a => fM_digest_b139 fu a (qn w) I J) 3 100000 0 h (Nat.zero_le _) (by omega) rfl ?_ ?_
  · intro fu a hi
    have hi' : a = zdg (fun k => Int32.toInt64 (f k)) 3 0 h := hi
    rw [fM_digest_b139, if_pos (by decide), hi']; rfl
  · intro fu w a hw hi
    rw [show 3 - w = (3 - (w + 1)) + 1 by omega] at hi
    refine Or.inr ⟨31 * a + Int32.toInt64 (f w), hi, ?_⟩
    have g0 : (0 : Int32) ≤ qn w ∧ qn w < 3 := by
      show qn 0 ≤ qn w ∧ qn w < qn 3
      rw [qn_le (by omega) (by omega), qn_lt (by omega) (by omega)]; omega
    rw [fM_digest_b139, if_neg (by show ¬ qn 3 ≤ qn w; rw [qn_le (by omega) (by omega)]; omega), qp_gd_t g0, qn_nat (by omega)]
    rcases ha w hw with ⟨h1, h2⟩ | ⟨h1, h2⟩
    · rw [h1, if_pos (by decide), h2, show qn w + 1 = qn (w + 1) from qn_add w 1]; rfl
    · have e5 : ((75 : Int32) * qn w) + 14 = qn (75 * w + 14) := by
        show qn 75 * qn w + qn 14 = _
        rw [qn_mul, qn_add]
      have g1 : (0 : Int32) ≤ qn (75 * w + 14) ∧ qn (75 * w + 14) < 225 := by
        show qn 0 ≤ qn (75 * w + 14) ∧ qn (75 * w + 14) < qn 225
        rw [qn_le (by omega) (by omega), qn_lt (by omega) (by omega)]; omega
      rw [h1, if_neg (by decide), e5, qp_gd_t g1, qn_nat (by omega), h2, show qn w + 1 = qn (w + 1) from qn_add w 1]
end DG
theorem sim_digest : zsim fX_digest fM_digest := by
  intro I J h
  obtain ⟨n, L0, K, P, ds, kp, hR⟩ := id h
  obtain ⟨hS, hC, hL⟩ := hR
  have hn := hS.1
  have hP := zSt_P hS
  have hok := zSt_ok hS
  obtain ⟨hX, hKX, hM, hKM⟩ := id hL
  obtain ⟨h1, h2, h3⟩ := id hX
  obtain ⟨I1, a1, a2, a3⟩ := eL_sv (J := J) hP hn (zSt_kx hS h2) h3.1 h3.2.2.1 hok.2.2
  have f1 : ∀ c, c < 18 ∨ 22 < c → I1 c = I c := a3
  have hX1 : zXL n L0 K P ds I1 := by
    unfold zXL at hX ⊢
    rw [f1 15 (by omega), f1 16 (by omega), f1 17 (by omega)]
    exact ⟨h1, h2, zXs_eq h3 (fun c hc => f1 c (by omega))⟩
  have hK1 : zKX kp I1 := by
    unfold zKX at hKX ⊢
    rw [f1 8 (by omega), f1 9 (by omega)]; exact hKX
  have hs2 : ∀ r, r < 6 → I1 2 r = -qn 1 ∨ ∃ m, m ≤ 40 ∧ I1 2 r = qn m := by rw [f1 2 (by omega)]; exact hC.2.2.2.1
  have hs5 : ∀ r, r < 4 → I1 5 r = -qn 1 ∨ ∃ m, m ≤ 60 ∧ I1 5 r = qn m := by rw [f1 5 (by omega)]; exact hC.2.2.2.2
  obtain ⟨x1, x2, x0, x3, x4, x5, x6, x7, x8⟩ := id hX1
  have hT6 : zT 6 (zrun n L0 ds).1 := fun t ht => ⟨by have := (hok.1 t ht).1; omega, by have := (hok.1 t ht).2; omega⟩
  -- the model's worlds on the way
  have mS : ∀ I2, zMF I1 I2 → I2 37 = I1 37 ∧ I2 38 = I1 38 ∧ I2 39 = I1 39 ∧ I2 40 = I1 40 ∧ I2 41 = I1 41 ∧ I2 42 = I1 42 ∧ I2 43 = I1 43 := fun I2 hf => ⟨hf.1 37 (by omega) (by omega), hf.1 38 (by omega) (by omega), hf.1 39 (by omega) (by omega), hf.1 40 (by omega) (by omega), hf.1 41 (by omega) (by omega), hf.1 42 (by omega) (by omega), hf.1 43 (by omega) (by omega)⟩
  have hM1 : zML n L0 K P ds (I1 37) := by rw [f1 37 (by omega)]; exact hM
  have g41 : I1 41 = I1 2 := by rw [f1 41 (by omega), f1 2 (by omega)]; exact hC.2.1.1
  have g40 : I1 40 = I1 3 := by rw [f1 40 (by omega), f1 3 (by omega)]; exact hC.2.1.2.1
  have g43 : I1 43 = I1 5 := by rw [f1 43 (by omega), f1 5 (by omega)]; exact hC.2.1.2.2.1
  have g42 : I1 42 = I1 6 := by rw [f1 42 (by omega), f1 6 (by omega)]; exact hC.2.1.2.2.2.1
  have hKM1 : zKM n L0 K P kp I1 := by
    unfold zKM at hKM ⊢
    rw [f1 38 (by omega), f1 39 (by omega)]; exact hKM
  have hfl : ∀ k, k < 3 → (zthr I1 8 k = false ∧ I1 39 k = qn 0) ∨ (zthr I1 8 k = true ∧ I1 39 k = qn 1) := fun k hk => by
    unfold zthr
    cases hq : kp k with
    | none => exact Or.inl ⟨decide_eq_false (fun q => q ((hK1 k hk).1 hq)), (hKM1 k hk).1 hq⟩
    | some d =>
      refine Or.inr ⟨decide_eq_true (fun q => ?_), ((hKM1 k hk).2 d hq).1⟩
      rw [((hK1 k hk).2 d hq).1, qn_m1 (by have := (hS.2.2.2.2 k hk d hq).1; omega)] at q; exact q
  obtain ⟨I2, b1, b2⟩ := eM_dig6 (J := J) (I := I1) (h := 17) (f := fun w => qn (zam n K P (zls n (zrun n L0 ds).1) (zrun n L0 ds).2 (zrun n L0 ds).1.length ds.length (zthr I1 2) (zthr I1 5) (zthr I1 8) w)) (zMF I1) zMF_rfl (fun I2 hf w hw => by
    obtain ⟨m1, m2, m3, m4, m5, m6, m7⟩ := mS I2 hf
    obtain ⟨I3, c1, c2⟩ := eM_counted (I := I2) (J := J) (w := w) (cr := zthr I1 2) (ct := zthr I1 5) (ck := zthr I1 8) hS (fun r hr => by rw [m5, g41]; exact zthr_cs (hs2 r hr) (by omega)) (fun r hr => by rw [m7, g43]; exact zthr_cs (hs5 r hr) (by omega)) (fun k hk => by rw [m3]; exact hfl k hk) (by rw [m1]; exact hM1) hw
    exact ⟨I3, c1, zMF_tr hf c2⟩)
  obtain ⟨I3, c1, c2⟩ := eM_dig33 (J := J) (I := I2) (n := n) (h := zdg (fun w => Int32.toInt64 (qn (zam n K P (zls n (zrun n L0 ds).1) (zrun n L0 ds).2 (zrun n L0 ds).1.length ds.length (zthr I1 2) (zthr I1 5) (zthr I1 8) w))) 12 0 17) (g := fun i w => qn (zone n K P (zls n (zrun n L0 ds).1) (zrun n L0 ds).2 i w)) hn (zMF I1) b2 (fun I3 hf => by rw [(mS I3 hf).1]; exact hM1.2.2.2.2.1) (fun i hi I3 hf w hw => by
    obtain ⟨I4, d1, d2⟩ := eM_toldOf (I := I3) (J := J) (w := w) hS (by rw [(mS I3 hf).1]; exact hM1) hi hw
    exact ⟨I4, d1, zMF_tr hf d2⟩)
  obtain ⟨m1, m2, m3, m4, m5, m6, m7⟩ := mS I3 c2
  generalize hH : zdg2 (fun i w => Int32.toInt64 (qn (zone n K P (zls n (zrun n L0 ds).1) (zrun n L0 ds).2 i w))) n 0 (zdg (fun w => Int32.toInt64 (qn (zam n K P (zls n (zrun n L0 ds).1) (zrun n L0 ds).2 (zrun n L0 ds).1.length ds.length (zthr I1 2) (zthr I1 5) (zthr I1 8) w))) 12 0 17) = H at c1
  have d1 := eM_dig82 (I := I3) (J := J) (tk := (zrun n L0 ds).1) (h := H) hok.2.1 hT6 (by rw [m1]; exact hM1.2.2.2.2.2.2.1) (by rw [m1]; exact hM1.2.2.2.2.2.2.2.1)
  have d2 := eM_dig139 (I := I3) (J := J) (f := I1 8) (h := zdt (zrun n L0 ds).1 (zrun n L0 ds).1.length 0 H) (fun k hk => by
    rw [m2, m3]
    cases hq : kp k with
    | none => exact Or.inl ⟨(hKM1 k hk).1 hq, (hK1 k hk).1 hq⟩
    | some d => exact Or.inr ⟨((hKM1 k hk).2 d hq).1, by rw [((hK1 k hk).2 d hq).1]; exact ((hKM1 k hk).2 d hq).2.2.2.1.symm⟩)
  generalize hH3 : zdg (fun k => Int32.toInt64 (I1 8 k)) 3 0 (zdt (zrun n L0 ds).1 (zrun n L0 ds).1.length 0 H) = H3 at d2
  have d3 := eM_dig41 (I := I3) (J := J) (h := H3) (by rw [m5, g41]; exact hs2)
  rw [m4, m5, g40, g41] at d3
  have d4 := eM_dig43 (I := I3) (J := J) (h := zdr (I1 2) (I1 3) 40 6 0 H3) (by rw [m7, g43]; exact hs5)
  rw [m6, m7, g42, g43] at d4
  refine ⟨zdr (I1 5) (I1 6) 60 4 0 (zdr (I1 2) (I1 3) 40 6 0 H3), I1, J, I3, J, ?_, ?_, zR_scr h (fun c hc => by unfold zlc zcc at hc; rw [c2.1 c (by omega) (by omega)]; exact f1 c (by omega)) (by rw [c2.2 8 (by omega), f1 36 (by omega)]) (by rw [c2.2 9 (by omega), f1 36 (by omega)])⟩
  · unfold fX_digest
    rw [h3.2.1, a1, qp_bd_t]
    refine (eX_dig20 (I := I1) (J := J) (h := 17) (f := fun w => qn (zam n K P (zls n (zrun n L0 ds).1) (zrun n L0 ds).2 (zrun n L0 ds).1.length ds.length (zthr I1 2) (zthr I1 5) (zthr I1 8) w)) (fun w hw => eX_amount hS ⟨hs2, hs5⟩ hX1 hK1 a2 hw)).trans ?_
    refine (eX_dig47 (I := I1) (J := J) (g := fun i w => qn (zone n K P (zls n (zrun n L0 ds).1) (zrun n L0 ds).2 i w)) hn x0 (fun i hi w hw => eX_trait hP hn hi hw (x2 i hi) x0 x3 a2)).trans ?_
    rw [hH]
    refine (eX_dig100 (I := I1) (J := J) hok.2.1 hT6 x5 x7).trans ?_
    refine (eX_dig157 (I := I1) (J := J) (fun _ _ => rfl)).trans ?_
    rw [hH3, eS1_dig (by rw [f1 1 (by omega)]; exact hC.1.1) hs2, qp_bd_t, eS4_dig (by rw [f1 4 (by omega)]; exact hC.1.2.1) hs5, qp_bd_t]
  · unfold fM_digest
    exact b1.trans (c1.trans (d1.trans (d2.trans (d3.trans d4))))

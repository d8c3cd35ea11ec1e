/-! DIGEST -/
def zdg (f : Nat → Int64) : Nat → Nat → Int64 → Int64
  | 0, _, h => h
  | k + 1, b, h => zdg f k (b + 1) (31 * h + f b)
def zdg2 (g : Nat → Nat → Int64) : Nat → Nat → Int64 → Int64
  | 0, _, h => h
  | k + 1, i, h => zdg2 g k (i + 1) (zdg (g i) 7 0 h)
def zdt (tk : List Nat) : Nat → Nat → Int64 → Int64
  | 0, _, h => h
  | k + 1, b, h => zdt tk k (b + 1) (31 * (31 * h + Int32.toInt64 (qn (zat tk b / 8))) + Int32.toInt64 (qn (zat tk b % 8)))
/-- rows: the size, then the places -/
def zdr (sz R : Nat → Int32) (most : Nat) : Nat → Nat → Int64 → Int64
  | 0, _, h => h
  | k + 1, r, h => zdr sz R most k (r + 1) (zdg (fun j => Int32.toInt64 (R (r * most + j))) (Int32.toNatClampNeg (sz r)) 0 (31 * h + Int32.toInt64 (sz r)))
theorem q_clm1 : Int32.toNatClampNeg (-qn 1) = 0 := by decide
section DG
variable {n L0 : Nat} {K P : Nat → Nat} {ds : List Nat} {kp : Nat → Option (List Nat)} {I : Nat → Nat → Int32} {J : Nat → Nat → Int64}
theorem eX_dig20 {f : Nat → Int32} {h : Int64} (ha : ∀ w, w ≤ 11 → fX_amount (qn w) I J = some (f w, I, J)) : fX_digest_b20 100000 h (qn 0) I J = fX_digest_b47 100000 (zdg (fun w => Int32.toInt64 (f w)) 12 0 h) (qn 0) I J := by
  refine lp (σ := Int64) (R := fun o => o = fX_digest_b47 100000 (zdg (fun w => Int32.toInt64 (f w)) 12 0 h) (qn 0) I J) (Inv := fun w a => zdg (fun w => Int32.toInt64 (f w)) (12 - w) w a = zdg (fun w => Int32.toInt64 (f w)) 12 0 h) (fun fu w a => fX_digest_b20 fu a (qn w) I J) 12 100000 0 h (Nat.zero_le _) (by omega) rfl ?_ ?_
  · intro fu a hi
    have hi' : a = zdg (fun w => Int32.toInt64 (f w)) 12 0 h := hi
    rw [fX_digest_b20, if_pos (by decide), hi']; rfl
  · intro fu w a hw hi
    rw [show 12 - w = (12 - (w + 1)) + 1 by omega] at hi
    refine Or.inr ⟨_, hi, ?_⟩
    rw [fX_digest_b20, if_neg (by show ¬ qn 11 < qn w; rw [qn_lt (by omega) (by omega)]; omega), ha w (by omega), qp_bd_t, show qn w + 1 = qn (w + 1) from qn_add w 1]
theorem eX_dig64 {g : Nat → Int32} {h : Int64} {i : Nat} {k47 : Int64 → Int32 → (Nat → Nat → Int32) → (Nat → Nat → Int64) → Option (Int64 × (Nat → Nat → Int32) × (Nat → Nat → Int64))} (ha : ∀ w, w ≤ 6 → fX_trait (qn i) (qn w) I J = some (g w, I, J)) : fX_digest_b64 k47 100000 h (qn i) (qn 0) I J = k47 (zdg (fun w => Int32.toInt64 (g w)) 7 0 h) (qn (i + 1)) I J := by
  refine lp (σ := Int64) (R := fun o => o = k47 (zdg (fun w => Int32.toInt64 (g w)) 7 0 h) (qn (i + 1)) I J) (Inv := fun w a => zdg (fun w => Int32.toInt64 (g w)) (7 - w) w a = zdg (fun w => Int32.toInt64 (g w)) 7 0 h) (fun fu w a => fX_digest_b64 k47 fu a (qn i) (qn w) I J) 7 100000 0 h (Nat.zero_le _) (by omega) rfl ?_ ?_
  · intro fu a hi
    have hi' : a = zdg (fun w => Int32.toInt64 (g w)) 7 0 h := hi
    rw [fX_digest_b64, if_pos (by decide), hi', show qn i + 1 = qn (i + 1) from qn_add i 1]
  · intro fu w a hw hi
    rw [show 7 - w = (7 - (w + 1)) + 1 by omega] at hi
    refine Or.inr ⟨_, hi, ?_⟩
    rw [fX_digest_b64, if_neg (by show ¬ qn 6 < qn w; rw [qn_lt (by omega) (by omega)]; omega), ha w (by omega), qp_bd_t, show qn w + 1 = qn (w + 1) from qn_add w 1]
theorem eX_dig47 {g : Nat → Nat → Int32} {h : Int64} (hn : n ≤ 6) (e0 : I 15 0 = qn n) (ha : ∀ i, i < n → ∀ w, w ≤ 6 → fX_trait (qn i) (qn w) I J = some (g i w, I, J)) : fX_digest_b47 100000 h (qn 0) I J = fX_digest_b100 100000 (zdg2 (fun i w => Int32.toInt64 (g i w)) n 0 h) (qn 0) I J := by
  refine lp (σ := Int64) (R := fun o => o = fX_digest_b100 100000 (zdg2 (fun i w => Int32.toInt64 (g i w)) n 0 h) (qn 0) I J) (Inv := fun i a => zdg2 (fun i w => Int32.toInt64 (g i w)) (n - i) i a = zdg2 (fun i w => Int32.toInt64 (g i w)) n 0 h) (fun fu i a => fX_digest_b47 fu a (qn i) I J) n 100000 0 h (Nat.zero_le _) (by omega) rfl ?_ ?_
  · intro fu a hi
    rw [Nat.sub_self] at hi
    have hi' : a = zdg2 (fun i w => Int32.toInt64 (g i w)) n 0 h := hi
    rw [fX_digest_b47, e0, if_pos (Int32.le_refl _), hi']; rfl
  · intro fu i a hin hi
    rw [show n - i = (n - (i + 1)) + 1 by omega] at hi
    refine Or.inr ⟨_, hi, ?_⟩
    rw [fX_digest_b47, e0, if_neg (by rw [qn_le (by omega) (by omega)]; omega)]
    exact eX_dig64 (ha i hin)
theorem eX_dig100 {tk : List Nat} {h : Int64} (hl : tk.length ≤ 12) (hT : zT 6 tk) (e4 : I 14 4 = qn tk.length) (hr : zr0 tk (I 23)) : fX_digest_b100 100000 h (qn 0) I J = fX_digest_b157 100000 (zdt tk tk.length 0 h) (qn 0) I J := by
  refine lp (σ := Int64) (R := fun o => o = fX_digest_b157 100000 (zdt tk tk.length 0 h) (qn 0) I J) (Inv := fun k a => zdt tk (tk.length - k) k a = zdt tk tk.length 0 h) (fun fu k a => fX_digest_b100 fu a (qn k) I J) tk.length 100000 0 h (Nat.zero_le _) (by omega) rfl ?_ ?_
  · intro fu a hi
    rw [Nat.sub_self] at hi
    have hi' : a = zdt tk tk.length 0 h := hi
    rw [fX_digest_b100, e4, if_pos (Int32.le_refl _), hi']; rfl
  · intro fu k a hk hi
    rw [show tk.length - k = (tk.length - (k + 1)) + 1 by omega] at hi
    refine Or.inr ⟨_, hi, ?_⟩
    obtain ⟨t1, t2⟩ := zT_at hT hk
    have es : fL_saleOf (qn k) I J = some (qn (zat tk k), I, J) := by
      unfold fL_saleOf
      have ek := hr k hk
      simp (disch := omega) only [ek, qn_l0, qn_l1, qn_l2, qn_l3, qn_l4, qn_l5, qn_l6, qn_l7, qn_l8, qn_l9, qn_l10, qn_l11, qn_l12, qn_l13, qn_l14, qn_l15, qn_l16, qn_l17, qn_l18, qn_l19, qn_l20, qn_l21, qn_l22, qn_l23, qn_l24, qn_l26, qn_l27, qn_l28, qn_l31, qn_l32, qn_l33, qn_l34, qn_l36, qn_l37, qn_l38, qn_l39, qn_l40, qn_l47, qn_l48, qn_l49, qn_l50, qn_l51, qn_l54, qn_l55, qn_l56, qn_l57, qn_l60, qn_l63, qn_l64, qn_l69, qn_l70, qn_l75, qn_l99, qn_l100, qn_l103, qn_l111, qn_l112, qn_l113, qn_l115, qn_l117, qn_l120, qn_l127, qn_l128, qn_l200, qn_l225, qn_l240, qn_l255, qn_l256, qn_l300, qn_l720, qn_l1000, qn_l48271, qn_l1000000, qn_l2147483646, qn_l2147483647, qn_add, qn_mul, qn_sub, qn_addneg, qn_div, qn_mod, qn_modn, qn_lt, qn_le, qn_eq, qn_nat, qn_m1, qn_m1', qn_c1, qn_g1, qn_g1', qn_c1', qn_and, qn_or, qn_shl1, qn_shr1, qn_64, ql_32, ql_add, ql_mul, ql_sub, ql_div, ql_mod, ql_lt, ql_le, ql_eq, ql_l0, ql_l1, qp_gd_T, qp_bd_t, ↓reduceIte, qt_le, qf_le, qt_lt, qf_lt, qt_eq, qf_eq, and_self, not_true_eq_false, not_false_eq_true, true_and, and_true, or_true, true_or, or_false, false_or, and_false, false_and, Nat.reduceAdd, Nat.reduceMul, Nat.reduceSub, Nat.reduceDiv, Nat.reduceMod, Nat.reducePow, Nat.zero_add, Nat.add_zero, Nat.zero_le, Nat.mul_zero, Nat.zero_mul, qm_nk, qm_eq, qm_nj]
    have d1 : qn (zat tk k) / 8 = qn (zat tk k / 8) := qn_div (b := 8) (by omega) (by omega)
    have d2 : qn (zat tk k) - qn (zat tk k / 8) * 8 = qn (zat tk k % 8) := by
      show qn (zat tk k) - qn (zat tk k / 8) * qn 8 = _
      rw [qn_mul, qn_mod]
    rw [fX_digest_b100, e4, if_neg (by rw [qn_le (by omega) (by omega)]; omega), es, qp_bd_t, es, qp_bd_t, d1, d2, show qn k + 1 = qn (k + 1) from qn_add k 1]
theorem eX_dig157 {h : Int64} (h8 : ∀ k, k < 3 → I 8 k = I 8 k) : fX_digest_b157 100000 h (qn 0) I J = (qp_bd (fS_digested_1 (zdg (fun k => Int32.toInt64 (I 8 k)) 3 0 h) I J) fun v1 I1 J1 => qp_bd (fS_digested_4 v1 I1 J1) fun v2 I2 J2 => some (v2, I2, J2)) := by
  refine lp (σ := Int64) (R := fun o => o = (qp_bd (fS_digested_1 (zdg (fun k => Int32.toInt64 (I 8 k)) 3 0 h) I J) fun v1 I1 J1 => qp_bd (fS_digested_4 v1 I1 J1) fun v2 I2 J2 => some (v2, I2, J2))) (Inv := fun w a => zdg (fun k => Int32.toInt64 (I 8 k)) (3 - w) w a = zdg (fun k => Int32.toInt64 (I 8 k)) 3 0 h) (fun fu w a => fX_digest_b157 fu a (qn w) I J) 3 100000 0 h (Nat.zero_le _) (by omega) rfl ?_ ?_
  · intro fu a hi
    have hi' : a = zdg (fun k => Int32.toInt64 (I 8 k)) 3 0 h := hi
    rw [fX_digest_b157, if_pos (by decide), hi']
  · intro fu w a hw hi
    rw [show 3 - w = (3 - (w + 1)) + 1 by omega] at hi
    refine Or.inr ⟨_, hi, ?_⟩
    rw [fX_digest_b157, if_neg (by show ¬ qn 3 ≤ qn w; rw [qn_le (by omega) (by omega)]; omega), eS7_size hw, qp_bd_t, show qn w + 1 = qn (w + 1) from qn_add w 1]
theorem eS1_digR {r m : Nat} {h : Int64} {k5 : Int64 → Int32 → (Nat → Nat → Int32) → (Nat → Nat → Int64) → Option (Int64 × (Nat → Nat → Int32) × (Nat → Nat → Int64))} (hc : I 1 0 = qn 40) (hr : r < 6) (e : I 2 r = qn m) (hm : m ≤ 40) :
    fS_digested_1_b32 k5 100000 h (qn r) (qn 0) I J = k5 (zdg (fun j => Int32.toInt64 (I 3 (r * 40 + j))) m 0 h) (qn (r + 1)) I J := by
  refine lp (σ := Int64) (R := fun o => o = k5 (zdg (fun j => Int32.toInt64 (I 3 (r * 40 + j))) m 0 h) (qn (r + 1)) I J) (Inv := fun w a => zdg (fun j => Int32.toInt64 (I 3 (r * 40 + j))) (m - w) w a = zdg (fun j => Int32.toInt64 (I 3 (r * 40 + j))) m 0 h) (fun fu w a => fS_digested_1_b32 k5 fu a (qn r) (qn w) I J) m 100000 0 h (Nat.zero_le _) (by omega) rfl ?_ ?_
  · intro fu a hi
    rw [Nat.sub_self] at hi
    have hi' : a = zdg (fun j => Int32.toInt64 (I 3 (r * 40 + j))) m 0 h := hi
    rw [fS_digested_1_b32, eS1_size hr, qp_bd_t, e, if_pos (Int32.le_refl _), hi', show qn r + 1 = qn (r + 1) from qn_add r 1]
  · intro fu w a hw hi
    rw [show m - w = (m - (w + 1)) + 1 by omega] at hi
    refine Or.inr ⟨_, hi, ?_⟩
    rw [fS_digested_1_b32, eS1_size hr, qp_bd_t, e, if_neg (by rw [qn_le (by omega) (by omega)]; omega), eS1_get hc hr e hm hw, qp_bd_t, show qn w + 1 = qn (w + 1) from qn_add w 1]
theorem eS1_dig {h : Int64} (hc : I 1 0 = qn 40) (hs : ∀ r, r < 6 → I 2 r = -qn 1 ∨ ∃ m, m ≤ 40 ∧ I 2 r = qn m) : fS_digested_1 h I J = some (zdr (I 2) (I 3) 40 6 0 h, I, J) := by
  unfold fS_digested_1
  refine lp (σ := Int64) (R := fun o => o = some (zdr (I 2) (I 3) 40 6 0 h, I, J)) (Inv := fun r a => zdr (I 2) (I 3) 40 (6 - r) r a = zdr (I 2) (I 3) 40 6 0 h) (fun fu r a => fS_digested_1_b5 fu a (qn r) I J) 6 100000 0 h (Nat.zero_le _) (by omega) rfl ?_ ?_
  · intro fu a hi
    have hi' : a = zdr (I 2) (I 3) 40 6 0 h := hi
    rw [fS_digested_1_b5, if_pos (by decide), hi']
  · intro fu r a hr hi
    rw [show 6 - r = (6 - (r + 1)) + 1 by omega] at hi
    refine Or.inr ⟨_, hi, ?_⟩
    rw [fS_digested_1_b5, if_neg (by show ¬ qn 6 ≤ qn r; rw [qn_le (by omega) (by omega)]; omega), eS1_size hr, qp_bd_t]
    rcases hs r hr with e | ⟨m, hm, e⟩
    · rw [show (100000 : Nat) = 99999 + 1 from rfl, fS_digested_1_b32, eS1_size hr, qp_bd_t, e, if_pos (by decide), q_clm1, show qn r + 1 = qn (r + 1) from qn_add r 1]; rfl
    · refine (eS1_digR hc hr e hm).trans ?_
      rw [e, qn_nat (by omega)]
theorem eS4_digR {r m : Nat} {h : Int64} {k5 : Int64 → Int32 → (Nat → Nat → Int32) → (Nat → Nat → Int64) → Option (Int64 × (Nat → Nat → Int32) × (Nat → Nat → Int64))} (hc : I 4 0 = qn 60) (hr : r < 4) (e : I 5 r = qn m) (hm : m ≤ 60) :
    fS_digested_4_b32 k5 100000 h (qn r) (qn 0) I J = k5 (zdg (fun j => Int32.toInt64 (I 6 (r * 60 + j))) m 0 h) (qn (r + 1)) I J := by
  refine lp (σ := Int64) (R := fun o => o = k5 (zdg (fun j => Int32.toInt64 (I 6 (r * 60 + j))) m 0 h) (qn (r + 1)) I J) (Inv := fun w a => zdg (fun j => Int32.toInt64 (I 6 (r * 60 + j))) (m - w) w a = zdg (fun j => Int32.toInt64 (I 6 (r * 60 + j))) m 0 h) (fun fu w a => fS_digested_4_b32 k5 fu a (qn r) (qn w) I J) m 100000 0 h (Nat.zero_le _) (by omega) rfl ?_ ?_
  · intro fu a hi
    rw [Nat.sub_self] at hi
    have hi' : a = zdg (fun j => Int32.toInt64 (I 6 (r * 60 + j))) m 0 h := hi
    rw [fS_digested_4_b32, eS4_size hr, qp_bd_t, e, if_pos (Int32.le_refl _), hi', show qn r + 1 = qn (r + 1) from qn_add r 1]
  · intro fu w a hw hi
    rw [show m - w = (m - (w + 1)) + 1 by omega] at hi
    refine Or.inr ⟨_, hi, ?_⟩
    rw [fS_digested_4_b32, eS4_size hr, qp_bd_t, e, if_neg (by rw [qn_le (by omega) (by omega)]; omega), eS4_get hc hr e hm hw, qp_bd_t, show qn w + 1 = qn (w + 1) from qn_add w 1]
theorem eS4_dig {h : Int64} (hc : I 4 0 = qn 60) (hs : ∀ r, r < 4 → I 5 r = -qn 1 ∨ ∃ m, m ≤ 60 ∧ I 5 r = qn m) : fS_digested_4 h I J = some (zdr (I 5) (I 6) 60 4 0 h, I, J) := by
  unfold fS_digested_4
  refine lp (σ := Int64) (R := fun o => o = some (zdr (I 5) (I 6) 60 4 0 h, I, J)) (Inv := fun r a => zdr (I 5) (I 6) 60 (4 - r) r a = zdr (I 5) (I 6) 60 4 0 h) (fun fu r a => fS_digested_4_b5 fu a (qn r) I J) 4 100000 0 h (Nat.zero_le _) (by omega) rfl ?_ ?_
  · intro fu a hi
    have hi' : a = zdr (I 5) (I 6) 60 4 0 h := hi
    rw [fS_digested_4_b5, if_pos (by decide), hi']
  · intro fu r a hr hi
    rw [show 4 - r = (4 - (r + 1)) + 1 by omega] at hi
    refine Or.inr ⟨_, hi, ?_⟩
    rw [fS_digested_4_b5, if_neg (by show ¬ qn 4 ≤ qn r; rw [qn_le (by omega) (by omega)]; omega), eS4_size hr, qp_bd_t]
    rcases hs r hr with e | ⟨m, hm, e⟩
    · rw [show (100000 : Nat) = 99999 + 1 from rfl, fS_digested_4_b32, eS4_size hr, qp_bd_t, e, if_pos (by decide), q_clm1, show qn r + 1 = qn (r + 1) from qn_add r 1]; rfl
    · refine (eS4_digR hc hr e hm).trans ?_
      rw [e, qn_nat (by omega)]
end DG

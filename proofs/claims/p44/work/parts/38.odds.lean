/-! CHANCES: odds, mid -/
theorem zcompl : ∀ n, n < 7 → ∀ h, h < 2 ^ n → ∀ i, i < n → (decide ((2 ^ n - 1 - h) / 2 ^ i % 2 = 1) = decide (h / 2 ^ i % 2 = 0)) := by decide +kernel
/-- those of an order that are in a set -/
def zsub (s : List Nat) (set : Nat) : List Nat := s.filter (fun i => decide (set / 2 ^ i % 2 = 1))
theorem zsub_nd {s : List Nat} {set : Nat} (h : s.Nodup) : (zsub s set).Nodup := h.filter _
theorem zsub_mem {s : List Nat} {set i : Nat} : i ∈ zsub s set ↔ i ∈ s ∧ set / 2 ^ i % 2 = 1 := by
  unfold zsub
  rw [List.mem_filter, decide_eq_true_iff]
theorem zsub_len {s : List Nat} {set : Nat} : (zsub s set).length ≤ s.length := List.length_filter_le _ _
theorem zsub_app {s : List Nat} {set x : Nat} : zsub (s ++ [x]) set = if set / 2 ^ x % 2 = 1 then zsub s set ++ [x] else zsub s set := by
  unfold zsub
  rw [List.filter_append]
  by_cases h : set / 2 ^ x % 2 = 1
  · rw [if_pos h, List.filter_cons_of_pos (by rw [decide_eq_true_iff]; exact h)]; rfl
  · rw [if_neg h, List.filter_cons_of_neg (by rw [decide_eq_true_iff]; exact h)]; exact List.append_nil _
theorem zsm_front {f : Nat → Nat} : ∀ (N : Nat), zsm f (N + 1) = f 0 + zsm (fun j => f (j + 1)) N
  | 0 => by show 0 + f 0 = f 0 + 0; omega
  | N + 1 => by
    show zsm f (N + 1) + f (N + 1) = f 0 + (zsm (fun j => f (j + 1)) N + f (N + 1))
    rw [zsm_front N]; omega
theorem zsm_rev : ∀ (N : Nat) (f : Nat → Nat), zsm (fun h => f (N - 1 - h)) N = zsm f N
  | 0, f => rfl
  | N + 1, f => by
    have ih := zsm_rev N (fun j => f (j + 1))
    have hfr := zsm_front (f := f) N
    rw [hfr]
    show zsm (fun h => f (N + 1 - 1 - h)) N + f (N + 1 - 1 - N) = _
    rw [show N + 1 - 1 - N = 0 by omega, ← ih]
    have e : zsm (fun h => f (N + 1 - 1 - h)) N = zsm (fun h => f (N - 1 - h + 1)) N := zsm_eq (fun h hh => by rw [show N + 1 - 1 - h = N - 1 - h + 1 by omega])
    rw [e]; omega
/-- how many of 12 to the n fall to k who are there, n less k at home -/
def zwg (n p k : Nat) : Nat := (12 - p) ^ k * p ^ (n - k)
theorem zpw_le {b e : Nat} (hb : b ≤ 12) (he : e ≤ 6) : b ^ e ≤ 2985984 := Nat.le_trans (Nat.pow_le_pow_left hb e) (Nat.pow_le_pow_right (by decide) he : 12 ^ e ≤ 12 ^ 6)
theorem zwg_le {n p k : Nat} (hn : n ≤ 6) (hp : p ≤ 12) (hk : k ≤ n) : zwg n p k ≤ 2985984 := by
  unfold zwg
  have h1 : (12 - p) ^ k ≤ 12 ^ k := Nat.pow_le_pow_left (by omega) k
  have h2 : p ^ (n - k) ≤ 12 ^ (n - k) := Nat.pow_le_pow_left hp _
  have h3 : (12 - p) ^ k * p ^ (n - k) ≤ 12 ^ k * 12 ^ (n - k) := Nat.mul_le_mul h1 h2
  rw [← Nat.pow_add, show k + (n - k) = n by omega] at h3
  exact Nat.le_trans h3 (Nat.pow_le_pow_right (by decide) hn : 12 ^ n ≤ 12 ^ 6)
def zFc (n : Nat) (K P : Nat → Nat) (s : List Nat) (L p i set : Nat) : Nat := zwg n p (zsub s set).length * (if i ∈ zsub s set ∧ 0 < zwn K (zsub s set) i ∧ zG K P (zsub s set) L i = zwn K (zsub s set) i then 1 else 0)
def zFl (n : Nat) (K P : Nat → Nat) (s : List Nat) (L p set : Nat) : Nat := zwg n p (zsub s set).length * zE K P (zsub s set) L
theorem zFc_le {n : Nat} {K P : Nat → Nat} {s : List Nat} {L p i set : Nat} (hn : n ≤ 6) (hp : p ≤ 12) (hs : s.length = n) : zFc n K P s L p i set ≤ 59719680 := by
  have h := zwg_le hn hp (show (zsub s set).length ≤ n by rw [← hs]; exact zsub_len)
  unfold zFc
  split
  · rw [Nat.mul_one]; omega
  · rw [Nat.mul_zero]; omega
theorem zFl_le {n : Nat} {K P : Nat → Nat} {s : List Nat} {L p set : Nat} (hn : n ≤ 6) (hp : p ≤ 12) (hs : s.length = n) (hL : L ≤ 20) : zFl n K P s L p set ≤ 59719680 := by
  have h := zwg_le hn hp (show (zsub s set).length ≤ n by rw [← hs]; exact zsub_len)
  have h2 : zE K P (zsub s set) L ≤ 20 := Nat.le_trans zE_le hL
  exact Nat.mul_le_mul h h2
section OD
variable {n L0 : Nat} {K P : Nat → Nat} {ds : List Nat} {kp : Nat → Option (List Nat)} {I : Nat → Nat → Int32} {J : Nat → Nat → Int64}
theorem eN_power {b e : Nat} (hb : b ≤ 12) (he : e ≤ 6) : fN_power (qn b) (qn e) I J = some (ql (b ^ e), I, J) := by
  unfold fN_power
  refine lp (σ := Int64) (R := fun o => o = some (ql (b ^ e), I, J)) (Inv := fun k a => a = ql (b ^ k)) (fun fu k a => fN_power_b5 fu (qn b) (qn e) a (qn k) I J) e 100000 0 1 (Nat.zero_le _) (by omega) rfl ?_ ?_
  · intro fu a ha
    rw [fN_power_b5, if_pos (Int32.le_refl _), ha]
  · intro fu k a hk ha
    refine Or.inr ⟨ql (b ^ (k + 1)), rfl, ?_⟩
    rw [fN_power_b5, if_neg (by rw [qn_le (by omega) (by omega)]; omega), ha, qn_64 (by omega), ql_mul, ← Nat.pow_succ, show qn k + 1 = qn (k + 1) from qn_add k 1]
theorem eN_serveSet {s : List Nat} {L set : Nat} (hP : zP n s) (hn : n ≤ 6) (hk : ∀ i, i < n → K i ≤ 5 ∧ P i ≤ 9 ∧ I 16 i = qn (K i) ∧ I 17 i = qn (P i)) (e0 : I 15 0 = qn n) (e2 : I 14 2 = qn (zpk s)) (e3 : I 14 3 = qn L) (hL : L ≤ 20) (hs : set < 64) :
    ∃ I', fN_serveSet (qn set) I J = some ((), I', J) ∧ zXV K P (zsub s set) L I' ∧ I' 34 1 = qn (zsub s set).length ∧ ∀ c, c ≠ 34 → c < 18 ∨ 22 < c → I' c = I c := by
  have hl := hP.2.1
  have h8 := zP_8 hn hP
  unfold fN_serveSet
  refine lp (σ := Int32 × (Nat → Nat → Int32)) (R := fun o => ∃ I', o = some ((), I', J) ∧ zXV K P (zsub s set) L I' ∧ I' 34 1 = qn (zsub s set).length ∧ ∀ c, c ≠ 34 → c < 18 ∨ 22 < c → I' c = I c)
    (Inv := fun p q => q.1 = qn (zpk (zsub (s.take p) set)) ∧ q.2 34 1 = qn (zsub (s.take p) set).length ∧ ∀ c, c ≠ 34 → q.2 c = I c) (fun fu p q => fN_serveSet_b9 fu (qn set) q.1 (qn p) q.2 J) n 100000 0 (qn 0, qp_up I 34 1 0) (Nat.zero_le _) (by omega) ⟨rfl, by show qp_up I 34 1 0 34 1 = _; rw [qm_eq rfl]; rfl, fun c hc => qm_nk (Ne.symm hc)⟩ ?_ ?_
  · rintro fu ⟨q, I1⟩ ⟨s1, s2, s3⟩
    dsimp only at s1 s2 s3 ⊢
    rw [← hl, List.take_length] at s1 s2
    have f : ∀ c, c ≠ 34 → I1 c = I c := s3
    obtain ⟨I2, a1, a2, a3⟩ := eV_sv (K := K) (P := P) (s := zsub s set) (L := L) (I := I1) (J := J) (zsub_nd hP.1) (fun i hi => by have := (hP.2.2 i).1 (zsub_mem.mp hi).1; omega) (by have := zsub_len (s := s) (set := set); omega) (fun i hi => by rw [f 16 (by omega), f 17 (by omega)]; exact hk i ((hP.2.2 i).1 (zsub_mem.mp hi).1)) hL
    rw [fN_serveSet_b9, f 15 (by omega), e0, if_pos (Int32.le_refl _), s1, s2, f 14 (by omega), e3, a1, qp_bd_t]
    exact ⟨I2, rfl, a2, by rw [a3 34 (by omega)]; exact s2, fun c h1 h2 => (a3 c h2).trans (f c h1)⟩
  · rintro fu p ⟨q, I1⟩ hp ⟨s1, s2, s3⟩
    dsimp only at s1 s2 s3 ⊢
    have f : ∀ c, c ≠ 34 → I1 c = I c := s3
    have hz := zP_at hP hp
    have ew := eD_who (I := I1) (J := J) hP hn (show p ≤ 6 by omega)
    have et : s.take (p + 1) = s.take p ++ [zat s p] := take_zat (by omega)
    have hlen : (zsub (s.take p) set).length ≤ p := by
      have := zsub_len (s := s.take p) (set := set)
      rw [List.length_take] at this; omega
    refine Or.inr ?_
    have x0 : I1 15 0 = qn n := by rw [f 15 (by omega)]; exact e0
    have x2 : I1 14 2 = qn (zpk s) := by rw [f 14 (by omega)]; exact e2
    by_cases hb : set / 2 ^ zat s p % 2 = 1
    · have ed := eD_withs (I := I1) (J := J) (s := zsub (s.take p) set) (x := zat s p) (p := (zsub (s.take p) set).length) (fun x hx => h8 x (List.mem_of_mem_take (zsub_mem.mp hx).1)) rfl (by omega)
      refine ⟨(qn (zpk (zsub (s.take p) set ++ [zat s p])), qp_up I1 34 1 (qn ((zsub (s.take p) set).length + 1))), ⟨?_, ?_, fun c hc => (qm_nk (Ne.symm hc)).trans (f c hc)⟩, ?_⟩
      · rw [et, zsub_app, if_pos hb]
      · rw [et, zsub_app, if_pos hb, List.length_append]
        show qp_up I1 34 1 (qn ((zsub (s.take p) set).length + 1)) 34 1 = _
        rw [qm_eq rfl]; rfl
      · rw [fN_serveSet_b9]
        simp (disch := omega) only [x0, x2, ew, q_and1, hb, s1, s2, ed, qn_l0, qn_l1, qn_l2, qn_l3, qn_l4, qn_l5, qn_l6, qn_l7, qn_l8, qn_l9, qn_l10, qn_l11, qn_l12, qn_l13, qn_l14, qn_l15, qn_l16, qn_l17, qn_l18, qn_l19, qn_l20, qn_l21, qn_l22, qn_l23, qn_l24, qn_l26, qn_l27, qn_l28, qn_l31, qn_l32, qn_l33, qn_l34, qn_l36, qn_l37, qn_l38, qn_l39, qn_l40, qn_l47, qn_l48, qn_l49, qn_l50, qn_l51, qn_l54, qn_l55, qn_l56, qn_l57, qn_l60, qn_l63, qn_l64, qn_l69, qn_l70, qn_l75, qn_l99, qn_l100, qn_l103, qn_l111, qn_l112, qn_l113, qn_l115, qn_l117, qn_l120, qn_l127, qn_l128, qn_l200, qn_l225, qn_l240, qn_l255, qn_l256, qn_l300, qn_l720, qn_l1000, qn_l48271, qn_l1000000, qn_l2147483646, qn_l2147483647, qn_add, qn_mul, qn_sub, qn_addneg, qn_div, qn_mod, qn_modn, qn_lt, qn_le, qn_eq, qn_nat, qn_m1, qn_m1', qn_c1, qn_g1, qn_g1', qn_c1', qn_and, qn_or, qn_shl1, qn_shr1, qn_64, ql_32, ql_add, ql_mul, ql_sub, ql_div, ql_mod, ql_lt, ql_le, ql_eq, ql_l0, ql_l1, qp_gd_T, qp_bd_t, ↓reduceIte, qt_le, qf_le, qt_lt, qf_lt, qt_eq, qf_eq, and_self, not_true_eq_false, not_false_eq_true, true_and, and_true, or_true, true_or, or_false, false_or, and_false, false_and, Nat.reduceAdd, Nat.reduceMul, Nat.reduceSub, Nat.reduceDiv, Nat.reduceMod, Nat.reducePow, Nat.zero_add, Nat.add_zero, Nat.zero_le, Nat.mul_zero, Nat.zero_mul, qm_nk, qm_eq, qm_nj]
    · have hb0 : set / 2 ^ zat s p % 2 = 0 := by have := Nat.mod_lt (set / 2 ^ zat s p) (show 0 < 2 by omega); omega
      refine ⟨(q, I1), ⟨?_, ?_, f⟩, ?_⟩
      · rw [et, zsub_app, if_neg hb]; exact s1
      · rw [et, zsub_app, if_neg hb]; exact s2
      · rw [fN_serveSet_b9]
        simp (disch := omega) only [x0, x2, ew, q_and1, hb0, qn_l0, qn_l1, qn_l2, qn_l3, qn_l4, qn_l5, qn_l6, qn_l7, qn_l8, qn_l9, qn_l10, qn_l11, qn_l12, qn_l13, qn_l14, qn_l15, qn_l16, qn_l17, qn_l18, qn_l19, qn_l20, qn_l21, qn_l22, qn_l23, qn_l24, qn_l26, qn_l27, qn_l28, qn_l31, qn_l32, qn_l33, qn_l34, qn_l36, qn_l37, qn_l38, qn_l39, qn_l40, qn_l47, qn_l48, qn_l49, qn_l50, qn_l51, qn_l54, qn_l55, qn_l56, qn_l57, qn_l60, qn_l63, qn_l64, qn_l69, qn_l70, qn_l75, qn_l99, qn_l100, qn_l103, qn_l111, qn_l112, qn_l113, qn_l115, qn_l117, qn_l120, qn_l127, qn_l128, qn_l200, qn_l225, qn_l240, qn_l255, qn_l256, qn_l300, qn_l720, qn_l1000, qn_l48271, qn_l1000000, qn_l2147483646, qn_l2147483647, qn_add, qn_mul, qn_sub, qn_addneg, qn_div, qn_mod, qn_modn, qn_lt, qn_le, qn_eq, qn_nat, qn_m1, qn_m1', qn_c1, qn_g1, qn_g1', qn_c1', qn_and, qn_or, qn_shl1, qn_shr1, qn_64, ql_32, ql_add, ql_mul, ql_sub, ql_div, ql_mod, ql_lt, ql_le, ql_eq, ql_l0, ql_l1, qp_gd_T, qp_bd_t, ↓reduceIte, qt_le, qf_le, qt_lt, qf_lt, qt_eq, qf_eq, and_self, not_true_eq_false, not_false_eq_true, true_and, and_true, or_true, true_or, or_false, false_or, and_false, false_and, Nat.reduceAdd, Nat.reduceMul, Nat.reduceSub, Nat.reduceDiv, Nat.reduceMod, Nat.reducePow, Nat.zero_add, Nat.add_zero, Nat.zero_le, Nat.mul_zero, Nat.zero_mul, qm_nk, qm_eq, qm_nj]
theorem eN_weight {p k : Nat} (hn : n ≤ 6) (hp : p ≤ 12) (hk : k ≤ n) (e0 : I 15 0 = qn n) (e1 : I 34 1 = qn k) : fN_weight (qn p) I J = some (ql (zwg n p k), I, J) := by
  unfold fN_weight zwg
  rw [e1, show (12 : Int32) - qn p = qn (12 - p) from qn_sub hp, eN_power (by omega) (by omega), qp_bd_t, e0, e1, qn_sub hk, eN_power hp (by omega), qp_bd_t, ql_mul]
theorem zbit_cont {s : List Nat} {L i a : Nat} (hi : i < 6) (h6 : ∀ j, j ∈ s → j < 6) (h : ∀ j, a.testBit j = decide (j ∈ s ∧ 0 < zwn K s j ∧ zG K P s L j = zwn K s j)) : a < 64 ∧ a / 2 ^ i % 2 = if i ∈ s ∧ 0 < zwn K s i ∧ zG K P s L i = zwn K s i then 1 else 0 := by
  have e : a = zmask (fun j => decide (j ∈ s ∧ 0 < zwn K s j ∧ zG K P s L j = zwn K s j)) 6 := zmask_eq (fun b => by
    rw [h b]
    by_cases hb : b < 6
    · rw [decide_eq_true hb, Bool.true_and]
    · rw [decide_eq_false hb, Bool.false_and]
      exact decide_eq_false (fun q => hb (h6 b q.1)))
  refine ⟨by rw [e]; exact zmask_lt _ 6, ?_⟩
  have hb := h i
  rw [Nat.testBit_eq_decide_div_mod_eq] at hb
  have hm := Nat.mod_lt (a / 2 ^ i) (show 0 < 2 by omega)
  by_cases hc : i ∈ s ∧ 0 < zwn K s i ∧ zG K P s L i = zwn K s i
  · rw [if_pos hc]
    rw [decide_eq_true hc] at hb
    exact of_decide_eq_true hb
  · rw [if_neg hc]
    rw [decide_eq_false hc] at hb
    have := of_decide_eq_false hb
    omega
theorem eN_ofc {s : List Nat} {L p i : Nat} (hP : zP n s) (hn : n ≤ 6) (hk : ∀ i, i < n → K i ≤ 5 ∧ P i ≤ 9 ∧ I 16 i = qn (K i) ∧ I 17 i = qn (P i)) (e0 : I 15 0 = qn n) (e2 : I 14 2 = qn (zpk s)) (e3 : I 14 3 = qn L) (hL : L ≤ 20) (hp : p ≤ 12) (hi : i < n) :
    ∃ I', fN_ofContent (qn i) (qn p) I J = some (ql (zsm (zFc n K P s L p i) (2 ^ n)), I', J) ∧ ∀ c, c ≠ 34 → c < 18 ∨ 22 < c → I' c = I c := by
  have h64 := p2_le hn
  unfold fN_ofContent
  refine lp (σ := Int64 × (Nat → Nat → Int32)) (R := fun o => ∃ I', o = some (ql (zsm (zFc n K P s L p i) (2 ^ n)), I', J) ∧ ∀ c, c ≠ 34 → c < 18 ∨ 22 < c → I' c = I c) (Inv := fun j q => q.1 = ql (zsm (zFc n K P s L p i) j) ∧ ∀ c, c ≠ 34 → c < 18 ∨ 22 < c → q.2 c = I c)
    (fun fu j q => fN_ofContent_b5 fu (qn i) (qn p) q.1 (qn j) q.2 J) (2 ^ n) 100000 0 (0, I) (Nat.zero_le _) (by omega) ⟨rfl, fun _ _ _ => rfl⟩ ?_ ?_
  · rintro fu ⟨q, I1⟩ ⟨s1, s2⟩
    dsimp only at s1 s2 ⊢
    exact ⟨I1, by rw [fN_ofContent_b5, s2 15 (by omega) (by omega), e0, q_p2 hn, if_pos (Int32.le_refl _), s1], s2⟩
  · rintro fu j ⟨q, I1⟩ hj ⟨s1, s2⟩
    dsimp only at s1 s2 ⊢
    obtain ⟨I2, a1, a2, a3, a4⟩ := eN_serveSet (I := I1) (J := J) (K := K) (P := P) (set := j) hP hn (by rw [s2 16 (by omega) (by omega), s2 17 (by omega) (by omega)]; exact hk) (by rw [s2 15 (by omega) (by omega)]; exact e0) (by rw [s2 14 (by omega) (by omega)]; exact e2) (by rw [s2 14 (by omega) (by omega)]; exact e3) hL (by omega)
    have hkl : (zsub s j).length ≤ n := by rw [← hP.2.1]; exact zsub_len
    have ew := eN_weight (I := I2) (J := J) hn hp hkl (by rw [a4 15 (by omega) (by omega), s2 15 (by omega) (by omega)]; exact e0) a3
    have hwl := zwg_le hn hp hkl
    obtain ⟨a, va, vb⟩ := a2.2.2.2.2
    obtain ⟨ha, hbit⟩ := zbit_cont (K := K) (P := P) (i := i) (by omega) (fun j hj => by have := (hP.2.2 j).1 (zsub_mem.mp hj).1; omega) vb
    have ebit : ((I2 18 1) >>> (qn i &&& 31)) &&& 1 = qn (a / 2 ^ i % 2) := by
      rw [va]
      show (qn a >>> (qn i &&& qn 31)) &&& qn 1 = _
      rw [qn_shr (by omega) (by omega), qn_and, q_and1]
    refine Or.inr ⟨(ql (zsm (zFc n K P s L p i) (j + 1)), I2), ⟨rfl, fun c h1 h2 => (a4 c h1 h2).trans (s2 c h1 h2)⟩, ?_⟩
    rw [fN_ofContent_b5, s2 15 (by omega) (by omega), e0, q_p2 hn, if_neg (by rw [qn_le (by omega) (by omega)]; omega), a1, qp_bd_t, ew, qp_bd_t, ebit, qn_64 (by have := Nat.mod_lt (a / 2 ^ i) (show 0 < 2 by omega); omega), ql_mul, s1, ql_add, hbit, show qn j + 1 = qn (j + 1) from qn_add j 1]
    rfl
theorem eN_ofl {s : List Nat} {L p : Nat} (hP : zP n s) (hn : n ≤ 6) (hk : ∀ i, i < n → K i ≤ 5 ∧ P i ≤ 9 ∧ I 16 i = qn (K i) ∧ I 17 i = qn (P i)) (e0 : I 15 0 = qn n) (e2 : I 14 2 = qn (zpk s)) (e3 : I 14 3 = qn L) (hL : L ≤ 20) (hp : p ≤ 12) :
    ∃ I', fN_ofLeft (qn p) I J = some (ql (zsm (zFl n K P s L p) (2 ^ n)), I', J) ∧ ∀ c, c ≠ 34 → c < 18 ∨ 22 < c → I' c = I c := by
  have h64 := p2_le hn
  unfold fN_ofLeft
  refine lp (σ := Int64 × (Nat → Nat → Int32)) (R := fun o => ∃ I', o = some (ql (zsm (zFl n K P s L p) (2 ^ n)), I', J) ∧ ∀ c, c ≠ 34 → c < 18 ∨ 22 < c → I' c = I c) (Inv := fun j q => q.1 = ql (zsm (zFl n K P s L p) j) ∧ ∀ c, c ≠ 34 → c < 18 ∨ 22 < c → q.2 c = I c)
    (fun fu j q => fN_ofLeft_b5 fu (qn p) q.1 (qn j) q.2 J) (2 ^ n) 100000 0 (0, I) (Nat.zero_le _) (by omega) ⟨rfl, fun _ _ _ => rfl⟩ ?_ ?_
  · rintro fu ⟨q, I1⟩ ⟨s1, s2⟩
    dsimp only at s1 s2 ⊢
    exact ⟨I1, by rw [fN_ofLeft_b5, s2 15 (by omega) (by omega), e0, q_p2 hn, if_pos (Int32.le_refl _), s1], s2⟩
  · rintro fu j ⟨q, I1⟩ hj ⟨s1, s2⟩
    dsimp only at s1 s2 ⊢
    obtain ⟨I2, a1, a2, a3, a4⟩ := eN_serveSet (I := I1) (J := J) (K := K) (P := P) (set := j) hP hn (by rw [s2 16 (by omega) (by omega), s2 17 (by omega) (by omega)]; exact hk) (by rw [s2 15 (by omega) (by omega)]; exact e0) (by rw [s2 14 (by omega) (by omega)]; exact e2) (by rw [s2 14 (by omega) (by omega)]; exact e3) hL (by omega)
    have hkl : (zsub s j).length ≤ n := by rw [← hP.2.1]; exact zsub_len
    have ew := eN_weight (I := I2) (J := J) hn hp hkl (by rw [a4 15 (by omega) (by omega), s2 15 (by omega) (by omega)]; exact e0) a3
    have hwl := zwg_le hn hp hkl
    have hE : zE K P (zsub s j) L ≤ 20 := Nat.le_trans zE_le hL
    refine Or.inr ⟨(ql (zsm (zFl n K P s L p) (j + 1)), I2), ⟨rfl, fun c h1 h2 => (a4 c h1 h2).trans (s2 c h1 h2)⟩, ?_⟩
    rw [fN_ofLeft_b5, s2 15 (by omega) (by omega), e0, q_p2 hn, if_neg (by rw [qn_le (by omega) (by omega)]; omega), a1, qp_bd_t, ew, qp_bd_t]
    unfold fV_leftInTheEnd
    rw [qp_bd_t, a2.2.1, qn_64 (by omega), ql_mul, s1, ql_add, show qn j + 1 = qn (j + 1) from qn_add j 1]
    rfl
/-- the model: who is there of those at places below p, and their cases -/
def zMO (I I' : Nat → Nat → Int32) : Prop := (∀ c, c ≠ 36 → c ≠ 57 → c < 48 ∨ 51 < c → I' c = I c) ∧ ∀ j, j ≠ 20 → I' 36 j = I 36 j
theorem zMO_tr {I I1 I2 : Nat → Nat → Int32} (h : zMO I I1) (h' : zMO I1 I2) : zMO I I2 := ⟨fun c h1 h2 h3 => (h'.1 c h1 h2 h3).trans (h.1 c h1 h2 h3), fun j hj => (h'.2 j hj).trans (h.2 j hj)⟩
theorem zwg_T {m p k : Nat} (hk : k ≤ m) : zwg m p k * (12 - p) = zwg (m + 1) p (k + 1) := by
  unfold zwg
  rw [show m + 1 - (k + 1) = m - k by omega, Nat.pow_succ, Nat.mul_assoc, Nat.mul_assoc, Nat.mul_comm (p ^ (m - k))]
theorem zwg_F {m p k : Nat} (hk : k ≤ m) : zwg m p k * p = zwg (m + 1) p k := by
  unfold zwg
  rw [show m + 1 - k = (m - k) + 1 by omega, Nat.pow_succ, Nat.mul_assoc]
end OD
theorem zR_ratio {I I' : Nat → Nat → Int32} {J : Nat → Nat → Int64} {u v : Int64} (h : zR I J) (e : ∀ c, zlc c ∨ zcc c ∨ c = 0 → I' c = I c) (e1 : I' 36 8 = I 36 8) (e2 : I' 36 9 = I 36 9) : zR I' (qp_up (qp_up (qp_up (qp_up J 0 12 u) 0 13 v) 36 10 u) 36 11 v) := by
  have hc := zR_C h
  refine zR_of h (fun c hc => e c (Or.inl hc)) (zC_eq hc (fun c hc => e c (Or.inr (Or.inl hc))) ?_ ?_ ?_ ?_)
  · rw [e1, e 0 (Or.inr (Or.inr rfl))]; exact hc.2.2.1.1
  · rw [e2, e 0 (Or.inr (Or.inr rfl))]; exact hc.2.2.1.2.1
  · rw [qm_nj (by omega), qm_eq rfl, qm_nk (by omega), qm_nk (by omega), qm_nj (by omega), qm_eq rfl]
  · rw [qm_eq rfl, qm_nk (by omega), qm_nk (by omega), qm_eq rfl]
theorem q_12 (p : Int32) (h : p < 0 ∨ qn 13 ≤ p) : (p < 0) ∨ (¬ p < 0 ∧ ¬ p ≤ 12) := by
  by_cases h0 : p < 0
  · exact Or.inl h0
  · rcases h with h | h
    · exact absurd h h0
    · refine Or.inr ⟨h0, ?_⟩
      rw [Int32.le_iff_toInt_le] at h ⊢
      rw [qn_toInt (by omega)] at h
      have e20 : (12 : Int32).toInt = 12 := rfl
      omega

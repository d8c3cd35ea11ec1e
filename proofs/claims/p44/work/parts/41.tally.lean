/-! LINES, CAN, NEXT: the orders that fit pairs -/
/-- which orders fit: T pairs, whom, how many -/
def zQ (K P : Nat → Nat) (L T : Nat) (wh go : Nat → Nat) (o : List Nat) : Bool := decide (∀ t, t < T → zG K P o L (wh t) = go t)
def zg2 (F : List (List Nat)) (p : Nat) : Nat := F.foldl (fun a o => a ||| 2 ^ zat o p) 0
def zg3 (K P : Nat → Nat) (L : Nat) (F : List (List Nat)) (i g : Nat) : Nat := (F.filter (fun o => decide (zG K P o L i = g))).length
theorem zg2_app {F : List (List Nat)} {o : List Nat} {p : Nat} : zg2 (F ++ [o]) p = zg2 F p ||| 2 ^ zat o p := by unfold zg2; rw [List.foldl_append]; rfl
theorem zg3_app {K P : Nat → Nat} {L : Nat} {F : List (List Nat)} {o : List Nat} {i g : Nat} : zg3 K P L (F ++ [o]) i g = if zG K P o L i = g then zg3 K P L F i g + 1 else zg3 K P L F i g := by
  unfold zg3
  rw [List.filter_append]
  by_cases h : zG K P o L i = g
  · rw [if_pos h, List.filter_cons_of_pos (by rw [decide_eq_true_iff]; exact h), List.length_append]; rfl
  · rw [if_neg h, List.filter_cons_of_neg (by rw [decide_eq_true_iff]; exact h), List.length_append]; rfl
theorem zg3_le {K P : Nat → Nat} {L : Nat} {F : List (List Nat)} {i g : Nat} : zg3 K P L F i g ≤ F.length := List.length_filter_le _ _
theorem zfil_T {Q : List Nat → Bool} {l : List (List Nat)} {o : List Nat} (h : Q o = true) : (l ++ [o]).filter Q = l.filter Q ++ [o] := by
  rw [List.filter_append, List.filter_cons_of_pos h]; rfl
theorem zfil_F {Q : List Nat → Bool} {l : List (List Nat)} {o : List Nat} (h : ¬ Q o = true) : (l ++ [o]).filter Q = l.filter Q := by
  rw [List.filter_append, List.filter_cons_of_neg h]; exact List.append_nil _
def zTy (n : Nat) (K P : Nat → Nat) (L : Nat) (F : List (List Nat)) (I : Nat → Nat → Int32) : Prop :=
  I 29 0 = qn F.length ∧ (∀ p, p < n → I 31 p = qn (zg2 F p)) ∧ ∀ i, i < n → ∀ g, g < 4 → I 32 (i * 4 + g) = qn (zg3 K P L F i g)
/-- what one entry of the table of what is known says behind T pairs -/
def zkn (wh go : Nat → Nat) (T i : Nat) (v : Int32) : Prop :=
  (v = -1 ∧ ∀ t, t < T → wh t ≠ i) ∨ (∃ g, g < 10 ∧ v = qn g ∧ (∃ t, t < T ∧ wh t = i) ∧ ∀ t, t < T → wh t = i → go t = g) ∨ (v = -2 ∧ ∃ t t', t < T ∧ t' < T ∧ wh t = i ∧ wh t' = i ∧ go t ≠ go t')
theorem zkn_o {wh go : Nat → Nat} {T i : Nat} {v : Int32} (h : zkn wh go T i v) (hw : wh T ≠ i) : zkn wh go (T + 1) i v := by
  have key : ∀ t, t < T + 1 → wh t = i → t < T := fun t ht e => by
    rcases (show t < T ∨ t = T by omega) with h | h
    · exact h
    · rw [h] at e; exact absurd e hw
  rcases h with ⟨h1, h2⟩ | ⟨g, hg, h1, ⟨t, h2, h3⟩, h4⟩ | ⟨h1, t, t', h2, h3, h4⟩
  · exact Or.inl ⟨h1, fun t ht e => h2 t (key t ht e) e⟩
  · exact Or.inr (Or.inl ⟨g, hg, h1, ⟨t, by omega, h3⟩, fun t ht e => h4 t (key t ht e) e⟩)
  · exact Or.inr (Or.inr ⟨h1, t, t', by omega, by omega, h4⟩)
theorem zkn_w {wh go : Nat → Nat} {T i : Nat} {v : Int32} (h : zkn wh go T i v) (hw : wh T = i) (hg : go T < 10) : zkn wh go (T + 1) i (if v = -1 then qn (go T) else if ¬ v = qn (go T) then -2 else qn (go T)) := by
  have key : ∀ t, t < T + 1 → t < T ∨ t = T := fun t ht => by omega
  have q1 : ∀ g, g < 10 → ¬ qn g = -1 := by decide
  have q2 : ∀ g, g < 10 → ¬ (-2 : Int32) = qn g := by decide
  rcases h with ⟨h1, h2⟩ | ⟨g, hg', h1, ⟨t, h2, h3⟩, h4⟩ | ⟨h1, t, t', h2, h3, h4⟩
  · rw [if_pos h1]
    refine Or.inr (Or.inl ⟨go T, hg, rfl, ⟨T, by omega, hw⟩, fun t ht e => ?_⟩)
    rcases key t ht with h | h
    · exact absurd e (h2 t h)
    · rw [h]
  · subst h1
    rw [if_neg (q1 g hg')]
    by_cases he : g = go T
    · rw [if_neg (by rw [he]; exact fun q => q rfl)]
      refine Or.inr (Or.inl ⟨go T, hg, rfl, ⟨T, by omega, hw⟩, fun t ht e => ?_⟩)
      rcases key t ht with h | h
      · rw [← he]; exact h4 t h e
      · rw [h]
    · rw [if_pos (by rw [qn_eq (by omega) (by omega)]; exact he)]
      exact Or.inr (Or.inr ⟨rfl, t, T, by omega, by omega, h3, hw, by rw [h4 t h2 h3]; exact he⟩)
  · subst h1
    rw [if_neg (by decide), if_pos (q2 _ hg)]
    exact Or.inr (Or.inr ⟨rfl, t, t', by omega, by omega, h4⟩)
theorem zkn_all {n T : Nat} {wh go : Nat → Nat} {v : Nat → Int32} {G : Nat → Nat} (hG : ∀ i, G i ≤ 3) (hw : ∀ t, t < T → wh t < n) (h : ∀ i, i < n → zkn wh go T i (v i)) : (∀ i, i < n → v i = -1 ∨ v i = qn (G i)) ↔ ∀ t, t < T → G (wh t) = go t := by
  have q1 : ∀ g, g < 10 → ¬ qn g = -1 := by decide
  have q2 : ∀ g, g < 10 → ¬ (-2 : Int32) = qn g := by decide
  constructor
  · intro a t ht
    rcases h _ (hw t ht) with ⟨h1, h2⟩ | ⟨g, hg', h1, h2, h4⟩ | ⟨h1, h2⟩
    · exact absurd rfl (h2 t ht)
    · have b := a _ (hw t ht)
      rw [h1] at b
      rcases b with b | b
      · exact absurd b (q1 g hg')
      · have := hG (wh t)
        rw [qn_eq (by omega) (by omega)] at b
        rw [← b]; exact (h4 t ht rfl).symm
    · have b := a _ (hw t ht)
      have := hG (wh t)
      rw [h1] at b
      rcases b with b | b
      · exact absurd b (by decide)
      · exact absurd b (q2 _ (by omega))
  · intro a i hi
    rcases h i hi with ⟨h1, h2⟩ | ⟨g, hg', h1, ⟨t, h2, h3⟩, h4⟩ | ⟨h1, t, t', h2, h3, h4, h5, h6⟩
    · exact Or.inl h1
    · refine Or.inr ?_
      rw [h1, ← h4 t h2 h3, ← h3, a t h2]
    · exfalso
      apply h6
      rw [← a t h2, ← a t' h3, h4, h5]
section TA
variable {n L0 : Nat} {K P : Nat → Nat} {ds : List Nat} {kp : Nat → Option (List Nat)} {I : Nat → Nat → Int32} {J : Nat → Nat → Int64}
theorem eO_forget : ∃ I', fO_forget I J = some ((), I', J) ∧ I' 29 0 = qn 0 ∧ (∀ i, i < 6 → I' 30 i = -1 ∧ I' 31 i = qn 0) ∧ (∀ j, j < 24 → I' 32 j = qn 0) ∧ ∀ c, c < 29 ∨ 32 < c → I' c = I c := by
  have st2 : ∀ I1 : Nat → Nat → Int32, ∃ I', fO_forget_b35 100000 0 I1 J = some ((), I', J) ∧ (∀ j, j < 24 → I' 32 j = qn 0) ∧ ∀ c, c ≠ 32 → I' c = I1 c := by
    intro I1
    refine lp (σ := Nat → Nat → Int32) (R := fun o => ∃ I', o = some ((), I', J) ∧ (∀ j, j < 24 → I' 32 j = qn 0) ∧ ∀ c, c ≠ 32 → I' c = I1 c) (Inv := fun a I' => (∀ j, j < a → I' 32 j = qn 0) ∧ ∀ c, c ≠ 32 → I' c = I1 c) (fun fu a I' => fO_forget_b35 fu (qn a) I' J) 24 100000 0 I1 (Nat.zero_le _) (by omega) ⟨fun j hj => absurd hj (Nat.not_lt_zero j), fun _ _ => rfl⟩ ?_ ?_
    · rintro fu I2 ⟨a1, a2⟩
      exact ⟨I2, by rw [fO_forget_b35, if_pos (by decide)], a1, a2⟩
    · rintro fu a I2 ha ⟨a1, a2⟩
      refine Or.inr ⟨qp_up I2 32 a (qn 0), ⟨fun j hj => ?_, fun c hc => (qm_nk (Ne.symm hc)).trans (a2 c hc)⟩, ?_⟩
      · rw [qm_if]
        by_cases e : a = j
        · rw [if_pos e]
        · rw [if_neg e]; exact a1 j (by omega)
      · rw [fO_forget_b35]
        simp (disch := omega) only [qn_l0, qn_l1, qn_l2, qn_l3, qn_l4, qn_l5, qn_l6, qn_l7, qn_l8, qn_l9, qn_l10, qn_l11, qn_l12, qn_l13, qn_l14, qn_l15, qn_l16, qn_l17, qn_l18, qn_l19, qn_l20, qn_l21, qn_l22, qn_l23, qn_l24, qn_l26, qn_l27, qn_l28, qn_l31, qn_l32, qn_l33, qn_l34, qn_l36, qn_l37, qn_l38, qn_l39, qn_l40, qn_l47, qn_l48, qn_l49, qn_l50, qn_l51, qn_l54, qn_l55, qn_l56, qn_l57, qn_l60, qn_l63, qn_l64, qn_l69, qn_l70, qn_l75, qn_l99, qn_l100, qn_l103, qn_l111, qn_l112, qn_l113, qn_l115, qn_l117, qn_l120, qn_l127, qn_l128, qn_l200, qn_l225, qn_l240, qn_l255, qn_l256, qn_l300, qn_l720, qn_l1000, qn_l48271, qn_l1000000, qn_l2147483646, qn_l2147483647, qn_add, qn_mul, qn_sub, qn_addneg, qn_div, qn_mod, qn_modn, qn_lt, qn_le, qn_eq, qn_nat, qn_m1, qn_m1', qn_c1, qn_g1, qn_g1', qn_c1', qn_and, qn_or, qn_shl1, qn_shr1, qn_64, ql_32, ql_add, ql_mul, ql_sub, ql_div, ql_mod, ql_lt, ql_le, ql_eq, ql_l0, ql_l1, qp_gd_T, qp_bd_t, ↓reduceIte, qt_le, qf_le, qt_lt, qf_lt, qt_eq, qf_eq, and_self, not_true_eq_false, not_false_eq_true, true_and, and_true, or_true, true_or, or_false, false_or, and_false, false_and, Nat.reduceAdd, Nat.reduceMul, Nat.reduceSub, Nat.reduceDiv, Nat.reduceMod, Nat.reducePow, Nat.zero_add, Nat.add_zero, Nat.zero_le, Nat.mul_zero, Nat.zero_mul, qm_nk, qm_eq, qm_nj]
  unfold fO_forget
  refine lp (σ := Nat → Nat → Int32) (R := fun o => ∃ I', o = some ((), I', J) ∧ I' 29 0 = qn 0 ∧ (∀ i, i < 6 → I' 30 i = -1 ∧ I' 31 i = qn 0) ∧ (∀ j, j < 24 → I' 32 j = qn 0) ∧ ∀ c, c < 29 ∨ 32 < c → I' c = I c)
    (Inv := fun a I' => I' 29 0 = qn 0 ∧ (∀ i, i < a → I' 30 i = -1 ∧ I' 31 i = qn 0) ∧ ∀ c, c < 29 ∨ 32 < c → I' c = I c) (fun fu a I' => fO_forget_b7 fu (qn a) I' J) 6 100000 0 (qp_up I 29 0 0) (Nat.zero_le _) (by omega) ⟨qm_eq rfl, fun j hj => absurd hj (Nat.not_lt_zero j), fun c hc => qm_nk (by omega)⟩ ?_ ?_
  · rintro fu I2 ⟨a1, a2, a3⟩
    obtain ⟨I3, b1, b2, b3⟩ := st2 I2
    refine ⟨I3, ?_, by rw [b3 29 (by omega)]; exact a1, fun i hi => by rw [b3 30 (by omega), b3 31 (by omega)]; exact a2 i hi, b2, fun c hc => (b3 c (by omega)).trans (a3 c hc)⟩
    rw [fO_forget_b7, if_pos (by decide), b1]
  · rintro fu a I2 ha ⟨a1, a2, a3⟩
    refine Or.inr ⟨qp_up (qp_up I2 30 a (-1)) 31 a 0, ⟨by rw [qm_nk (by omega), qm_nk (by omega)]; exact a1, fun i hi => ?_, fun c hc => by rw [qm_nk (by omega), qm_nk (by omega)]; exact a3 c hc⟩, ?_⟩
    · rw [qm_nk (by omega), qm_if, qm_if]
      by_cases e : a = i
      · rw [if_pos e, if_pos e]; exact ⟨rfl, rfl⟩
      · rw [if_neg e, if_neg e, qm_nk (by omega)]; exact a2 i (by omega)
    · rw [fO_forget_b7, if_neg (by show ¬ qn 6 ≤ qn a; rw [qn_le (by omega) (by omega)]; omega), qp_gd_t (by show qn 0 ≤ qn a ∧ qn a < qn 6; rw [qn_le (by omega) (by omega), qn_lt (by omega) (by omega)]; omega), qn_nat (by omega), show qn a + 1 = qn (a + 1) from qn_add a 1]
theorem eO_learn {i g : Nat} (hi : i < 6) : fO_learn (qn i) (qn g) I J = some ((), qp_up I 30 i (if I 30 i = -1 then qn g else if ¬ I 30 i = qn g then -2 else qn g), J) := by
  have g0 : (0 : Int32) ≤ qn i ∧ qn i < 6 := by
    show qn 0 ≤ qn i ∧ qn i < qn 6
    rw [qn_le (by omega) (by omega), qn_lt (by omega) (by omega)]; omega
  unfold fO_learn
  rw [if_neg (by show ¬ qn i < qn 0; rw [qn_lt (by omega) (by omega)]; omega), if_neg (by show ¬ qn 6 ≤ qn i; rw [qn_le (by omega) (by omega)]; omega), qp_gd_t g0, qn_nat (by omega)]
  by_cases h1 : I 30 i = -1
  · rw [if_pos h1, qp_gd_t g0, if_pos h1]
  · rw [if_neg h1, qp_gd_t g0, if_neg h1]
    by_cases h2 : I 30 i = qn g
    · rw [if_neg (fun q => q h2), qp_gd_t g0, if_neg (fun q => q h2)]
    · rw [if_pos h2, qp_gd_t g0, if_pos h2]
/-- one order is tallied -/
theorem eO_84 {L : Nat} {F : List (List Nat)} {o : List Nat} (hP : zP n o) (hn : n ≤ 6) (hv : zXV K P o L I) (h1 : ∀ p, p < n → I 31 p = qn (zg2 F p)) (h2 : ∀ i, i < n → ∀ g, g < 4 → I 32 (i * 4 + g) = qn (zg3 K P L F i g)) :
    ∃ I', fO_tallyOne_b84 100000 (qn (zpk o)) (qn n) 0 I J = some ((), I', J) ∧ (∀ p, p < n → I' 31 p = qn (zg2 (F ++ [o]) p)) ∧ (∀ i, i < n → ∀ g, g < 4 → I' 32 (i * 4 + g) = qn (zg3 K P L (F ++ [o]) i g)) ∧ ∀ c, c ≠ 31 → c ≠ 32 → I' c = I c := by
  refine lp (σ := Nat → Nat → Int32) (R := fun r => ∃ I', r = some ((), I', J) ∧ (∀ p, p < n → I' 31 p = qn (zg2 (F ++ [o]) p)) ∧ (∀ i, i < n → ∀ g, g < 4 → I' 32 (i * 4 + g) = qn (zg3 K P L (F ++ [o]) i g)) ∧ ∀ c, c ≠ 31 → c ≠ 32 → I' c = I c)
    (Inv := fun a I' => (∀ p, p < n → I' 31 p = qn (if p < a then zg2 (F ++ [o]) p else zg2 F p)) ∧ (∀ i, i < n → ∀ g, g < 4 → I' 32 (i * 4 + g) = qn (if i < a then zg3 K P L (F ++ [o]) i g else zg3 K P L F i g)) ∧ ∀ c, c ≠ 31 → c ≠ 32 → I' c = I c)
    (fun fu a I' => fO_tallyOne_b84 fu (qn (zpk o)) (qn n) (qn a) I' J) n 100000 0 I (Nat.zero_le _) (by omega) ⟨fun p hp => by rw [if_neg (by omega)]; exact h1 p hp, fun i hi g hg => by rw [if_neg (by omega)]; exact h2 i hi g hg, fun _ _ _ => rfl⟩ ?_ ?_
  · rintro fu I1 ⟨s1, s2, s3⟩
    exact ⟨I1, by rw [fO_tallyOne_b84, if_pos (Int32.le_refl _)], fun p hp => by rw [s1 p hp, if_pos hp], fun i hi g hg => by rw [s2 i hi g hg, if_pos hi], s3⟩
  · rintro fu a I1 ha ⟨s1, s2, s3⟩
    have g0 : (0 : Int32) ≤ qn a ∧ qn a < 6 := by
      show qn 0 ≤ qn a ∧ qn a < qn 6
      rw [qn_le (by omega) (by omega), qn_lt (by omega) (by omega)]; omega
    have ew := eD_who (I := I1) (J := J) hP hn (show a ≤ 6 by omega)
    have hz := zP_at hP ha
    have vg : I1 20 a = qn (zG K P o L a) := by rw [s3 20 (by omega) (by omega)]; exact (hv.1 a ((hP.2.2 a).2 ha)).2.1
    have hg3 := zG_3 (K := K) (P := P) (s := o) (L := L) (i := a)
    generalize hG : zG K P o L a = g at vg hg3
    have ex : qn a * 4 + qn g = qn (a * 4 + g) := by
      show qn a * qn 4 + qn g = _
      rw [qn_mul, qn_add]
    have e31 : I1 31 a = qn (zg2 F a) := by rw [s1 a ha, if_neg (by omega)]
    have e32 : I1 32 (a * 4 + g) = qn (zg3 K P L F a g) := by rw [s2 a ha g (by omega), if_neg (by omega)]
    have esh : (1 : Int32) <<< (qn (zat o a) &&& 31) = qn (2 ^ zat o a) := q_p2 (by omega)
    refine Or.inr ⟨qp_up (qp_up I1 31 a (qn (zg2 (F ++ [o]) a))) 32 (a * 4 + g) (qn (zg3 K P L F a g + 1)), ⟨fun p hp => ?_, fun i hi g' hg' => ?_, fun c h1 h2 => by rw [qm_nk (Ne.symm h2), qm_nk (Ne.symm h1)]; exact s3 c h1 h2⟩, ?_⟩
    · rw [qm_nk (by omega), qm_if]
      by_cases e : a = p
      · rw [if_pos e, if_pos (by omega), e]
      · rw [if_neg e, s1 p hp]
        by_cases h : p < a
        · rw [if_pos h, if_pos (by omega)]
        · rw [if_neg h, if_neg (by omega)]
    · rw [qm_if]
      by_cases e : a * 4 + g = i * 4 + g'
      · have e1 : a = i := by omega
        have e2 : g = g' := by omega
        subst e1
        subst e2
        rw [if_pos rfl, if_pos (by omega), zg3_app, if_pos hG]
      · rw [if_neg e, qm_nk (by omega), s2 i hi g' hg']
        by_cases h : i < a
        · rw [if_pos h, if_pos (by omega)]
        · rw [if_neg h]
          by_cases h' : i = a
          · subst h'
            rw [if_pos (by omega), zg3_app, if_neg (by rw [hG]; omega)]
          · rw [if_neg (by omega)]
    · rw [fO_tallyOne_b84, if_neg (by rw [qn_le (by omega) (by omega)]; omega), if_neg (by show ¬ qn 6 ≤ qn a; rw [qn_le (by omega) (by omega)]; omega), qp_gd_t g0, ew, qp_bd_t, qp_gd_t g0, qn_nat (by omega), eV_gainOf (by omega), qp_bd_t, qm_nk (by omega), vg, ex, if_neg (by show ¬ qn _ < qn 0; rw [qn_lt (by omega) (by omega)]; omega), if_neg (by show ¬ qn 24 ≤ qn _; rw [qn_le (by omega) (by omega)]; omega), qp_gd_t (by show qn 0 ≤ qn _ ∧ qn _ < qn 24; rw [qn_le (by omega) (by omega), qn_lt (by omega) (by omega)]; omega), qn_nat (by omega), qm_nk (by omega), e31, e32, esh, qn_or, show qn a + 1 = qn (a + 1) from qn_add a 1, show qn (zg3 K P L F a g) + 1 = qn (zg3 K P L F a g + 1) from qn_add _ 1, zg2_app]
def zXf (I0 I : Nat → Nat → Int32) : Prop := ∀ c, c < 18 ∨ 22 < c → c ≠ 29 → c ≠ 31 → c ≠ 32 → I c = I0 c
theorem eO_one {L : Nat} {Q : List Nat → Bool} {l : List (List Nat)} {o : List Nat} {I0 : Nat → Nat → Int32} (hn : n ≤ 6) (hk : ∀ i, i < n → K i ≤ 5 ∧ P i ≤ 9 ∧ I0 16 i = qn (K i) ∧ I0 17 i = qn (P i)) (e0 : I0 15 0 = qn n) (e3 : I0 14 3 = qn L) (hL : L ≤ 20)
    (hQ : ∀ o, zP n o → ((∀ i, i < n → I0 30 i = -1 ∨ I0 30 i = qn (zG K P o L i)) ↔ Q o = true)) (hP : zP n o) (hT : zTy n K P L (l.filter Q) I) (hf : zXf I0 I) :
    ∃ I', fO_tallyOne (qn (zpk o)) I J = some ((), I', J) ∧ zTy n K P L ((l ++ [o]).filter Q) I' ∧ zXf I0 I' := by
  obtain ⟨I1, a1, a2, a3⟩ := eL_sv (I := I) (J := J) (K := K) (P := P) (L := L) hP hn (by rw [hf 16 (by omega) (by omega) (by omega) (by omega), hf 17 (by omega) (by omega) (by omega) (by omega)]; exact hk) (by rw [hf 15 (by omega) (by omega) (by omega) (by omega)]; exact e0) (by rw [hf 14 (by omega) (by omega) (by omega) (by omega)]; exact e3) hL
  have f1 : zXf I0 I1 := fun c h1 h2 h3 h4 => (a3 c h1).trans (hf c h1 h2 h3 h4)
  obtain ⟨t1, t2, t3⟩ := hT
  have x0 : I1 15 0 = qn n := by rw [f1 15 (by omega) (by omega) (by omega) (by omega)]; exact e0
  have e30 : I1 30 = I0 30 := f1 30 (by omega) (by omega) (by omega) (by omega)
  unfold fO_tallyOne
  rw [a1, qp_bd_t, x0]
  have hQ' := hQ o hP
  have key : fO_tallyOne_b21 100000 (qn (zpk o)) (qn n) 0 I1 J = if Q o = true then fO_tallyOne_b84 100000 (qn (zpk o)) (qn n) 0 (qp_up I1 29 0 (I1 29 0 + 1)) J else some ((), I1, J) := by
    refine lp (σ := Unit) (R := fun r => r = if Q o = true then fO_tallyOne_b84 100000 (qn (zpk o)) (qn n) 0 (qp_up I1 29 0 (I1 29 0 + 1)) J else some ((), I1, J))
      (Inv := fun a _ => ∀ i, i < a → I0 30 i = -1 ∨ I0 30 i = qn (zG K P o L i)) (fun fu a _ => fO_tallyOne_b21 fu (qn (zpk o)) (qn n) (qn a) I1 J) n 100000 0 () (Nat.zero_le _) (by omega) (fun i hi => absurd hi (Nat.not_lt_zero i)) ?_ ?_
    · intro fu _ s1
      rw [if_pos (hQ'.mp s1), fO_tallyOne_b21, if_pos (Int32.le_refl _)]
    · intro fu a _ ha s1
      have g0 : (0 : Int32) ≤ qn a ∧ qn a < 6 := by
        show qn 0 ≤ qn a ∧ qn a < qn 6
        rw [qn_le (by omega) (by omega), qn_lt (by omega) (by omega)]; omega
      have vg : I1 20 a = qn (zG K P o L a) := (a2.1 a ((hP.2.2 a).2 ha)).2.1
      have run : fO_tallyOne_b21 (fu + 1) (qn (zpk o)) (qn n) (qn a) I1 J = if I0 30 a = -1 then fO_tallyOne_b21 fu (qn (zpk o)) (qn n) (qn (a + 1)) I1 J else if I0 30 a = qn (zG K P o L a) then fO_tallyOne_b21 fu (qn (zpk o)) (qn n) (qn (a + 1)) I1 J else some ((), I1, J) := by
        rw [fO_tallyOne_b21, if_neg (by rw [qn_le (by omega) (by omega)]; omega), if_neg (by show ¬ qn 6 ≤ qn a; rw [qn_le (by omega) (by omega)]; omega), qp_gd_t g0, qn_nat (by omega), qp_gd_t g0, eV_gainOf (by omega), qp_bd_t, e30, vg, show qn a + 1 = qn (a + 1) from qn_add a 1]
      have cont : (I0 30 a = -1 ∨ I0 30 a = qn (zG K P o L a)) → ∀ i, i < a + 1 → I0 30 i = -1 ∨ I0 30 i = qn (zG K P o L i) := fun h i hi => by
        rcases (show i < a ∨ i = a by omega) with h' | h'
        · exact s1 i h'
        · rw [h']; exact h
      by_cases c1 : I0 30 a = -1
      · rw [if_pos c1] at run
        exact Or.inr ⟨(), cont (Or.inl c1), run⟩
      · rw [if_neg c1] at run
        by_cases c2 : I0 30 a = qn (zG K P o L a)
        · rw [if_pos c2] at run
          exact Or.inr ⟨(), cont (Or.inr c2), run⟩
        · rw [if_neg c2] at run
          refine Or.inl ?_
          rw [run, if_neg (fun q => by
            rcases hQ'.mpr q a ha with h | h
            · exact c1 h
            · exact c2 h)]
  have e29 : I1 29 0 + 1 = qn ((l.filter Q).length + 1) := by
    rw [a3 29 (by omega), t1]
    exact qn_add _ 1
  rw [key]
  by_cases hq : Q o = true
  · rw [if_pos hq, zfil_T hq, e29]
    obtain ⟨I2, b1, b2, b3, b4⟩ := eO_84 (J := J) (K := K) (P := P) (L := L) (F := l.filter Q) (o := o) (I := qp_up I1 29 0 (qn ((l.filter Q).length + 1))) hP hn
      (by unfold zXV at a2 ⊢; rw [qm_nk (k' := 19) (by omega), qm_nk (k' := 20) (by omega), qm_nk (k' := 21) (by omega), qm_nk (k' := 22) (by omega), qm_nk (k' := 18) (by omega)]; exact a2)
      (fun p hp => by rw [qm_nk (by omega), a3 31 (by omega)]; exact t2 p hp) (fun i hi g hg => by rw [qm_nk (by omega), a3 32 (by omega)]; exact t3 i hi g hg)
    refine ⟨I2, b1, ⟨?_, b2, b3⟩, fun c h1 h2 h3 h4 => by rw [b4 c h3 h4, qm_nk (Ne.symm h2)]; exact f1 c h1 h2 h3 h4⟩
    rw [b4 29 (by omega) (by omega), qm_eq rfl, List.length_append]; rfl
  · rw [if_neg hq, zfil_F hq]
    exact ⟨I1, rfl, ⟨by rw [a3 29 (by omega)]; exact t1, by rw [a3 31 (by omega)]; exact t2, by rw [a3 32 (by omega)]; exact t3⟩, f1⟩
theorem zbit_in {st : Nat} {s : List Nat} {a : Nat} (h : ∀ i, i < 6 → (st.testBit i = true ↔ i ∈ s)) (i : Nat) (hi : i < 6) : ((st ||| 2 ^ a).testBit i = true ↔ i ∈ s ++ [a]) := by
  rw [Nat.testBit_or, List.mem_append, List.mem_singleton, Bool.or_eq_true, h i hi]
  by_cases e : a = i
  · subst e
    rw [Nat.testBit_two_pow_self]; simp
  · rw [Nat.testBit_two_pow_of_ne e]
    constructor
    · rintro (h | h)
      · exact Or.inl h
      · cases h
    · rintro (h | h)
      · exact Or.inl h
      · exact absurd h.symm e
theorem eO_ext {L : Nat} {Q : List Nat → Bool} {I0 : Nat → Nat → Int32} (hn : n ≤ 6) (hk : ∀ i, i < n → K i ≤ 5 ∧ P i ≤ 9 ∧ I0 16 i = qn (K i) ∧ I0 17 i = qn (P i)) (e0 : I0 15 0 = qn n) (e3 : I0 14 3 = qn L) (hL : L ≤ 20)
    (hQ : ∀ o, zP n o → ((∀ i, i < n → I0 30 i = -1 ∨ I0 30 i = qn (zG K P o L i)) ↔ Q o = true)) :
    ∀ (d m : Nat) (s : List Nat) (st : Nat) (l : List (List Nat)) (I : Nat → Nat → Int32), d < m → s.length + d = n → (∀ x ∈ s, x < 8) → st < 64 → (∀ i, i < 6 → (st.testBit i = true ↔ i ∈ s)) → (∀ o ∈ zext n d s, zP n o) → zTy n K P L (l.filter Q) I → zXf I0 I →
      ∃ I', fO_extend m (qn (zpk s)) (qn s.length) (qn st) I J = some ((), I', J) ∧ zTy n K P L ((l ++ zext n d s).filter Q) I' ∧ zXf I0 I' := by
  intro d
  induction d with
  | zero =>
    intro m s st l I hm hs h8 hst hb hP hT hf
    obtain ⟨m, rfl⟩ : ∃ m', m = m' + 1 := ⟨m - 1, by omega⟩
    obtain ⟨I', b1, b2, b3⟩ := eO_one (J := J) hn hk e0 e3 hL hQ (hP s (List.mem_singleton.mpr rfl)) hT hf
    refine ⟨I', ?_, b2, b3⟩
    rw [fO_extend]
    unfold fO_extend_b0
    rw [hf 15 (by omega) (by omega) (by omega) (by omega), e0, if_neg (by rw [qn_lt (by omega) (by omega)]; omega), b1, qp_bd_t]
  | succ d ih =>
    intro m s st l I hm hs h8 hst hb hP hT hf
    obtain ⟨m, rfl⟩ : ∃ m', m = m' + 1 := ⟨m - 1, by omega⟩
    rw [fO_extend]
    unfold fO_extend_b0
    rw [hf 15 (by omega) (by omega) (by omega) (by omega), e0, if_pos (by rw [qn_lt (by omega) (by omega)]; omega)]
    have hsub : ∀ a, a < n → ¬ a ∈ s → ∀ o ∈ zext n d (s ++ [a]), o ∈ zexa (zext n d) s n := by
      have h : ∀ N a, a < N → ¬ a ∈ s → ∀ o ∈ zext n d (s ++ [a]), o ∈ zexa (zext n d) s N := by
        intro N
        induction N with
        | zero => intro a ha; omega
        | succ N ihN =>
          intro a ha hns o ho
          show o ∈ zexa (zext n d) s N ++ (if N ∈ s then [] else zext n d (s ++ [N]))
          rcases (show a < N ∨ a = N by omega) with h' | h'
          · exact List.mem_append_left _ (ihN a h' hns o ho)
          · subst h'
            rw [if_neg hns]
            exact List.mem_append_right _ ho
      exact h n
    refine lp (σ := Nat → Nat → Int32) (R := fun r => ∃ I', r = some ((), I', J) ∧ zTy n K P L ((l ++ zext n (d + 1) s).filter Q) I' ∧ zXf I0 I') (Inv := fun a I' => zTy n K P L ((l ++ zexa (zext n d) s a).filter Q) I' ∧ zXf I0 I')
      (fun fu a I' => fO_extend_b27 (fO_extend m) fu (qn (zpk s)) (qn s.length) (qn st) (qn n) (qn a) I' J) n 100000 0 I (Nat.zero_le _) (by omega) ⟨by rw [show zexa (zext n d) s 0 = [] from rfl, List.append_nil]; exact hT, hf⟩ ?_ ?_
    · rintro fu I1 ⟨s1, s2⟩
      exact ⟨I1, by rw [fO_extend_b27, if_pos (Int32.le_refl _)], s1, s2⟩
    · rintro fu a I1 ha ⟨s1, s2⟩
      have esh : (1 : Int32) <<< (qn a &&& 31) = qn (2 ^ a) := q_p2 (by omega)
      have eb : qn st >>> (qn a &&& 31) &&& 1 = qn (st / 2 ^ a % 2) := by
        show qn st >>> (qn a &&& qn 31) &&& qn 1 = _
        rw [qn_shr (by omega) (by omega), qn_and, q_and1]
      have hbit := hb a (by omega)
      rw [Nat.testBit_eq_decide_div_mod_eq, decide_eq_true_iff] at hbit
      have hm2 := Nat.mod_lt (st / 2 ^ a) (show 0 < 2 by omega)
      refine Or.inr ?_
      by_cases hin : a ∈ s
      · refine ⟨I1, ⟨?_, s2⟩, ?_⟩
        · show zTy n K P L ((l ++ (zexa (zext n d) s a ++ (if a ∈ s then [] else zext n d (s ++ [a])))).filter Q) I1
          rw [if_pos hin, List.append_nil]; exact s1
        · rw [fO_extend_b27, if_neg (by rw [qn_le (by omega) (by omega)]; omega), eb, hbit.mpr hin, if_pos (by decide), show qn a + 1 = qn (a + 1) from qn_add a 1]
      · have hb0 : st / 2 ^ a % 2 = 0 := by
          have : ¬ st / 2 ^ a % 2 = 1 := fun q => hin (hbit.mp q)
          omega
        have h8' : ∀ x ∈ s ++ [a], x < 8 := fun x hx => by
          rcases List.mem_append.mp hx with h | h
          · exact h8 x h
          · rw [List.mem_singleton.mp h]; omega
        have hlen : (s ++ [a]).length = s.length + 1 := by rw [List.length_append]; rfl
        have hst' : st ||| 2 ^ a < 64 := Nat.or_lt_two_pow (n := 6) hst (Nat.pow_lt_pow_right (by decide) (by omega))
        obtain ⟨I2, b1, b2, b3⟩ := ih m (s ++ [a]) (st ||| 2 ^ a) (l ++ zexa (zext n d) s a) I1 (by omega) (by omega) h8' hst' (zbit_in hb) (fun o ho => hP o (hsub a ha hin o ho)) s1 s2
        refine ⟨I2, ⟨?_, b3⟩, ?_⟩
        · show zTy n K P L ((l ++ (zexa (zext n d) s a ++ (if a ∈ s then [] else zext n d (s ++ [a])))).filter Q) I2
          rw [if_neg hin, ← List.append_assoc]; exact b2
        · rw [hlen] at b1
          rw [fO_extend_b27, if_neg (by rw [qn_le (by omega) (by omega)]; omega), eb, hb0, if_neg (by exact fun q => q rfl), eD_withs h8 rfl (by omega), qp_bd_t, show qn s.length + 1 = qn (s.length + 1) from qn_add _ 1, esh, qn_or, b1, qp_bd_t, show qn a + 1 = qn (a + 1) from qn_add a 1]
end TA

/-! WISH: the class's fewest tickets -/
def zQf (K P : Nat → Nat) (L a b c : Nat) (o : List Nat) : Bool := zapart o a b && decide (zG K P o L c = zwn K o c)
section FE
variable {n L0 : Nat} {K P : Nat → Nat} {ds : List Nat} {kp : Nat → Option (List Nat)} {I : Nat → Nat → Int32} {J : Nat → Nat → Int64}
theorem zQM_eq {s : List Nat} {A : List (List Nat)} {I' : Nat → Nat → Int32} (h : zQM n s A I) (e : ∀ c, 25 ≤ c → c ≤ 28 → I' c = I c) : zQM n s A I' := by
  unfold zQM at h ⊢
  rw [e 25 (by omega) (by omega), e 26 (by omega) (by omega), e 27 (by omega) (by omega), e 28 (by omega) (by omega)]; exact h
theorem zQM_len {s : List Nat} {A : List (List Nat)} (hP : zP n s) (hn : n ≤ 6) (h : zQM n s A I) : A.length ≤ 720 := by
  have h1 := zpig 720 (A.map (fun w => zrank n (zqe s w))) h.2.1 (fun x hx => by
    obtain ⟨w', h1, h2⟩ := List.mem_map.mp hx
    rw [← h2]; exact zrank_lt hn (zqe_P hP (h.1 w' h1).2))
  rw [List.length_map] at h1; exact h1
theorem eH_fits {o : List Nat} {L a b c : Nat} (hP : zP n o) (hn : n ≤ 6) (hk : ∀ i, i < n → K i ≤ 5 ∧ P i ≤ 9 ∧ I 16 i = qn (K i) ∧ I 17 i = qn (P i)) (e0 : I 15 0 = qn n) (e3 : I 14 3 = qn L) (hL : L ≤ 20) (ha : a < n) (hb : b < n) (hc : c < n) :
    ∃ I', fH_fits (qn (zpk o)) (qn a) (qn b) (qn c) I J = some (qn (if zQf K P L a b c o = true then 1 else 0), I', J) ∧ ∀ c, c < 18 ∨ 22 < c → I' c = I c := by
  have em := eD_haveMet (I := I) (J := J) hP hn ha hb
  unfold fH_fits zQf
  rw [e0, em, qp_bd_t]
  by_cases hz : zapart o a b = true
  · obtain ⟨I1, a1, a2, a3⟩ := eL_sv (I := I) (J := J) (K := K) (P := P) (L := L) hP hn hk e0 e3 hL
    have v := a2.1 c ((hP.2.2 c).2 hc)
    have h1 := zG_3 (K := K) (P := P) (s := o) (L := L) (i := c)
    have h2 := zwn_le (K := K) (s := o) (i := c)
    refine ⟨I1, ?_, a3⟩
    rw [if_pos hz, if_pos (by decide), a1, qp_bd_t, eV_gainOf (by omega), qp_bd_t, eV_wantOf (by omega), qp_bd_t, v.1, v.2.1, hz, Bool.true_and]
    by_cases hq : zG K P o L c = zwn K o c
    · rw [if_neg (by rw [hq]; exact fun q => q rfl), if_pos (decide_eq_true hq)]; rfl
    · rw [if_pos (by rw [qn_eq (by omega) (by omega)]; exact hq), if_neg (fun q => hq (of_decide_eq_true q))]; rfl
  · refine ⟨I, ?_, fun _ _ => rfl⟩
    rw [if_neg hz, if_neg (by exact fun q => q rfl), if_neg (fun q => hz (Bool.and_eq_true_iff.mp q).1)]; rfl
def zXk (n : Nat) (K P : Nat → Nat) (L : Nat) (I : Nat → Nat → Int32) : Prop := (∀ i, i < n → K i ≤ 5 ∧ P i ≤ 9 ∧ I 16 i = qn (K i) ∧ I 17 i = qn (P i)) ∧ I 15 0 = qn n ∧ I 14 3 = qn L ∧ L ≤ 20
theorem zXk_eq {L : Nat} {I' : Nat → Nat → Int32} (h : zXk n K P L I) (e : ∀ c, c < 18 → I' c = I c) : zXk n K P L I' := by
  unfold zXk at h ⊢
  rw [e 16 (by omega), e 17 (by omega), e 15 (by omega), e 14 (by omega)]; exact h
theorem eH_look {k50 : Int32 → Int32 → Int32 → Int32 → Int32 → (Nat → Nat → Int32) → (Nat → Nat → Int64) → Option (Int32 × (Nat → Nat → Int32) × (Nat → Nat → Int64))} {s : List Nat} {A B D : List (List Nat)} {L a b c k : Nat} (hP : zP n s) (hn : n ≤ 6) (hX : zXk n K P L I) (ha : a < n) (hb : b < n) (hc : c < n) (hA : zQM n s A I) (hD : A = B ++ D) :
    (∀ w, D.find? (fun w => zQf K P L a b c (zqe s w)) = some w → ∃ I', fH_fewest_b66 k50 100000 (qn a) (qn b) (qn c) (qn B.length) (qn k) (qn A.length) (qn B.length) I J = some (qn k, I', J) ∧ I' 25 5 = qn (zcw w) ∧ zXH I I') ∧
    (D.find? (fun w => zQf K P L a b c (zqe s w)) = none → ∃ I', fH_fewest_b66 k50 100000 (qn a) (qn b) (qn c) (qn B.length) (qn k) (qn A.length) (qn B.length) I J = fH_fewest_b122 k50 100000 (qn a) (qn b) (qn c) (qn k) (qn A.length) (qn B.length) I' J ∧ zQM n s A I' ∧ zXH I I') := by
  have hl := zQM_len hP hn hA
  have hAl : A.length = B.length + D.length := by rw [hD, List.length_append]
  refine lp (σ := Nat → Nat → Int32) (R := fun o => (∀ w, D.find? (fun w => zQf K P L a b c (zqe s w)) = some w → ∃ I', o = some (qn k, I', J) ∧ I' 25 5 = qn (zcw w) ∧ zXH I I') ∧ (D.find? (fun w => zQf K P L a b c (zqe s w)) = none → ∃ I', o = fH_fewest_b122 k50 100000 (qn a) (qn b) (qn c) (qn k) (qn A.length) (qn B.length) I' J ∧ zQM n s A I' ∧ zXH I I'))
    (Inv := fun j I' => (∀ x, x ∈ D.take j → ¬ zQf K P L a b c (zqe s x) = true) ∧ zQM n s A I' ∧ zXH I I') (fun fu j I' => fH_fewest_b66 k50 fu (qn a) (qn b) (qn c) (qn B.length) (qn k) (qn A.length) (qn (B.length + j)) I' J) D.length 100000 0 I (Nat.zero_le _) (by omega) ⟨fun x hx => (by cases hx), hA, fun _ _ => rfl⟩ ?_ ?_
  · rintro fu I1 ⟨s1, s2, s3⟩
    rw [List.take_length] at s1
    have hno : D.find? (fun w => zQf K P L a b c (zqe s w)) = none := List.find?_eq_none.mpr s1
    refine ⟨fun w hw => (by rw [hno] at hw; cases hw), fun _ => ⟨I1, ?_, s2, s3⟩⟩
    rw [fH_fewest_b66, if_pos (by rw [qn_le (by omega) (by omega)]; omega)]
  · rintro fu j I1 hj ⟨s1, s2, s3⟩
    have e26 := s2.2.2.2.1 (B.length + j) (by omega)
    have eD : zat' A (B.length + j) = zat' D j := by rw [hD]; exact zat'_appr
    rw [eD] at e26
    have hm : zat' D j ∈ A := by rw [hD]; exact List.mem_append_right _ (zat'_mem D j hj)
    have hPw := zqe_P hP (s2.1 _ hm).2
    obtain ⟨I2, f1, f2⟩ := eH_fits (I := I1) (J := J) (K := K) (P := P) (L := L) (a := a) (b := b) (c := c) hPw hn (by rw [s3 16 (by omega), s3 17 (by omega)]; exact hX.1) (by rw [s3 15 (by omega)]; exact hX.2.1) (by rw [s3 14 (by omega)]; exact hX.2.2.1) hX.2.2.2 ha hb hc
    have g0 : (0 : Int32) ≤ qn (B.length + j) ∧ qn (B.length + j) < 720 := by
      show qn 0 ≤ qn _ ∧ qn _ < qn 720
      rw [qn_le (by omega) (by omega), qn_lt (by omega) (by omega)]; omega
    have f3 : zXH I I2 := fun cc hcc => (f2 cc (by omega)).trans (s3 cc hcc)
    have run : fH_fewest_b66 k50 (fu + 1) (qn a) (qn b) (qn c) (qn B.length) (qn k) (qn A.length) (qn (B.length + j)) I1 J = if zQf K P L a b c (zqe s (zat' D j)) = true then some (qn k, qp_up I2 25 5 (qn (zcw (zat' D j))), J) else fH_fewest_b66 k50 fu (qn a) (qn b) (qn c) (qn B.length) (qn k) (qn A.length) (qn (B.length + (j + 1))) I2 J := by
      rw [fH_fewest_b66, if_neg (by rw [qn_le (by omega) (by omega)]; omega), if_neg (by show ¬ qn 720 ≤ qn _; rw [qn_le (by omega) (by omega)]; omega), qp_gd_t g0, qn_nat (by omega), e26.1, f1, qp_bd_t, show qn (B.length + j) + 1 = qn (B.length + (j + 1)) from qn_add _ 1]
      by_cases hq : zQf K P L a b c (zqe s (zat' D j)) = true
      · rw [if_pos hq, if_neg (by decide), qp_gd_t g0, f2 27 (by omega), e26.2, if_pos hq]
      · rw [if_neg hq, if_pos (show qn 0 = 0 from rfl), if_neg hq]
    by_cases hq : zQf K P L a b c (zqe s (zat' D j)) = true
    · rw [if_pos hq] at run
      have hf := zq_fs (α := Nat) (p := fun w => zQf K P L a b c (zqe s w)) hj s1 hq
      refine Or.inl ⟨fun w hw => ?_, fun hw => (by rw [hf] at hw; cases hw)⟩
      rw [hf] at hw
      have hw' := Option.some.inj hw
      rw [← hw']
      exact ⟨_, run, qm_eq rfl, fun cc hcc => by rw [qm_nk (by omega)]; exact f3 cc hcc⟩
    · rw [if_neg hq] at run
      refine Or.inr ⟨I2, ⟨fun x hx => ?_, zQM_eq s2 (fun cc h1 h2 => f2 cc (by omega)), f3⟩, run⟩
      rw [zat'_take hj] at hx
      rcases List.mem_append.mp hx with hx | hx
      · exact s1 x hx
      · rw [List.mem_singleton.mp hx]; exact hq
theorem eH_exp {k50 : Int32 → Int32 → Int32 → Int32 → Int32 → (Nat → Nat → Int32) → (Nat → Nat → Int64) → Option (Int32 × (Nat → Nat → Int32) × (Nat → Nat → Int64))} {s : List Nat} {A B D : List (List Nat)} {a1 a2 a3 : Int32} {k : Nat} (hP : zP n s) (hn : n ≤ 6) (e0 : I 15 0 = qn n) (hk : k < 3) (hA : zQM n s A I) (hD : A = B ++ D) (hDl : ∀ w, w ∈ A → w.length ≤ k) :
    ∃ I', fH_fewest_b122 k50 100000 a1 a2 a3 (qn k) (qn A.length) (qn B.length) I J = k50 a1 a2 a3 (qn A.length) (qn (k + 1)) I' J ∧ zQM n s (zql s A (D.flatMap (zqs n))) I' ∧ zXH I I' := by
  have hl := zQM_len hP hn hA
  have hAl : A.length = B.length + D.length := by rw [hD, List.length_append]
  refine lp (σ := Nat → Nat → Int32) (R := fun o => ∃ I', o = k50 a1 a2 a3 (qn A.length) (qn (k + 1)) I' J ∧ zQM n s (zql s A (D.flatMap (zqs n))) I' ∧ zXH I I') (Inv := fun j I' => zQM n s (zql s A ((D.take j).flatMap (zqs n))) I' ∧ zXH I I')
    (fun fu j I' => fH_fewest_b122 k50 fu a1 a2 a3 (qn k) (qn A.length) (qn (B.length + j)) I' J) D.length 100000 0 I (Nat.zero_le _) (by omega) ⟨hA, fun _ _ => rfl⟩ ?_ ?_
  · rintro fu I1 ⟨s1, s2⟩
    rw [List.take_length] at s1
    exact ⟨I1, by rw [fH_fewest_b122, if_pos (by rw [qn_le (by omega) (by omega)]; omega), show qn k + 1 = qn (k + 1) from qn_add k 1], s1, s2⟩
  · rintro fu j I1 hj ⟨s1, s2⟩
    obtain ⟨E, hE⟩ := zql_pre (s := s) ((D.take j).flatMap (zqs n)) A
    have e26 := s1.2.2.2.1 (B.length + j) (by rw [hE, List.length_append]; omega)
    have eD : zat' (zql s A ((D.take j).flatMap (zqs n))) (B.length + j) = zat' D j := by
      rw [hE, zat'_appl (by omega), hD]; exact zat'_appr
    rw [eD] at e26
    have hm : zat' D j ∈ A := by rw [hD]; exact List.mem_append_right _ (zat'_mem D j hj)
    have g0 : (0 : Int32) ≤ qn (B.length + j) ∧ qn (B.length + j) < 720 := by
      show qn 0 ≤ qn _ ∧ qn _ < qn 720
      rw [qn_le (by omega) (by omega), qn_lt (by omega) (by omega)]; omega
    obtain ⟨I2, f1, f2, f3⟩ := eH_goOn (I := I1) (J := J) hP hn (by rw [s2 15 (by omega)]; exact e0) s1 (show (zat' D j).length ≤ 2 by have := hDl _ hm; omega) (hA.1 _ hm).2
    refine Or.inr ⟨I2, ⟨?_, zXH_tr s2 f3⟩, ?_⟩
    · rw [zat'_take hj, List.flatMap_append, List.flatMap_singleton, zql_app]; exact f2
    · rw [fH_fewest_b122, if_neg (by rw [qn_le (by omega) (by omega)]; omega), if_neg (by show ¬ qn 720 ≤ qn _; rw [qn_le (by omega) (by omega)]; omega), if_neg (by show ¬ qn 3 ≤ qn k; rw [qn_le (by omega) (by omega)]; omega), qp_gd_t g0, qn_nat (by omega), e26.1, e26.2, f1, qp_bd_t, show qn (B.length + j) + 1 = qn (B.length + (j + 1)) from qn_add _ 1]
/-- the fewest tickets: as many as the first way that fits has -/
def zfw (n : Nat) (s : List Nat) (Q : List Nat → Bool) (k : Nat) (w : List Nat) : Prop := k ≤ 3 ∧ (zqW n k).find? (fun w => Q (zqe s w)) = some w ∧ ∀ j, j < k → (zqW n j).find? (fun w => Q (zqe s w)) = none
theorem eH_stage {s : List Nat} {L a b c : Nat} {I0 : Nat → Nat → Int32} (hP : zP n s) (hn : n ≤ 6) (hX : zXk n K P L I0) (ha : a < n) (hb : b < n) (hc : c < n) : ∀ (m k fuel : Nat) (a4 : Int32) (I : Nat → Nat → Int32), k + m = 4 → m < fuel → (k ≤ 3 → a4 = qn (zqB n s k).length ∧ zQM n s (zqA n s k) I) → zXH I0 I → (∀ j, j < k → (zqW n j).find? (fun w => zQf K P L a b c (zqe s w)) = none) →
    (∃ k' w I', zfw n s (zQf K P L a b c) k' w ∧ fH_fewest_b50 fuel (qn a) (qn b) (qn c) a4 (qn k) I J = some (qn k', I', J) ∧ I' 25 5 = qn (zcw w) ∧ zXH I0 I') ∨
    ((∀ j, j ≤ 3 → (zqW n j).find? (fun w => zQf K P L a b c (zqe s w)) = none) ∧ ∃ I', fH_fewest_b50 fuel (qn a) (qn b) (qn c) a4 (qn k) I J = some (-9, I', J) ∧ zXH I0 I') := by
  intro m
  induction m with
  | zero =>
    intro k fuel a4 I hk hf _ hfr hno
    obtain ⟨fu, rfl⟩ : ∃ fu, fuel = fu + 1 := ⟨fuel - 1, by omega⟩
    refine Or.inr ⟨fun j hj => hno j (by omega), I, ?_, hfr⟩
    rw [fH_fewest_b50, if_pos (by show qn 3 < qn k; rw [qn_lt (by omega) (by omega)]; omega)]
  | succ m ih =>
    intro k fuel a4 I hk hf hA hfr hno
    obtain ⟨fu, rfl⟩ : ∃ fu, fuel = fu + 1 := ⟨fuel - 1, by omega⟩
    obtain ⟨h4, hA⟩ := hA (by omega)
    obtain ⟨D, d1, d2, d3⟩ := zqA_both (n := n) (s := s) (Q := zQf K P L a b c) k (zqB_no hno)
    have hXI : zXk n K P L I := zXk_eq hX (fun c hc => hfr c (by omega))
    obtain ⟨l1, l2⟩ := eH_look (I := I) (J := J) (K := K) (P := P) (L := L) (k := k) (k50 := fun a0 a1 a2 a3 a4 I J => fH_fewest_b50 fu a0 a1 a2 a3 a4 I J) hP hn hXI ha hb hc hA d1
    rw [fH_fewest_b50, if_neg (by show ¬ qn 3 < qn k; rw [qn_lt (by omega) (by omega)]; omega), h4, hA.2.2.1]
    cases hw : D.find? (fun w => zQf K P L a b c (zqe s w)) with
    | some w =>
      obtain ⟨I1, g1, g2, g3⟩ := l1 w hw
      exact Or.inl ⟨k, w, I1, ⟨by omega, by rw [← d3]; exact hw, hno⟩, g1, g2, zXH_tr hfr g3⟩
    | none =>
      obtain ⟨I1, g1, g2, g3⟩ := l2 hw
      have hno' : ∀ j, j < k + 1 → (zqW n j).find? (fun w => zQf K P L a b c (zqe s w)) = none := fun j hj => by
        rcases (show j < k ∨ j = k by omega) with h | h
        · exact hno j h
        · rw [h, ← d3]; exact hw
      have hf1 := zXH_tr hfr g3
      rw [g1]
      by_cases hk3 : k < 3
      · obtain ⟨I2, f1, f2, f3⟩ := eH_exp (I := I1) (J := J) (k50 := fun a0 a1 a2 a3 a4 I J => fH_fewest_b50 fu a0 a1 a2 a3 a4 I J) (a1 := qn a) (a2 := qn b) (a3 := qn c) (k := k) hP hn (by rw [hf1 15 (by omega)]; exact hX.2.1) hk3 g2 d1 (fun w hw => by
          obtain ⟨j, hj, hwj⟩ := zqA_mem k hw
          rw [(zqW_ok j w hwj).1]; exact hj)
        rw [d2] at f2
        rw [f1]
        exact ih (k + 1) fu _ I2 (by omega) (by omega) (fun _ => ⟨rfl, f2⟩) (zXH_tr hf1 f3) hno'
      · have e122 : ∀ fuel : Nat, fH_fewest_b122 (fun a0 a1 a2 a3 a4 I J => fH_fewest_b50 fu a0 a1 a2 a3 a4 I J) (fuel + 1) (qn a) (qn b) (qn c) (qn k) (qn (zqA n s k).length) (qn (zqB n s k).length) I1 J = fH_fewest_b50 fu (qn a) (qn b) (qn c) (qn (zqA n s k).length) (qn (k + 1)) I1 J := by
          intro fuel
          rw [fH_fewest_b122, show qn k + 1 = qn (k + 1) from qn_add k 1]
          split
          · rfl
          · split
            · rfl
            · rw [if_pos (by show qn 3 ≤ qn k; rw [qn_le (by omega) (by omega)]; omega)]
        rw [e122 99999]
        exact ih (k + 1) fu _ I1 (by omega) (by omega) (fun h => by omega) hf1 hno'
theorem eH_fewest {s : List Nat} {L a b c : Nat} (hP : zP n s) (hn : n ≤ 6) (hX : zXk n K P L I) (e2 : I 14 2 = qn (zpk s)) (ha : a < n) (hb : b < n) (hc : c < n) :
    (∃ k' w I', zfw n s (zQf K P L a b c) k' w ∧ fH_fewest (qn a) (qn b) (qn c) I J = some (qn k', I', J) ∧ I' 25 5 = qn (zcw w) ∧ zXH I I') ∨
    ((∀ j, j ≤ 3 → (zqW n j).find? (fun w => zQf K P L a b c (zqe s w)) = none) ∧ ∃ I', fH_fewest (qn a) (qn b) (qn c) I J = some (-9, I', J) ∧ zXH I I') := by
  unfold fH_fewest
  refine lp (σ := Nat → Nat → Int32) (R := fun o => (∃ k' w I', zfw n s (zQf K P L a b c) k' w ∧ o = some (qn k', I', J) ∧ I' 25 5 = qn (zcw w) ∧ zXH I I') ∨ ((∀ j, j ≤ 3 → (zqW n j).find? (fun w => zQf K P L a b c (zqe s w)) = none) ∧ ∃ I', o = some (-9, I', J) ∧ zXH I I'))
    (Inv := fun r I' => (∀ j, j < r → I' 28 j = 0) ∧ zXH I I') (fun fu r I' => fH_fewest_b3 fu (qn a) (qn b) (qn c) (qn r) I' J) 720 100000 0 I (Nat.zero_le _) (by omega) ⟨fun j hj => absurd hj (Nat.not_lt_zero j), fun _ _ => rfl⟩ ?_ ?_
  · rintro fu I1 ⟨s1, s2⟩
    have hA0 : zQM n s [] (qp_up I1 25 4 0) := ⟨fun w hw => (by cases hw), List.nodup_nil, qm_eq rfl, fun q hq => absurd hq (Nat.not_lt_zero q), fun w hw => (by cases hw), fun r hr h => by rw [qm_nk (by omega)] at h; exact absurd (s1 r hr) h⟩
    have f1 : zXH I (qp_up I1 25 4 0) := fun c hc => by rw [qm_nk (by omega)]; exact s2 c hc
    obtain ⟨I2, r1, r2, r3⟩ := eH_reach (I := qp_up I1 25 4 0) (J := J) (w := []) hP hn (by rw [f1 15 (by omega)]; exact hX.2.1) hA0 ⟨Nat.zero_le _, fun t ht => (by cases ht)⟩
    have r1' : fH_reach (qn (zpk s)) 0 (qp_up I1 25 4 0) J = some ((), I2, J) := r1
    have r2' : zQM n s (zqA n s 0) I2 := by
      have e : zqr s [] [] = zqA n s 0 := (zqA_B (n := n) (s := s) 0).symm
      rw [← e]; exact r2
    rw [fH_fewest_b3, if_pos (by decide), s2 14 (by omega), e2, r1', qp_bd_t]
    exact eH_stage (J := J) hP hn hX ha hb hc 4 0 100000 0 I2 rfl (by omega) (fun _ => ⟨rfl, r2'⟩) (zXH_tr f1 r3) (fun j hj => absurd hj (Nat.not_lt_zero j))
  · rintro fu r I1 hr ⟨s1, s2⟩
    refine Or.inr ⟨qp_up I1 28 r 0, ⟨fun j hj => ?_, fun c hc => by rw [qm_nk (by omega)]; exact s2 c hc⟩, ?_⟩
    · rw [qm_if]
      by_cases e : r = j
      · rw [if_pos e]
      · rw [if_neg e]; exact s1 j (by omega)
    · rw [fH_fewest_b3, if_neg (by show ¬ qn 720 ≤ qn r; rw [qn_le (by omega) (by omega)]; omega), qp_gd_t (by show qn 0 ≤ qn r ∧ qn r < qn 720; rw [qn_le (by omega) (by omega), qn_lt (by omega) (by omega)]; omega), qn_nat (by omega), show qn r + 1 = qn (r + 1) from qn_add r 1]
/-- the row that is told -/
theorem eX_tellWay {r k : Nat} {w : List Nat} (e1 : I 1 0 = qn 40) (hr : r < 6) (hk : k ≤ 3) (hl : w.length = k) (h64 : ∀ t, t ∈ w → t < 64) (e5 : I 25 5 = qn (zcw w)) :
    ∃ I', qp_bd (fS_fresh_1 (qn r) (qn k) 0 I J) (fun _u I6 J6 => fX_wish_b92 100000 (qn r) (qn k) 0 I6 J6) = some (qn k, I', J) ∧ I' 2 = qp_up1 (I 2) r (qn k) ∧ (I' 3 = fun j => if r * 40 ≤ j ∧ j < r * 40 + k then qn (zat w (j - r * 40)) else I 3 j) ∧ ∀ c, c ≠ 2 → c ≠ 3 → I' c = I c := by
  have ef := eS1_fresh (I := I) (J := J) (r := r) (n := k) (v := 0) e1 hr (by omega)
  rw [ef, qp_bd_t]
  have hcw := zcw_lt w (by omega) h64
  refine lp (σ := Nat → Nat → Int32) (R := fun o => ∃ I', o = some (qn k, I', J) ∧ I' 2 = qp_up1 (I 2) r (qn k) ∧ (I' 3 = fun j => if r * 40 ≤ j ∧ j < r * 40 + k then qn (zat w (j - r * 40)) else I 3 j) ∧ ∀ c, c ≠ 2 → c ≠ 3 → I' c = I c)
    (Inv := fun t I' => I' 2 = qp_up1 (I 2) r (qn k) ∧ (∀ j, r * 40 ≤ j → j < r * 40 + t → I' 3 j = qn (zat w (j - r * 40))) ∧ (∀ j, j < r * 40 ∨ r * 40 + k ≤ j → I' 3 j = I 3 j) ∧ ∀ c, c ≠ 2 → c ≠ 3 → I' c = I c) (fun fu t I' => fX_wish_b92 fu (qn r) (qn k) (qn t) I' J) k 100000 0 (qfill 3 0 k (r * 40) (qp_up I 2 r (qn k))) (Nat.zero_le _) (by omega)
    ⟨by rw [qfill_nk _ _ _ (by omega), qm_own], fun j h1 h2 => by omega, fun j hj => by rw [qfill_own, if_neg (by omega), qm_nk (by omega)], fun c h1 h2 => by rw [qfill_nk _ _ _ (Ne.symm h2), qm_nk (Ne.symm h1)]⟩ ?_ ?_
  · rintro fu I1 ⟨s1, s2, s3, s4⟩
    refine ⟨I1, by rw [fX_wish_b92, if_pos (Int32.le_refl _)], s1, ?_, s4⟩
    funext j
    by_cases hj : r * 40 ≤ j ∧ j < r * 40 + k
    · rw [if_pos hj]; exact s2 j hj.1 hj.2
    · rw [if_neg hj]; exact s3 j (by omega)
  · rintro fu t I1 ht ⟨s1, s2, s3, s4⟩
    have hat := zcw_at w (by omega) h64 t (by omega)
    rw [hl] at hat
    have hs : fH_step (qn t) (qn k) I1 J = some (qn (zat w t), I1, J) := by
      unfold fH_step
      have e3 : (6 : Int32) * (qn k - 1 - qn t) = qn (6 * (k - 1 - t)) := by
        show qn 6 * (qn k - qn 1 - qn t) = _
        rw [qn_sub (by omega), qn_sub (by omega), qn_mul]
      have e4 : qn (zcw w) >>> (qn (6 * (k - 1 - t)) &&& 31) &&& 63 = qn (zat w t) := by
        show qn (zcw w) >>> (qn (6 * (k - 1 - t)) &&& qn 31) &&& qn 63 = _
        rw [qn_shr (by omega) (by omega), qn_and, show ∀ x : Nat, x &&& 63 = x % 64 from fun x => Nat.and_two_pow_sub_one_eq_mod x 6, hat]
      rw [s4 25 (by omega) (by omega), e5, e3, e4]
    have es := eS1_set (I := I1) (J := J) (r := r) (n := k) (i := t) (v := qn (zat w t)) (by rw [s4 1 (by omega) (by omega)]; exact e1) hr (by rw [s1, qp_up1_eq]) (by omega) ht
    refine Or.inr ⟨qp_up I1 3 (r * 40 + t) (qn (zat w t)), ⟨by rw [qm_nk (by omega)]; exact s1, fun j h1 h2 => ?_, fun j hj => by rw [qm_nj (by omega)]; exact s3 j hj, fun c h1 h2 => by rw [qm_nk (Ne.symm h2)]; exact s4 c h1 h2⟩, ?_⟩
    · rw [qm_if]
      by_cases e : r * 40 + t = j
      · rw [if_pos e, ← e, show r * 40 + t - r * 40 = t by omega]
      · rw [if_neg e]; exact s2 j h1 (by omega)
    · rw [fX_wish_b92, if_neg (by rw [qn_le (by omega) (by omega)]; omega), hs, qp_bd_t, es, qp_bd_t, show qn t + 1 = qn (t + 1) from qn_add t 1]
end FE

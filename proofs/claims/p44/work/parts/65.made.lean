/-! THE LINE IS MADE -/
theorem qp_g_up {I : Nat → Nat → Int32} {c j : Nat} {v : Int32} (h : c < 36) : qp_g I (qp_up I c j v) = qp_up I c j v := by
  funext k
  by_cases h36 : k < 36
  · exact qp_g_lo h36
  · rw [qp_g_hi (by omega), qm_nk (by omega)]
theorem zat_mr {f : Nat → Nat} : ∀ (d i j : Nat), j < d → zat ((List.range' i d).map f) j = f (i + j)
  | 0, i, j, h => absurd h (Nat.not_lt_zero j)
  | d + 1, i, 0, _ => by rw [List.range'_succ]; rfl
  | d + 1, i, j + 1, h => by
    rw [List.range'_succ]
    show zat ((List.range' (i + 1) d).map f) j = _
    rw [zat_mr d (i + 1) j (by omega)]
    congr 1; omega
theorem xc_put0 {m i c : Nat} {I : Nat → Nat → Int32} {J : Nat → Nat → Int64} (h : xSz I) (hz : I 5 0 = qn m) (hm : m ≤ 60) (hi : i < m) (hc : c < 128) (h32 : I 6 i = qn 32) : fX_put 0 (qn i) (qn c) I J = some (qn 1032, qp_up I 6 i (qn c), J) := by
  have e := xc_put (J := J) (t := 0) h (by omega) hz hm hi hc
  rw [Nat.zero_mul, Nat.zero_add, h32, qn_add] at e
  exact e
def wMd (n L0 : Nat) (K P : Nat → Nat) (j : Nat) (I : Nat → Nat → Int32) : Prop := I 5 0 = qn (4 + 2 * n) ∧ (I 6 0 = 113 ∧ I 6 1 = qn (48 + L0 / 10) ∧ I 6 2 = qn (48 + L0 % 10) ∧ I 6 3 = 32) ∧ (∀ i, i < j → I 6 (4 + 2 * i) = qn (wLet (K i)) ∧ I 6 (5 + 2 * i) = qn (48 + P i)) ∧ ∀ x, 4 + 2 * j ≤ x → x < 4 + 2 * n → I 6 x = qn 32
/-- what is kept of the text that the line was made by -/
def wTe (n L0 : Nat) (K P : Nat → Nat) (I : Nat → Nat → Int32) : Prop := I 5 0 = qn (4 + 2 * n) ∧ wTx n L0 K P (I 6)
theorem xSz_put0 {i : Nat} {v : Int32} {I : Nat → Nat → Int32} (h : xSz I) : xSz (qp_up I 6 i v) := xSz_eq h (fun c hc => qm_nk (by omega))
theorem ew_line {n L0 : Nat} {K P : Nat → Nat} {I : Nat → Nat → Int32} {J : Nat → Nat → Int64} (h : xSz I) (hok : wOk n L0 K P) (hT : wTe n L0 K P I) :
    ∃ I1, fX_line 0 I J = some (qn n, I1, J) ∧ (∀ c, c < 8 ∨ 17 < c → I1 c = I c) ∧ xR n L0 K P [] (fun _ => none) I1 := by
  have hn6 := hok.2.1
  have hz := wpar hok hT.2
  obtain ⟨I1, a1, a2, a3, a4⟩ := xc_line (J := J) (t := 0) h (by omega) hT.1 (by omega) (L := L0) (ks := (List.range' 0 n).map K) (ps := (List.range' 0 n).map P) (by
    rw [show (fun i => I 6 (0 * 60 + i)) = I 6 by funext i; rw [Nat.zero_mul, Nat.zero_add]]; exact hz)
  have hl : ((List.range' 0 n).map K).length = n := by rw [List.length_map, List.length_range']
  rw [hl] at a1 a4
  refine ⟨I1, a1, a2, ?_⟩
  obtain ⟨⟨s1, s2, s3, s4, s5⟩, z, ⟨x1, x2, x3⟩, k⟩ := a4
  refine ⟨⟨s1, s2, hok.2.2.2, s4, s5⟩, z, ⟨x1, fun i hi => ?_, x3⟩, k⟩
  have e1 := zat_mr (f := K) n 0 i hi
  have e2 := zat_mr (f := P) n 0 i hi
  rw [Nat.zero_add] at e1 e2
  rw [← e1, ← e2]; exact x2 i hi
theorem ew_made83 {n L0 : Nat} {K P : Nat → Nat} {J : Nat → Nat → Int64} (hok : wOk n L0 K P) : ∀ (d j fuel : Nat) (I : Nat → Nat → Int32), j + d = n → d < fuel → xSz I → wRow n L0 K P (I 36) → wMd n L0 K P j I →
    ∃ I', fW_made_b83 fuel 1 (qn j) I J = some (1, I', J) ∧ xR n L0 K P [] (fun _ => none) I' ∧ wTe n L0 K P I' ∧ ∀ c, 36 ≤ c → I' c = I c := by
  have hn6 := hok.2.1
  intro d
  induction d with
  | zero =>
    intro j fuel I hj hf hz hr hm
    obtain ⟨f, rfl⟩ : ∃ f, fuel = f + 1 := ⟨fuel - 1, by omega⟩
    obtain rfl : j = n := by omega
    have hT : wTe j L0 K P I := ⟨hm.1, hm.2.1.1, hm.2.1.2.1, hm.2.1.2.2.1, hm.2.1.2.2.2, hm.2.2.1⟩
    obtain ⟨I1, a1, a2, a3⟩ := ew_line (J := J) hz hok hT
    refine ⟨qp_g I I1, ?_, xR_g a3, ⟨by rw [qp_g_lo (by omega), a2 5 (by omega)]; exact hT.1, by rw [qp_g_lo (by omega), a2 6 (by omega)]; exact hT.2⟩, fun c hc => qp_g_hi hc⟩
    rw [fW_made_b83, hr.1, if_pos (Int32.le_refl _), if_neg (by decide), a1, qp_bd_t, qp_g_hi (by omega), hr.1, if_neg (fun q => q rfl)]
  | succ d ih =>
    intro j fuel I hj hf hz hr hm
    obtain ⟨f, rfl⟩ : ∃ f, fuel = f + 1 := ⟨fuel - 1, by omega⟩
    obtain ⟨o1, o2, o3⟩ := hok.2.2.2 j (by omega)
    obtain ⟨r1, r2⟩ := hr.2.2 j (by omega)
    have e4 : (4 : Int32) + (2 : Int32) * qn j = qn (4 + 2 * j) := by show qn 4 + qn 2 * qn j = _; rw [qn_mul, qn_add]
    have e5 : (5 : Int32) + (2 : Int32) * qn j = qn (5 + 2 * j) := by show qn 5 + qn 2 * qn j = _; rw [qn_mul, qn_add]
    have e2 : (2 : Int32) + qn j = qn (2 + j) := qn_add 2 j
    have e8 : (8 : Int32) + qn j = qn (8 + j) := qn_add 8 j
    have g2 : (0 : Int32) ≤ qn (2 + j) ∧ qn (2 + j) < 34 := by
      show qn 0 ≤ qn (2 + j) ∧ qn (2 + j) < qn 34
      rw [qn_le (by omega) (by omega), qn_lt (by omega) (by omega)]; omega
    have g8 : (0 : Int32) ≤ qn (8 + j) ∧ qn (8 + j) < 34 := by
      show qn 0 ≤ qn (8 + j) ∧ qn (8 + j) < qn 34
      rw [qn_le (by omega) (by omega), qn_lt (by omega) (by omega)]; omega
    have p1 := xc_put0 (J := J) (i := 4 + 2 * j) hz hm.1 (by omega) (by omega) (wLet_lt (K j)) (hm.2.2.2 _ (by omega) (by omega))
    have p2 := xc_put0 (I := qp_up I 6 (4 + 2 * j) (qn (wLet (K j)))) (J := J) (m := 4 + 2 * n) (i := 5 + 2 * j) (c := 48 + P j) (xSz_put0 hz) (by rw [qm_nk (by omega)]; exact hm.1) (by omega) (by omega) (by omega) (by rw [qm_nj (by omega)]; exact hm.2.2.2 _ (by omega) (by omega))
    obtain ⟨I', a1, a2, a3, a4⟩ := ih (j + 1) f (qp_up (qp_up I 6 (4 + 2 * j) (qn (wLet (K j)))) 6 (5 + 2 * j) (qn (48 + P j))) (by omega) (by omega) (xSz_put0 (xSz_put0 hz)) (by rw [qm_nk (by omega), qm_nk (by omega)]; exact hr) (by
      refine ⟨by rw [qm_nk (by omega), qm_nk (by omega)]; exact hm.1, ⟨?_, ?_, ?_, ?_⟩, fun i hi => ?_, fun x h1 h2 => ?_⟩
      · rw [qm_nj (by omega), qm_nj (by omega)]; exact hm.2.1.1
      · rw [qm_nj (by omega), qm_nj (by omega)]; exact hm.2.1.2.1
      · rw [qm_nj (by omega), qm_nj (by omega)]; exact hm.2.1.2.2.1
      · rw [qm_nj (by omega), qm_nj (by omega)]; exact hm.2.1.2.2.2
      · rcases (show i < j ∨ i = j by omega) with q | q
        · rw [qm_nj (by omega), qm_nj (by omega), qm_nj (by omega), qm_nj (by omega)]; exact hm.2.2.1 i q
        · subst q
          exact ⟨by rw [qm_nj (by omega)]; exact qm_eq rfl, qm_eq rfl⟩
      · rw [qm_nj (by omega), qm_nj (by omega)]; exact hm.2.2.2 x (by omega) h2)
    refine ⟨I', ?_, a2, a3, fun c hc => by rw [a4 c hc, qm_nk (by omega), qm_nk (by omega)]⟩
    rw [← a1, fW_made_b83, hr.1, if_neg (by rw [qn_le (by omega) (by omega)]; omega), if_neg (by decide), e2, qp_gd_t g2, qn_nat (by omega), r1, ew_letter o1, qp_bd_t, qp_g_self, e4, p1, qp_bd_t, qp_g_up (by omega), if_neg (fun q => q rfl), e8, qp_gd_t g8, qn_nat (by omega), qm_nk (by omega), r2, e5, show (48 : Int32) + qn (P j) = qn (48 + P j) from qn_add 48 _, p2, qp_bd_t, qp_g_up (by omega), if_neg (fun q => q rfl), show qn j + 1 = qn (j + 1) from qn_add j 1]
theorem ew_made {n L0 : Nat} {K P : Nat → Nat} {I : Nat → Nat → Int32} {J : Nat → Nat → Int64} (hok : wOk n L0 K P) (hz : xSz I) (hr : wRow n L0 K P (I 36)) :
    ∃ I', fW_made I J = some (1, I', J) ∧ xR n L0 K P [] (fun _ => none) I' ∧ wTe n L0 K P I' ∧ ∀ c, 36 ≤ c → I' c = I c := by
  have hn6 := hok.2.1
  have hL := hok.2.2.1
  have e4 : (4 : Int32) + (2 : Int32) * qn n = qn (4 + 2 * n) := by show qn 4 + qn 2 * qn n = _; rw [qn_mul, qn_add]
  obtain ⟨I1, a1, a2, a3, a4, a5⟩ := xc_text (J := J) (t := 0) (m := 4 + 2 * n) hz (by omega) (by omega)
  have a3' : ∀ x, x < 4 + 2 * n → I1 6 x = qn 32 := fun x hx => by have := a3 x hx; rw [Nat.zero_mul, Nat.zero_add] at this; exact this
  have z1 : xSz (qp_g I I1) := xSz_eq a5 (fun c hc => qp_g_lo (by omega))
  have s1 : qp_g I I1 5 0 = qn (4 + 2 * n) := by rw [qp_g_lo (by omega)]; exact a2
  have t1 : ∀ x, x < 4 + 2 * n → qp_g I I1 6 x = qn 32 := fun x hx => by rw [qp_g_lo (by omega)]; exact a3' x hx
  have r1 : qp_g I I1 36 = I 36 := qp_g_hi (by omega)
  have p0 := xc_put0 (I := qp_g I I1) (J := J) (i := 0) (c := 113) z1 s1 (by omega) (by omega) (by omega) (t1 0 (by omega))
  generalize hM : qp_g I I1 = M1 at *
  have p1 := xc_put0 (I := qp_up M1 6 0 (qn 113)) (J := J) (m := 4 + 2 * n) (i := 1) (c := 48 + L0 / 10) (xSz_put0 z1) (by rw [qm_nk (by omega)]; exact s1) (by omega) (by omega) (by omega) (by rw [qm_nj (by omega)]; exact t1 1 (by omega))
  have p2 := xc_put0 (I := qp_up (qp_up M1 6 0 (qn 113)) 6 1 (qn (48 + L0 / 10))) (J := J) (m := 4 + 2 * n) (i := 2) (c := 48 + L0 % 10) (xSz_put0 (xSz_put0 z1)) (by rw [qm_nk (by omega), qm_nk (by omega)]; exact s1) (by omega) (by omega) (by omega) (by rw [qm_nj (by omega), qm_nj (by omega)]; exact t1 2 (by omega))
  obtain ⟨I', b1, b2, b3, b4⟩ := ew_made83 (J := J) hok n 0 100000 (qp_up (qp_up (qp_up M1 6 0 (qn 113)) 6 1 (qn (48 + L0 / 10))) 6 2 (qn (48 + L0 % 10))) (by omega) (by omega) (xSz_put0 (xSz_put0 (xSz_put0 z1))) (by rw [qm_nk (by omega), qm_nk (by omega), qm_nk (by omega), r1]; exact hr) (by
    refine ⟨by rw [qm_nk (by omega), qm_nk (by omega), qm_nk (by omega)]; exact s1, ⟨?_, ?_, ?_, ?_⟩, fun i hi => absurd hi (Nat.not_lt_zero i), fun x h1 h2 => ?_⟩
    · rw [qm_nj (by omega), qm_nj (by omega)]; exact qm_eq rfl
    · rw [qm_nj (by omega)]; exact qm_eq rfl
    · exact qm_eq rfl
    · rw [qm_nj (by omega), qm_nj (by omega), qm_nj (by omega)]; exact t1 3 (by omega)
    · rw [qm_nj (by omega), qm_nj (by omega), qm_nj (by omega)]; exact t1 x h2)
  refine ⟨I', ?_, b2, b3, fun c hc => by rw [b4 c hc, qm_nk (by omega), qm_nk (by omega), qm_nk (by omega), ← hM]; exact qp_g_hi hc⟩
  have d1 : (48 : Int32) + qn L0 / 10 = qn (48 + L0 / 10) := by show qn 48 + qn L0 / qn 10 = _; rw [qn_div (by omega) (by omega), qn_add]
  have d2 : (48 : Int32) + (qn L0 - qn L0 / 10 * 10) = qn (48 + L0 % 10) := by show qn 48 + (qn L0 - qn L0 / qn 10 * qn 10) = _; rw [qn_div (by omega) (by omega), qn_mul, qn_mod, qn_add]
  unfold fW_made
  rw [hr.1, e4, show fX_text 0 (qn (4 + 2 * n)) I J = some (qn (4 + 2 * n), I1, J) from a1, qp_bd_t, if_neg (fun q => q rfl), hM, show fX_put 0 0 113 M1 J = some (qn 1032, qp_up M1 6 0 (qn 113), J) from p0, qp_bd_t, if_neg (fun q => q rfl), qp_g_up (by omega), qm_nk (by omega), r1, hr.2.1, d1, show fX_put 0 1 (qn (48 + L0 / 10)) (qp_up M1 6 0 (qn 113)) J = _ from p1, qp_bd_t, if_neg (fun q => q rfl), qp_g_up (by omega), qm_nk (by omega), qm_nk (by omega), r1, hr.2.1, d2, show fX_put 0 2 (qn (48 + L0 % 10)) (qp_up (qp_up M1 6 0 (qn 113)) 6 1 (qn (48 + L0 / 10))) J = _ from p2, qp_bd_t, if_neg (fun q => q rfl), qp_g_up (by omega)]
  exact b1

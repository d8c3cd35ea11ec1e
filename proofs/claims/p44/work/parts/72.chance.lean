/-! CHANCES -/
section LC
variable {G : qp_G} {n L0 : Nat} {K P : Nat → Nat} {d0 ds : List Nat} {kp : Nat → Option (List Nat)} {I I' : Nat → Nat → Int32} {J : Nat → Nat → Int64}
theorem qp_zI_ne {I : Nat → Nat → Int32} {c k : Nat} (h : c ≠ k) : qp_zI I c k = I k := by
  funext j
  unfold qp_zI
  rw [show Nat.beq c k = false from Bool.eq_false_iff.mpr (fun q => h (Nat.eq_of_beq_eq_true q))]; rfl
theorem wrat {a b : Nat} (ha : a < 4611686018427387904) (hb0 : 0 < b) (hb : b < 4294967296) : ql a / ql (Nat.gcd a b) = ql (a / Nat.gcd a b) ∧ ql b / ql (Nat.gcd a b) = ql (b / Nat.gcd a b) := by
  have hg : Nat.gcd a b ≤ b := Nat.gcd_le_right a hb0
  exact ⟨ql_div (by omega) (by omega), ql_div (by omega) (by omega)⟩
theorem yc_odds {i p : Nat} (h : xR n L0 K P ds kp I) (hi : i < n) (hp : p ≤ 12) : ∃ I1 J1, fX_odds (qn i) (qn p) I J = some (1, I1, J1) ∧ J1 0 12 = ql (zsm (zFc n K P (wS n L0 ds) (wL n L0 ds) p i) (2 ^ n) / Nat.gcd (zsm (zFc n K P (wS n L0 ds) (wL n L0 ds) p i) (2 ^ n)) (12 ^ n)) ∧ J1 0 13 = ql (12 ^ n / Nat.gcd (zsm (zFc n K P (wS n L0 ds) (wL n L0 ds) p i) (2 ^ n)) (12 ^ n)) ∧ lq I (qp_g I I1) := by
  obtain ⟨I1, a1, a2, a3⟩ := xc_odds (J := J) h hi hp
  have h12 := zpw_le (b := 12) (e := n) (by omega) h.1.1
  have h120 : 0 < 12 ^ n := Nat.pow_pos (by decide)
  have hF := xFc_le (p := p) (i := i) (L := wL n L0 ds) (K := K) (P := P) hp (xR_P h)
  obtain ⟨e1, e2⟩ := wrat (a := zsm (zFc n K P (wS n L0 ds) (wL n L0 ds) p i) (2 ^ n)) (b := 12 ^ n) (Nat.lt_of_le_of_lt hF (by omega)) h120 (by omega)
  refine ⟨I1, _, a1, ?_, ?_, lq_c a3⟩
  · rw [qm_nj (by omega), qm_eq rfl]; exact e1
  · rw [qm_eq rfl]; exact e2
theorem yc_mid {p : Nat} (h : xR n L0 K P ds kp I) (hn : 0 < n) (hp : p ≤ 12) : ∃ I1 J1, fX_mid (qn p) I J = some (1, I1, J1) ∧ J1 0 12 = ql (zsm (zFl n K P (wS n L0 ds) (wL n L0 ds) p) (2 ^ n) / Nat.gcd (zsm (zFl n K P (wS n L0 ds) (wL n L0 ds) p) (2 ^ n)) (12 ^ n)) ∧ J1 0 13 = ql (12 ^ n / Nat.gcd (zsm (zFl n K P (wS n L0 ds) (wL n L0 ds) p) (2 ^ n)) (12 ^ n)) ∧ lq I (qp_g I I1) := by
  obtain ⟨I1, a1, a2, a3⟩ := xc_mid (J := J) h hn hp
  have h12 := zpw_le (b := 12) (e := n) (by omega) h.1.1
  have h120 : 0 < 12 ^ n := Nat.pow_pos (by decide)
  have hL : wL n L0 ds ≤ 20 := (xR_ok h).2.2
  have hF := xFl_le (p := p) (L := wL n L0 ds) (K := K) (P := P) hp (xR_P h)
  have hF2 : wL n L0 ds * 12 ^ n ≤ 20 * 12 ^ n := Nat.mul_le_mul_right _ hL
  obtain ⟨e1, e2⟩ := wrat (a := zsm (zFl n K P (wS n L0 ds) (wL n L0 ds) p) (2 ^ n)) (b := 12 ^ n) (Nat.lt_of_le_of_lt hF (by omega)) h120 (by omega)
  refine ⟨I1, _, a1, ?_, ?_, lq_c a3⟩
  · rw [qm_nj (by omega), qm_eq rfl]; exact e1
  · rw [qm_eq rfl]; exact e2
theorem wbit {a i : Nat} (ha : a < 2147483648) (hi : i < 32) : (qn a >>> (qn i &&& 31)) &&& 1 = qn (a / 2 ^ i % 2) := by
  show (qn a >>> (qn i &&& qn 31)) &&& qn 1 = _
  rw [qn_shr ha hi, qn_and, q_and1]
theorem wcont {i : Nat} {s : List Nat} {L : Nat} (hP : zP n s) (hi : i < n) : zmask (zcont K P s L) n / 2 ^ i % 2 = if i ∈ s ∧ 0 < zwn K s i ∧ zG K P s L i = zwn K s i then 1 else 0 := by
  have hb := zmask_bit (zcont K P s L) n i
  rw [Nat.testBit_eq_decide_div_mod_eq, decide_eq_true hi, Bool.true_and] at hb
  unfold zcont at hb
  have hm := (hP.2.2 i).2 hi
  have hlt := Nat.mod_lt (zmask (zcont K P s L) n / 2 ^ i) (show 0 < 2 by omega)
  by_cases hc : 0 < zwn K s i ∧ zG K P s L i = zwn K s i
  · rw [if_pos ⟨hm, hc⟩]
    rw [decide_eq_true hc] at hb
    exact of_decide_eq_true hb
  · rw [if_neg (fun q => hc q.2)]
    rw [decide_eq_false hc] at hb
    have hb' : ¬ (zmask (zcont K P s L) n / 2 ^ i % 2 = 1) := of_decide_eq_false hb
    omega
theorem wmask_lt {c : Nat → Bool} (hn : n ≤ 6) : zmask c n < 64 := Nat.lt_of_lt_of_le (zmask_lt c n) (p2_le hn)
theorem wb1730 (hG : G.2.2.2.2.1 ≤ 260) (hok : wOk n L0 K P) (hl : d0.length ≤ 12) (h : wI n L0 K P d0 d0 kp I) :
    fW_law_b1730 G (qn n) (qn d0.length) (qn (wL n L0 d0)) (qn (wA n L0 K P d0)) (qn (zmask (zcont K P (wS n L0 d0) (wL n L0 d0)) n)) (qn (2 ^ n - 1)) I J = some () := by
  have hn := hok.1
  have hn6 := hok.2.1
  have hP := xR_P h.1
  have hL : wL n L0 d0 ≤ 20 := (xR_ok h.1).2.2
  have h12 := zpw_le (b := 12) (e := n) (by omega) hn6
  have h120 : 0 < 12 ^ n := Nat.pow_pos (by decide)
  have hE := zE_le (K := K) (P := P) (s := wS n L0 d0) (L := wL n L0 d0)
  have hm64 := wmask_lt (c := zcont K P (wS n L0 d0) (wL n L0 d0)) hn6
  obtain ⟨x, ex⟩ := ew_cell (k := 21) hG (by omega)
  obtain ⟨i, hi, ei⟩ := ew_up (I := I) (J := J) x (m := n) hn (by omega)
  obtain ⟨y, ey⟩ := ew_cell (k := 22) hG (by omega)
  obtain ⟨p, hp, ep⟩ := ew_up (I := I) (J := J) y (m := 13) (by omega) (by omega)
  obtain ⟨I1, J1, a1, a2, a3, a4⟩ := yc_odds (J := J) (p := 0) h.1 hi (by omega)
  obtain ⟨M1, hM1⟩ : ∃ M, M = qp_g I I1 := ⟨_, rfl⟩
  have h1 : wI n L0 K P d0 d0 kp M1 := by rw [hM1]; exact wI_lq h a4
  rw [xFc_0 hn6 hP, ← wcont hP hi] at a2 a3
  have hb2 := Nat.mod_lt (zmask (zcont K P (wS n L0 d0) (wL n L0 d0)) n / 2 ^ i) (show 0 < 2 by omega)
  have hwb := wbit (a := zmask (zcont K P (wS n L0 d0) (wL n L0 d0)) n) (i := i) (by omega) (by omega)
  generalize zmask (zcont K P (wS n L0 d0) (wL n L0 d0)) n / 2 ^ i % 2 = b at *
  have e12 : J1 0 12 = ql b ∧ J1 0 13 = ql 1 := by
    rw [a2, a3]
    rcases (show b = 0 ∨ b = 1 by omega) with rfl | rfl
    · rw [Nat.mul_zero, Nat.gcd_zero_left, Nat.zero_div, Nat.div_self h120]; exact ⟨rfl, rfl⟩
    · rw [Nat.mul_one, Nat.gcd_self, Nat.div_self h120]; exact ⟨rfl, rfl⟩
  obtain ⟨I2, J2, b1, b2, b3, b4⟩ := yc_odds (J := J1) (p := 12) h1.1 hi (by omega)
  obtain ⟨M2, hM2⟩ : ∃ M, M = qp_g M1 I2 := ⟨_, rfl⟩
  have h2 : wI n L0 K P d0 d0 kp M2 := by rw [hM2]; exact wI_lq h1 b4
  rw [xFc_12 hP, Nat.zero_div] at b2
  obtain ⟨I3, J3, c1, c2, c3, c4⟩ := yc_odds (J := J2) (p := p) h2.1 hi (by omega)
  obtain ⟨M3, hM3⟩ : ∃ M, M = qp_g M2 I3 := ⟨_, rfl⟩
  have h3 : wI n L0 K P d0 d0 kp M3 := by rw [hM3]; exact wI_lq h2 c4
  have hF3 := xFc_le (p := p) (i := i) (L := wL n L0 d0) (K := K) (P := P) (by omega) hP
  generalize zsm (zFc n K P (wS n L0 d0) (wL n L0 d0) p i) (2 ^ n) = f3 at c2 c3 hF3
  have hq3 : f3 / Nat.gcd f3 (12 ^ n) ≤ 12 ^ n / Nat.gcd f3 (12 ^ n) := Nat.div_le_div_right hF3
  have hq4 : 12 ^ n / Nat.gcd f3 (12 ^ n) ≤ 12 ^ n := Nat.div_le_self _ _
  generalize f3 / Nat.gcd f3 (12 ^ n) = r3 at c2 hq3
  generalize 12 ^ n / Nat.gcd f3 (12 ^ n) = s3 at c3 hq3 hq4
  obtain ⟨I4, J4, d1, d2, d3, d4⟩ := yc_mid (J := J3) (p := 0) h3.1 hn (by omega)
  obtain ⟨M4, hM4⟩ : ∃ M, M = qp_g M3 I4 := ⟨_, rfl⟩
  have h4 : wI n L0 K P d0 d0 kp M4 := by rw [hM4]; exact wI_lq h3 d4
  have hgm : ∀ m, Nat.gcd (12 ^ n * m) (12 ^ n) = 12 ^ n := fun m => Nat.gcd_eq_right (Nat.dvd_mul_right _ _)
  rw [xFl_0 hn6 hP, hgm, Nat.mul_div_cancel_left _ h120] at d2
  rw [xFl_0 hn6 hP, hgm, Nat.div_self h120] at d3
  obtain ⟨I5, J5, f1, f2, f3', f4⟩ := yc_mid (J := J4) (p := 12) h4.1 hn (by omega)
  obtain ⟨M5, hM5⟩ : ∃ M, M = qp_g M4 I5 := ⟨_, rfl⟩
  have h5 : wI n L0 K P d0 d0 kp M5 := by rw [hM5]; exact wI_lq h4 f4
  rw [xFl_12 hP, hgm, Nat.mul_div_cancel_left _ h120] at f2
  obtain ⟨I6, J6, g1, g2, g3, g4⟩ := yc_mid (J := J5) (p := p) h5.1 hn (by omega)
  obtain ⟨M6, hM6⟩ : ∃ M, M = qp_g M5 I6 := ⟨_, rfl⟩
  have h6 : wI n L0 K P d0 d0 kp M6 := by rw [hM6]; exact wI_lq h5 g4
  have hF6 := xFl_le (p := p) (L := wL n L0 d0) (K := K) (P := P) (by omega) hP
  generalize zsm (zFl n K P (wS n L0 d0) (wL n L0 d0) p) (2 ^ n) = f6 at g2 g3 hF6
  have hq6 : f6 / Nat.gcd f6 (12 ^ n) ≤ wL n L0 d0 * (12 ^ n / Nat.gcd f6 (12 ^ n)) := by
    have hg0 : 0 < Nat.gcd f6 (12 ^ n) := Nat.gcd_pos_of_pos_right f6 h120
    have v := Nat.gcd_dvd_right f6 (12 ^ n)
    have e := Nat.mul_div_assoc (wL n L0 d0) v
    rw [← e]
    exact Nat.div_le_div_right hF6
  have hq7 : 12 ^ n / Nat.gcd f6 (12 ^ n) ≤ 12 ^ n := Nat.div_le_self _ _
  have hq8 : wL n L0 d0 * (12 ^ n / Nat.gcd f6 (12 ^ n)) ≤ 20 * (12 ^ n) := Nat.mul_le_mul hL hq7
  generalize f6 / Nat.gcd f6 (12 ^ n) = r6 at g2 hq6
  generalize 12 ^ n / Nat.gcd f6 (12 ^ n) = s6 at g3 hq6 hq7 hq8
  obtain ⟨z, ez⟩ := ew_cell (k := 23) hG (by omega)
  obtain ⟨m, hm, em⟩ := ew_up (I := I) (J := J) z (m := 15) (by omega) (by omega)
  have hz : wI n L0 K P d0 d0 kp (qp_zI (qp_zI M6 39) 40) := wI_lq' h6 (fun c hc _ => by rw [qp_zI_ne (by omega), qp_zI_ne (by omega)])
  have hsub : qn (wL n L0 d0) - qn (wA n L0 K P d0) = qn (zE K P (wS n L0 d0) (wL n L0 d0)) := by
    show qn (wL n L0 d0) - qn (wL n L0 d0 - zE K P (wS n L0 d0) (wL n L0 d0)) = _
    rw [qn_sub (by omega)]; congr 1; omega
  have fin : fW_law_b1981 G 100000 (qn n) (qn d0.length) (qn (2 ^ n - 1)) (qn m) 0 0 (qp_up (qp_up (qp_zI (qp_zI M6 39) 40) 39 0 (qn (zat (wS n L0 d0) 0))) 40 0 (qn (wA n L0 K P d0))) (qp_zJ (qp_zJ J6 39) 40) = some () := by
    refine wb1981 (kp := kp) hG hok hl (m := m) (by omega) m 0 100000 [] _ _ (by omega) (by omega) (Nat.le_refl 0) ?_ ?_
    · rw [List.append_nil]
      exact wI_lq' hz (fun c hc _ => by rw [qm_nk (by omega), qm_nk (by omega)])
    · intro j hj
      obtain rfl : j = 0 := by have : j ≤ 0 := hj; omega
      rw [List.take_zero, List.append_nil]
      exact ⟨by rw [qm_nk (by omega)]; exact qm_eq rfl, qm_eq rfl⟩
  unfold fW_law_b1730
  rw [show fW_cell G 21 I J = _ from ex I J, qp_bd_t, qp_g_self, ei, qp_bd_t, qp_g_self, show fW_cell G 22 I J = _ from ey I J, qp_bd_t, qp_g_self, show fW_up y 13 I J = _ from ep I J, qp_bd_t, qp_g_self]
  rw [show fX_odds (qn i) 0 I J = _ from a1, qp_bd_t, ← hM1, if_neg (fun q => q rfl), xc_upper, qp_bd_t, qp_g_self, hwb, qn_64 (by omega), e12.1, if_neg (fun q => q ((lg_cmp_eq _ _).mpr rfl)), xc_lower, qp_bd_t, qp_g_self, e12.2, if_neg (fun q => q ((lg_cmp_eq _ _).mpr rfl))]
  rw [show fX_odds (qn i) 12 M1 J1 = _ from b1, qp_bd_t, ← hM2, if_neg (fun q => q rfl), xc_upper, qp_bd_t, qp_g_self, b2, if_neg (fun q => q ((lg_cmp_eq _ _).mpr rfl))]
  rw [c1, qp_bd_t, ← hM3, if_neg (fun q => q rfl), xc_upper, qp_bd_t, qp_g_self, c2, if_neg (fun q => by rw [lg_cmp_lt] at q; change ql _ < ql 0 at q; rw [ql_lt (by omega) (by omega)] at q; omega), xc_upper, qp_bd_t, qp_g_self, xc_lower, qp_bd_t, qp_g_self, c2, c3, if_neg (fun q => by rw [lg_cmp_gt, ql_lt (by omega) (by omega)] at q; omega)]
  rw [show fX_mid 0 M3 J3 = _ from d1, qp_bd_t, ← hM4, if_neg (fun q => q rfl), xc_upper, qp_bd_t, qp_g_self, d2, hsub, qn_64 (by omega), if_neg (fun q => q ((lg_cmp_eq _ _).mpr rfl)), xc_lower, qp_bd_t, qp_g_self, d3, if_neg (fun q => q ((lg_cmp_eq _ _).mpr rfl))]
  rw [show fX_mid 12 M4 J4 = _ from f1, qp_bd_t, ← hM5, if_neg (fun q => q rfl), xc_upper, qp_bd_t, qp_g_self, f2, qn_64 (by omega), if_neg (fun q => q ((lg_cmp_eq _ _).mpr rfl))]
  rw [g1, qp_bd_t, ← hM6, if_neg (fun q => q rfl), xc_upper, qp_bd_t, qp_g_self, xc_lower, qp_bd_t, qp_g_self, g2, g3, ql_mul, if_neg (fun q => by rw [lg_cmp_gt, ql_lt (by omega) (by omega)] at q; omega), xc_upper, qp_bd_t, qp_g_self, g2, if_pos (by rw [lg_cmp_ge]; show ql 0 ≤ ql _; rw [ql_le (by omega) (by omega)]; omega)]
  rw [show fW_cell G 23 M6 J6 = _ from ez M6 J6, qp_bd_t, qp_g_self, show fW_up z 15 M6 J6 = _ from em M6 J6, qp_bd_t, qp_g_self, show fX_who 0 (qp_zI (qp_zI M6 39) 40) (qp_zJ (qp_zJ J6 39) 40) = _ from xc_who (p := 0) hz.1 hn, qp_bd_t, qp_g_self]
  exact fin
end LC

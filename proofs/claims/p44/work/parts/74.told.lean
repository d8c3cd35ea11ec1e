/-! WHICH LINES THERE CAN HAVE BEEN, by what they got -/
section LE
variable {G : qp_G} {n L0 : Nat} {K P : Nat → Nat} {d0 ds : List Nat} {kp : Nat → Option (List Nat)} {I I' : Nat → Nat → Int32} {J : Nat → Nat → Int64}
/-- the pairs in row 3 -/
def wPr (n L0 : Nat) (K P : Nat → Nat) (d0 : List Nat) (T k : Nat) (wh : Nat → Nat) (I : Nat → Nat → Int32) : Prop := I 2 3 = qn (2 * T) ∧ ∀ t, t < k → wh t < n ∧ I 3 (3 * 40 + 2 * t) = qn (wh t) ∧ I 3 (3 * 40 + (2 * t + 1)) = qn (zG K P (wS n L0 d0) (wL n L0 d0) (wh t))
theorem wPr_lq {T k : Nat} {wh : Nat → Nat} (h : wPr n L0 K P d0 T k wh I) (e : lq I I') : wPr n L0 K P d0 T k wh I' := by
  unfold wPr at h ⊢
  rw [e 2 (by unfold xqc; omega), e 3 (by unfold xqc; omega)]; exact h
theorem wPr_zpr {T : Nat} {wh : Nat → Nat} (h : wPr n L0 K P d0 T T wh I) : zpr n T wh (fun t => zG K P (wS n L0 d0) (wL n L0 d0) (wh t)) (I 3) 3 := fun t ht => by
  obtain ⟨a, b, c⟩ := h.2 t ht
  have h3 := zG_3 (K := K) (P := P) (s := wS n L0 d0) (L := wL n L0 d0) (i := wh t)
  exact ⟨a, by dsimp only; omega, b, c⟩
abbrev wF (n L0 : Nat) (K P : Nat → Nat) (d0 : List Nat) (T : Nat) (wh : Nat → Nat) : List (List Nat) := xF n K P (wL n L0 d0) T wh (fun t => zG K P (wS n L0 d0) (wL n L0 d0) (wh t))
theorem wF_in {T : Nat} {wh : Nat → Nat} (hP : zP n (wS n L0 d0)) : wS n L0 d0 ∈ wF n L0 K P d0 T wh := List.mem_filter.mpr ⟨zall_all hP, zQ_iff.mpr (fun t ht => rfl)⟩
theorem wF_at {T : Nat} {wh : Nat → Nat} (hn : n ≤ 6) {o : List Nat} (ho : o ∈ wF n L0 K P d0 T wh) {p : Nat} (hp : p < n) : zat o p < n := zP_at (zall_P hn (List.mem_filter.mp ho).1) hp
theorem wI_of {ds' : List Nat} (h : wI n L0 K P d0 ds kp I) (x : xR n L0 K P ds' kp I') (e : ∀ c, c = 5 ∨ c = 6 ∨ c = 37 ∨ c = 38 → I' c = I c) : wI n L0 K P d0 ds' kp I' := by
  obtain ⟨h1, h2, h3, h4, h5⟩ := h
  refine ⟨x, h2, wTe_eq h3 (e 5 (by omega)) (e 6 (by omega)), ?_, ?_⟩
  · rw [e 37 (by omega)]; exact h4
  · rw [e 38 (by omega)]; exact h5
theorem wb1392 (hG : G.2.2.2.2.1 ≤ 260) (hok : wOk n L0 K P) (hl : d0.length ≤ 12) {T : Nat} {wh : Nat → Nat} (hT : T ≤ 8) : ∀ (e p fuel : Nat) (I : Nat → Nat → Int32) (J : Nat → Nat → Int64), p + e = n → e < fuel → wI n L0 K P d0 d0 kp I → wPr n L0 K P d0 T T wh I →
    fW_law_b1392 G fuel (qn n) (qn d0.length) (qn (wL n L0 d0)) (qn (wA n L0 K P d0)) (qn (zmask (zcont K P (wS n L0 d0) (wL n L0 d0)) n)) (qn (2 ^ n - 1)) (qn p) I J = some () := by
  have hn := hok.1
  have hn6 := hok.2.1
  have h64 := p2_le hn6
  intro e
  induction e with
  | zero =>
    intro p fuel I J hp hf h hw
    obtain ⟨f, rfl⟩ : ∃ f, fuel = f + 1 := ⟨fuel - 1, by omega⟩
    rw [fW_law_b1392, if_pos (by rw [qn_le (by omega) (by omega)]; omega)]
    exact wb1444 hG hok hl 19 0 100000 I J (by omega) (by omega) h
  | succ e ih =>
    intro p fuel I J hp hf h hw
    obtain ⟨f, rfl⟩ : ∃ f, fuel = f + 1 := ⟨fuel - 1, by omega⟩
    have hpn : p < n := by omega
    have hP := xR_P h.1
    have hz : zat (wS n L0 d0) p < n := zP_at hP hpn
    obtain ⟨I1, a1, a2⟩ := xc_can (J := J) (i := p) h.1 hpn (by omega) hT hw.1 (wPr_zpr hw)
    obtain ⟨M1, hM1⟩ : ∃ M, M = qp_g I I1 := ⟨_, rfl⟩
    have h1 : wI n L0 K P d0 d0 kp M1 := by rw [hM1]; exact wI_lq h (lq_c a2)
    have w1 : wPr n L0 K P d0 T T wh M1 := by rw [hM1]; exact wPr_lq hw (lq_c a2)
    obtain ⟨I2, b1, b2⟩ := xc_can (J := J) (i := p) h1.1 hpn (by omega) hT w1.1 (wPr_zpr w1)
    obtain ⟨M2, hM2⟩ : ∃ M, M = qp_g M1 I2 := ⟨_, rfl⟩
    have h2 : wI n L0 K P d0 d0 kp M2 := by rw [hM2]; exact wI_lq h1 (lq_c b2)
    have w2 : wPr n L0 K P d0 T T wh M2 := by rw [hM2]; exact wPr_lq w1 (lq_c b2)
    have hlt : zg2 (wF n L0 K P d0 T wh) p < 2 ^ n := zg2_lt (fun o ho => wF_at hn6 ho hpn)
    have hbt := zg2_bit (p := p) (wF_in (K := K) (P := P) (T := T) (wh := wh) hP)
    change fX_can 3 (qn p) I J = some (qn (zg2 (wF n L0 K P d0 T wh) p), I1, J) at a1
    change fX_can 3 (qn p) M1 J = some (qn (zg2 (wF n L0 K P d0 T wh) p), I2, J) at b1
    generalize zg2 (wF n L0 K P d0 T wh) p = g at *
    rw [Nat.testBit_eq_decide_div_mod_eq] at hbt
    have hbt := of_decide_eq_true hbt
    rw [fW_law_b1392, if_neg (by rw [qn_le (by omega) (by omega)]; omega), a1, qp_bd_t, ← hM1, qp_gd_t (q_g6 (by omega)), qn_nat (by omega), h1.2.2.2.1 p hpn, wbit (by omega) (by omega), hbt, if_neg (fun q => q rfl), b1, qp_bd_t, ← hM2, q_p2 hn6, if_pos (by rw [qn_lt (by omega) (by omega)]; exact hlt), show qn p + 1 = qn (p + 1) from qn_add p 1]
    exact ih (p + 1) f M2 J (by omega) (by omega) h2 w2
theorem xR_lay {x : Nat} {v w : Int32} (h : xR n L0 K P ds kp I) : xR n L0 K P ds kp (qp_up (qp_up I 3 x v) 0 11 w) := xR_eq h (fun c hc => by unfold xlc at hc; rw [qm_nk (by omega), qm_nk (by omega)])
theorem qp_g_up2 {I : Nat → Nat → Int32} {x : Nat} {v w : Int32} : qp_g I (qp_up (qp_up I 3 x v) 0 11 w) = qp_up (qp_up I 3 x v) 0 11 w := by
  funext k
  by_cases h36 : k < 36
  · exact qp_g_lo h36
  · rw [qp_g_hi (by omega), qm_nk (by omega), qm_nk (by omega)]
theorem wb1237 (hG : G.2.2.2.2.1 ≤ 260) (hok : wOk n L0 K P) (hl : d0.length ≤ 12) {T : Nat} (hT : T ≤ 8) : ∀ (e k fuel : Nat) (wh : Nat → Nat) (I : Nat → Nat → Int32) (J : Nat → Nat → Int64), k + e = T → e < fuel → wI n L0 K P d0 d0 kp I → wPr n L0 K P d0 T k wh I →
    fW_law_b1237 G fuel (qn n) (qn d0.length) (qn (wL n L0 d0)) (qn (wA n L0 K P d0)) (qn (zmask (zcont K P (wS n L0 d0) (wL n L0 d0)) n)) (qn (2 ^ n - 1)) (qn T) (qn k) I J = some () := by
  have hn := hok.1
  have hn6 := hok.2.1
  intro e
  induction e with
  | zero =>
    intro k fuel wh I J hk hf h hw
    obtain ⟨f, rfl⟩ : ∃ f, fuel = f + 1 := ⟨fuel - 1, by omega⟩
    obtain rfl : k = T := by omega
    have hP := xR_P h.1
    have hF1 : 0 < (wF n L0 K P d0 k wh).length := List.length_pos_of_mem (wF_in hP)
    have hF2 : (wF n L0 K P d0 k wh).length ≤ 720 := xF_le hn6
    obtain ⟨I1, a1, a2⟩ := xc_lines (J := J) (r := 3) h.1 hn (by omega) hT hw.1 (wPr_zpr hw)
    obtain ⟨M1, hM1⟩ : ∃ M, M = qp_g I I1 := ⟨_, rfl⟩
    have h1 : wI n L0 K P d0 d0 kp M1 := by rw [hM1]; exact wI_lq h (lq_c a2)
    have w1 : wPr n L0 K P d0 k k wh M1 := by rw [hM1]; exact wPr_lq hw (lq_c a2)
    obtain ⟨J1, hJ1⟩ : ∃ J', J' = qp_up (qp_up J 0 12 (ql (wF n L0 K P d0 k wh).length)) 0 13 (ql 1) := ⟨_, rfl⟩
    have j1 : J1 0 12 = ql (wF n L0 K P d0 k wh).length := by rw [hJ1, qm_nj (by omega)]; exact qm_eq rfl
    have j2 : J1 0 13 = ql 1 := by rw [hJ1]; exact qm_eq rfl
    obtain ⟨I2, a, b1, b2, b3, b4⟩ := xc_next (J := J1) (r := 3) h1.1 hn (by omega) hT w1.1 (wPr_zpr w1) hF1
    obtain ⟨M2, hM2⟩ : ∃ M, M = qp_g M1 I2 := ⟨_, rfl⟩
    have h2 : wI n L0 K P d0 d0 kp M2 := by rw [hM2]; exact wI_lq h1 (lq_c b4)
    have w2 : wPr n L0 K P d0 k k wh M2 := by rw [hM2]; exact wPr_lq w1 (lq_c b4)
    have hp1 := zg3_pos (K := K) (P := P) (L := wL n L0 d0) (wF_in (K := K) (P := P) (T := k) (wh := wh) hP) a
    have hp2 : zmx (zg3 K P (wL n L0 d0) (wF n L0 K P d0 k wh) a) 4 ≤ (wF n L0 K P d0 k wh).length := zmx_le (fun g => zg3_le) 4
    have k2 : M2 0 11 = qn (zmx (zg3 K P (wL n L0 d0) (wF n L0 K P d0 k wh) a) 4) := by rw [hM2, qp_g_lo (by omega)]; exact b3
    change fX_lines 3 I J = some (1, I1, qp_up (qp_up J 0 12 (ql (wF n L0 K P d0 k wh).length)) 0 13 (ql 1)) at a1
    rw [← hJ1] at a1
    generalize zmx (zg3 K P (wL n L0 d0) (wF n L0 K P d0 k wh) a) 4 = z at *
    generalize (wF n L0 K P d0 k wh).length = N at *
    rw [fW_law_b1237, if_pos (Int32.le_refl _), a1, qp_bd_t, ← hM1, if_neg (fun q => q rfl), xc_upper, qp_bd_t, qp_g_self, j1, if_neg (fun q => by rw [lg_cmp_lt] at q; change ql N < ql 1 at q; rw [ql_lt (by omega) (by omega)] at q; omega), xc_upper, qp_bd_t, qp_g_self, j1, if_neg (fun q => by rw [lg_cmp_gt] at q; change ql 720 < ql N at q; rw [ql_lt (by omega) (by omega)] at q; omega), xc_lower, qp_bd_t, qp_g_self, j2, if_pos (show lg_cmp (ql 1) 1 = 0 from (lg_cmp_eq _ _).mpr rfl), xc_upper, qp_bd_t, qp_g_self, j1, show fX_next 3 M1 J1 = _ from b1, qp_bd_t, ← hM2, xc_asked, qp_bd_t, qp_g_self, k2, if_neg (by show ¬ qn a < qn 0; rw [qn_lt (by omega) (by omega)]; omega), if_neg (by rw [qn_le (by omega) (by omega)]; omega), if_neg (by show ¬ qn z < qn 1; rw [qn_lt (by omega) (by omega)]; omega), qn_64 (by omega), if_pos (by rw [lg_cmp_le, ql_le (by omega) (by omega)]; exact hp2)]
    exact wb1392 hG hok hl hT n 0 100000 M2 J1 (by omega) (by omega) h2 w2
  | succ e ih =>
    intro k fuel wh I J hk hf h hw
    obtain ⟨f, rfl⟩ : ∃ f, fuel = f + 1 := ⟨fuel - 1, by omega⟩
    obtain ⟨x, ex⟩ := ew_cell (k := 13 + k) hG (by omega)
    obtain ⟨i, hi, ei⟩ := ew_up (I := I) (J := J) x (m := n) hn (by omega)
    have g3 := zG_3 (K := K) (P := P) (s := wS n L0 d0) (L := wL n L0 d0) (i := i)
    have hz := h.1.2.1
    have a1 := xc_lay (J := J) (r := 3) (m := 2 * T) (i := 2 * k) (v := qn i) hz (by omega) hw.1 (by omega) (by omega)
    obtain ⟨M1, hM1⟩ : ∃ M, M = qp_up (qp_up I 3 (3 * 40 + 2 * k) (qn i)) 0 11 (I 3 (3 * 40 + 2 * k)) := ⟨_, rfl⟩
    rw [← hM1] at a1
    have h1 : wI n L0 K P d0 d0 kp M1 := by rw [hM1]; exact wI_of h (xR_lay h.1) (fun c hc => by rw [qm_nk (by omega), qm_nk (by omega)])
    have e2 : M1 2 3 = qn (2 * T) := by rw [hM1, qm_nk (by omega), qm_nk (by omega)]; exact hw.1
    have b1 := xc_lay (I := M1) (J := J) (r := 3) (m := 2 * T) (i := 2 * k + 1) (v := qn (zG K P (wS n L0 d0) (wL n L0 d0) i)) h1.1.2.1 (by omega) e2 (by omega) (by omega)
    obtain ⟨M2, hM2⟩ : ∃ M, M = qp_up (qp_up M1 3 (3 * 40 + (2 * k + 1)) (qn (zG K P (wS n L0 d0) (wL n L0 d0) i))) 0 11 (M1 3 (3 * 40 + (2 * k + 1))) := ⟨_, rfl⟩
    rw [← hM2] at b1
    have h2 : wI n L0 K P d0 d0 kp M2 := by rw [hM2]; exact wI_of h1 (xR_lay h1.1) (fun c hc => by rw [qm_nk (by omega), qm_nk (by omega)])
    have g1 : qp_g I M1 = M1 := by rw [hM1]; exact qp_g_up2
    have g2 : qp_g M1 M2 = M2 := by rw [hM2]; exact qp_g_up2
    have w2 : wPr n L0 K P d0 T (k + 1) (fun t => if t = k then i else wh t) M2 := by
      refine ⟨by rw [hM2, qm_nk (by omega), qm_nk (by omega)]; exact e2, fun t ht => ?_⟩
      dsimp only
      by_cases htk : t = k
      · subst htk
        rw [if_pos rfl]
        refine ⟨hi, ?_, ?_⟩
        · rw [hM2, qm_nk (by omega), qm_nj (by omega), hM1, qm_nk (by omega)]; exact qm_eq rfl
        · rw [hM2, qm_nk (by omega)]; exact qm_eq rfl
      · rw [if_neg htk]
        obtain ⟨c1, c2, c3⟩ := hw.2 t (by omega)
        refine ⟨c1, ?_, ?_⟩
        · rw [hM2, qm_nk (by omega), qm_nj (by omega), hM1, qm_nk (by omega), qm_nj (by omega)]; exact c2
        · rw [hM2, qm_nk (by omega), qm_nj (by omega), hM1, qm_nk (by omega), qm_nj (by omega)]; exact c3
    have e2k : (2 : Int32) * qn k = qn (2 * k) := qn_mul 2 k
    rw [fW_law_b1237, if_neg (by rw [qn_le (by omega) (by omega)]; omega), show (13 : Int32) + qn k = qn (13 + k) from qn_add 13 k, ex, qp_bd_t, qp_g_self, ei, qp_bd_t, qp_g_self, e2k, show fX_lay 3 (qn (2 * k)) (qn i) I J = some (1, M1, J) from a1, qp_bd_t, g1, if_neg (fun q => q rfl), qp_gd_t (q_g6 (by omega)), qn_nat (by omega), h1.2.2.2.2 i hi, show qn (2 * k) + 1 = qn (2 * k + 1) from qn_add _ 1, show fX_lay 3 (qn (2 * k + 1)) (qn (zG K P (wS n L0 d0) (wL n L0 d0) i)) M1 J = some (1, M2, J) from b1, qp_bd_t, g2, if_pos rfl, show qn k + 1 = qn (k + 1) from qn_add k 1]
    exact ih (k + 1) f _ M2 J (by omega) (by omega) h2 w2
theorem wb1203 (hG : G.2.2.2.2.1 ≤ 260) (hok : wOk n L0 K P) (hl : d0.length ≤ 12) (h : wI n L0 K P d0 d0 kp I) :
    fW_law_b1203 G (qn n) (qn d0.length) (qn (wL n L0 d0)) (qn (wA n L0 K P d0)) (qn (zmask (zcont K P (wS n L0 d0) (wL n L0 d0)) n)) (qn (2 ^ n - 1)) I J = some () := by
  obtain ⟨x, ex⟩ := ew_cell (k := 12) hG (by omega)
  obtain ⟨T, hT, eT⟩ := ew_up (I := I) (J := J) x (m := 9) (by omega) (by omega)
  have e2 : (2 : Int32) * qn T = qn (2 * T) := qn_mul 2 T
  obtain ⟨I1, a1, a2, a3, a4⟩ := xc_row (J := J) (r := 3) (m := 2 * T) h.1 (by omega) (by omega)
  have h1 : wI n L0 K P d0 d0 kp (qp_g I I1) := wI_of h (xR_g a4) (fun c hc => by
    rcases hc with rfl | rfl | rfl | rfl
    · rw [qp_g_lo (by omega)]; exact a3 5 (by omega) (by omega)
    · rw [qp_g_lo (by omega)]; exact a3 6 (by omega) (by omega)
    · exact qp_g_hi (by omega)
    · exact qp_g_hi (by omega))
  unfold fW_law_b1203
  rw [show fW_cell G 12 I J = _ from ex I J, qp_bd_t, qp_g_self, show fW_up x 9 I J = _ from eT I J, qp_bd_t, qp_g_self, e2, show fX_row 3 (qn (2 * T)) I J = _ from a1, qp_bd_t, if_pos rfl]
  exact wb1237 hG hok hl (by omega) T 0 100000 (fun _ => 0) (qp_g I I1) J (by omega) (by omega) h1 ⟨by rw [qp_g_lo (by omega), a2]; exact qp_up1_eq, fun t ht => absurd ht (Nat.not_lt_zero t)⟩
end LE

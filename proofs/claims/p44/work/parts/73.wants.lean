/-! SETS THAT WANT SO MUCH; BY TURNS TWO -/
section LD
variable {G : qp_G} {n L0 : Nat} {K P : Nat → Nat} {d0 ds : List Nat} {kp : Nat → Option (List Nat)} {I I' : Nat → Nat → Int32} {J : Nat → Nat → Int64}
theorem wsub_k : ∀ a, a < 64 → ∀ j, j < 64 → a &&& j = a → qn a &&& (qn j ^^^ (-1)) = 0 := by decide +kernel
theorem wsub {a j : Nat} (ha : a < 64) (hj : j < 64) (h : ∀ b, a.testBit b = true → j.testBit b = true) : qn a &&& (qn j ^^^ (-1)) = 0 := wsub_k a ha j hj (Nat.eq_of_testBit_eq (fun b => by
  rw [Nat.testBit_and]
  cases hb : a.testBit b with
  | false => rfl
  | true => rw [h b hb]; rfl))
theorem q_shl64 : ∀ n, n < 7 → (1 : Int64) <<< (Int32.toInt64 (qn n) &&& 63) = ql (2 ^ n) := by decide +kernel
theorem zws_0 {s : List Nat} {i : Nat} : zws K s 0 i = 0 := by
  unfold zws
  rw [Nat.zero_div, if_neg (by decide)]
abbrev KC : Type := Int32 → Int32 → Int32 → Int32 → Int32 → Int32 → Int64 → Int32 → (Nat → Nat → Int32) → (Nat → Nat → Int64) → Option Unit
theorem wb1491_0 {kc : KC} {a4 a6 a8 a9 a10 a22 a28 : Int32} {a20 : Int64} (hn : n ≤ 6) : ∀ (d p fuel : Nat), p + d = n → d < fuel → fW_law_b1491 G kc fuel (qn n) a4 a6 a8 a9 a10 a20 a22 1 (ql 0) (-qn 9) (-qn 3) a28 (qn 0) (qn p) I J = kc (qn n) a4 a6 a8 a9 a10 (a20 + ql 0) (a22 + 1) I J := by
  intro d
  induction d with
  | zero =>
    intro p fuel hp hf
    obtain ⟨f, rfl⟩ : ∃ f, fuel = f + 1 := ⟨fuel - 1, by omega⟩
    have c0 : lg_cmp (ql 0) 0 = 0 := (lg_cmp_eq _ _).mpr rfl
    rw [fW_law_b1491, if_pos (by rw [qn_le (by omega) (by omega)]; omega), if_neg (fun q => q rfl), c0, if_neg (fun q => q rfl)]
    unfold fW_law_b1567 fW_law_b1579 fW_law_b1594 fW_law_b1606
    rw [if_neg (fun q => q rfl), if_neg (fun q => q rfl), c0, if_neg (fun q => q rfl), if_neg (fun q => q rfl), if_neg (fun q => q rfl), if_pos (by decide)]
  | succ d ih =>
    intro p fuel hp hf
    obtain ⟨f, rfl⟩ : ∃ f, fuel = f + 1 := ⟨fuel - 1, by omega⟩
    rw [fW_law_b1491, if_neg (by rw [qn_le (by omega) (by omega)]; omega), if_pos (by decide), show qn 0 + 0 = qn 0 from rfl, show qn p + 1 = qn (p + 1) from qn_add p 1]
    exact ih (p + 1) f (by omega) (by omega)
theorem wb1491_1 {kc : KC} {a4 a6 a8 a9 a10 : Int32} {a20 : Int64} {v j m e A Z : Nat} (hok : wOk n L0 K P) (h : wI n L0 K P d0 d0 kp I) (hv : v ≤ 18) (hm0 : 0 < m) (hm : m ≤ 64) (hj : j < 64) (he : e < 64) (hA : A < 64) (hZ : Z < 64)
    (hw : zsm (zws K (wS n L0 d0) j) n = v) (hej : ∀ b, e.testBit b = true → j.testBit b = true) (hjZ : ∀ b, j.testBit b = true → Z.testBit b = true) :
    ∀ (d p fuel : Nat), p + d = n → d < fuel → fW_law_b1491 G kc fuel (qn n) a4 a6 a8 a9 a10 a20 (qn v) 1 (ql m) (qn j) (qn e) (qn A &&& (qn Z ^^^ (-1))) (qn (zsl (zws K (wS n L0 d0) j) ((wS n L0 d0).take p))) (qn p) I J = kc (qn n) a4 a6 a8 a9 a10 (a20 + ql m) (qn v + 1) I J := by
  have hn := hok.1
  have hn6 := hok.2.1
  have hP := xR_P h.1
  intro d
  induction d with
  | zero =>
    intro p fuel hp hf
    obtain ⟨f, rfl⟩ : ∃ f, fuel = f + 1 := ⟨fuel - 1, by omega⟩
    obtain rfl : p = n := by omega
    have c0 : ¬ lg_cmp (ql m) 0 = 0 := fun q => by
      rw [lg_cmp_eq] at q
      change ql m = ql 0 at q
      rw [ql_eq (by omega) (by omega)] at q; omega
    have c1 : ¬ lg_cmp (ql m) 0 ≤ 0 := fun q => by
      rw [lg_cmp_le] at q
      change ql m ≤ ql 0 at q
      rw [ql_le (by omega) (by omega)] at q; omega
    have q9 : ∀ j, j < 64 → ¬ qn j = -9 ∧ ¬ qn j = -3 := by decide +kernel
    have s1 := wsub he hj hej
    have s2 := wsub hj hZ hjZ
    have s3 := wsub he hZ (fun b hb => hjZ b (hej b hb))
    have t2 : (qn A &&& (qn Z ^^^ (-1))) &&& qn j = 0 := by
      rw [Int32.and_assoc, Int32.and_comm (qn Z ^^^ (-1)) (qn j), s2, Int32.and_zero]
    have t3 : qn e &&& (qn A &&& (qn Z ^^^ (-1))) = 0 := by
      rw [Int32.and_comm (qn A) (qn Z ^^^ (-1)), ← Int32.and_assoc, s3, Int32.zero_and]
    have ht : (wS p L0 d0).take p = wS p L0 d0 := by
      have := List.take_length (l := wS p L0 d0)
      rw [hP.2.1] at this; exact this
    rw [fW_law_b1491, if_pos (Int32.le_refl _), if_neg (fun q => q rfl), if_pos c0]
    unfold fW_law_b1567 fW_law_b1579 fW_law_b1594 fW_law_b1606
    rw [if_pos (q9 j hj).1, if_neg (fun q => q rfl), if_pos c0, if_pos (q9 e he).2, if_neg (fun q => q rfl), if_neg c1, ht, zws_line hP, hw, if_neg (fun q => q rfl), s1, if_neg (fun q => q rfl), t2, if_neg (fun q => q rfl), t3, if_pos rfl]
  | succ d ih =>
    intro p fuel hp hf
    obtain ⟨f, rfl⟩ : ∃ f, fuel = f + 1 := ⟨fuel - 1, by omega⟩
    have hpn : p < n := by omega
    have hz : zat (wS n L0 d0) p < n := zP_at hP hpn
    have gp : (0 : Int32) ≤ qn p ∧ qn p < 6 := q_g6 (by omega)
    have e37 : I 37 p = qn (zat (wS n L0 d0) p) := h.2.2.2.1 p hpn
    have hb := wbit (a := j) (i := zat (wS n L0 d0) p) (by omega) (by omega)
    have ep : qn p + 1 = qn (p + 1) := qn_add p 1
    have hnext := ih (p + 1) f (by omega) (by omega)
    rw [zsl_take (by rw [hP.2.1]; exact hpn)] at hnext
    generalize hS : zsl (zws K (wS n L0 d0) j) ((wS n L0 d0).take p) = S at hnext ⊢
    have hlt := Nat.mod_lt (j / 2 ^ zat (wS n L0 d0) p) (show 0 < 2 by omega)
    rw [← hnext, fW_law_b1491, if_neg (by rw [qn_le (by omega) (by omega)]; omega)]
    by_cases hj0 : j = 0
    · subst hj0
      rw [if_pos (by decide), zws_0, ep, show qn S + 0 = qn (S + 0) from qn_add S 0]
    · rw [if_neg (by show ¬ qn j ≤ qn 0; rw [qn_le (by omega) (by omega)]; omega), qp_gd_t gp, qn_nat (by omega), e37, hb]
      by_cases hbit : j / 2 ^ zat (wS n L0 d0) p % 2 = 1
      · have ew := xc_wants (J := J) h.1 hz hpn
        have hzw : zws K (wS n L0 d0) j (zat (wS n L0 d0) p) = zwant (K (zat (wS n L0 d0) p)) (decide (p = n - 1)) := by
          unfold zws
          rw [if_pos hbit]; exact zwn_at hP hpn
        rw [if_neg (by rw [hbit]; exact fun q => q rfl), qp_gd_t gp, ew, qp_bd_t, qp_g_self, qn_add, hzw, ep]
      · have hzw : zws K (wS n L0 d0) j (zat (wS n L0 d0) p) = 0 := by
          unfold zws
          rw [if_neg hbit]
        rw [if_pos (by rw [show j / 2 ^ zat (wS n L0 d0) p % 2 = 0 by omega]; decide), hzw, ep, show qn S + 0 = qn (S + 0) from qn_add S 0]
theorem wb1444 (hG : G.2.2.2.2.1 ≤ 260) (hok : wOk n L0 K P) (hl : d0.length ≤ 12) : ∀ (e v fuel : Nat) (I : Nat → Nat → Int32) (J : Nat → Nat → Int64), v + e = 19 → e < fuel → wI n L0 K P d0 d0 kp I →
    fW_law_b1444 G fuel (qn n) (qn d0.length) (qn (wL n L0 d0)) (qn (wA n L0 K P d0)) (qn (zmask (zcont K P (wS n L0 d0) (wL n L0 d0)) n)) (qn (2 ^ n - 1)) (ql (zsm (fun v => zcnt (xsc n K (wS n L0 d0) v) (2 ^ n)) v)) (qn v) I J = some () := by
  have hn := hok.1
  have hn6 := hok.2.1
  have h64 := p2_le hn6
  have h2p : 0 < 2 ^ n := Nat.pow_pos (by decide)
  intro e
  induction e with
  | zero =>
    intro v fuel I J hv hf h
    obtain ⟨f, rfl⟩ : ∃ f, fuel = f + 1 := ⟨fuel - 1, by omega⟩
    obtain rfl : v = 19 := by omega
    have hb18 : ∀ set, zsm (zws K (wS n L0 d0) set) n < 19 := fun set => by have := zsm_le (f := zws K (wS n L0 d0) set) (n := n) (b := 3) (fun i _ => zws_le); omega
    have hsum : zsm (fun v => zcnt (xsc n K (wS n L0 d0) v) (2 ^ n)) 19 = 2 ^ n := zsm_cnt hb18 (2 ^ n)
    rw [fW_law_b1444, if_pos (show (19 : Int32) ≤ qn 19 by decide), hsum, q_shl64 n (by omega), if_pos ((lg_cmp_eq _ _).mpr rfl)]
    by_cases hn1 : n ≤ 1
    · rw [if_pos (by show qn n ≤ qn 1; rw [qn_le (by omega) (by omega)]; exact hn1)]
      exact wb1730 hG hok hl h
    · rw [if_neg (by show ¬ qn n ≤ qn 1; rw [qn_le (by omega) (by omega)]; exact hn1)]
      obtain ⟨I1, a1, a2, a3⟩ := xc_duel (J := J) (i := 0) (j := 1) (b := 0) h.1 (by omega) (by omega) (by omega) (by omega)
      obtain ⟨M1, hM1⟩ : ∃ M, M = qp_g I I1 := ⟨_, rfl⟩
      have h1 : wI n L0 K P d0 d0 kp M1 := by rw [hM1]; exact wI_lq h (lq_c a3)
      have k1 : M1 0 11 = qn (zG K P (wS n L0 d0) (wL n L0 d0) 0) - qn (zG K P (wS n L0 d0) (wL n L0 d0) 1) := by rw [hM1, qp_g_lo (by omega), a2]; rfl
      obtain ⟨I2, b1, b2, b3⟩ := xc_duel (J := J) (i := 0) (j := 1) (b := 1) h1.1 (by omega) (by omega) (by omega) (by omega)
      obtain ⟨M2, hM2⟩ : ∃ M, M = qp_g M1 I2 := ⟨_, rfl⟩
      have h2 : wI n L0 K P d0 d0 kp M2 := by rw [hM2]; exact wI_lq h1 (lq_c b3)
      have hz := zpl_b (n := n) (K := K) (P := P) (L := wL n L0 d0) (i := 0) (j := 1) hn (2 * 1) (wS n L0 d0)
      have k2 : M2 0 11 = zpl n K P (wL n L0 d0) 0 1 (2 * 1) (wS n L0 d0) := by rw [hM2, qp_g_lo (by omega), b2]
      rw [show fX_duel 0 1 0 I J = _ from a1, qp_bd_t, ← hM1, if_neg (fun q => q rfl), xc_asked, qp_bd_t, qp_g_self, k1, h1.2.2.2.2 0 hn, h1.2.2.2.2 1 (by omega), if_neg (fun q => q rfl), show fX_duel 0 1 1 M1 J = _ from b1, qp_bd_t, ← hM2, if_neg (fun q => q rfl), xc_asked, qp_bd_t, qp_g_self, k2, if_neg (fun q => by
        rw [Int32.lt_iff_toInt_lt] at q
        have e3 : (3 : Int32).toInt = 3 := rfl
        omega), xc_asked, qp_bd_t, qp_g_self, k2, if_pos (by
        rw [Int32.le_iff_toInt_le]
        have e3 : (-3 : Int32).toInt = -3 := rfl
        omega)]
      exact wb1730 hG hok hl h2
  | succ e ih =>
    intro v fuel I J hv hf h
    obtain ⟨f, rfl⟩ : ∃ f, fuel = f + 1 := ⟨fuel - 1, by omega⟩
    have hP := xR_P h.1
    obtain ⟨I1, a1, a2, a3⟩ := xc_sets (J := J) (v := v) h.1 hn (by omega)
    obtain ⟨M1, hM1⟩ : ∃ M, M = qp_g I I1 := ⟨_, rfl⟩
    have h1 : wI n L0 K P d0 d0 kp M1 := by rw [hM1]; exact wI_lq h (lq_c a3)
    obtain ⟨J1, hJ1⟩ : ∃ J', J' = qp_up (qp_up J 0 12 (ql (zcnt (xsc n K (wS n L0 d0) v) (2 ^ n)))) 0 13 (ql 1) := ⟨_, rfl⟩
    have k1 : M1 0 11 = zfs (xsc n K (wS n L0 d0) v) (2 ^ n) := by rw [hM1, qp_g_lo (by omega)]; exact a2
    have j1 : J1 0 12 = ql (zcnt (xsc n K (wS n L0 d0) v) (2 ^ n)) := by rw [hJ1, qm_nj (by omega)]; exact qm_eq rfl
    obtain ⟨I2, b1, b2⟩ := xc_sure (J := J1) (v := v) h1.1 hn (by omega)
    obtain ⟨M2, hM2⟩ : ∃ M, M = qp_g M1 I2 := ⟨_, rfl⟩
    have h2 : wI n L0 K P d0 d0 kp M2 := by rw [hM2]; exact wI_lq h1 (lq_c b1)
    have hnext := ih (v + 1) f M2 J1 (by omega) (by omega) h2
    have hadd : ql (zsm (fun v => zcnt (xsc n K (wS n L0 d0) v) (2 ^ n)) v) + ql (zcnt (xsc n K (wS n L0 d0) v) (2 ^ n)) = ql (zsm (fun v => zcnt (xsc n K (wS n L0 d0) v) (2 ^ n)) (v + 1)) := ql_add _ _
    have ev : qn v + 1 = qn (v + 1) := qn_add v 1
    have hcl := zcnt_le (xsc n K (wS n L0 d0) v) (2 ^ n)
    rw [fW_law_b1444, if_neg (by show ¬ qn 19 ≤ qn v; rw [qn_le (by omega) (by omega)]; omega), show fX_sets (qn v) I J = some (1, I1, J1) by rw [hJ1]; exact a1, qp_bd_t, ← hM1, xc_upper, qp_bd_t, qp_g_self, xc_asked, qp_bd_t, qp_g_self, j1, k1]
    rw [← hnext, ← hadd, ← ev]
    rcases b2 with ⟨h0, b2⟩ | ⟨h0, b2, b3⟩
    · rw [b2, qp_bd_t, ← hM2, xc_asked, qp_bd_t, qp_g_self, h0, zfs_0 _ h0]
      exact wb1491_0 (kc := fun a0 a1 a2 a3 a4 a5 a6 a7 I J => fW_law_b1444 G f a0 a1 a2 a3 a4 a5 a6 a7 I J) hn6 n 0 100000 (by omega) (by omega)
    · have k2 : M2 0 11 = (qn (2 ^ n - 1) &&& (qn (zis (xsc n K (wS n L0 d0) v) (2 ^ n)) ^^^ (-1))) := by rw [hM2, qp_g_lo (by omega)]; exact b3
      obtain ⟨j, hj, hc, ej⟩ := zfs_1 _ h0
      have hie := zie_le (c := xsc n K (wS n L0 d0) v) (a := 2 ^ n - 1) (2 ^ n)
      have his := zis_lt (c := xsc n K (wS n L0 d0) v) (n := n) (2 ^ n) (Nat.le_refl _)
      rw [b2, qp_bd_t, ← hM2, xc_asked, qp_bd_t, qp_g_self, ej, k2]
      have m0 : 0 < zcnt (xsc n K (wS n L0 d0) v) (2 ^ n) := Nat.pos_of_ne_zero h0
      exact wb1491_1 (kc := fun a0 a1 a2 a3 a4 a5 a6 a7 I J => fW_law_b1444 G f a0 a1 a2 a3 a4 a5 a6 a7 I J) (v := v) (j := j) (m := zcnt (xsc n K (wS n L0 d0) v) (2 ^ n)) (e := zie (xsc n K (wS n L0 d0) v) (2 ^ n - 1) (2 ^ n)) (A := 2 ^ n - 1) (Z := zis (xsc n K (wS n L0 d0) v) (2 ^ n)) hok h2 (by omega) m0 (by omega) (by omega) (by omega) (by omega) (by omega) (of_decide_eq_true hc) (fun b hb => zie_in hc _ hj hb) (fun b hb => zis_in hc hb _ hj) n 0 100000 (by omega) (by omega)
end LD

/-! WHO STANDS WHERE, WHO GOT HOW MANY, WHO HAS MET WHOM; the law from its first row -/
section LH
variable {G : qp_G} {n L0 : Nat} {K P : Nat → Nat} {d0 ds : List Nat} {kp : Nat → Option (List Nat)} {I I' : Nat → Nat → Int32} {J : Nat → Nat → Int64}
theorem wall_1 (hn : n ≤ 6) : ((1 : Int32) <<< (qn n &&& 31)) - 1 = qn (2 ^ n - 1) := by
  rw [q_p2 hn]
  show qn (2 ^ n) - qn 1 = _
  rw [qn_sub (Nat.pow_pos (by decide))]
theorem wb401 (hG : G.2.2.2.2.1 ≤ 260) (hok : wOk n L0 K P) (hl : d0.length ≤ 12) : ∀ (e p fuel : Nat) (I : Nat → Nat → Int32) (J : Nat → Nat → Int64), p + e = n → e < fuel → wI n L0 K P d0 d0 kp I →
    fW_law_b401 G fuel (qn n) (qn d0.length) (qn (zrun n L0 d0).1.length) (qn (wL n L0 d0)) (qn (wA n L0 K P d0)) (qn (zmask (zcont K P (wS n L0 d0) (wL n L0 d0)) n)) (qn (2 ^ n - 1)) (qn (wA n L0 K P d0)) (qn (2 ^ n - 1)) (qn p) I J = some () := by
  have hn := hok.1
  have hn6 := hok.2.1
  intro e
  induction e with
  | zero =>
    intro p fuel I J hp hf h
    obtain ⟨f, rfl⟩ : ∃ f, fuel = f + 1 := ⟨fuel - 1, by omega⟩
    have ht := (xR_ok h.1).2.1
    have hL : wL n L0 d0 ≤ 20 := (xR_ok h.1).2.2
    have hA : wA n L0 K P d0 ≤ wL n L0 d0 := Nat.sub_le _ _
    rw [fW_law_b401, if_pos (by rw [qn_le (by omega) (by omega)]; omega), wall_1 hn6, if_neg (fun q => q rfl), if_neg (fun q => q rfl), if_neg (fun q => q rfl), if_neg (by rw [qn_lt (by omega) (by omega)]; omega), if_pos (by show qn _ ≤ qn 12; rw [qn_le (by omega) (by omega)]; exact ht)]
    exact wb519 hG hok hl n 0 100000 I J (by omega) (by omega) h
  | succ e ih =>
    intro p fuel I J hp hf h
    obtain ⟨f, rfl⟩ : ∃ f, fuel = f + 1 := ⟨fuel - 1, by omega⟩
    have hpn : p < n := by omega
    have hP := xR_P h.1
    have hz : zat (wS n L0 d0) p < n := zP_at hP hpn
    have ep : qn p + 1 = qn (p + 1) := qn_add p 1
    obtain ⟨I1, a1, a2⟩ := yc_told (J := J) (i := zat (wS n L0 d0) p) (w := 6) h hz (by omega)
    have h1 := wI_lq h a2
    rw [zone_6, xmet hP hpn] at a1
    have hnext := ih (p + 1) f (qp_g I I1) J (by omega) (by omega) h1
    -- the one behind
    have c425 : ∀ s : Nat, s = (if 0 < p then 2 ^ zat (wS n L0 d0) (p - 1) else 0) → fW_law_b425 G (fun a0 a1 a2 a3 a4 a5 a6 a7 a8 a9 I J => fW_law_b401 G f a0 a1 a2 a3 a4 a5 a6 a7 a8 a9 I J) (qn n) (qn d0.length) (qn (zrun n L0 d0).1.length) (qn (wL n L0 d0)) (qn (wA n L0 K P d0)) (qn (zmask (zcont K P (wS n L0 d0) (wL n L0 d0)) n)) (qn (2 ^ n - 1)) (qn (wA n L0 K P d0)) (qn (2 ^ n - 1)) (qn p) (qn s) I J = some () := by
      intro s hs
      rw [← hs] at a1
      have c446 : ∀ t : Nat, t = (if p + 1 < n then 2 ^ zat (wS n L0 d0) (p + 1) else 0) → fW_law_b446 G (fun a0 a1 a2 a3 a4 a5 a6 a7 a8 a9 I J => fW_law_b401 G f a0 a1 a2 a3 a4 a5 a6 a7 a8 a9 I J) (qn n) (qn d0.length) (qn (zrun n L0 d0).1.length) (qn (wL n L0 d0)) (qn (wA n L0 K P d0)) (qn (zmask (zcont K P (wS n L0 d0) (wL n L0 d0)) n)) (qn (2 ^ n - 1)) (qn (wA n L0 K P d0)) (qn (2 ^ n - 1)) (qn p) (qn t) (qn s) I J = some () := by
        intro t ht
        rw [← ht] at a1
        unfold fW_law_b446
        rw [qp_gd_t (q_g6 (by omega)), qn_nat (by omega), h.2.2.2.1 p hpn, show fW_told (qn (zat (wS n L0 d0) p)) 6 I J = _ from a1, qp_bd_t, qn_or, if_pos rfl]
        show fW_law_b401 G f _ _ _ _ _ _ _ _ _ (qn p + 1) _ J = _
        rw [ep]; exact hnext
      unfold fW_law_b425
      have en : qn n - 1 = qn (n - 1) := by show qn n - qn 1 = _; rw [qn_sub hn]
      by_cases hp1 : p + 1 < n
      · have hz1 : zat (wS n L0 d0) (p + 1) < n := zP_at hP hp1
        rw [en, if_neg (by rw [qn_le (by omega) (by omega)]; omega), ep, qp_gd_t (q_g6 (by omega)), qn_nat (by omega), h.2.2.2.1 (p + 1) hp1, q_p2 (by omega)]
        exact c446 _ (by rw [if_pos hp1])
      · rw [en, if_pos (by rw [qn_le (by omega) (by omega)]; omega)]
        exact c446 0 (by rw [if_neg hp1])
    rw [fW_law_b401, if_neg (by rw [qn_le (by omega) (by omega)]; omega)]
    by_cases hp0 : p = 0
    · rw [if_pos (by rw [hp0]; exact Int32.le_refl _)]
      exact c425 0 (by rw [if_neg (by omega)])
    · have hz0 : zat (wS n L0 d0) (p - 1) < n := zP_at hP (show p - 1 < n by omega)
      have em : qn p - 1 = qn (p - 1) := by show qn p - qn 1 = _; rw [qn_sub (by omega)]
      rw [if_neg (by show ¬ qn p ≤ qn 0; rw [qn_le (by omega) (by omega)]; omega), em, qp_gd_t (q_g6 (by omega)), qn_nat (by omega), h.2.2.2.1 (p - 1) (by omega), q_p2 (by omega)]
      exact c425 _ (by rw [if_pos (by omega)])
/-- while the law's two rows are laid -/
def wJ (n L0 : Nat) (K P : Nat → Nat) (d0 : List Nat) (kp : Nat → Option (List Nat)) (p : Nat) (I : Nat → Nat → Int32) : Prop :=
  xR n L0 K P d0 kp I ∧ kp 0 = some d0 ∧ wTe n L0 K P I ∧ (∀ i, i < n → I 36 (8 + i) = qn (P i)) ∧ (∀ q, q < p → I 37 q = qn (zat (wS n L0 d0) q)) ∧ ∀ q, q < p → I 38 (zat (wS n L0 d0) q) = qn (zG K P (wS n L0 d0) (wL n L0 d0) (zat (wS n L0 d0) q))
theorem wJ_lq {p : Nat} (h : wJ n L0 K P d0 kp p I) (e : lq I I') : wJ n L0 K P d0 kp p I' := by
  obtain ⟨h1, h2, h3, h4, h5, h6⟩ := h
  refine ⟨xR_lq h1 e, h2, wTe_eq h3 (e 5 (by unfold xqc; omega)) (e 6 (by unfold xqc; omega)), ?_, ?_, ?_⟩
  · rw [e 36 (by unfold xqc; omega)]; exact h4
  · rw [e 37 (by unfold xqc; omega)]; exact h5
  · rw [e 38 (by unfold xqc; omega)]; exact h6
theorem zaway_G {s : List Nat} {L i : Nat} (h : P i < zB K s i) : zG K P s L i = 0 := by
  unfold zG zgn
  rw [if_pos h]
theorem wmbit {c : Nat → Bool} {i : Nat} (hn : n ≤ 6) (hi : i < n) : (qn (zmask c n) >>> (qn i &&& 31)) &&& 1 = qn (if c i = true then 1 else 0) := by
  have h64 := wmask_lt (c := c) hn
  rw [wbit (by omega) (by omega)]
  have hbit := zmask_bit c n i
  rw [Nat.testBit_eq_decide_div_mod_eq, decide_eq_true hi, Bool.true_and] at hbit
  have hlt := Nat.mod_lt (zmask c n / 2 ^ i) (show 0 < 2 by omega)
  congr 1
  cases hc : c i with
  | true => rw [hc] at hbit; rw [if_pos rfl]; exact of_decide_eq_true hbit
  | false =>
    rw [hc] at hbit
    have := of_decide_eq_false hbit
    rw [if_neg (by decide)]; omega
theorem wb152 (hG : G.2.2.2.2.1 ≤ 260) (hok : wOk n L0 K P) (hl : d0.length ≤ 12) : ∀ (e p fuel : Nat) (I : Nat → Nat → Int32) (J : Nat → Nat → Int64), p + e = n → e < fuel → wJ n L0 K P d0 kp p I →
    fW_law_b152 G fuel (qn n) (qn d0.length) (qn (zrun n L0 d0).1.length) (qn (wL n L0 d0)) (qn (zmask (zaway K P (wS n L0 d0)) n)) (qn (wA n L0 K P d0)) (qn (zmask (zcont K P (wS n L0 d0) (wL n L0 d0)) n)) (qn (xbt (fun p => zat (wS n L0 d0) p) p)) (qn (zsl (zG K P (wS n L0 d0) (wL n L0 d0)) ((wS n L0 d0).take p))) (qn (xbt (fun p => zB K (wS n L0 d0) (zat (wS n L0 d0) p)) p)) (qn p) I J = some () := by
  have hn := hok.1
  have hn6 := hok.2.1
  intro e
  induction e with
  | zero =>
    intro p fuel I J hp hf h
    obtain ⟨f, rfl⟩ : ∃ f, fuel = f + 1 := ⟨fuel - 1, by omega⟩
    obtain rfl : p = n := by omega
    have hP := xR_P h.1
    have ht : (wS p L0 d0).take p = wS p L0 d0 := by
      have := List.take_length (l := wS p L0 d0)
      rw [hP.2.1] at this; exact this
    have hs : zsl (zG K P (wS p L0 d0) (wL p L0 d0)) (wS p L0 d0) = wA p L0 K P d0 := (zsl_sm p (wS p L0 d0) hP.1 hP.2.2).trans (zG_sum hP)
    rw [fW_law_b152, if_pos (Int32.le_refl _), ht, hs, xused hP, xserved hP]
    refine wb401 (kp := kp) hG hok hl p 0 100000 I J (by omega) (by omega) ⟨h.1, h.2.1, h.2.2.1, h.2.2.2.2.1, fun i hi => ?_⟩
    have := h.2.2.2.2.2 (zix i (wS p L0 d0)) (zP_ix hP hi)
    rw [zP_atix hP hi] at this
    exact this
  | succ e ih =>
    intro p fuel I J hp hf h
    obtain ⟨f, rfl⟩ : ∃ f, fuel = f + 1 := ⟨fuel - 1, by omega⟩
    have hpn : p < n := by omega
    have hP := xR_P h.1
    have hi : zat (wS n L0 d0) p < n := zP_at hP hpn
    have gp : (0 : Int32) ≤ qn p ∧ qn p < 6 := q_g6 (by omega)
    have ep : qn p + 1 = qn (p + 1) := qn_add p 1
    have ew := xc_who (J := J) h.1 hpn
    have hwn := zwn_at (K := K) hP hpn
    have hxi := zP_ixat hP hpn
    have hB := zB_lt (K := K) ((hP.2.2 _).2 hi)
    rw [hP.2.1] at hB
    have hg3 := zG_3 (K := K) (P := P) (s := wS n L0 d0) (L := wL n L0 d0) (i := zat (wS n L0 d0) p)
    have hgw := zG_le (K := K) (P := P) (s := wS n L0 d0) (L := wL n L0 d0) (i := zat (wS n L0 d0) p)
    have hw3 := zwn_le (K := K) (s := wS n L0 d0) (i := zat (wS n L0 d0) p)
    have hPi := hok.2.2.2 _ hi
    have hpr := h.2.2.2.1 _ hi
    have hxb : xbt (fun p => zat (wS n L0 d0) p) (p + 1) = xbt (fun p => zat (wS n L0 d0) p) p ||| 2 ^ zat (wS n L0 d0) p := rfl
    have hxc : xbt (fun p => zB K (wS n L0 d0) (zat (wS n L0 d0) p)) (p + 1) = xbt (fun p => zB K (wS n L0 d0) (zat (wS n L0 d0) p)) p ||| 2 ^ zB K (wS n L0 d0) (zat (wS n L0 d0) p) := rfl
    have hst := zsl_take (f := zG K P (wS n L0 d0) (wL n L0 d0)) (s := wS n L0 d0) (k := p) (by rw [hP.2.1]; exact hpn)
    have haw := wmbit (c := zaway K P (wS n L0 d0)) hn6 hi
    have hco := wmbit (c := zcont K P (wS n L0 d0) (wL n L0 d0)) hn6 hi
    have hinj : ∀ q, q < p → ¬ zat (wS n L0 d0) p = zat (wS n L0 d0) q := fun q hq e => by
      have := zP_ixat hP (show q < n by omega)
      rw [← e, hxi] at this; omega
    -- rows laid so far
    obtain ⟨M1, hM1⟩ : ∃ M, M = qp_up I 37 p (qn (zat (wS n L0 d0) p)) := ⟨_, rfl⟩
    have x1 : xR n L0 K P d0 kp M1 := by rw [hM1]; exact xR_eq h.1 (fun c hc => by unfold xlc at hc; exact qm_nk (by omega))
    obtain ⟨I2, a1, a2⟩ := xc_told (J := J) (i := zat (wS n L0 d0) p) (w := 4) x1 hi (by omega)
    rw [zone_4] at a1
    obtain ⟨M2, hM2⟩ : ∃ M, M = qp_up (qp_g M1 I2) 38 (zat (wS n L0 d0) p) (qn (zG K P (wS n L0 d0) (wL n L0 d0) (zat (wS n L0 d0) p))) := ⟨_, rfl⟩
    have f2 : ∀ c, xqc c → c ≠ 37 → c ≠ 38 → M2 c = I c := fun c hc n1 n2 => by rw [hM2, qm_nk (by omega), lq_c a2 c hc, hM1, qm_nk (by omega)]
    have h2 : wJ n L0 K P d0 kp (p + 1) M2 := by
      refine ⟨xR_eq h.1 (fun c hc => f2 c (by unfold xlc at hc; unfold xqc; omega) (by unfold xlc at hc; omega) (by unfold xlc at hc; omega)), h.2.1, wTe_eq h.2.2.1 (f2 5 (by unfold xqc; omega) (by omega) (by omega)) (f2 6 (by unfold xqc; omega) (by omega) (by omega)), ?_, fun q hq => ?_, fun q hq => ?_⟩
      · rw [f2 36 (by unfold xqc; omega) (by omega) (by omega)]; exact h.2.2.2.1
      · rw [hM2, qm_nk (by omega), qp_g_hi (by omega), hM1, qm_if]
        by_cases e : p = q
        · rw [if_pos e, e]
        · rw [if_neg e]; exact h.2.2.2.2.1 q (by omega)
      · rw [hM2, qm_if]
        by_cases e : p = q
        · rw [if_pos (by rw [e]), e]
        · rw [if_neg (hinj q (by omega)), qp_g_hi (by omega), hM1, qm_nk (by omega)]; exact h.2.2.2.2.2 q (by omega)
    obtain ⟨I3, b1, b2⟩ := xc_told (J := J) (i := zat (wS n L0 d0) p) (w := 5) h2.1 hi (by omega)
    rw [zone_5] at b1
    have h3 := wJ_lq h2 (lq_c b2)
    obtain ⟨I4, c1, c2⟩ := xc_told (J := J) (i := zat (wS n L0 d0) p) (w := 2) h3.1 hi (by omega)
    rw [zone_2, hxi] at c1
    have h4 := wJ_lq h3 (lq_c c2)
    obtain ⟨I5, d1, d2⟩ := xc_told (J := J) (i := zat (wS n L0 d0) p) (w := 3) h4.1 hi (by omega)
    rw [zone_3] at d1
    have h5 := wJ_lq h4 (lq_c d2)
    obtain ⟨M5, hM5⟩ : ∃ M, M = qp_g (qp_g (qp_g M2 I3) I4) I5 := ⟨_, rfl⟩
    rw [← hM5] at h5
    have ewa := xc_wants (J := J) h5.1 hi hpn
    rw [← hwn] at ewa
    have e38 := h5.2.2.2.2.2 p (by omega)
    have hnext := ih (p + 1) f M5 J (by omega) (by omega) h5
    rw [hxb, hxc, hst] at hnext
    generalize hI : zat (wS n L0 d0) p = i at *
    generalize hGG : zG K P (wS n L0 d0) (wL n L0 d0) i = g at *
    generalize hWW : zwn K (wS n L0 d0) i = w at *
    have hbb : ∀ x : Int32, x = 0 ∨ x = 1 → (x = 0 ↔ ¬ x = 1) := by
      rintro x (rfl | rfl) <;> decide
    have c304 : ∀ (a10 a11 a12 : Int32) (s0 : Nat), s0 = (if P i < zB K (wS n L0 d0) i then 1 else 0) → fW_law_b304 G (fun a0 a1 a2 a3 a4 a5 a6 a7 a8 a9 a10 I J => fW_law_b152 G f a0 a1 a2 a3 a4 a5 a6 a7 a8 a9 a10 I J) (qn n) (qn d0.length) (qn (zrun n L0 d0).1.length) (qn (wL n L0 d0)) (qn (zmask (zaway K P (wS n L0 d0)) n)) (qn (wA n L0 K P d0)) (qn (zmask (zcont K P (wS n L0 d0) (wL n L0 d0)) n)) a10 a11 a12 (qn p) (qn i) (qn s0) M5 J = fW_law_b152 G f (qn n) (qn d0.length) (qn (zrun n L0 d0).1.length) (qn (wL n L0 d0)) (qn (zmask (zaway K P (wS n L0 d0)) n)) (qn (wA n L0 K P d0)) (qn (zmask (zcont K P (wS n L0 d0) (wL n L0 d0)) n)) a10 a11 a12 (qn (p + 1)) M5 J := by
      intro a10 a11 a12 s0 hs0
      have c342 : fW_law_b342 G (fun a0 a1 a2 a3 a4 a5 a6 a7 a8 a9 a10 I J => fW_law_b152 G f a0 a1 a2 a3 a4 a5 a6 a7 a8 a9 a10 I J) (qn n) (qn d0.length) (qn (zrun n L0 d0).1.length) (qn (wL n L0 d0)) (qn (zmask (zaway K P (wS n L0 d0)) n)) (qn (wA n L0 K P d0)) (qn (zmask (zcont K P (wS n L0 d0) (wL n L0 d0)) n)) a10 a11 a12 (qn p) (qn i) M5 J = fW_law_b152 G f (qn n) (qn d0.length) (qn (zrun n L0 d0).1.length) (qn (wL n L0 d0)) (qn (zmask (zaway K P (wS n L0 d0)) n)) (qn (wA n L0 K P d0)) (qn (zmask (zcont K P (wS n L0 d0) (wL n L0 d0)) n)) a10 a11 a12 (qn (p + 1)) M5 J := by
        unfold fW_law_b342
        rw [hco]
        have hcc : zcont K P (wS n L0 d0) (wL n L0 d0) i = decide (0 < w ∧ g = w) := by
          unfold zcont
          rw [hGG, hWW]
        rw [hcc]
        unfold fW_law_b358
        rw [qp_gd_t (q_g6 (by omega)), qn_nat (by omega), e38]
        by_cases hg0 : g = 0
        · have hno : ¬ (0 < w ∧ g = w) := by omega
          rw [decide_eq_false hno, if_neg (show ¬ (false = true) by decide), if_pos (by decide), if_pos (by rw [hg0]; decide), if_pos rfl, ep]
        · by_cases hgw2 : g = w
          · rw [decide_eq_true (show 0 < w ∧ g = w by omega), if_pos (show true = true from rfl), if_neg (fun q => q rfl), if_neg (by show ¬ qn g ≤ qn 0; rw [qn_le (by omega) (by omega)]; omega), qp_gd_t (q_g6 (by omega)), ewa, qp_bd_t, qp_g_self, if_neg (by rw [hgw2]; exact fun q => q rfl), if_pos rfl, ep, qp_gd_t (q_g6 (by omega))]
          · have hno : ¬ (0 < w ∧ g = w) := by omega
            rw [decide_eq_false hno, if_neg (show ¬ (false = true) by decide), if_pos (by decide), if_neg (by show ¬ qn g ≤ qn 0; rw [qn_le (by omega) (by omega)]; omega), qp_gd_t (q_g6 (by omega)), ewa, qp_bd_t, qp_g_self, if_pos (by rw [qn_eq (by omega) (by omega)]; exact hgw2), if_pos rfl, ep]
      unfold fW_law_b304
      rw [haw]
      unfold zaway
      by_cases ha : P i < zB K (wS n L0 d0) i
      · rw [if_pos ha] at hs0
        subst hs0
        have hg0 : g = 0 := by rw [← hGG]; exact zaway_G ha
        rw [if_pos (decide_eq_true ha), if_neg (fun q => q rfl)]
        unfold fW_law_b320
        rw [if_neg (fun q => q rfl)]
        have haw' := haw
        unfold zaway at haw'
        rw [if_pos (decide_eq_true ha)] at haw'
        rw [haw', if_neg (fun q => q rfl), qp_gd_t (q_g6 (by omega)), qn_nat (by omega), e38, if_neg (by rw [hg0]; exact fun q => q rfl)]
        exact c342
      · rw [if_neg ha] at hs0
        subst hs0
        rw [if_neg (show ¬ (decide (P i < zB K (wS n L0 d0) i) = true) from fun q => ha (of_decide_eq_true q)), if_pos (show ¬ (qn 0 : Int32) = 1 by decide)]
        unfold fW_law_b320
        rw [if_neg (fun q => q rfl)]
        have haw' := haw
        unfold zaway at haw'
        rw [if_neg (show ¬ (decide (P i < zB K (wS n L0 d0) i) = true) from fun q => ha (of_decide_eq_true q))] at haw'
        rw [haw', if_pos (by decide)]
        exact c342
    have eM2 : (qp_up (qp_g M1 I2) 38 i (qn g)) 38 i = qn g := qm_eq rfl
    have l32 : qp_g (qp_g (qp_g M2 I3) I4) I5 = M5 := hM5.symm
    have hpr5 : M5 36 (8 + i) = qn (P i) := h5.2.2.2.1 i hi
    have hno5 : ¬ qn g < 0 := by show ¬ qn g < qn 0; rw [qn_lt (by omega) (by omega)]; omega
    have g8 : (0 : Int32) ≤ qn (8 + i) ∧ qn (8 + i) < 34 := by
      show qn 0 ≤ qn (8 + i) ∧ qn (8 + i) < qn 34
      rw [qn_le (by omega) (by omega), qn_lt (by omega) (by omega)]; omega
    rw [fW_law_b152, if_neg (by rw [qn_le (by omega) (by omega)]; omega), ew, qp_bd_t, qp_g_self, qp_gd_t gp, qn_nat (by omega), ← hM1, show fW_told (qn i) 4 M1 J = _ from a1, qp_bd_t, qp_gd_t (q_g6 (by omega)), qn_nat (by omega), eM2, ← hM2, show fW_told (qn i) 5 M2 J = _ from b1, qp_bd_t, show fW_told (qn i) 2 _ J = _ from c1, qp_bd_t, if_neg (fun q => q rfl), show fW_told (qn i) 3 _ J = _ from d1, qp_bd_t, l32, ewa, qp_bd_t, qp_g_self, if_neg (fun q => q rfl), qp_gd_t (q_g6 (by omega)), e38, if_neg hno5, qp_gd_t (q_g6 (by omega)), ewa, qp_bd_t, qp_g_self, if_neg (by rw [qn_lt (by omega) (by omega)]; omega), if_neg (by show ¬ qn _ < qn 0; rw [qn_lt (by omega) (by omega)]; omega), if_neg (by rw [qn_le (by omega) (by omega)]; omega), show (8 : Int32) + qn i = qn (8 + i) from qn_add 8 i, qp_gd_t g8, qn_nat (by omega), hpr5, q_p2 (by omega), q_p2 (by omega), qn_or, qn_or, qn_add]
    have hB2 : zB K (wS n L0 d0) i = zB K (zls n (zrun n L0 d0).1) i := rfl
    by_cases ha : P i < zB K (wS n L0 d0) i
    · rw [if_neg (by rw [qn_le (by omega) (by omega)]; omega)]
      exact (c304 _ _ _ 1 (by rw [if_pos ha])).trans hnext
    · rw [if_pos (by rw [qn_le (by omega) (by omega)]; omega)]
      exact (c304 _ _ _ 0 (by rw [if_neg ha])).trans hnext
theorem wb13 (hG : G.2.2.2.2.1 ≤ 260) (hz : xSz I) : fW_law_b13 G I J = some () := by
  obtain ⟨n, L0, K, P, I1, a1, hok, hr, a2⟩ := ew_lay (J := J) hG I
  have hn := hok.1
  have hn6 := hok.2.1
  have z1 : xSz I1 := xSz_eq hz (fun c hc => a2 c (by omega))
  obtain ⟨I2, b1, b2, b3, b4⟩ := ew_made (J := J) hok z1 hr
  have hr2 : wRow n L0 K P (I2 36) := by rw [b4 36 (by omega)]; exact hr
  obtain ⟨x, ex⟩ := ew_cell (k := 7) hG (by omega)
  obtain ⟨m, hm, em⟩ := ew_up (I := I) (J := J) x (m := 12) (by omega) (by omega)
  obtain ⟨y, ey⟩ := ew_cell (k := 8) hG (by omega)
  obtain ⟨sd, hsd, esd⟩ := ew_up (I := I) (J := J) y (m := 2000000) (by omega) (by omega)
  obtain ⟨I3, d0, c1, c2, c3, c4⟩ := xc_lots (J := J) (m := 1 + m) (sd := 1 + sd) b2 hn (by omega) (by omega) (by omega) (by omega) (by show ([] : List Nat).length + (1 + m) ≤ 40; show 0 + (1 + m) ≤ 40; omega)
  have hl : d0.length ≤ 12 := by rw [c2]; show 0 + (1 + m) ≤ 12; omega
  obtain ⟨M3, hM3⟩ : ∃ M, M = qp_g I2 I3 := ⟨_, rfl⟩
  have x3 : xR n L0 K P d0 (fun _ => none) M3 := by rw [hM3]; exact xR_g c4
  have f3 : ∀ c, c = 5 ∨ c = 6 ∨ 36 ≤ c → M3 c = I2 c := fun c hc => by
    rw [hM3]
    by_cases h36 : c < 36
    · rw [qp_g_lo h36]; exact c3 c (by omega) (by omega) (by omega) (by omega)
    · exact qp_g_hi (by omega)
  obtain ⟨I4, d1, d2⟩ := xc_count (J := J) (w := 5) x3 (by omega)
  rw [zam_5] at d1
  obtain ⟨M4, hM4⟩ : ∃ M, M = qp_g M3 I4 := ⟨_, rfl⟩
  have l4 : lq M3 M4 := by rw [hM4]; exact lq_c d2
  have x4 := xR_lq x3 l4
  obtain ⟨I5, kp, e1, e2, e3, e4, -⟩ := xc_keep (J := J) (k := 0) x4 hn (by omega)
  obtain ⟨M5, hM5⟩ : ∃ M, M = qp_g M4 I5 := ⟨_, rfl⟩
  have x5 : xR n L0 K P d0 kp M5 := by rw [hM5]; exact xR_g e3
  have f5 : ∀ c, c = 5 ∨ c = 6 ∨ 36 ≤ c → M5 c = I2 c := fun c hc => by
    rw [hM5]
    by_cases h36 : c < 36
    · rw [qp_g_lo h36, e2 c (by omega) (by omega), l4 c (by unfold xqc; omega)]; exact f3 c hc
    · rw [qp_g_hi (by omega), l4 c (by unfold xqc; omega)]; exact f3 c hc
  obtain ⟨I6, g1, g2⟩ := xc_count (J := J) (w := 3) x5 (by omega)
  rw [zam_3] at g1
  obtain ⟨M6, hM6⟩ : ∃ M, M = qp_g M5 I6 := ⟨_, rfl⟩
  have l6 : lq M5 M6 := by rw [hM6]; exact lq_c g2
  have x6 := xR_lq x5 l6
  obtain ⟨I7, h1, h2⟩ := xc_count (J := J) (w := 3) x6 (by omega)
  rw [zam_3] at h1
  obtain ⟨M7, hM7⟩ : ∃ M, M = qp_g M6 I7 := ⟨_, rfl⟩
  have l7 : lq M5 M7 := by rw [hM7]; exact lq_tr l6 (lq_c h2)
  have x7 := xR_lq x5 l7
  obtain ⟨I8, i1, i2⟩ := xc_count (J := J) (w := 2) x7 (by omega)
  rw [zam_2] at i1
  obtain ⟨M8, hM8⟩ : ∃ M, M = qp_g M7 I8 := ⟨_, rfl⟩
  have l8 : lq M5 M8 := by rw [hM8]; exact lq_tr l7 (lq_c i2)
  have x8 := xR_lq x5 l8
  obtain ⟨I9, j1, j2⟩ := xc_count (J := J) (w := 1) x8 (by omega)
  rw [zam_1] at j1
  obtain ⟨M9, hM9⟩ : ∃ M, M = qp_g M8 I9 := ⟨_, rfl⟩
  have l9 : lq M5 M9 := by rw [hM9]; exact lq_tr l8 (lq_c j2)
  have x9 := xR_lq x5 l9
  obtain ⟨I10, k1, k2⟩ := xc_count (J := J) (w := 4) x9 (by omega)
  rw [zam_4] at k1
  obtain ⟨M10, hM10⟩ : ∃ M, M = qp_g M9 I10 := ⟨_, rfl⟩
  have l10 : lq M5 M10 := by rw [hM10]; exact lq_tr l9 (lq_c k2)
  have x10 := xR_lq x5 l10
  obtain ⟨I11, m1, m2⟩ := xc_count (J := J) (w := 5) x10 (by omega)
  rw [zam_5] at m1
  obtain ⟨M11, hM11⟩ : ∃ M, M = qp_g M10 I11 := ⟨_, rfl⟩
  have l11 : lq M5 M11 := by rw [hM11]; exact lq_tr l10 (lq_c m2)
  have x11 := xR_lq x5 l11
  obtain ⟨I12, n1, n2⟩ := xc_count (J := J) (w := 6) x11 (by omega)
  rw [zam_6] at n1
  obtain ⟨M12, hM12⟩ : ∃ M, M = qp_g M11 I12 := ⟨_, rfl⟩
  have l12 : lq M5 M12 := by rw [hM12]; exact lq_tr l11 (lq_c n2)
  have fin := wb152 (G := G) (kp := kp) hG hok hl n 0 100000 (qp_zI (qp_zI M12 37) 38) (qp_zJ (qp_zJ J 37) 38) (by omega) (by omega) (by
    have fz : ∀ c, c < 37 → qp_zI (qp_zI M12 37) 38 c = M12 c := fun c hc => by rw [qp_zI_ne (by omega), qp_zI_ne (by omega)]
    refine ⟨xR_eq x5 (fun c hc => ?_), e4, wTe_eq b3 ?_ ?_, fun i hi => ?_, fun q hq => absurd hq (Nat.not_lt_zero q), fun q hq => absurd hq (Nat.not_lt_zero q)⟩
    · rw [fz c (by unfold xlc at hc; omega)]; exact l12 c (by unfold xlc at hc; unfold xqc; omega)
    · rw [fz 5 (by omega), l12 5 (by unfold xqc; omega)]; exact f5 5 (by omega)
    · rw [fz 6 (by omega), l12 6 (by unfold xqc; omega)]; exact f5 6 (by omega)
    · rw [fz 36 (by omega), l12 36 (by unfold xqc; omega), f5 36 (by omega)]; exact (hr2.2.2 i hi).2)
  unfold fW_law_b13
  rw [a1, qp_bd_t, b1, qp_bd_t, if_pos (by decide), show fW_cell G 7 I2 J = _ from ex I2 J, qp_bd_t, qp_g_self, show fW_up x 12 I2 J = _ from em I2 J, qp_bd_t, qp_g_self, show (1 : Int32) + qn m = qn (1 + m) from qn_add 1 m, show fW_cell G 8 I2 J = _ from ey I2 J, qp_bd_t, qp_g_self, show fW_up y 2000000 I2 J = _ from esd I2 J, qp_bd_t, qp_g_self, show (1 : Int32) + qn sd = qn (1 + sd) from qn_add 1 sd, c1, qp_bd_t, ← hM3, show fX_count 5 M3 J = _ from d1, qp_bd_t, ← hM4, if_neg (fun q => q rfl), show fX_keep 0 M4 J = _ from e1, qp_bd_t, ← hM5, show fX_count 3 M5 J = _ from g1, qp_bd_t, ← hM6, if_pos rfl, show fX_count 3 M6 J = _ from h1, qp_bd_t, ← hM7, show fX_count 2 M7 J = _ from i1, qp_bd_t, ← hM8, show fX_count 1 M8 J = _ from j1, qp_bd_t, ← hM9, show fX_count 4 M9 J = _ from k1, qp_bd_t, ← hM10, show fX_count 5 M10 J = _ from m1, qp_bd_t, ← hM11, show fX_count 6 M11 J = _ from n1, qp_bd_t, ← hM12, hr2.1]
  exact fin
end LH

/-! TICKETS GIVEN BACK; THE BEST PLACE, A TICKET FOR EACH -/
section LG
variable {G : qp_G} {n L0 : Nat} {K P : Nat → Nat} {d0 ds : List Nat} {kp : Nat → Option (List Nat)} {I I' : Nat → Nat → Int32} {J : Nat → Nat → Int64}
theorem wb755 (hG : G.2.2.2.2.1 ≤ 260) (hok : wOk n L0 K P) (hl : d0.length ≤ 12) : ∀ (e k fuel : Nat) (I : Nat → Nat → Int32) (J : Nat → Nat → Int64), k + e = (zrun n L0 d0).1.length → e < fuel → wI n L0 K P d0 d0 kp I →
    fW_law_b755 G fuel (qn n) (qn d0.length) (qn (zrun n L0 d0).1.length) (qn (wL n L0 d0)) (qn (wA n L0 K P d0)) (qn (zmask (zcont K P (wS n L0 d0) (wL n L0 d0)) n)) (qn (2 ^ n - 1)) (qn k) I J = some () := by
  intro e
  induction e with
  | zero =>
    intro k fuel I J hk hf h
    obtain ⟨f, rfl⟩ : ∃ f, fuel = f + 1 := ⟨fuel - 1, by omega⟩
    have ht := (xR_ok h.1).2.1
    rw [fW_law_b755, if_pos (by rw [qn_le (by omega) (by omega)]; omega)]
    by_cases h0 : (zrun n L0 d0).1.length = 0
    · rw [if_pos (by rw [h0]; exact Int32.le_refl _)]
      exact wb859 hG hok hl h
    · obtain ⟨I1, a1, a2⟩ := xc_falls (J := J) (k := (zrun n L0 d0).1.length - 1) h.1 (by omega)
      have hfl := zback_fall (n := n) (k := (zrun n L0 d0).1.length - 1) (tk := (zrun n L0 d0).1) (by omega)
      have h1 := wI_lq h (lq_c a2)
      rw [show (zback n ((zrun n L0 d0).1.length - 1) (zrun n L0 d0).1).2.2 = 0 by omega] at a1
      rw [if_neg (by show ¬ qn _ ≤ qn 0; rw [qn_le (by omega) (by omega)]; omega), show qn (zrun n L0 d0).1.length - 1 = qn ((zrun n L0 d0).1.length - 1) by show qn _ - qn 1 = _; rw [qn_sub (by omega)], a1, qp_bd_t, if_neg (fun q => q rfl), xc_fallsF h1.1, qp_bd_t, if_pos (show (-qn 1 : Int32) = -1 from rfl), qp_g_self]
      exact wb859 hG hok hl h1
  | succ e ih =>
    intro k fuel I J hk hf h
    obtain ⟨f, rfl⟩ : ∃ f, fuel = f + 1 := ⟨fuel - 1, by omega⟩
    have ht := (xR_ok h.1).2.1
    have hkt : k < (zrun n L0 d0).1.length := by omega
    have hfl := zback_fall (n := n) hkt
    have hcn := zback_cnt (n := n) hkt
    obtain ⟨I1, a1, a2⟩ := xc_falls (J := J) (k := k) h.1 hkt
    have h1 := wI_lq h (lq_c a2)
    obtain ⟨I2, b1, b2, b3⟩ := xc_back (J := J) (k := k) h1.1 hkt (by omega)
    have h2 := wI_move h1 b2 b3
    obtain ⟨I3, c1, c2⟩ := xc_count (J := J) (w := 2) h2.1 (by omega)
    have hz : (zrun n L0 (d0 ++ [128 + k])).1.length = (zrun n L0 d0).1.length - 1 - (zback n k (zrun n L0 d0).1).2.2 := by
      rw [zrun_app]
      unfold zdeed
      rw [if_neg (by omega), if_pos (by omega), show (128 + k) % 64 = k by omega]
      show (zback n k (zrun n L0 d0).1).1.length = _
      omega
    rw [zam_2, hz] at c1
    have h3 := wI_lq h2 (lq_c c2)
    obtain ⟨I4, d1, d2, d3⟩ := xc_on (J := J) (k := 0) h3.1 (by omega) h3.2.1
    have h4 := wI_move h3 d2 d3
    generalize (zback n k (zrun n L0 d0).1).2.2 = fl at *
    have e1 : qn (zrun n L0 d0).1.length - 1 = qn ((zrun n L0 d0).1.length - 1) := by show qn _ - qn 1 = _; rw [qn_sub (by omega)]
    rw [fW_law_b755, if_neg (by rw [qn_le (by omega) (by omega)]; omega), a1, qp_bd_t, if_neg (by show ¬ qn fl < qn 0; rw [qn_lt (by omega) (by omega)]; omega), e1, qn_sub (by omega), if_neg (by rw [qn_lt (by omega) (by omega)]; omega), b1, qp_bd_t, if_neg (fun q => q rfl), show fX_count 2 _ J = _ from c1, qp_bd_t, qn_sub (by omega), if_neg (fun q => q rfl), show fX_on 0 _ J = _ from d1, qp_bd_t, if_pos rfl, show qn k + 1 = qn (k + 1) from qn_add k 1]
    exact ih (k + 1) f _ J (by omega) (by omega) h4
theorem wsold {i p : Nat} (hp : p < 8) (hip : 8 * i + p < 64) : wS n L0 (d0 ++ [64 + (8 * i + p)]) = zmv i p (wS n L0 d0) ∧ wL n L0 (d0 ++ [64 + (8 * i + p)]) = wL n L0 d0 := by
  have e : zrun n L0 (d0 ++ [64 + (8 * i + p)]) = ((zrun n L0 d0).1 ++ [8 * i + p], (zrun n L0 d0).2) := by
    rw [zrun_app]
    unfold zdeed
    rw [if_pos (by omega), show (64 + (8 * i + p)) % 64 = 8 * i + p by omega]
  constructor
  · show zls n (zrun n L0 (d0 ++ [64 + (8 * i + p)])).1 = _
    rw [e, zls_app, show (8 * i + p) / 8 = i by omega, show (8 * i + p) % 8 = p by omega]
  · show (zrun n L0 (d0 ++ [64 + (8 * i + p)])).2 = _
    rw [e]
abbrev KB : Type := Int32 → Int32 → Int32 → Int32 → Int32 → Int32 → Int32 → Int32 → (Nat → Nat → Int32) → (Nat → Nat → Int64) → Option Unit
/-- how many one would get at each place -/
abbrev wg (n L0 : Nat) (K P : Nat → Nat) (d0 : List Nat) (i p : Nat) : Nat := zG K P (zmv i p (wS n L0 d0)) (wL n L0 d0) i
theorem wb578 {kc : KB} {a6 a8 a9 a10 : Int32} (hok : wOk n L0 K P) (hl : d0.length ≤ 12) {i b m : Nat} (hi : i < n) (hb : b < n) (hm : m ≤ 3) (hmx : ∀ p, p < n → wg n L0 K P d0 i p ≤ m) (hfs : ∀ p, p < b → wg n L0 K P d0 i p < m) :
    ∀ (e p fuel : Nat) (I : Nat → Nat → Int32) (J : Nat → Nat → Int64), p + e = n → e < fuel → wI n L0 K P d0 d0 kp I →
    ∃ I', wI n L0 K P d0 d0 kp I' ∧ fW_law_b578 G kc fuel (qn n) (qn d0.length) (qn (zrun n L0 d0).1.length) a6 a8 a9 a10 (qn i) (qn b) (qn m) (qn p) I J = kc (qn n) (qn d0.length) (qn (zrun n L0 d0).1.length) a6 a8 a9 a10 (qn i + 1) I' J := by
  have hn := hok.1
  have hn6 := hok.2.1
  intro e
  induction e with
  | zero =>
    intro p fuel I J hp hf h
    obtain ⟨f, rfl⟩ : ∃ f, fuel = f + 1 := ⟨fuel - 1, by omega⟩
    exact ⟨I, h, by rw [fW_law_b578, if_pos (by rw [qn_le (by omega) (by omega)]; omega)]⟩
  | succ e ih =>
    intro p fuel I J hp hf h
    obtain ⟨f, rfl⟩ : ∃ f, fuel = f + 1 := ⟨fuel - 1, by omega⟩
    have hpn : p < n := by omega
    have hP := xR_P h.1
    have ht := (xR_ok h.1).2.1
    have hz : zat (wS n L0 d0) p < n := zP_at hP hpn
    have g6 : (0 : Int32) ≤ qn p ∧ qn p < 6 := q_g6 (by omega)
    have gi : (0 : Int32) ≤ qn i ∧ qn i < 6 := q_g6 (by omega)
    have ep : qn p + 1 = qn (p + 1) := qn_add p 1
    have hmp := hmx p hpn
    obtain ⟨I1, a1, a2⟩ := xc_gets (J := J) h.1 hi hpn
    obtain ⟨M1, hM1⟩ : ∃ M, M = qp_g I I1 := ⟨_, rfl⟩
    have h1 : wI n L0 K P d0 d0 kp M1 := by rw [hM1]; exact wI_lq h (lq_c a2)
    -- b619 leads to b642
    have c619 : ∀ (a20 s0 : Int32) (M : Nat → Nat → Int32), fW_law_b619 G (fun a0 a1 a2 a3 a4 a5 a6 a7 a8 a9 a10 I J => fW_law_b578 G kc f a0 a1 a2 a3 a4 a5 a6 a7 a8 a9 a10 I J) (qn n) (qn d0.length) (qn (zrun n L0 d0).1.length) a6 a8 a9 a10 (qn i) (qn b) (qn m) (qn p) (qn (wg n L0 K P d0 i p)) a20 s0 M J = fW_law_b642 G (fun a0 a1 a2 a3 a4 a5 a6 a7 a8 a9 a10 I J => fW_law_b578 G kc f a0 a1 a2 a3 a4 a5 a6 a7 a8 a9 a10 I J) (qn n) (qn d0.length) (qn (zrun n L0 d0).1.length) a6 a8 a9 a10 (qn i) (qn b) (qn m) (qn p) (qn (wg n L0 K P d0 i p)) a20 s0 M J := by
      intro a20 s0 M
      unfold fW_law_b619
      rw [if_neg (by rw [qn_lt (by omega) (by omega)]; omega)]
      by_cases he : wg n L0 K P d0 i p = m
      · rw [if_neg (by rw [he]; exact fun q => q rfl), if_neg (by
          rw [qn_lt (by omega) (by omega)]
          intro q
          have := hfs p q
          omega)]
      · rw [if_pos (by rw [qn_eq (by omega) (by omega)]; exact he)]
    have a1' : fX_gets (qn i) (qn p) I J = some (qn (wg n L0 K P d0 i p), I1, J) := a1
    rw [fW_law_b578, if_neg (by rw [qn_le (by omega) (by omega)]; omega), a1', qp_bd_t, ← hM1]
    by_cases hst : zat (wS n L0 d0) p = i
    · -- stands there
      have hF := xc_ticketF (J := J) h1.1 hi hpn (Or.inr hst)
      have hge : wg n L0 K P d0 i p = zG K P (wS n L0 d0) (wL n L0 d0) i := by
        show zG K P (zmv i p (wS n L0 d0)) (wL n L0 d0) i = _
        rw [zmv_same hP hpn hst]
      obtain ⟨I', r1, r2⟩ := ih (p + 1) f M1 J (by omega) (by omega) h1
      refine ⟨I', r1, ?_⟩
      rw [hF, qp_bd_t, qp_g_self, qp_gd_t g6, qn_nat (by omega), h1.2.2.2.1 p hpn, if_neg (by rw [hst]; exact fun q => q rfl), c619]
      unfold fW_law_b642
      rw [if_neg (by decide), if_neg (fun q => q rfl), qp_gd_t gi, qn_nat (by omega), h1.2.2.2.2 i hi, hge, if_pos rfl, xc_who (J := J) h1.1 hpn, qp_bd_t, qp_g_self, qp_gd_t g6, qn_nat (by omega), h1.2.2.2.1 p hpn, if_pos rfl]
      show fW_law_b578 G kc f _ _ _ _ _ _ _ _ _ _ (qn p + 1) M1 J = _
      rw [ep]; exact r2
    · by_cases h12 : (zrun n L0 d0).1.length = 12
      · have hF := xc_ticketF (J := J) h1.1 hi hpn (Or.inl (by omega))
        obtain ⟨I', r1, r2⟩ := ih (p + 1) f M1 J (by omega) (by omega) h1
        refine ⟨I', r1, ?_⟩
        rw [hF, qp_bd_t, qp_g_self, qp_gd_t g6, qn_nat (by omega), h1.2.2.2.1 p hpn, if_pos (by rw [qn_eq (by omega) (by omega)]; exact hst), c619]
        unfold fW_law_b642
        rw [if_pos rfl, if_neg (by rw [h12]; exact fun q => q rfl), if_pos (show (-qn 4 : Int32) = -4 from rfl), xc_who (J := J) h1.1 hpn, qp_bd_t, qp_g_self, qp_gd_t g6, qn_nat (by omega), h1.2.2.2.1 p hpn, if_pos rfl]
        show fW_law_b578 G kc f _ _ _ _ _ _ _ _ _ _ (qn p + 1) M1 J = _
        rw [ep]; exact r2
      · obtain ⟨I2, b1, b2, b3⟩ := xc_ticket (J := J) h1.1 hi hpn (by omega) hst (by omega)
        obtain ⟨M2, hM2⟩ : ∃ M, M = qp_g M1 I2 := ⟨_, rfl⟩
        have h2 : wI n L0 K P d0 (d0 ++ [64 + (8 * i + p)]) kp M2 := by rw [hM2]; exact wI_move h1 b2 b3
        obtain ⟨s1, s2⟩ := wsold (n := n) (L0 := L0) (d0 := d0) (i := i) (p := p) (by omega) (by omega)
        have ew := xc_who (J := J) h2.1 hpn
        rw [show zat (zls n (zrun n L0 (d0 ++ [64 + (8 * i + p)])).1) p = i by
          rw [show zls n (zrun n L0 (d0 ++ [64 + (8 * i + p)])).1 = _ from s1, zat_mv ((hP.2.2 i).2 hi) (by rw [hP.2.1]; exact hpn), if_pos rfl]] at ew
        obtain ⟨I3, c1, c2⟩ := yc_told (J := J) (i := i) (w := 4) h2 hi (by omega)
        rw [zone_4, s1, s2] at c1
        obtain ⟨M3, hM3⟩ : ∃ M, M = qp_g M2 I3 := ⟨_, rfl⟩
        have h3 : wI n L0 K P d0 (d0 ++ [64 + (8 * i + p)]) kp M3 := by rw [hM3]; exact wI_lq h2 c2
        have hlen : (d0 ++ [64 + (8 * i + p)]).length = d0.length + 1 := by rw [List.length_append]; rfl
        obtain ⟨I4, d1, d2, d3⟩ := xc_undo (J := J) (m := d0.length) h3.1 (by omega)
        rw [hlen, show d0.length + 1 - d0.length = 1 by omega] at d1
        have htk : (d0 ++ [64 + (8 * i + p)]).take d0.length = d0 := by
          have := take_app (d := d0) (A := [64 + (8 * i + p)]) (k := 0)
          rw [Nat.add_zero, List.take_zero, List.append_nil] at this; exact this
        rw [htk] at d3
        obtain ⟨M4, hM4⟩ : ∃ M, M = qp_g M3 I4 := ⟨_, rfl⟩
        have h4 : wI n L0 K P d0 d0 kp M4 := by rw [hM4]; exact wI_move h3 d2 d3
        obtain ⟨I', r1, r2⟩ := ih (p + 1) f M4 J (by omega) (by omega) h4
        refine ⟨I', r1, ?_⟩
        rw [b1, qp_bd_t, ← hM2, qp_gd_t g6, qn_nat (by omega), h2.2.2.2.1 p hpn, if_pos (by rw [qn_eq (by omega) (by omega)]; exact hst), c619]
        unfold fW_law_b642
        rw [if_pos rfl, if_pos (by show ¬ qn _ = qn 12; rw [qn_eq (by omega) (by omega)]; exact h12), if_neg (fun q => q rfl), ew, qp_bd_t, qp_g_self, if_neg (fun q => q rfl), show fW_told (qn i) 4 M2 J = _ from c1, qp_bd_t, ← hM3, if_neg (fun q => q rfl), d1, qp_bd_t, ← hM4, if_neg (fun q => q rfl), xc_who (J := J) h4.1 hpn, qp_bd_t, qp_g_self, qp_gd_t g6, qn_nat (by omega), h4.2.2.2.1 p hpn, if_pos rfl]
        show fW_law_b578 G kc f _ _ _ _ _ _ _ _ _ _ (qn p + 1) M4 J = _
        rw [ep]; exact r2
theorem wb519 (hG : G.2.2.2.2.1 ≤ 260) (hok : wOk n L0 K P) (hl : d0.length ≤ 12) : ∀ (e i fuel : Nat) (I : Nat → Nat → Int32) (J : Nat → Nat → Int64), i + e = n → e < fuel → wI n L0 K P d0 d0 kp I →
    fW_law_b519 G fuel (qn n) (qn d0.length) (qn (zrun n L0 d0).1.length) (qn (wL n L0 d0)) (qn (wA n L0 K P d0)) (qn (zmask (zcont K P (wS n L0 d0) (wL n L0 d0)) n)) (qn (2 ^ n - 1)) (qn i) I J = some () := by
  have hn := hok.1
  have hn6 := hok.2.1
  intro e
  induction e with
  | zero =>
    intro i fuel I J hi hf h
    obtain ⟨f, rfl⟩ : ∃ f, fuel = f + 1 := ⟨fuel - 1, by omega⟩
    rw [fW_law_b519, if_pos (by rw [qn_le (by omega) (by omega)]; omega)]
    have ht := (xR_ok h.1).2.1
    exact wb755 hG hok hl (zrun n L0 d0).1.length 0 100000 I J (by omega) (by omega) h
  | succ e ih =>
    intro i fuel I J hi hf h
    obtain ⟨f, rfl⟩ : ∃ f, fuel = f + 1 := ⟨fuel - 1, by omega⟩
    have hin : i < n := by omega
    have hP := xR_P h.1
    obtain ⟨I1, a1, a2, a3⟩ := xc_best (J := J) h.1 hin
    obtain ⟨M1, hM1⟩ : ∃ M, M = qp_g I I1 := ⟨_, rfl⟩
    have h1 : wI n L0 K P d0 d0 kp M1 := by rw [hM1]; exact wI_lq h (lq_c a3)
    obtain ⟨s1, s2, s3, s4⟩ := zbp_spec (wg n L0 K P d0 i) (n - 1)
    have k1 : M1 0 11 = qn (zbp (wg n L0 K P d0 i) (n - 1)).2 := by rw [hM1, qp_g_lo (by omega)]; exact a2
    have a1' : fX_best (qn i) I J = some (qn (zbp (wg n L0 K P d0 i) (n - 1)).1, I1, J) := a1
    have hm3 : (zbp (wg n L0 K P d0 i) (n - 1)).2 ≤ 3 := by rw [s2]; exact zG_3
    generalize (zbp (wg n L0 K P d0 i) (n - 1)).1 = b at *
    generalize (zbp (wg n L0 K P d0 i) (n - 1)).2 = m at *
    have hbn : b < n := by omega
    obtain ⟨I2, b1, b2⟩ := xc_gets (J := J) h1.1 hin hbn
    have b1' : fX_gets (qn i) (qn b) M1 J = some (qn m, I2, J) := by rw [s2]; exact b1
    obtain ⟨M2, hM2⟩ : ∃ M, M = qp_g M1 I2 := ⟨_, rfl⟩
    have h2 : wI n L0 K P d0 d0 kp M2 := by rw [hM2]; exact wI_lq h1 (lq_c b2)
    have hgi : zG K P (wS n L0 d0) (wL n L0 d0) i ≤ m := by
      have hx : zix i (wS n L0 d0) < n := zP_ix hP hin
      have := s3 (zix i (wS n L0 d0)) (by omega)
      have e : wg n L0 K P d0 i (zix i (wS n L0 d0)) = zG K P (wS n L0 d0) (wL n L0 d0) i := by
        show zG K P (zmv i (zix i (wS n L0 d0)) (wS n L0 d0)) (wL n L0 d0) i = _
        rw [zmv_same hP hx (zP_atix hP hin)]
      omega
    obtain ⟨I', r1, r2⟩ := wb578 (G := G) (kc := fun a0 a1 a2 a3 a4 a5 a6 a7 I J => fW_law_b519 G f a0 a1 a2 a3 a4 a5 a6 a7 I J) (a6 := qn (wL n L0 d0)) (a8 := qn (wA n L0 K P d0)) (a9 := qn (zmask (zcont K P (wS n L0 d0) (wL n L0 d0)) n)) (a10 := qn (2 ^ n - 1)) hok hl hin hbn hm3 (fun p hp => s3 p (by omega)) s4 n 0 100000 M2 J (by omega) (by omega) h2
    rw [fW_law_b519, if_neg (by rw [qn_le (by omega) (by omega)]; omega), a1', qp_bd_t, ← hM1, xc_asked, qp_bd_t, qp_g_self, k1, if_neg (by show ¬ qn b < qn 0; rw [qn_lt (by omega) (by omega)]; omega), if_neg (by rw [qn_le (by omega) (by omega)]; omega), b1', qp_bd_t, ← hM2, if_neg (fun q => q rfl), qp_gd_t (q_g6 (by omega)), qn_nat (by omega), h2.2.2.2.2 i hin, if_pos (by rw [qn_le (by omega) (by omega)]; exact hgi)]
    refine r2.trans ?_
    show fW_law_b519 G f _ _ _ _ _ _ _ (qn i + 1) I' J = _
    rw [show qn i + 1 = qn (i + 1) from qn_add i 1]
    exact ih (i + 1) f I' J (by omega) (by omega) r1
end LG

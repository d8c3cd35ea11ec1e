/-! BY THE FEWEST TICKETS told two have met and a told one gets what it wants -/
section LF
variable {G : qp_G} {n L0 : Nat} {K P : Nat → Nat} {d0 ds : List Nat} {kp : Nat → Option (List Nat)} {I I' : Nat → Nat → Int32} {J : Nat → Nat → Int64}
def wNo (n : Nat) (s : List Nat) (Q : List Nat → Bool) : Prop := ∀ j, j ≤ 3 → (zqW n j).find? (fun w => Q (zqe s w)) = none
theorem wNo_0 {s : List Nat} {Q : List Nat → Bool} (h : wNo n s Q) : ¬ Q s = true := by
  have h0 := h 0 (by omega)
  have := List.find?_eq_none.mp h0 [] (by show ([] : List Nat) ∈ [[]]; exact List.mem_singleton.mpr rfl)
  exact this
theorem wNo_zfw {s w : List Nat} {Q : List Nat → Bool} {k : Nat} (h : wNo n s Q) (h' : zfw n s Q k w) : False := by
  have := h k h'.1
  rw [h'.2.1] at this; cases this
/-- what wish answers -/
def wV (n : Nat) (s : List Nat) (Q : List Nat → Bool) (v : Int32) : Prop := (∃ k w, zfw n s Q k w ∧ v = qn k) ∨ (wNo n s Q ∧ v = -9)
theorem wV_un {s : List Nat} {Q : List Nat → Bool} {v v' : Int32} (h : wV n s Q v) (h' : wV n s Q v') : v = v' := by
  rcases h with ⟨k, w, h1, rfl⟩ | ⟨h1, rfl⟩
  · rcases h' with ⟨k', w', h2, rfl⟩ | ⟨h2, rfl⟩
    · rw [zfw_un h1 h2]
    · exact (wNo_zfw h2 h1).elim
  · rcases h' with ⟨k', w', h2, rfl⟩ | ⟨h2, rfl⟩
    · exact (wNo_zfw h1 h2).elim
    · rfl
theorem wV_0 {s : List Nat} {Q : List Nat → Bool} {v : Int32} (h : wV n s Q v) (hq : Q s = true) : v = 0 := by
  rcases h with ⟨k, w, h1, rfl⟩ | ⟨h1, rfl⟩
  · rw [(zfw_0 h1).mpr hq]; rfl
  · exact absurd hq (wNo_0 h1)
/-- the row of tickets told -/
def wWr (k : Nat) (w : List Nat) (I : Nat → Nat → Int32) : Prop := I 2 5 = qn k ∧ ∀ j, j < k → I 3 (5 * 40 + j) = qn (zat w j)
theorem wWr_eq {k : Nat} {w : List Nat} (h : wWr k w I) (e2 : I' 2 = I 2) (e3 : I' 3 = I 3) : wWr k w I' := by
  unfold wWr at h ⊢
  rw [e2, e3]; exact h
theorem yc_wish {a b c : Nat} (h : wI n L0 K P d0 ds kp I) (ha : a < n) (hb : b < n) (hc : c < n) (hab : ¬ a = b) :
    ∃ v I1, fX_wish (qn a) (qn b) (qn c) 5 I J = some (v, I1, J) ∧ wI n L0 K P d0 ds kp (qp_g I I1) ∧ wV n (wS n L0 ds) (zQf K P (wL n L0 ds) a b c) v ∧ ∀ k w, zfw n (wS n L0 ds) (zQf K P (wL n L0 ds) a b c) k w → ∃ w', zfw n (wS n L0 ds) (zQf K P (wL n L0 ds) a b c) k w' ∧ wWr k w' (qp_g I I1) := by
  rcases xc_wish (J := J) (r := 5) h.1 ha hb hc hab (by omega) with ⟨k, w, I1, f1, f2, f3, f4, f5, f6⟩ | ⟨hno, I1, f2, f5⟩
  · refine ⟨qn k, I1, f2, wI_of h (xR_g f6) (fun c hc => ?_), Or.inl ⟨k, w, f1, rfl⟩, fun k' w' h' => ?_⟩
    · rcases hc with rfl | rfl | rfl | rfl
      · rw [qp_g_lo (by omega)]; exact f5 5 (by omega) (by unfold xqc; omega) (by omega) (by omega)
      · rw [qp_g_lo (by omega)]; exact f5 6 (by omega) (by unfold xqc; omega) (by omega) (by omega)
      · exact qp_g_hi (by omega)
      · exact qp_g_hi (by omega)
    · have e := zfw_un h' f1
      subst e
      exact ⟨w, f1, by rw [qp_g_lo (by omega), f3]; exact qp_up1_eq, fun j hj => by rw [qp_g_lo (by omega)]; exact f4 j hj⟩
  · exact ⟨-9, I1, f2, wI_lq h (lq_c f5), Or.inr ⟨hno, rfl⟩, fun k w hw => (wNo_zfw hno hw).elim⟩
/-- met, as told -/
theorem wmetbit {a b : Nat} {s : List Nat} (hn : n ≤ 6) (hb : b < n) : (qn (zmask (zapart s a) n) >>> (qn b &&& 31)) &&& 1 = qn (if zapart s a b = true then 1 else 0) := by
  have h64 := wmask_lt (c := zapart s a) hn
  rw [wbit (by omega) (by omega)]
  have hbit := zmask_bit (zapart s a) n b
  rw [Nat.testBit_eq_decide_div_mod_eq, decide_eq_true hb, Bool.true_and] at hbit
  have hlt := Nat.mod_lt (zmask (zapart s a) n / 2 ^ b) (show 0 < 2 by omega)
  congr 1
  by_cases h : zapart s a b = true
  · rw [if_pos h]
    rw [h] at hbit
    exact of_decide_eq_true hbit
  · rw [if_neg h]
    rw [Bool.eq_false_iff.mpr h] at hbit
    have := of_decide_eq_false hbit
    omega
theorem zone_6 {s : List Nat} {L i : Nat} : zone n K P s L i 6 = zmask (zapart s i) n := rfl
theorem zone_5 {s : List Nat} {L i : Nat} : zone n K P s L i 5 = zB K s i := rfl
theorem zone_4 {s : List Nat} {L i : Nat} : zone n K P s L i 4 = zG K P s L i := rfl
theorem zone_3 {s : List Nat} {L i : Nat} : zone n K P s L i 3 = zwn K s i := rfl
theorem zone_2 {s : List Nat} {L i : Nat} : zone n K P s L i 2 = zix i s := rfl
theorem yc_told {i w : Nat} (h : wI n L0 K P d0 ds kp I) (hi : i < n) (hw : w ≤ 6) : ∃ I1, fW_told (qn i) (qn w) I J = some (qn (zone n K P (wS n L0 ds) (wL n L0 ds) i w), I1, J) ∧ lq I (qp_g I I1) := by
  obtain ⟨I1, a1, a2⟩ := xc_told (J := J) h.1 hi hw
  exact ⟨I1, a1, lq_c a2⟩
theorem zQf_iff {s : List Nat} {L a b c : Nat} : zQf K P L a b c s = true ↔ zapart s a b = true ∧ zG K P s L c = zwn K s c := by
  unfold zQf
  rw [Bool.and_eq_true, decide_eq_true_iff]
/-- the line behind some tickets told -/
theorem wrun_t {v : List Nat} : ∀ (v : List Nat) (st : ZR), (∀ t, t ∈ v → t < 64) → (v.map (fun t => 64 + t)).foldl (zdeed n) st = (st.1 ++ v, st.2)
  | [], st, _ => by simp
  | t :: v, st, h => by
    have ht := h t List.mem_cons_self
    have e : zdeed n st (64 + t) = (st.1 ++ [t], st.2) := by
      unfold zdeed
      rw [if_pos (by omega), show (64 + t) % 64 = t by omega]
    show (v.map (fun t => 64 + t)).foldl (zdeed n) (zdeed n st (64 + t)) = _
    rw [e, wrun_t (v := v) v _ (fun t' h' => h t' (List.mem_cons_of_mem _ h')), List.append_assoc]; rfl
theorem wrun_d {v : List Nat} (h : ∀ t, t ∈ v → t < 64) : zrun n L0 (d0 ++ v.map (fun t => 64 + t)) = ((zrun n L0 d0).1 ++ v, (zrun n L0 d0).2) := by
  unfold zrun
  rw [List.foldl_append]
  exact wrun_t (v := v) v _ h
theorem wls_d {tk v : List Nat} : zls n (tk ++ v) = zqe (zls n tk) v := by
  unfold zls zqe
  rw [List.foldl_append]
theorem wb1175 (hG : G.2.2.2.2.1 ≤ 260) (hok : wOk n L0 K P) (hl : d0.length ≤ 12) {a b c : Nat} {v : Int32} (ha : a < n) (hb : b < n) (hc : c < n) (hab : ¬ a = b) (h : wI n L0 K P d0 ds kp I) (hv : wV n (wS n L0 d0) (zQf K P (wL n L0 d0) a b c) v) :
    fW_law_b1175 G (qn n) (qn d0.length) (qn (wL n L0 d0)) (qn (wA n L0 K P d0)) (qn (zmask (zcont K P (wS n L0 d0) (wL n L0 d0)) n)) (qn (2 ^ n - 1)) (qn a) (qn b) (qn c) v I J = some () := by
  obtain ⟨I1, a1, a2, a3⟩ := xc_on (J := J) (k := 0) h.1 (by omega) h.2.1
  have h1 := wI_move h a2 a3
  obtain ⟨v', I2, b1, b2, b3, -⟩ := yc_wish (J := J) (a := b) (b := a) (c := c) h1 hb ha hc (fun q => hab q.symm)
  rw [zQf_sym] at b3
  have e := wV_un b3 hv
  subst e
  unfold fW_law_b1175
  rw [show fX_on 0 I J = _ from a1, qp_bd_t, if_neg (fun q => q rfl), b1, qp_bd_t, if_pos rfl]
  exact wb1203 hG hok hl b2
theorem wb1021 (hG : G.2.2.2.2.1 ≤ 260) (hok : wOk n L0 K P) (hl : d0.length ≤ 12) {a b c k : Nat} {w : List Nat} (ha : a < n) (hb : b < n) (hc : c < n) (hab : ¬ a = b) (hw : zfw n (wS n L0 d0) (zQf K P (wL n L0 d0) a b c) k w) (hk : (zrun n L0 d0).1.length + k ≤ 12) (hP0 : zP n (wS n L0 d0)) :
    ∀ (e j fuel : Nat) (I : Nat → Nat → Int32) (J : Nat → Nat → Int64), j + e = k → e < fuel → wI n L0 K P d0 (d0 ++ (w.take j).map (fun t => 64 + t)) kp I → wWr k w I →
    fW_law_b1021 G fuel (qn n) (qn d0.length) (qn (zrun n L0 d0).1.length) (qn (wL n L0 d0)) (qn (wA n L0 K P d0)) (qn (zmask (zcont K P (wS n L0 d0) (wL n L0 d0)) n)) (qn (2 ^ n - 1)) (qn a) (qn b) (qn c) (qn k) (qn j) I J = some () := by
  have hn := hok.1
  have hn6 := hok.2.1
  have hk3 := hw.1
  have hwo := zqW_ok k w (List.mem_of_find?_eq_some hw.2.1)
  have h64 : ∀ t, t ∈ w → t < 64 := fun t ht => zqx_64 hn6 (hwo.2 t ht)
  have hrun : ∀ j, zrun n L0 (d0 ++ (w.take j).map (fun t => 64 + t)) = ((zrun n L0 d0).1 ++ w.take j, (zrun n L0 d0).2) := fun j => wrun_d (fun t ht => h64 t (List.mem_of_mem_take ht))
  have hls : ∀ j, wS n L0 (d0 ++ (w.take j).map (fun t => 64 + t)) = zqe (wS n L0 d0) (w.take j) := fun j => by
    show zls n (zrun n L0 (d0 ++ (w.take j).map (fun t => 64 + t))).1 = _
    rw [hrun j, wls_d]
  have hL : ∀ j, wL n L0 (d0 ++ (w.take j).map (fun t => 64 + t)) = wL n L0 d0 := fun j => by
    show (zrun n L0 (d0 ++ (w.take j).map (fun t => 64 + t))).2 = _
    rw [hrun j]
  intro e
  induction e with
  | zero =>
    intro j fuel I J hj hf h hr
    obtain ⟨f, rfl⟩ : ∃ f, fuel = f + 1 := ⟨fuel - 1, by omega⟩
    obtain rfl : j = k := by omega
    have htk : w.take j = w := List.take_of_length_le (by omega)
    have hQ := zfw_yes hw
    have hQ2 := zQf_iff.mp hQ
    obtain ⟨I1, a1, a2⟩ := yc_told (J := J) (i := a) (w := 6) h ha (by omega)
    have h1 := wI_lq h a2
    obtain ⟨I2, b1, b2⟩ := yc_told (J := J) (i := c) (w := 4) h1 hc (by omega)
    have h2 := wI_lq h1 b2
    obtain ⟨I3, c1, c2⟩ := yc_told (J := J) (i := c) (w := 3) h2 hc (by omega)
    have h3 := wI_lq h2 c2
    obtain ⟨v', I4, d1, d2, d3, -⟩ := yc_wish (J := J) (a := a) (b := b) (c := c) h3 ha hb hc hab
    rw [hls, hL, htk] at a1 b1 c1 d3
    have e0 := wV_0 d3 hQ
    subst e0
    rw [zone_6] at a1
    rw [zone_4, hQ2.2] at b1
    rw [zone_3] at c1
    rw [fW_law_b1021, if_pos (Int32.le_refl _), show fW_told (qn a) 6 I J = _ from a1, qp_bd_t, wmetbit hn6 hb, if_pos hQ2.1, if_neg (fun q => q rfl), show fW_told (qn c) 4 (qp_g I I1) J = _ from b1, qp_bd_t, show fW_told (qn c) 3 _ J = _ from c1, qp_bd_t, if_neg (fun q => q rfl), d1, qp_bd_t, if_pos rfl]
    exact wb1175 hG hok hl ha hb hc hab d2 (Or.inl ⟨j, w, hw, rfl⟩)
  | succ e ih =>
    intro j fuel I J hj hf h hr
    obtain ⟨f, rfl⟩ : ∃ f, fuel = f + 1 := ⟨fuel - 1, by omega⟩
    obtain ⟨s1, s2, s3, s4, s5⟩ := zfw_step hP0 hw (show j < k by omega)
    have ht64 := h64 _ (zat_mem w j (by omega))
    have hQ : ¬ (zapart (zqe (wS n L0 d0) (w.take j)) a b = true ∧ zG K P (zqe (wS n L0 d0) (w.take j)) (wL n L0 d0) c = zwn K (zqe (wS n L0 d0) (w.take j)) c) := fun q => s3 (zQf_iff.mpr q)
    have htl : (w.take j).length = j := by rw [List.length_take]; omega
    have q1 := xc_at (J := J) (r := 5) (m := k) (i := j) h.1.2.1 (by omega) hr.1 (by omega) (by omega)
    obtain ⟨M0, hM0⟩ : ∃ M, M = qp_up I 0 11 (I 3 (5 * 40 + j)) := ⟨_, rfl⟩
    rw [← hM0] at q1
    have g0 : qp_g I M0 = M0 := by rw [hM0]; exact qp_g_up (by omega)
    have l0 : lq I M0 := fun c hc => by rw [hM0]; unfold xqc at hc; exact qm_nk (by omega)
    have h0 := wI_lq h l0
    have k0 : M0 0 11 = qn (zat w j) := by rw [hM0, qm_eq rfl]; exact hr.2 j (by omega)
    obtain ⟨I1, a1, a2⟩ := yc_told (J := J) (i := a) (w := 6) h0 ha (by omega)
    have h1 := wI_lq h0 a2
    obtain ⟨I2, b1, b2⟩ := yc_told (J := J) (i := c) (w := 4) h1 hc (by omega)
    have h2 := wI_lq h1 b2
    obtain ⟨I3, c1, c2⟩ := yc_told (J := J) (i := c) (w := 3) h2 hc (by omega)
    have h3 := wI_lq h2 c2
    rw [hls, hL] at a1 b1 c1
    rw [zone_6] at a1
    rw [zone_4] at b1
    rw [zone_3] at c1
    have e8 : qn (zat w j) / 8 = qn (zat w j / 8) := by show qn _ / qn 8 = _; rw [qn_div (by omega) (by omega)]
    have e8m : qn (zat w j) - qn (zat w j) / 8 * 8 = qn (zat w j % 8) := by show qn _ - qn _ / qn 8 * qn 8 = _; rw [qn_div (by omega) (by omega), qn_mul, qn_mod]
    -- the ticket, from a memory that only asked
    have go : ∀ M, lq M0 M → fW_law_b1082 G (fun a0 a1 a2 a3 a4 a5 a6 a7 a8 a9 a10 a11 I J => fW_law_b1021 G f a0 a1 a2 a3 a4 a5 a6 a7 a8 a9 a10 a11 I J) (qn n) (qn d0.length) (qn (zrun n L0 d0).1.length) (qn (wL n L0 d0)) (qn (wA n L0 K P d0)) (qn (zmask (zcont K P (wS n L0 d0) (wL n L0 d0)) n)) (qn (2 ^ n - 1)) (qn a) (qn b) (qn c) (qn k) (qn j) 1 (qn (zat w j)) 0 M J = some () := by
      intro M hM
      have hMI := lq_tr l0 hM
      have hm := wI_lq h hMI
      obtain ⟨I5, d1, d2, d3⟩ := xc_ticket (J := J) (i := zat w j / 8) (p := zat w j % 8) hm.1 s2.1 s2.2 (by rw [hrun, List.length_append, htl]; omega) (by rw [show zls n (zrun n L0 (d0 ++ (w.take j).map (fun t => 64 + t))).1 = _ from hls j]; exact s5) (by rw [List.length_append, List.length_map, htl]; omega)
      have hd := wI_move hm d2 d3
      rw [show 64 + (8 * (zat w j / 8) + zat w j % 8) = 64 + zat w j by omega, List.append_assoc, show (w.take j).map (fun t => 64 + t) ++ [64 + zat w j] = (w.take (j + 1)).map (fun t => 64 + t) by rw [take_zat (by omega), List.map_append]; rfl] at hd
      rw [hrun, List.length_append, htl] at d1
      unfold fW_law_b1082
      rw [if_neg (fun q => q rfl), if_neg (fun q => q rfl), e8m, e8, d1, qp_bd_t, if_pos (qn_add _ _).symm]
      show fW_law_b1021 G f _ _ _ _ _ _ _ _ _ _ _ (qn j + 1) _ _ = _
      rw [show qn j + 1 = qn (j + 1) from qn_add j 1]
      refine ih (j + 1) f (qp_g M I5) J (by omega) (by omega) hd (wWr_eq hr ?_ ?_)
      · rw [qp_g_lo (by omega), d2 2 (by omega) (by omega) (by omega)]; exact hMI 2 (by unfold xqc; omega)
      · rw [qp_g_lo (by omega), d2 3 (by omega) (by omega) (by omega)]; exact hMI 3 (by unfold xqc; omega)
    rw [fW_law_b1021, if_neg (by rw [qn_le (by omega) (by omega)]; omega), show fX_at 5 (qn j) I J = _ from q1, qp_bd_t, g0, xc_asked, qp_bd_t, qp_g_self, k0, show fW_told (qn a) 6 M0 J = _ from a1, qp_bd_t, wmetbit hn6 hb]
    by_cases hm : zapart (zqe (wS n L0 d0) (w.take j)) a b = true
    · rw [if_pos hm, if_neg (fun q => q rfl), show fW_told (qn c) 4 (qp_g M0 I1) J = _ from b1, qp_bd_t, show fW_told (qn c) 3 _ J = _ from c1, qp_bd_t]
      have g3 := zG_3 (K := K) (P := P) (s := zqe (wS n L0 d0) (w.take j)) (L := wL n L0 d0) (i := c)
      have w3 := zwn_le (K := K) (s := zqe (wS n L0 d0) (w.take j)) (i := c)
      rw [if_pos (by rw [qn_eq (by omega) (by omega)]; exact fun q => hQ ⟨hm, q⟩)]
      unfold fW_law_b1081
      exact go _ (lq_tr (lq_tr a2 b2) c2)
    · rw [if_neg hm, if_pos (by decide)]
      unfold fW_law_b1081
      exact go _ a2
theorem wb859 (hG : G.2.2.2.2.1 ≤ 260) (hok : wOk n L0 K P) (hl : d0.length ≤ 12) (h : wI n L0 K P d0 d0 kp I) :
    fW_law_b859 G (qn n) (qn d0.length) (qn (zrun n L0 d0).1.length) (qn (wL n L0 d0)) (qn (wA n L0 K P d0)) (qn (zmask (zcont K P (wS n L0 d0) (wL n L0 d0)) n)) (qn (2 ^ n - 1)) I J = some () := by
  have hn := hok.1
  have hn6 := hok.2.1
  have hP := xR_P h.1
  have ht := (xR_ok h.1).2.1
  unfold fW_law_b859
  by_cases hn1 : n ≤ 1
  · rw [if_pos (by show qn n ≤ qn 1; rw [qn_le (by omega) (by omega)]; exact hn1)]
    exact wb1203 hG hok hl h
  rw [if_neg (by show ¬ qn n ≤ qn 1; rw [qn_le (by omega) (by omega)]; exact hn1)]
  obtain ⟨x, ex⟩ := ew_cell (k := 9) hG (by omega)
  obtain ⟨a, ha, ea⟩ := ew_up (I := I) (J := J) x (m := n) hn (by omega)
  obtain ⟨y, ey⟩ := ew_cell (k := 10) hG (by omega)
  obtain ⟨q, hq, eq⟩ := ew_up (I := I) (J := J) y (m := n - 1) (by omega) (by omega)
  obtain ⟨z, ez⟩ := ew_cell (k := 11) hG (by omega)
  obtain ⟨c, hc, ec⟩ := ew_up (I := I) (J := J) z (m := n) hn (by omega)
  have eb : ((qn a + 1) + qn q) - ((qn a + 1) + qn q) / qn n * qn n = qn ((a + 1 + q) % n) := by
    show ((qn a + qn 1) + qn q) - ((qn a + qn 1) + qn q) / qn n * qn n = _
    rw [qn_add, qn_add, qn_div (by omega) (by omega), qn_mul, qn_mod]
  have hb := Nat.mod_lt (a + 1 + q) hn
  have hab : ¬ a = (a + 1 + q) % n := by
    intro e
    by_cases h1 : a + 1 + q < n
    · rw [Nat.mod_eq_of_lt h1] at e; omega
    · have : (a + 1 + q) % n = a + 1 + q - n := by
        rw [Nat.mod_eq_sub_mod (by omega), Nat.mod_eq_of_lt (by omega)]
      omega
  have en1 : qn n - 1 = qn (n - 1) := by show qn n - qn 1 = _; rw [qn_sub hn]
  rw [show fW_cell G 9 I J = _ from ex I J, qp_bd_t, qp_g_self, ea, qp_bd_t, qp_g_self, show fW_cell G 10 I J = _ from ey I J, qp_bd_t, qp_g_self, en1, eq, qp_bd_t, qp_g_self, qp_gd_t (by show ¬ qn n = qn 0; rw [qn_eq (by omega) (by omega)]; omega), show fW_cell G 11 I J = _ from ez I J, qp_bd_t, qp_g_self, ec, qp_bd_t, qp_g_self, eb]
  generalize hbd : (a + 1 + q) % n = b at hb hab ⊢
  obtain ⟨v, I1, a1, h1, hv, hrow⟩ := yc_wish (J := J) (a := a) (b := b) (c := c) h ha hb hc hab
  obtain ⟨M1, hM1⟩ : ∃ M, M = qp_g I I1 := ⟨_, rfl⟩
  rw [← hM1] at h1 hrow
  obtain ⟨I2, b1, b2⟩ := yc_told (J := J) (i := a) (w := 6) h1 ha (by omega)
  have h2 := wI_lq h1 b2
  obtain ⟨I3, c1, c2⟩ := yc_told (J := J) (i := c) (w := 3) h2 hc (by omega)
  rw [zone_6] at b1
  rw [zone_3] at c1
  -- what follows, whatever was asked before
  have go : ∀ (M : Nat → Nat → Int32) (s0 : Nat), lq M1 M → (s0 = if zQf K P (wL n L0 d0) a b c (wS n L0 d0) = true then 1 else 0) → fW_law_b959 G (qn n) (qn d0.length) (qn (zrun n L0 d0).1.length) (qn (wL n L0 d0)) (qn (wA n L0 K P d0)) (qn (zmask (zcont K P (wS n L0 d0) (wL n L0 d0)) n)) (qn (2 ^ n - 1)) (qn a) (qn b) (qn c) v (qn s0) M J = some () := by
    intro M s0 hM hs0
    have hm := wI_lq h1 hM
    have e1175 := wb1175 (G := G) (J := J) hG hok hl ha hb hc hab hm hv
    have e9 : ∀ k, k ≤ 3 → ¬ qn k < -9 ∧ ¬ 3 < qn k ∧ 0 ≤ qn k := by
      intro k hk
      rcases (show k = 0 ∨ k = 1 ∨ k = 2 ∨ k = 3 by omega) with rfl | rfl | rfl | rfl <;> decide
    rcases hv with ⟨k, w, hw, rfl⟩ | ⟨hno, rfl⟩
    · have hk3 := hw.1
      obtain ⟨q1, q2, q3⟩ := e9 k hk3
      unfold fW_law_b959
      rw [if_neg q1, if_neg q2, if_pos q3]
      unfold fW_law_b986
      by_cases hk0 : k = 0
      · subst hk0
        rw [if_pos ((zfw_0 hw).mp rfl)] at hs0
        subst hs0
        rw [if_neg (fun q => q rfl)]
        unfold fW_law_b996
        rw [if_pos (show (1 : Int32) = qn 1 from rfl), if_pos (by decide)]
        exact e1175
      · rw [if_neg (fun z => hk0 ((zfw_0 hw).mpr z))] at hs0
        subst hs0
        rw [if_pos (by show ¬ qn k = qn 0; rw [qn_eq (by omega) (by omega)]; exact hk0)]
        unfold fW_law_b996
        rw [if_pos (show (0 : Int32) = qn 0 from rfl), if_neg (by show ¬ qn k ≤ qn 0; rw [qn_le (by omega) (by omega)]; omega), qn_add]
        by_cases h12 : (zrun n L0 d0).1.length + k ≤ 12
        · rw [if_neg (by show ¬ qn 12 < qn _; rw [qn_lt (by omega) (by omega)]; omega)]
          obtain ⟨w', hw', hr'⟩ := hrow k w hw
          refine wb1021 (kp := kp) hG hok hl ha hb hc hab hw' h12 hP k 0 100000 M J (by omega) (by omega) ?_ (wWr_eq hr' (hM 2 (by unfold xqc; omega)) (hM 3 (by unfold xqc; omega)))
          rw [List.take_zero, List.map_nil, List.append_nil]; exact hm
        · rw [if_pos (by show qn 12 < qn _; rw [qn_lt (by omega) (by omega)]; omega)]
          exact e1175
    · rw [if_neg (wNo_0 hno)] at hs0
      subst hs0
      unfold fW_law_b959
      rw [if_neg (by decide), if_neg (by decide), if_neg (by decide), if_neg (fun q => q rfl)]
      unfold fW_law_b986
      rw [if_pos (by decide)]
      unfold fW_law_b996
      rw [if_pos (show (0 : Int32) = qn 0 from rfl), if_pos (by decide)]
      exact e1175
  have g3 := zG_3 (K := K) (P := P) (s := wS n L0 d0) (L := wL n L0 d0) (i := c)
  have w3 := zwn_le (K := K) (s := wS n L0 d0) (i := c)
  rw [a1, qp_bd_t, ← hM1, show fW_told (qn a) 6 M1 J = _ from b1, qp_bd_t, wmetbit hn6 hb]
  by_cases hm : zapart (wS n L0 d0) a b = true
  · rw [if_pos hm, if_neg (fun q => q rfl), qp_gd_t (q_g6 (by omega)), show fW_told (qn c) 3 (qp_g M1 I2) J = _ from c1, qp_bd_t, qn_nat (by omega), h2.2.2.2.2 c hc]
    by_cases hq2 : zG K P (wS n L0 d0) (wL n L0 d0) c = zwn K (wS n L0 d0) c
    · rw [if_neg (by rw [hq2]; exact fun q => q rfl)]
      exact go _ 1 (lq_tr b2 c2) (by rw [if_pos (zQf_iff.mpr ⟨hm, hq2⟩)])
    · rw [if_pos (by rw [qn_eq (by omega) (by omega)]; exact hq2)]
      unfold fW_law_b958
      exact go _ 0 (lq_tr b2 c2) (by rw [if_neg (fun q => hq2 (zQf_iff.mp q).2)])
  · rw [if_neg hm, if_pos (by decide)]
    unfold fW_law_b958
    exact go _ 0 b2 (by rw [if_neg (fun q => hm (zQf_iff.mp q).1)])
end LF

/-! WISH: the model's ways by number; alike -/
theorem zqd_len : ∀ (k c : Nat), (zqd k c).length = k
  | 0, _ => rfl
  | k + 1, c => by
    show (zqd k (c / 36) ++ [zqt (c % 36)]).length = k + 1
    rw [List.length_append, zqd_len k]; rfl
theorem zqd_64 : ∀ (k c : Nat), ∀ t, t ∈ zqd k c → t < 64
  | 0, _, t, h => by cases h
  | k + 1, c, t, h => by
    rcases List.mem_append.mp (show t ∈ zqd k (c / 36) ++ [zqt (c % 36)] from h) with h | h
    · exact zqd_64 k _ t h
    · rw [List.mem_singleton.mp h]
      unfold zqt
      omega
theorem zqM_at {k c : Nat} (h : c < 36 ^ k) : c < (zqM k).length ∧ zat' (zqM k) c = zqd k c := by
  have hl : (zqM k).length = 36 ^ k := by unfold zqM; rw [List.length_map, List.length_range]
  refine ⟨by rw [hl]; exact h, ?_⟩
  have h1 := zat'_get (zqM k) c (by rw [hl]; exact h)
  have h2 : (zqM k)[c]? = some (zqd k c) := by
    unfold zqM
    rw [List.getElem?_map, List.getElem?_range h]; rfl
  rw [h2] at h1
  exact (Option.some.inj h1).symm
section WI
variable {n L0 : Nat} {K P : Nat → Nat} {ds : List Nat} {kp : Nat → Option (List Nat)} {I : Nat → Nat → Int32} {J : Nat → Nat → Int64}
def zMG (I I' : Nat → Nat → Int32) : Prop := (∀ c, c ≠ 36 → c < 47 ∨ 52 < c → I' c = I c) ∧ ∀ j, j ≠ 20 → I' 36 j = I 36 j
theorem zMG_rfl : zMG I I := ⟨fun _ _ _ => rfl, fun _ _ => rfl⟩
theorem zMG_tr {I I1 I2 : Nat → Nat → Int32} (h : zMG I I1) (h' : zMG I1 I2) : zMG I I2 := ⟨fun c h1 h2 => (h'.1 c h1 h2).trans (h.1 c h1 h2), fun j hj => (h'.2 j hj).trans (h.2 j hj)⟩
theorem eM_dig {a2 a3 a4 a5 a7 a8 : Int32} : ∀ (k fuel c : Nat) (I : Nat → Nat → Int32), k ≤ 3 → k < fuel → c < 100000 → ∃ I', fM_goes_b19 fuel a2 a3 a4 a5 (qn c) a7 a8 (qn k - 1) I J = (qp_bd (fM_layHand I' J) fun _u I1 J1 => fM_goes_b68 100000 a2 a3 a4 a5 a7 a8 0 I1 J1) ∧ (∀ j, j < k → I' 52 j = qn (zat (zqd k c) j)) ∧ (∀ j, k ≤ j → I' 52 j = I 52 j) ∧ ∀ c, c ≠ 52 → I' c = I c := by
  intro k
  induction k with
  | zero =>
    intro fuel c I _ hf _
    obtain ⟨fu, rfl⟩ : ∃ fu, fuel = fu + 1 := ⟨fuel - 1, by omega⟩
    exact ⟨I, by rw [fM_goes_b19, if_pos (by decide)], fun j hj => absurd hj (Nat.not_lt_zero j), fun _ _ => rfl, fun _ _ => rfl⟩
  | succ k ih =>
    intro fuel c I hk hf hc
    obtain ⟨fu, rfl⟩ : ∃ fu, fuel = fu + 1 := ⟨fuel - 1, by omega⟩
    have ek : qn (k + 1) - 1 = qn k := qn_sub (b := 1) (by omega)
    have g0 : (0 : Int32) ≤ qn k ∧ qn k < 3 := by
      show qn 0 ≤ qn k ∧ qn k < qn 3
      rw [qn_le (by omega) (by omega), qn_lt (by omega) (by omega)]; omega
    have e36 : qn c / 36 = qn (c / 36) := qn_div (b := 36) (by omega) (by omega)
    have ev : (8 : Int32) * ((qn c - qn c / 36 * 36) / 6) + (qn c - qn c / 6 * 6) = qn (zqt (c % 36)) := by
      show qn 8 * ((qn c - qn c / qn 36 * qn 36) / qn 6) + (qn c - qn c / qn 6 * qn 6) = _
      rw [qn_div (by omega) (by omega), qn_div (by omega) (by omega), qn_mul, qn_mul, qn_mod, qn_mod, qn_div (by omega) (by omega), qn_mul, qn_add]
      unfold zqt
      rw [show c % 6 = c % 36 % 6 by omega]
    obtain ⟨I', h1, h2, h3, h4⟩ := ih fu (c / 36) (qp_up I 52 k (qn (zqt (c % 36)))) (by omega) (by omega) (by omega)
    refine ⟨I', ?_, fun j hj => ?_, fun j hj => ?_, fun c hc => ?_⟩
    · rw [← h1, ek, fM_goes_b19, if_neg (by show ¬ qn k < qn 0; rw [qn_lt (by omega) (by omega)]; omega), qp_gd_t g0, qn_nat (by omega), ev, e36, ← Int32.sub_eq_add_neg]
    · show I' 52 j = qn (zat (zqd k (c / 36) ++ [zqt (c % 36)]) j)
      rw [zat_app (by rw [zqd_len]; omega), zqd_len]
      by_cases e : j = k
      · rw [if_pos e, e, h3 k (Nat.le_refl k), qm_eq rfl]
      · rw [if_neg e]; exact h2 j (by omega)
    · rw [h3 j (by omega), qm_nj (by omega)]
    · rw [h4 c hc, qm_nk (Ne.symm hc)]
theorem q_ap : ∀ x, x < 6 → ∀ y, y < 6 → (decide (qn x - qn y = 1) = decide (x = y + 1)) ∧ (decide (qn x - qn y = -1) = decide (y = x + 1)) := by decide +kernel
theorem eM_165 {o : List Nat} {L a b c : Nat} (hP : zP n o) (hn : n ≤ 6) (hr : zrow 69 o (I 47)) (hk : ∀ i, i < n → K i ≤ 5 ∧ P i ≤ 9 ∧ I 37 (2 + i) = qn (K i) ∧ I 37 (8 + i) = qn (P i)) (h55 : I 37 55 = qn L) (hL : L ≤ 20) (ha : a < n) (hb : b < n) (hc : c < n) :
    ∃ I', fM_goes_b165 (qn a) (qn b) (qn c) (qn n) (qn 1) I J = some (qn (if zQf K P L a b c o = true then 1 else 0), I', J) ∧ zMF I I' := by
  have xa := zP_ix hP ha
  have xb := zP_ix hP hb
  have e1 := eM_placeIn_47 (J := J) (I := I) (i := a) hP hn hr (by omega) (by omega)
  have e2 := eM_placeIn_47 (J := J) (I := I) (i := b) hP hn hr (by omega) (by omega)
  obtain ⟨I1, a1, a2, a3⟩ := eM_sv_47 (K := K) (P := P) (J := J) (s := o) (off := 69) (L := L) (n := n) (I := I) hP.2.1 hP.1 (fun i hi => by have := (hP.2.2 i).1 hi; omega) hn hr (by omega) (fun i hi => hk i ((hP.2.2 i).1 hi)) h55 hL
  have v := a2.1 c ((hP.2.2 c).2 hc)
  have h1 := zG_3 (K := K) (P := P) (s := o) (L := L) (i := c)
  have h2 := zwn_le (K := K) (s := o) (i := c)
  obtain ⟨q1, q2⟩ := q_ap (zix a o) (by omega) (zix b o) (by omega)
  refine ⟨I1, ?_, a3⟩
  have tail : (if ¬ I1 48 (Int32.toNatClampNeg (qn c)) = I1 51 (Int32.toNatClampNeg (qn c)) then some ((0 : Int32), I1, J) else some (1, I1, J)) = some (qn (if zG K P o L c = zwn K o c then 1 else 0), I1, J) := by
    rw [qn_nat (by omega), v.1, v.2.1]
    by_cases hq : zG K P o L c = zwn K o c
    · rw [if_neg (by rw [hq]; exact fun q => q rfl), if_pos hq]; rfl
    · rw [if_pos (by rw [qn_eq (by omega) (by omega)]; exact hq), if_neg hq]; rfl
  unfold fM_goes_b165 zQf zapart
  rw [if_pos (by decide), show (69 : Int32) = qn 69 from rfl, e1, qp_bd_t, e2, qp_bd_t, a1, qp_bd_t]
  by_cases c1 : zix a o = zix b o + 1
  · rw [decide_eq_true c1] at q1
    rw [if_pos (of_decide_eq_true q1), qp_gd_t (q_g6 (by omega)), tail, decide_eq_true (Or.inl c1), Bool.true_and]
    by_cases hq : zG K P o L c = zwn K o c
    · rw [if_pos hq, if_pos (decide_eq_true hq)]
    · rw [if_neg hq, if_neg (fun q => hq (of_decide_eq_true q))]
  · rw [decide_eq_false c1] at q1
    rw [if_neg (of_decide_eq_false q1)]
    by_cases c2 : zix b o = zix a o + 1
    · rw [decide_eq_true c2] at q2
      rw [if_neg (fun q => q (of_decide_eq_true q2)), qp_gd_t (q_g6 (by omega)), tail, decide_eq_true (Or.inr c2), Bool.true_and]
      by_cases hq : zG K P o L c = zwn K o c
      · rw [if_pos hq, if_pos (decide_eq_true hq)]
      · rw [if_neg hq, if_neg (fun q => hq (of_decide_eq_true q))]
    · rw [decide_eq_false c2] at q2
      rw [if_pos (of_decide_eq_false q2), decide_eq_false (fun q => by rcases q with q | q; exact c1 q; exact c2 q), Bool.false_and]; rfl
theorem eM_goes {k c a b d : Nat} {I0 : Nat → Nat → Int32} (hS : zSt n L0 K P ds kp) (hM : zML n L0 K P ds (I0 37)) (hk : k ≤ 3) (hc : c < 100000) (ha : a < n) (hb : b < n) (hd : d < n) (hf : zMG I0 I) :
    ∃ I', fM_goes (qn c) (qn k) (qn a) (qn b) (qn d) I J = some (qn (if (zqv n (zls n (zrun n L0 ds).1) (zqd k c) && zQf K P (zrun n L0 ds).2 a b d (zqe (zls n (zrun n L0 ds).1) (zqd k c))) = true then 1 else 0), I', J) ∧ (∀ j, j < k → I' 52 j = qn (zat (zqd k c) j)) ∧ zMG I0 I' := by
  have hn := hS.1
  have hok := zSt_ok hS
  have hP := zSt_P hS
  obtain ⟨h5, h6, h7, h8, h9⟩ := hM
  have hwl := zqd_len k c
  have hw64 := zqd_64 k c
  obtain ⟨I1, a1, a2, a3, a4⟩ := eM_dig (J := J) (a2 := qn k) (a3 := qn a) (a4 := qn b) (a5 := qn d) (a7 := qn n) (a8 := 1) k 100000 c I hk (by omega) hc
  generalize zqd k c = w at hwl hw64 a2 ⊢
  generalize hs : zls n (zrun n L0 ds).1 = s at *
  generalize hLL : (zrun n L0 ds).2 = L at *
  have e37 : I1 37 = I0 37 := (a4 37 (by omega)).trans (hf.1 37 (by omega) (by omega))
  obtain ⟨I2, b1, b2, b3⟩ := eM_layHand (I := I1) (J := J)
  have f37 : I2 37 = I0 37 := (b3 37 (by omega)).trans e37
  have f52 : ∀ j, j < k → I2 52 j = qn (zat w j) := fun j hj => by rw [b3 52 (by omega)]; exact a2 j hj
  have fG : zMG I0 I2 := zMG_tr hf ⟨fun c h1 h2 => (b3 c (by omega)).trans (a4 c (by omega)), fun j hj => by rw [b3 36 (by omega), a4 36 (by omega)]⟩
  have hrow : zrow 69 s (I2 47) := fun p hp => by
    rw [hP.2.1] at hp
    rw [b2 _ (by omega), e37]
    have h := h9.2.2.2.2
    rw [hs] at h
    exact h p (by rw [hP.2.1]; exact hp)
  have hkM : ∀ i, i < n → K i ≤ 5 ∧ P i ≤ 9 ∧ I0 37 (2 + i) = qn (K i) ∧ I0 37 (8 + i) = qn (P i) := zSt_km hS h6
  have h55 : I0 37 55 = qn L := by rw [← hLL]; exact h9.2.1
  have hL20 : L ≤ 20 := by rw [← hLL]; exact hok.2.2
  have dead : ∀ I' : Nat → Nat → Int32, fM_goes_b165 (qn a) (qn b) (qn d) (qn n) (qn 0) I' J = some (0, I', J) := fun I' => by
    unfold fM_goes_b165
    rw [if_neg (by exact fun q => q rfl)]
  have fin0 : zqv n s w = false → (if (zqv n s w && zQf K P L a b d (zqe s w)) = true then 1 else 0) = 0 := fun h => by rw [h]; rfl
  unfold fM_goes
  rw [show I 37 0 = qn n by rw [hf.1 37 (by omega) (by omega)]; exact h9.1, a1, b1, qp_bd_t]
  refine lp (σ := Int32 × (Nat → Nat → Int32)) (R := fun o => ∃ I', o = some (qn (if (zqv n s w && zQf K P L a b d (zqe s w)) = true then 1 else 0), I', J) ∧ (∀ j, j < k → I' 52 j = qn (zat w j)) ∧ zMG I0 I')
    (Inv := fun j q => ((q.1 = qn 1 ∧ ∃ s', zP n s' ∧ zrow 69 s' (q.2 47) ∧ zqv n s w = zqv n s' (w.drop j) ∧ zqe s w = zqe s' (w.drop j)) ∨ (q.1 = qn 0 ∧ zqv n s w = false)) ∧ ∀ c, c ≠ 47 → q.2 c = I2 c)
    (fun fu j q => fM_goes_b68 fu (qn k) (qn a) (qn b) (qn d) (qn n) q.1 (qn j) q.2 J) k 100000 0 (1, I2) (Nat.zero_le _) (by omega) ⟨Or.inl ⟨rfl, s, hP, hrow, rfl, rfl⟩, fun _ _ => rfl⟩ ?_ ?_
  · rintro fu ⟨q, I3⟩ ⟨h, s3⟩
    dsimp only at h s3 ⊢
    have g52 : ∀ j, j < k → I3 52 j = qn (zat w j) := fun j hj => by rw [s3 52 (by omega)]; exact f52 j hj
    have gG : zMG I0 I3 := zMG_tr fG ⟨fun c h1 h2 => s3 c (by omega), fun j hj => by rw [s3 36 (by omega)]⟩
    rw [fM_goes_b68, if_pos (Int32.le_refl _)]
    rcases h with ⟨h1, s', hP', hr', hv, he⟩ | ⟨h1, hv⟩
    · rw [List.drop_of_length_le (by omega)] at hv he
      have hv' : zqv n s w = true := hv
      have he' : zqe s w = s' := he
      obtain ⟨I4, c1, c2⟩ := eM_165 (J := J) (I := I3) (K := K) (P := P) (L := L) (a := a) (b := b) (c := d) hP' hn hr' (by rw [s3 37 (by omega), f37]; exact hkM) (by rw [s3 37 (by omega), f37]; exact h55) hL20 ha hb hd
      refine ⟨I4, ?_, fun j hj => by rw [c2.1 52 (by omega) (by omega)]; exact g52 j hj, zMG_tr gG ⟨fun c h1 h2 => c2.1 c h1 (by omega), c2.2⟩⟩
      rw [h1, c1, hv', he', Bool.true_and]
    · exact ⟨I3, by rw [h1, dead, fin0 hv]; rfl, g52, gG⟩
  · rintro fu j ⟨q, I3⟩ hj ⟨h, s3⟩
    dsimp only at h s3 ⊢
    have g52 : ∀ j, j < k → I3 52 j = qn (zat w j) := fun j hj => by rw [s3 52 (by omega)]; exact f52 j hj
    have gG : zMG I0 I3 := zMG_tr fG ⟨fun c h1 h2 => s3 c (by omega), fun j hj => by rw [s3 36 (by omega)]⟩
    have c0 : ¬ qn k ≤ qn j := by rw [qn_le (by omega) (by omega)]; omega
    rcases h with ⟨h1, s', hP', hr', hv, he⟩ | ⟨h1, hv⟩
    case inr =>
      refine Or.inl ⟨I3, ?_, g52, gG⟩
      rw [fM_goes_b68, if_neg c0, h1, if_pos (show qn 0 = 0 from rfl), dead, fin0 hv]; rfl
    refine Or.inr ?_
    have ht64 := hw64 _ (zat_mem w j (by omega))
    have eW := g52 j hj
    rw [zat_drop w j (by omega)] at hv he
    generalize zat w j = t at ht64 eW hv he
    have hv' : zqv n s w = (decide (t / 8 < n ∧ t % 8 < n ∧ ¬ zat s' (t % 8) = t / 8) && zqv n (zmv (t / 8) (t % 8) s') (w.drop (j + 1))) := hv
    have he' : zqe s w = zqe (zmv (t / 8) (t % 8) s') (w.drop (j + 1)) := he
    have g0 : (0 : Int32) ≤ qn j ∧ qn j < 3 := by
      show qn 0 ≤ qn j ∧ qn j < qn 3
      rw [qn_le (by omega) (by omega), qn_lt (by omega) (by omega)]; omega
    have ed : qn t / 8 = qn (t / 8) := qn_div (b := 8) (by omega) (by omega)
    have em : qn t - qn t / 8 * 8 = qn (t % 8) := by
      show qn t - qn t / qn 8 * qn 8 = _
      rw [qn_div (by omega) (by omega), qn_mul, qn_mod]
    have ej : qn j + 1 = qn (j + 1) := qn_add j 1
    have bad : ¬ (t / 8 < n ∧ t % 8 < n ∧ ¬ zat s' (t % 8) = t / 8) → fM_goes_b68 (fu + 1) (qn k) (qn a) (qn b) (qn d) (qn n) q (qn j) I3 J = fM_goes_b68 fu (qn k) (qn a) (qn b) (qn d) (qn n) (qn 0) (qn (j + 1)) I3 J → ∃ s' : Int32 × (Nat → Nat → Int32), (((s'.1 = qn 1 ∧ ∃ s'', zP n s'' ∧ zrow 69 s'' (s'.2 47) ∧ zqv n s w = zqv n s'' (w.drop (j + 1)) ∧ zqe s w = zqe s'' (w.drop (j + 1))) ∨ (s'.1 = qn 0 ∧ zqv n s w = false)) ∧ ∀ c, c ≠ 47 → s'.2 c = I2 c) ∧ fM_goes_b68 (fu + 1) (qn k) (qn a) (qn b) (qn d) (qn n) q (qn j) I3 J = fM_goes_b68 fu (qn k) (qn a) (qn b) (qn d) (qn n) s'.1 (qn (j + 1)) s'.2 J := fun hb hrun => ⟨(qn 0, I3), ⟨Or.inr ⟨rfl, by rw [hv', decide_eq_false hb]; rfl⟩, s3⟩, hrun⟩
    have start : fM_goes_b68 (fu + 1) (qn k) (qn a) (qn b) (qn d) (qn n) q (qn j) I3 J = if qn n ≤ qn (t / 8) then fM_goes_b68 fu (qn k) (qn a) (qn b) (qn d) (qn n) (qn 0) (qn (j + 1)) I3 J else if qn n ≤ qn (t % 8) then fM_goes_b68 fu (qn k) (qn a) (qn b) (qn d) (qn n) (qn 0) (qn (j + 1)) I3 J else qp_gd (0 ≤ (69 : Int32) + qn (t % 8) ∧ (69 : Int32) + qn (t % 8) < 75) (if I3 47 (Int32.toNatClampNeg ((69 : Int32) + qn (t % 8))) = qn (t / 8) then fM_goes_b68 fu (qn k) (qn a) (qn b) (qn d) (qn n) (qn 0) (qn (j + 1)) I3 J else qp_bd (fM_goTo_47 69 (qn n) (qn (t / 8)) (qn (t % 8)) I3 J) fun _u I4 J4 => fM_goes_b68 fu (qn k) (qn a) (qn b) (qn d) (qn n) 1 (qn (j + 1)) I4 J4) := by
      rw [fM_goes_b68, if_neg c0, h1, if_neg (by decide), qp_gd_t g0, qn_nat (by omega), eW, em, ed]
      unfold fM_goes_b136 fM_goes_b137
      rw [ej, if_pos (show (0 : Int32) = 0 from rfl), if_neg (show ¬ (1 : Int32) = 0 by decide)]; rfl
    by_cases c1 : n ≤ t / 8
    · rw [if_pos (by rw [qn_le (by omega) (by omega)]; exact c1)] at start
      exact bad (fun h => by omega) start
    rw [if_neg (by rw [qn_le (by omega) (by omega)]; exact c1)] at start
    by_cases c2 : n ≤ t % 8
    · rw [if_pos (by rw [qn_le (by omega) (by omega)]; exact c2)] at start
      exact bad (fun h => by omega) start
    have e69 : (69 : Int32) + qn (t % 8) = qn (69 + t % 8) := qn_add 69 _
    have e47 : I3 47 (69 + t % 8) = qn (zat s' (t % 8)) := hr' (t % 8) (by rw [hP'.2.1]; omega)
    have hz := zP_at hP' (show t % 8 < n by omega)
    rw [if_neg (by rw [qn_le (by omega) (by omega)]; exact c2), e69, qp_gd_t (by show qn 0 ≤ qn _ ∧ qn _ < qn 75; rw [qn_le (by omega) (by omega), qn_lt (by omega) (by omega)]; omega), qn_nat (by omega), e47] at start
    by_cases c3 : zat s' (t % 8) = t / 8
    · rw [if_pos (by rw [c3])] at start
      exact bad (fun h => h.2.2 c3) start
    rw [if_neg (by rw [qn_eq (by omega) (by omega)]; exact c3)] at start
    obtain ⟨I4, g1, g2, g3⟩ := eM_goTo_47 (J := J) (I := I3) (off := 69) (i := t / 8) (p := t % 8) hP' hn hr' (by omega) (by omega) (by omega)
    have g1' : fM_goTo_47 69 (qn n) (qn (t / 8)) (qn (t % 8)) I3 J = some ((), I4, J) := g1
    rw [g1', qp_bd_t] at start
    refine ⟨(qn 1, I4), ⟨Or.inl ⟨rfl, zmv (t / 8) (t % 8) s', zmv_P hP' (by omega), g2, ?_, he'⟩, fun c hc => (g3.1 c hc).trans (s3 c hc)⟩, start⟩
    rw [hv', decide_eq_true ⟨by omega, by omega, c3⟩, Bool.true_and]
/-- a row of the model's gets the way -/
def zMR (r k : Nat) (w : List Nat) (I I' : Nat → Nat → Int32) : Prop :=
  I' 41 = qp_up1 (I 41) r (qn k) ∧ (I' 40 = fun j => if r * 40 ≤ j ∧ j < r * 40 + k then qn (zat w (j - r * 40)) else I 40 j) ∧ (∀ c, c ≠ 36 → c ≠ 40 → c ≠ 41 → c < 47 ∨ 52 < c → I' c = I c) ∧ ∀ j, j ≠ 20 → I' 36 j = I 36 j
theorem eM_87w {r k : Nat} {w : List Nat} (hr : r < 6) (hk : k ≤ 3) (h52 : ∀ j, j < k → I 52 j = qn (zat w j)) :
    ∃ I', fM_wish_b87 100000 (qn r) (qn k) 0 (qp_up I 41 r (qn k)) J = some (qn k, I', J) ∧ zMR r k w I I' := by
  refine lp (σ := Nat → Nat → Int32) (R := fun o => ∃ I', o = some (qn k, I', J) ∧ zMR r k w I I') (Inv := fun t I' => (∀ j, r * 40 ≤ j → j < r * 40 + t → I' 40 j = qn (zat w (j - r * 40))) ∧ (∀ j, j < r * 40 ∨ r * 40 + t ≤ j → I' 40 j = I 40 j) ∧ I' 41 = qp_up1 (I 41) r (qn k) ∧ ∀ c, c ≠ 40 → c ≠ 41 → I' c = I c)
    (fun fu t I' => fM_wish_b87 fu (qn r) (qn k) (qn t) I' J) k 100000 0 (qp_up I 41 r (qn k)) (Nat.zero_le _) (by omega) ⟨fun j h1 h2 => by omega, fun j hj => by rw [qm_nk (by omega)], qm_own, fun c h1 h2 => qm_nk (Ne.symm h2)⟩ ?_ ?_
  · rintro fu I1 ⟨s1, s2, s3, s4⟩
    refine ⟨I1, by rw [fM_wish_b87, if_pos (Int32.le_refl _)], s3, ?_, fun c h1 h2 h3 h4 => s4 c h2 h3, fun j hj => by rw [s4 36 (by omega) (by omega)]⟩
    funext j
    by_cases hj : r * 40 ≤ j ∧ j < r * 40 + k
    · rw [if_pos hj]; exact s1 j hj.1 hj.2
    · rw [if_neg hj]; exact s2 j (by omega)
  · rintro fu t I1 ht ⟨s1, s2, s3, s4⟩
    have g0 : (0 : Int32) ≤ qn t ∧ qn t < 3 := by
      show qn 0 ≤ qn t ∧ qn t < qn 3
      rw [qn_le (by omega) (by omega), qn_lt (by omega) (by omega)]; omega
    have ex : (40 : Int32) * qn r + qn t = qn (r * 40 + t) := by
      show qn 40 * qn r + qn t = _
      rw [qn_mul, qn_add, Nat.mul_comm]
    refine Or.inr ⟨qp_up I1 40 (r * 40 + t) (qn (zat w t)), ⟨fun j h1 h2 => ?_, fun j hj => by rw [qm_nj (by omega)]; exact s2 j (by omega), by rw [qm_nk (by omega)]; exact s3, fun c h1 h2 => by rw [qm_nk (Ne.symm h1)]; exact s4 c h1 h2⟩, ?_⟩
    · rw [qm_if]
      by_cases e : r * 40 + t = j
      · rw [if_pos e, ← e, show r * 40 + t - r * 40 = t by omega]
      · rw [if_neg e]; exact s1 j h1 (by omega)
    · rw [fM_wish_b87, if_neg (by rw [qn_le (by omega) (by omega)]; omega), ex, qp_gd_t ⟨g0, q_g240 (by omega)⟩, qn_nat (by omega), qn_nat (by omega), s4 52 (by omega) (by omega), h52 t ht, show qn t + 1 = qn (t + 1) from qn_add t 1]
theorem zMR_G {r k : Nat} {w : List Nat} {I0 I I' : Nat → Nat → Int32} (hf : zMG I0 I) (h : zMR r k w I I') : zMR r k w I0 I' := by
  obtain ⟨h1, h2, h3, h4⟩ := h
  refine ⟨by rw [h1, hf.1 41 (by omega) (by omega)], by rw [h2, hf.1 40 (by omega) (by omega)], fun c g1 g2 g3 g4 => (h3 c g1 g2 g3 g4).trans (hf.1 c g1 g4), fun j hj => (h4 j hj).trans (hf.2 j hj)⟩
theorem zp36 : ∀ k, k ≤ 3 → 36 ^ k ≤ 46656 := fun k hk => Nat.le_trans (Nat.pow_le_pow_right (by decide) hk) (by decide : 36 ^ 3 ≤ 46656)
theorem eM_wish_s {a b d r : Nat} {I0 : Nat → Nat → Int32} (hS : zSt n L0 K P ds kp) (hM : zML n L0 K P ds (I0 37)) (ha : a < n) (hb : b < n) (hd : d < n) (hr : r < 6) : ∀ (m k fuel : Nat) (I : Nat → Nat → Int32), k + m = 4 → m < fuel → zMG I0 I → (∀ j, j < k → (zqW n j).find? (fun w => zQf K P (zrun n L0 ds).2 a b d (zqe (zls n (zrun n L0 ds).1) w)) = none) →
    (∀ k' w, k ≤ k' → zfw n (zls n (zrun n L0 ds).1) (zQf K P (zrun n L0 ds).2 a b d) k' w → ∃ I', fM_wish_b45 fuel (qn a) (qn b) (qn d) (qn r) (qn (36 ^ k)) (qn k) I J = some (qn k', I', J) ∧ zMR r k' w I0 I') ∧
    ((∀ j, j ≤ 3 → (zqW n j).find? (fun w => zQf K P (zrun n L0 ds).2 a b d (zqe (zls n (zrun n L0 ds).1) w)) = none) → ∃ I', fM_wish_b45 fuel (qn a) (qn b) (qn d) (qn r) (qn (36 ^ k)) (qn k) I J = some (-9, I', J) ∧ zMG I0 I') := by
  have hP := zSt_P hS
  intro m
  induction m with
  | zero =>
    intro k fuel I hk hf hfr hno
    obtain ⟨fu, rfl⟩ : ∃ fu, fuel = fu + 1 := ⟨fuel - 1, by omega⟩
    refine ⟨fun k' w h1 h2 => ?_, fun _ => ⟨I, ?_, hfr⟩⟩
    · have := h2.1; omega
    · rw [fM_wish_b45, if_pos (by show qn 3 < qn k; rw [qn_lt (by omega) (by omega)]; omega)]
  | succ m ih =>
    intro k fuel I hk hf hfr hno
    obtain ⟨fu, rfl⟩ : ∃ fu, fuel = fu + 1 := ⟨fuel - 1, by omega⟩
    obtain ⟨Q, hQ⟩ : ∃ Q, Q = zQf K P (zrun n L0 ds).2 a b d := ⟨_, rfl⟩
    obtain ⟨s, hs⟩ : ∃ s, s = zls n (zrun n L0 ds).1 := ⟨_, rfl⟩
    rw [← hQ, ← hs] at hno ih ⊢
    rw [← hs] at hP
    have h36 := zp36 k (by omega)
    have hfind := zqM_find (n := n) (s := s) (Q := Q) (k := k) hP hno
    have stage : (∀ w, (zqW n k).find? (fun w => Q (zqe s w)) = some w → ∃ I', fM_wish_b54 (fun a0 a1 a2 a3 a4 a5 I J => fM_wish_b45 fu a0 a1 a2 a3 a4 a5 I J) 100000 (qn a) (qn b) (qn d) (qn r) (qn (36 ^ k)) (qn k) 0 I J = some (qn k, I', J) ∧ zMR r k w I0 I') ∧
        ((zqW n k).find? (fun w => Q (zqe s w)) = none → ∃ I', fM_wish_b54 (fun a0 a1 a2 a3 a4 a5 I J => fM_wish_b45 fu a0 a1 a2 a3 a4 a5 I J) 100000 (qn a) (qn b) (qn d) (qn r) (qn (36 ^ k)) (qn k) 0 I J = fM_wish_b45 fu (qn a) (qn b) (qn d) (qn r) (qn (36 ^ (k + 1))) (qn (k + 1)) I' J ∧ zMG I0 I') := by
      rw [← hfind]
      refine lp (σ := Nat → Nat → Int32) (R := fun o => (∀ w, (zqM k).find? (fun w => zqv n s w && Q (zqe s w)) = some w → ∃ I', o = some (qn k, I', J) ∧ zMR r k w I0 I') ∧ ((zqM k).find? (fun w => zqv n s w && Q (zqe s w)) = none → ∃ I', o = fM_wish_b45 fu (qn a) (qn b) (qn d) (qn r) (qn (36 ^ (k + 1))) (qn (k + 1)) I' J ∧ zMG I0 I'))
        (Inv := fun c I' => (∀ x, x ∈ (zqM k).take c → ¬ (zqv n s x && Q (zqe s x)) = true) ∧ zMG I0 I') (fun fu' c I' => fM_wish_b54 (fun a0 a1 a2 a3 a4 a5 I J => fM_wish_b45 fu a0 a1 a2 a3 a4 a5 I J) fu' (qn a) (qn b) (qn d) (qn r) (qn (36 ^ k)) (qn k) (qn c) I' J) (36 ^ k) 100000 0 I (Nat.zero_le _) (by omega) ⟨fun x hx => (by cases hx), hfr⟩ ?_ ?_
      · rintro fu' I1 ⟨s1, s2⟩
        have hl : (zqM k).length = 36 ^ k := by unfold zqM; rw [List.length_map, List.length_range]
        rw [← hl, List.take_length] at s1
        have hno1 : (zqM k).find? (fun w => zqv n s w && Q (zqe s w)) = none := List.find?_eq_none.mpr s1
        refine ⟨fun w hw => (by rw [hno1] at hw; cases hw), fun _ => ⟨I1, ?_, s2⟩⟩
        rw [fM_wish_b54, if_pos (Int32.le_refl _), show qn (36 ^ k) * 36 = qn (36 ^ (k + 1)) from qn_mul _ 36, show qn k + 1 = qn (k + 1) from qn_add k 1]
      · rintro fu' c I1 hc ⟨s1, s2⟩
        obtain ⟨hcl, hcz⟩ := zqM_at hc
        obtain ⟨I2, g1, g2, g3⟩ := eM_goes (J := J) (I := I1) (k := k) (c := c) hS hM (by omega) (by omega) ha hb hd s2
        rw [← hQ, ← hs] at g1
        have run : fM_wish_b54 (fun a0 a1 a2 a3 a4 a5 I J => fM_wish_b45 fu a0 a1 a2 a3 a4 a5 I J) (fu' + 1) (qn a) (qn b) (qn d) (qn r) (qn (36 ^ k)) (qn k) (qn c) I1 J = if (zqv n s (zqd k c) && Q (zqe s (zqd k c))) = true then fM_wish_b87 100000 (qn r) (qn k) 0 (qp_up I2 41 r (qn k)) J else fM_wish_b54 (fun a0 a1 a2 a3 a4 a5 I J => fM_wish_b45 fu a0 a1 a2 a3 a4 a5 I J) fu' (qn a) (qn b) (qn d) (qn r) (qn (36 ^ k)) (qn k) (qn (c + 1)) I2 J := by
          rw [fM_wish_b54, if_neg (by rw [qn_le (by omega) (by omega)]; omega), g1, qp_bd_t, show qn c + 1 = qn (c + 1) from qn_add c 1]
          by_cases hq : (zqv n s (zqd k c) && Q (zqe s (zqd k c))) = true
          · rw [if_pos hq, if_neg (by decide), qp_gd_t (q_g6 hr), qn_nat (by omega), if_pos hq]
          · rw [if_neg hq, if_pos (show qn 0 = 0 from rfl), if_neg hq]
        by_cases hq : (zqv n s (zqd k c) && Q (zqe s (zqd k c))) = true
        · rw [if_pos hq] at run
          have hf1 := zq_fs (α := Nat) (p := fun w => zqv n s w && Q (zqe s w)) hcl s1 (by rw [hcz]; exact hq)
          rw [hcz] at hf1
          obtain ⟨I3, r1, r2⟩ := eM_87w (J := J) (I := I2) (w := zqd k c) hr (show k ≤ 3 by omega) g2
          refine Or.inl ⟨fun w hw => ?_, fun hw => (by rw [hf1] at hw; cases hw)⟩
          rw [hf1] at hw
          rw [← Option.some.inj hw]
          exact ⟨I3, run.trans r1, zMR_G g3 r2⟩
        · rw [if_neg hq] at run
          refine Or.inr ⟨I2, ⟨fun x hx => ?_, g3⟩, run⟩
          rw [zat'_take hcl, hcz] at hx
          rcases List.mem_append.mp hx with hx | hx
          · exact s1 x hx
          · rw [List.mem_singleton.mp hx]; exact hq
    have run0 : fM_wish_b45 (fu + 1) (qn a) (qn b) (qn d) (qn r) (qn (36 ^ k)) (qn k) I J = fM_wish_b54 (fun a0 a1 a2 a3 a4 a5 I J => fM_wish_b45 fu a0 a1 a2 a3 a4 a5 I J) 100000 (qn a) (qn b) (qn d) (qn r) (qn (36 ^ k)) (qn k) 0 I J := by
      rw [fM_wish_b45, if_neg (by show ¬ qn 3 < qn k; rw [qn_lt (by omega) (by omega)]; omega)]
    rw [run0]
    cases hw : (zqW n k).find? (fun w => Q (zqe s w)) with
    | some w0 =>
      obtain ⟨I1, g1, g2⟩ := stage.1 w0 hw
      refine ⟨fun k' w h1 h2 => ?_, fun h => ?_⟩
      · have hkk : k' = k := by
          by_cases h : k' = k
          · exact h
          · have := h2.2.2 k (by omega)
            rw [hw] at this; cases this
        subst hkk
        have h3 := h2.2.1
        rw [hw] at h3
        rw [← Option.some.inj h3]
        exact ⟨I1, g1, g2⟩
      · have := h k (by omega)
        rw [hw] at this; cases this
    | none =>
      obtain ⟨I1, g1, g2⟩ := stage.2 hw
      have hno' : ∀ j, j < k + 1 → (zqW n j).find? (fun w => Q (zqe s w)) = none := fun j hj => by
        rcases (show j < k ∨ j = k by omega) with h | h
        · exact hno j h
        · rw [h]; exact hw
      obtain ⟨i1, i2⟩ := ih (k + 1) fu I1 (by omega) (by omega) g2 hno'
      rw [g1]
      refine ⟨fun k' w h1 h2 => i1 k' w ?_ h2, i2⟩
      by_cases h : k' = k
      · subst h
        have := h2.2.1
        rw [hw] at this; cases this
      · omega
end WI
theorem sim_wish (p1 p2 p3 p4 : Int32) : zsim (fX_wish p1 p2 p3 p4) (fM_wish p1 p2 p3 p4) := by
  intro I J h
  obtain ⟨n, L0, K, P, ds, kp, hR⟩ := id h
  obtain ⟨hS, hC, hL⟩ := hR
  have hn := hS.1
  have hP := zSt_P hS
  have hok := zSt_ok hS
  obtain ⟨⟨h1, h2, h3⟩, h4, hM, h10⟩ := id hL
  have e0 : I 15 0 = qn n := h3.1
  have e0' : I 37 0 = qn n := hM.2.2.2.2.1
  rcases qn_cs n (by omega) p1 with ⟨a, ha, rfl⟩ | ⟨-, hp⟩
  case inr =>
    refine ⟨-qn 1, I, J, I, J, ?_, ?_, h⟩
    · unfold fX_wish
      rw [eC_hasF e0 hp]; rfl
    · unfold fM_wish
      rw [eM_isOneF e0' hn hp]; rfl
  rcases qn_cs n (by omega) p2 with ⟨b, hb, rfl⟩ | ⟨-, hp⟩
  case inr =>
    refine ⟨-qn 1, I, J, I, J, ?_, ?_, h⟩
    · unfold fX_wish
      rw [eC_has e0 hn ha, qp_bd_t, if_neg (by decide), eC_hasF e0 hp]; rfl
    · unfold fM_wish
      rw [eM_isOne e0' hn ha, qp_bd_t, if_neg (by decide), eM_isOneF e0' hn hp]; rfl
  rcases qn_cs n (by omega) p3 with ⟨d, hd, rfl⟩ | ⟨-, hp⟩
  case inr =>
    refine ⟨-qn 1, I, J, I, J, ?_, ?_, h⟩
    · unfold fX_wish
      rw [eC_has e0 hn ha, qp_bd_t, if_neg (by decide), eC_has e0 hn hb, qp_bd_t, if_neg (by decide), eC_hasF e0 hp]; rfl
    · unfold fM_wish
      rw [eM_isOne e0' hn ha, qp_bd_t, if_neg (by decide), eM_isOne e0' hn hb, qp_bd_t, if_neg (by decide), eM_isOneF e0' hn hp]
      split <;> rfl
  by_cases hab : a = b
  · refine ⟨-qn 1, I, J, I, J, ?_, ?_, h⟩
    · unfold fX_wish
      rw [eC_has e0 hn ha, qp_bd_t, if_neg (by decide), eC_has e0 hn hb, qp_bd_t, if_neg (by decide), eC_has e0 hn hd, qp_bd_t, if_neg (by decide), if_pos (by rw [hab])]; rfl
    · unfold fM_wish
      rw [eM_isOne e0' hn ha, qp_bd_t, if_neg (by decide), eM_isOne e0' hn hb, qp_bd_t, if_neg (by decide), if_pos (by rw [hab])]; rfl
  have cab : ¬ qn a = qn b := by rw [qn_eq (by omega) (by omega)]; exact hab
  have goX : fX_wish (qn a) (qn b) (qn d) p4 I J = qp_bd (fS_isNumber_1 p4 I J) fun v4 I4 J4 => if ¬ v4 = 0 then (qp_bd (fH_fewest (qn a) (qn b) (qn d) I4 J4) fun v5 I5 J5 => if ¬ v5 = (-9) then (qp_bd (fS_fresh_1 p4 v5 0 I5 J5) fun _u I6 J6 => fX_wish_b92 100000 p4 v5 0 I6 J6) else some ((-9), I5, J5)) else some ((-1), I4, J4) := by
    unfold fX_wish
    rw [eC_has e0 hn ha, qp_bd_t, if_neg (by decide), eC_has e0 hn hb, qp_bd_t, if_neg (by decide), eC_has e0 hn hd, qp_bd_t, if_neg (by decide), if_neg cab]
  have goM : ∀ (I' : Nat → Nat → Int32) (J' : Nat → Nat → Int64), I' 37 = I 37 → fM_wish (qn a) (qn b) (qn d) p4 I' J' = qp_bd (fM_isRow p4 I' J') fun v4 I4 J4 => if ¬ v4 = 0 then fM_wish_b45 100000 (qn a) (qn b) (qn d) p4 1 0 I4 J4 else some ((-1), I4, J4) := by
    intro I' J' e
    have e0'' : I' 37 0 = qn n := by rw [e]; exact e0'
    unfold fM_wish
    rw [eM_isOne e0'' hn ha, qp_bd_t, if_neg (by decide), eM_isOne e0'' hn hb, qp_bd_t, if_neg (by decide), if_neg cab, eM_isOne e0'' hn hd, qp_bd_t, if_neg (by decide)]
  rcases qn_cs 6 (by omega) p4 with ⟨r, hr, rfl⟩ | ⟨-, hp⟩
  case inr =>
    refine ⟨-qn 1, I, J, I, J, ?_, ?_, h⟩
    · rw [goX, eS1_numF hp]; rfl
    · rw [goM I J rfl, eM_isRowF hp]; rfl
  have hX : zXk n K P (zrun n L0 ds).2 I := ⟨zSt_kx hS h2, e0, h3.2.2.1, hok.2.2⟩
  have hzl : ∀ c, zlc c → c ≠ 25 ∧ c ≠ 26 ∧ c ≠ 27 ∧ c ≠ 28 := fun c hc => by unfold zlc at hc; omega
  rcases eH_fewest (J := J) (a := a) (b := b) (c := d) hP hn hX h3.2.1 ha hb hd with ⟨k, w, I1, f1, f2, f3, f4⟩ | ⟨hno, I1, f2, f4⟩
  case inr =>
    have r1 : zR I1 J := zR_scr h (fun c hc => by unfold zlc zcc at hc; exact f4 c (by omega)) (by rw [f4 36 (by omega)]) (by rw [f4 36 (by omega)])
    obtain ⟨-, i2⟩ := eM_wish_s (J := J) (I0 := I1) (a := a) (b := b) (d := d) (r := r) hS (by rw [f4 37 (by omega)]; exact hM) ha hb hd hr 4 0 100000 I1 rfl (by omega) zMG_rfl (fun j hj => absurd hj (Nat.not_lt_zero j))
    obtain ⟨I2, g1, g2⟩ := i2 hno
    refine ⟨-9, I1, J, I2, J, ?_, ?_, zR_scr r1 (fun c hc => by unfold zlc zcc at hc; exact g2.1 c (by omega) (by omega)) (g2.2 8 (by omega)) (g2.2 9 (by omega))⟩
    · rw [goX, eS1_num hr, qp_bd_t, if_pos (by decide), f2, qp_bd_t, if_neg (by exact fun q => q rfl)]
    · rw [goM I1 J (f4 37 (by omega)), eM_isRow hr, qp_bd_t, if_pos (by decide)]
      exact g1
  have hk3 := f1.1
  have hw := zqW_ok k w (List.mem_of_find?_eq_some f1.2.1)
  obtain ⟨I2, t1, t2, t3, t4⟩ := eX_tellWay (I := I1) (J := J) (r := r) (k := k) (w := w) (by rw [f4 1 (by omega)]; exact hC.1.1) hr hk3 hw.1 (fun t ht => zqx_64 hn (hw.2 t ht)) f3
  obtain ⟨i1, -⟩ := eM_wish_s (J := J) (I0 := I2) (a := a) (b := b) (d := d) (r := r) hS (by rw [t4 37 (by omega) (by omega), f4 37 (by omega)]; exact hM) ha hb hd hr 4 0 100000 I2 rfl (by omega) zMG_rfl (fun j hj => absurd hj (Nat.not_lt_zero j))
  obtain ⟨I3, g1, g2, g3, g4, g5⟩ := i1 k w (Nat.zero_le k) f1
  have q9 : ∀ k, k ≤ 3 → ¬ qn k = -9 := by
    intro k hk
    rcases (show k = 0 ∨ k = 1 ∨ k = 2 ∨ k = 3 by omega) with rfl | rfl | rfl | rfl <;> decide
  refine ⟨qn k, I2, J, I3, J, ?_, ?_, ?_⟩
  · rw [goX, eS1_num hr, qp_bd_t, if_pos (by decide), f2, qp_bd_t, if_pos (q9 k hk3)]
    exact t1
  · rw [goM I2 J (by rw [t4 37 (by omega) (by omega), f4 37 (by omega)]), eM_isRow hr, qp_bd_t, if_pos (by decide)]
    exact g1
  · obtain ⟨Im, hIm⟩ : ∃ Im : Nat → Nat → Int32, Im = fun c => if c = 2 ∨ c = 3 ∨ c = 40 ∨ c = 41 then I c else I3 c := ⟨_, rfl⟩
    have m1 : ∀ c, c = 2 ∨ c = 3 ∨ c = 40 ∨ c = 41 → Im c = I c := fun c hc => by rw [hIm]; dsimp only; rw [if_pos hc]
    have m2 : ∀ c, ¬ (c = 2 ∨ c = 3 ∨ c = 40 ∨ c = 41) → Im c = I3 c := fun c hc => by rw [hIm]; dsimp only; rw [if_neg hc]
    have rm : zR Im J := zR_scr h (fun c hc => by
      by_cases hc4 : c = 2 ∨ c = 3 ∨ c = 40 ∨ c = 41
      · exact m1 c hc4
      · unfold zlc zcc at hc
        rw [m2 c hc4, g4 c (by omega) (by omega) (by omega) (by omega), t4 c (by omega) (by omega)]
        exact f4 c (by omega)) (by rw [m2 36 (by omega), g5 8 (by omega), t4 36 (by omega) (by omega), f4 36 (by omega)]) (by rw [m2 36 (by omega), g5 9 (by omega), t4 36 (by omega) (by omega), f4 36 (by omega)])
    have x2 : I3 2 = qp_up1 (I 2) r (qn k) := by rw [g4 2 (by omega) (by omega) (by omega) (by omega), t2, f4 2 (by omega)]
    refine zR_r1 rm (fun c k1 k2 k3 k4 => (m2 c (by omega)).symm) ?_ ?_ ?_
    · rw [x2, g2, t4 41 (by omega) (by omega), f4 41 (by omega), hC.2.1.1]
    · rw [g3, g4 3 (by omega) (by omega) (by omega) (by omega), t3, t4 40 (by omega) (by omega), f4 40 (by omega), f4 3 (by omega), hC.2.1.2.1]
    · intro r' hr'
      rw [x2, qp_up1_if]
      by_cases e : r = r'
      · rw [if_pos e]; exact Or.inr ⟨k, by omega, rfl⟩
      · rw [if_neg e]; exact hC.2.2.2.1 r' hr'

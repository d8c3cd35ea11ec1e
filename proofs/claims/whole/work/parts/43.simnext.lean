/-! LINES, CAN, NEXT: alike -/
def zmx (f : Nat → Nat) : Nat → Nat
  | 0 => 0
  | k + 1 => if f k ≤ zmx f k then zmx f k else f k
theorem zmx_le {f : Nat → Nat} {b : Nat} (h : ∀ k, f k ≤ b) : ∀ k, zmx f k ≤ b
  | 0 => Nat.zero_le _
  | k + 1 => by
    have := zmx_le h k
    have := h k
    unfold zmx
    split <;> assumption
theorem zmx_K {f : Nat → Nat} {k : Nat} (h : f k ≤ zmx f k) : zmx f (k + 1) = zmx f k := by
  show (if _ then _ else _) = _
  rw [if_pos h]
theorem zmx_N {f : Nat → Nat} {k : Nat} (h : ¬ f k ≤ zmx f k) : zmx f (k + 1) = f k := by
  show (if _ then _ else _) = _
  rw [if_neg h]
def zmn (g : Nat → Nat) : Nat → Nat
  | 0 => 0
  | k + 1 => if k = 0 then 0 else if g (zmn g k) ≤ g k then zmn g k else k
theorem zmn_lt {g : Nat → Nat} : ∀ k, 0 < k → zmn g k < k
  | k + 1, _ => by
    by_cases h0 : k = 0
    · subst h0; exact Nat.zero_lt_one
    · have := zmn_lt (g := g) k (by omega)
      show (if k = 0 then 0 else if g (zmn g k) ≤ g k then zmn g k else k) < k + 1
      rw [if_neg h0]
      split <;> omega
theorem zmn_K {g : Nat → Nat} {k : Nat} (h0 : ¬ k = 0) (h : g (zmn g k) ≤ g k) : zmn g (k + 1) = zmn g k := by
  show (if k = 0 then 0 else if g (zmn g k) ≤ g k then zmn g k else k) = _
  rw [if_neg h0, if_pos h]
theorem zmn_N {g : Nat → Nat} {k : Nat} (h0 : ¬ k = 0) (h : ¬ g (zmn g k) ≤ g k) : zmn g (k + 1) = k := by
  show (if k = 0 then 0 else if g (zmn g k) ≤ g k then zmn g k else k) = _
  rw [if_neg h0, if_neg h]
section SN
variable {n L0 : Nat} {K P : Nat → Nat} {ds : List Nat} {kp : Nat → Option (List Nat)} {I : Nat → Nat → Int32} {J : Nat → Nat → Int64}
theorem eO_gp {i : Nat} {f : Nat → Nat} (hi : i < 6) (h : ∀ g, g < 4 → I 32 (i * 4 + g) = qn (f g)) (hb : ∀ g, f g ≤ 720) : fO_greatestPart (qn i) I J = some (qn (zmx f 4), I, J) := by
  have e4 : qn i * 4 = qn (i * 4 + 0) := by
    show qn i * qn 4 = _
    rw [qn_mul]; rfl
  have e5 : (qn i + 1) * 4 = qn (i * 4 + 4) := by
    show (qn i + qn 1) * qn 4 = _
    rw [qn_add, qn_mul]
    congr 1; omega
  unfold fO_greatestPart
  rw [e4]
  refine lp (σ := Int32) (R := fun o => o = some (qn (zmx f 4), I, J)) (Inv := fun k a => a = qn (zmx f k)) (fun fu k a => fO_greatestPart_b6 fu (qn i) a (qn (i * 4 + k)) I J) 4 100000 0 0 (Nat.zero_le _) (by omega) rfl ?_ ?_
  · intro fu a ha
    rw [fO_greatestPart_b6, e5, if_pos (Int32.le_refl _), ha]
  · intro fu k a hk ha
    refine Or.inr ⟨qn (zmx f (k + 1)), rfl, ?_⟩
    have h1 := zmx_le hb k
    have h2 := hb k
    rw [fO_greatestPart_b6, e5, if_neg (by rw [qn_le (by omega) (by omega)]; omega), if_neg (by show ¬ qn _ < qn 0; rw [qn_lt (by omega) (by omega)]; omega), if_neg (by show ¬ qn 24 ≤ qn _; rw [qn_le (by omega) (by omega)]; omega), qp_gd_t (q_g24 (by omega)), qn_nat (by omega), h k hk, ha, show qn (i * 4 + k) + 1 = qn (i * 4 + (k + 1)) from qn_add _ 1]
    unfold fJ_max
    by_cases hc : f k ≤ zmx f k
    · rw [if_neg (by rw [qn_lt (by omega) (by omega)]; omega), qp_bd_t, zmx_K hc]
    · rw [if_pos (by rw [qn_lt (by omega) (by omega)]; omega), qp_bd_t, zmx_N hc]
theorem eX_next_b {F : List (List Nat)} {L : Nat} {g : Nat → Nat} (hn : n ≤ 6) (hn0 : 0 < n) (e0 : I 15 0 = qn n) (hT : zTy n K P L F I) (hF : F.length ≤ 720) (hg : ∀ i, g i = zmx (zg3 K P L F i) 4) : fX_next_b64 100000 0 1 I J = some (qn (zmn g n), qp_up I 0 11 (qn (g (zmn g n))), J) := by
  have hgp : ∀ i, i < n → fO_greatestPart (qn i) I J = some (qn (g i), I, J) := fun i hi => by
    rw [hg i]
    exact eO_gp (f := zg3 K P L F i) (by omega) (fun g' hg' => hT.2.2 i hi g' hg') (fun g' => Nat.le_trans zg3_le hF)
  have hgb : ∀ i, g i ≤ 720 := fun i => by rw [hg i]; exact zmx_le (fun g' => Nat.le_trans zg3_le hF) 4
  refine lp (σ := Int32) (R := fun o => o = some (qn (zmn g n), qp_up I 0 11 (qn (g (zmn g n))), J)) (Inv := fun k a => 1 ≤ k ∧ a = qn (zmn g k)) (fun fu k a => fX_next_b64 fu a (qn k) I J) n 100000 1 0 (by omega) (by omega) ⟨Nat.le_refl 1, rfl⟩ ?_ ?_
  · rintro fu a ⟨-, ha⟩
    rw [fX_next_b64, e0, if_pos (Int32.le_refl _), ha, hgp _ (zmn_lt n hn0), qp_bd_t]
    unfold fX_tell
    rw [qp_bd_t]
  · rintro fu k a hk ⟨hk1, ha⟩
    have hl := zmn_lt (g := g) k (by omega)
    have run : fX_next_b64 (fu + 1) a (qn k) I J = if g (zmn g k) ≤ g k then fX_next_b64 fu (qn (zmn g k)) (qn (k + 1)) I J else fX_next_b64 fu (qn k) (qn (k + 1)) I J := by
      have h1 := hgb (zmn g k)
      have h2 := hgb k
      rw [fX_next_b64, e0, if_neg (by rw [qn_le (by omega) (by omega)]; omega), hgp k hk, qp_bd_t, ha, hgp _ (by omega), qp_bd_t, show qn k + 1 = qn (k + 1) from qn_add k 1]
      by_cases h : g (zmn g k) ≤ g k
      · rw [if_pos h, if_pos (by rw [qn_le (by omega) (by omega)]; exact h)]
      · rw [if_neg h, if_neg (by rw [qn_le (by omega) (by omega)]; exact h)]
    by_cases h : g (zmn g k) ≤ g k
    · rw [if_pos h] at run
      exact Or.inr ⟨_, ⟨by omega, by rw [zmn_K (by omega) h]⟩, run⟩
    · rw [if_neg h] at run
      exact Or.inr ⟨_, ⟨by omega, by rw [zmn_N (by omega) h]⟩, run⟩
theorem eM_163 {k142 : Int32 → Int32 → Int32 → Int32 → (Nat → Nat → Int32) → (Nat → Nat → Int64) → Option (Int32 × (Nat → Nat → Int32) × (Nat → Nat → Int64))} {a3 a4 a5 : Int32} {i : Nat} {f : Nat → Nat} (hi : i < 6) (h : ∀ g, g < 4 → I 54 (i * 4 + g) = qn (f g)) (hb : ∀ g, f g ≤ 720) :
    fM_next_b163 k142 100000 a3 a4 a5 (qn i) 0 0 I J = if a5 ≤ qn (zmx f 4) then k142 a3 a4 a5 (qn (i + 1)) I J else k142 a3 (qn i) (qn (zmx f 4)) (qn (i + 1)) I J := by
  refine lp (σ := Int32) (R := fun o => o = if a5 ≤ qn (zmx f 4) then k142 a3 a4 a5 (qn (i + 1)) I J else k142 a3 (qn i) (qn (zmx f 4)) (qn (i + 1)) I J) (Inv := fun k a => a = qn (zmx f k)) (fun fu k a => fM_next_b163 k142 fu a3 a4 a5 (qn i) a (qn k) I J) 4 100000 0 0 (Nat.zero_le _) (by omega) rfl ?_ ?_
  · intro fu a ha
    rw [fM_next_b163, if_pos (by decide), ha, show qn i + 1 = qn (i + 1) from qn_add i 1]
    by_cases hc : a5 ≤ qn (zmx f 4)
    · rw [if_pos hc, if_pos hc, if_pos hc]
    · rw [if_neg hc, if_neg hc, if_neg hc]
  · intro fu k a hk ha
    refine Or.inr ⟨qn (zmx f (k + 1)), rfl, ?_⟩
    have h1 := zmx_le hb k
    have h2 := hb k
    have ex : (4 : Int32) * qn i + qn k = qn (i * 4 + k) := by
      show qn 4 * qn i + qn k = _
      rw [qn_mul, qn_add, Nat.mul_comm]
    rw [fM_next_b163, if_neg (by show ¬ qn 4 ≤ qn k; rw [qn_le (by omega) (by omega)]; omega), ex, qp_gd_t (q_g24 (by omega)), qn_nat (by omega), h k hk, ha, qp_gd_t (q_g24 (by omega)), show qn k + 1 = qn (k + 1) from qn_add k 1]
    by_cases hc : f k ≤ zmx f k
    · rw [if_pos (by rw [qn_le (by omega) (by omega)]; exact hc), zmx_K hc]
    · rw [if_neg (by rw [qn_le (by omega) (by omega)]; exact hc), zmx_N hc]
theorem eM_142 {F : List (List Nat)} {L : Nat} {g : Nat → Nat} (hn : n ≤ 6) (hn0 : 0 < n) (e0 : I 37 0 = qn n) (h54 : ∀ i, i < n → ∀ g, g < 4 → I 54 (i * 4 + g) = qn (zg3 K P L F i g)) (hF : F.length ≤ 720) (hg : ∀ i, g i = zmx (zg3 K P L F i) 4) :
    fM_next_b142 100000 (qn F.length) (-9) 1000000 0 I J = if F.length = 0 then some (-9, I, J) else some (qn (zmn g n), qp_up I 36 9 (qn (g (zmn g n))), J) := by
  have hgb : ∀ i, g i ≤ 720 := fun i => by rw [hg i]; exact zmx_le (fun g' => Nat.le_trans zg3_le hF) 4
  have q9 : ∀ k, k < 6 → ¬ qn k = -9 := by decide
  refine lp (σ := Int32 × Int32) (R := fun o => o = if F.length = 0 then some (-9, I, J) else some (qn (zmn g n), qp_up I 36 9 (qn (g (zmn g n))), J)) (Inv := fun k q => (k = 0 ∧ q.1 = -9 ∧ q.2 = 1000000) ∨ (0 < k ∧ 0 < F.length ∧ q.1 = qn (zmn g k) ∧ q.2 = qn (g (zmn g k)))) (fun fu k q => fM_next_b142 fu (qn F.length) q.1 q.2 (qn k) I J) n 100000 0 (-9, 1000000) (Nat.zero_le _) (by omega) (Or.inl ⟨rfl, rfl, rfl⟩) ?_ ?_
  · rintro fu ⟨q1, q2⟩ hs
    rcases hs with ⟨h, -⟩ | ⟨-, hF0, h1, h2⟩
    · omega
    · dsimp only at h1 h2 ⊢
      have hl := zmn_lt (g := g) n hn0
      rw [fM_next_b142, e0, if_pos (Int32.le_refl _), h1, if_pos (q9 _ (by omega)), h2, if_neg (by omega)]
      unfold fM_asks
      rw [qp_bd_t]
  · rintro fu k ⟨q1, q2⟩ hk hs
    dsimp only at hs ⊢
    have c0 : ¬ qn n ≤ qn k := by rw [qn_le (by omega) (by omega)]; omega
    by_cases hF0 : F.length = 0
    · refine Or.inl ?_
      rcases hs with ⟨-, h1, h2⟩ | ⟨-, h, -⟩
      · rw [fM_next_b142, e0, if_neg c0, hF0, if_pos (show qn 0 ≤ 0 from Int32.le_refl _), h1, if_neg (by exact fun q => q rfl), if_pos rfl]
      · omega
    · have c1 : ¬ qn F.length ≤ 0 := by show ¬ qn F.length ≤ qn 0; rw [qn_le (by omega) (by omega)]; omega
      have e63 := eM_163 (J := J) (I := I) (k142 := fun a0 a1 a2 a3 I J => fM_next_b142 fu a0 a1 a2 a3 I J) (a3 := qn F.length) (a4 := q1) (a5 := q2) (i := k) (f := zg3 K P L F k) (by omega) (fun g' hg' => h54 k hk g' hg') (fun g' => Nat.le_trans zg3_le hF)
      rw [← hg k] at e63
      have run : fM_next_b142 (fu + 1) (qn F.length) q1 q2 (qn k) I J = if q2 ≤ qn (g k) then fM_next_b142 fu (qn F.length) q1 q2 (qn (k + 1)) I J else fM_next_b142 fu (qn F.length) (qn k) (qn (g k)) (qn (k + 1)) I J := by
        rw [fM_next_b142, e0, if_neg c0, if_neg c1, e63]
      have hb1 := hgb k
      have hb2 := hgb (zmn g k)
      rcases hs with ⟨h0, h1, h2⟩ | ⟨h0, -, h1, h2⟩
      · subst h0
        rw [h2, if_neg (by show ¬ qn 1000000 ≤ qn (g 0); rw [qn_le (by omega) (by omega)]; omega), ← h2] at run
        exact Or.inr ⟨(qn 0, qn (g 0)), Or.inr ⟨by omega, by omega, rfl, rfl⟩, run⟩
      · by_cases hc : g (zmn g k) ≤ g k
        · rw [if_pos (by rw [h2, qn_le (by omega) (by omega)]; exact hc)] at run
          exact Or.inr ⟨(q1, q2), Or.inr ⟨by omega, by omega, by rw [zmn_K (by omega) hc]; exact h1, by rw [zmn_K (by omega) hc]; exact h2⟩, run⟩
        · rw [if_neg (by rw [h2, qn_le (by omega) (by omega)]; exact hc)] at run
          exact Or.inr ⟨(qn k, qn (g k)), Or.inr ⟨by omega, by omega, by rw [zmn_N (by omega) hc], by rw [zmn_N (by omega) hc]⟩, run⟩
theorem zfil_le {Q : List Nat → Bool} {c : Nat} (hn : n ≤ 6) : (((zall n).take c).filter Q).length ≤ 720 := by
  have h1 : (((zall n).take c).filter Q).length ≤ ((zall n).take c).length := List.length_filter_le _ _
  have h2 : ((zall n).take c).length ≤ (zall n).length := List.length_take_le' _ _
  rw [zall_len hn] at h2
  have := zfac_le n (by omega)
  omega
theorem zfil_all (hn : n ≤ 6) : (zall n).take (zfac n) = zall n := by rw [← zall_len hn, List.take_length]
theorem zMU_zR {I0 I' : Nat → Nat → Int32} {J : Nat → Nat → Int64} (h : zR I0 J) (hf : zMU I0 I') : zR I' J :=
  zR_scr h (fun c hc => by unfold zlc zcc at hc; exact hf.1 c (by omega) (by omega)) (hf.2 8 (by omega)) (hf.2 9 (by omega))
/-- the model's three walks over the orders -/
theorem eM_lines_b {r T : Nat} {wh go : Nat → Nat} {R : Nat → Int32} (hS : zSt n L0 K P ds kp) (hM : zML n L0 K P ds (I 37)) (hr : r < 6) (hT : T ≤ 8) (e : I 41 r = qn (2 * T)) (eR : ∀ k, k < 40 → I 40 (40 * r + k) = R (r * 40 + k)) (hp : zpr n T wh go R r) :
    ∃ I', fM_lines_b38 100000 (qn r) 0 0 I J = some (qn 1, I', qp_up (qp_up J 36 10 (ql ((zall n).filter (zQ K P (zrun n L0 ds).2 T wh go)).length)) 36 11 (ql 1)) ∧ zMU I I' := by
  have hn := hS.1
  have hfl := zfac_le n (by omega)
  have e0 : I 37 0 = qn n := hM.2.2.2.2.1
  obtain ⟨Q, hQ⟩ : ∃ Q, Q = zQ K P (zrun n L0 ds).2 T wh go := ⟨_, rfl⟩
  rw [← hQ]
  refine lp (σ := Int32 × (Nat → Nat → Int32)) (R := fun o => ∃ I', o = some (qn 1, I', qp_up (qp_up J 36 10 (ql ((zall n).filter Q).length)) 36 11 (ql 1)) ∧ zMU I I') (Inv := fun c q => q.1 = qn (((zall n).take c).filter Q).length ∧ zMU I q.2) (fun fu c q => fM_lines_b38 fu (qn r) q.1 (qn c) q.2 J) (zfac n) 100000 0 (0, I) (Nat.zero_le _) (by omega) ⟨rfl, zMU_rfl⟩ ?_ ?_
  · rintro fu ⟨q, I1⟩ ⟨s1, s2⟩
    dsimp only at s1 s2 ⊢
    have hle := zfil_le (Q := Q) (c := zfac n) hn
    have em := eM_many (J := J) (I := I1) hn (by rw [s2.1 37 (by omega) (by omega)]; exact e0)
    refine ⟨I1, ?_, s2⟩
    rw [fM_lines_b38, em, qp_bd_t, if_pos (Int32.le_refl _), s1, qn_64 (by omega), zfil_all hn]; rfl
  · rintro fu c ⟨q, I1⟩ hc ⟨s1, s2⟩
    dsimp only at s1 s2 ⊢
    have em := eM_many (J := J) (I := I1) hn (by rw [s2.1 37 (by omega) (by omega)]; exact e0)
    obtain ⟨I2, b1, b2, b3, b4⟩ := eM_fits (J := J) (I := I1) (I0 := I) hS hM hr hT e eR hp hc s2
    rw [← hQ] at b1
    have ht := zat'_take (s := zall n) (k := c) (by rw [zall_len hn]; exact hc)
    by_cases hq : Q (zat' (zall n) c) = true
    · rw [if_pos hq] at b1
      refine Or.inr ⟨(qn (((zall n).take (c + 1)).filter Q).length, I2), ⟨rfl, b4⟩, ?_⟩
      rw [fM_lines_b38, em, qp_bd_t, if_neg (by rw [qn_le (by omega) (by omega)]; omega), b1, qp_bd_t, if_neg (by decide), ht, zfil_T hq, List.length_append, s1, show qn c + 1 = qn (c + 1) from qn_add c 1]
      rw [show qn (((zall n).take c).filter Q).length + 1 = qn ((((zall n).take c).filter Q).length + [zat' (zall n) c].length) from qn_add _ 1]
    · rw [if_neg hq] at b1
      refine Or.inr ⟨(qn (((zall n).take (c + 1)).filter Q).length, I2), ⟨rfl, b4⟩, ?_⟩
      rw [fM_lines_b38, em, qp_bd_t, if_neg (by rw [qn_le (by omega) (by omega)]; omega), b1, qp_bd_t, if_pos (show qn 0 = 0 from rfl), ht, zfil_F hq, s1, show qn c + 1 = qn (c + 1) from qn_add c 1]
      rw [show qn (((zall n).take c).filter Q).length + 0 = qn (((zall n).take c).filter Q).length from qn_add _ 0]
theorem eM_can_b {r T p : Nat} {wh go : Nat → Nat} {R : Nat → Int32} (hS : zSt n L0 K P ds kp) (hM : zML n L0 K P ds (I 37)) (hr : r < 6) (hT : T ≤ 8) (e : I 41 r = qn (2 * T)) (eR : ∀ k, k < 40 → I 40 (40 * r + k) = R (r * 40 + k)) (hp : zpr n T wh go R r) (hpn : p < n) :
    ∃ I', fM_can_b35 100000 (qn r) (qn p) 0 0 I J = some (qn (zg2 ((zall n).filter (zQ K P (zrun n L0 ds).2 T wh go)) p), I', J) ∧ zMU I I' := by
  have hn := hS.1
  have hfl := zfac_le n (by omega)
  have e0 : I 37 0 = qn n := hM.2.2.2.2.1
  obtain ⟨Q, hQ⟩ : ∃ Q, Q = zQ K P (zrun n L0 ds).2 T wh go := ⟨_, rfl⟩
  rw [← hQ]
  refine lp (σ := Int32 × (Nat → Nat → Int32)) (R := fun o => ∃ I', o = some (qn (zg2 ((zall n).filter Q) p), I', J) ∧ zMU I I') (Inv := fun c q => q.1 = qn (zg2 (((zall n).take c).filter Q) p) ∧ zMU I q.2) (fun fu c q => fM_can_b35 fu (qn r) (qn p) q.1 (qn c) q.2 J) (zfac n) 100000 0 (0, I) (Nat.zero_le _) (by omega) ⟨rfl, zMU_rfl⟩ ?_ ?_
  · rintro fu ⟨q, I1⟩ ⟨s1, s2⟩
    dsimp only at s1 s2 ⊢
    have em := eM_many (J := J) (I := I1) hn (by rw [s2.1 37 (by omega) (by omega)]; exact e0)
    refine ⟨I1, ?_, s2⟩
    rw [fM_can_b35, em, qp_bd_t, if_pos (Int32.le_refl _), s1, zfil_all hn]
  · rintro fu c ⟨q, I1⟩ hc ⟨s1, s2⟩
    dsimp only at s1 s2 ⊢
    have em := eM_many (J := J) (I := I1) hn (by rw [s2.1 37 (by omega) (by omega)]; exact e0)
    obtain ⟨I2, b1, b2, b3, b4⟩ := eM_fits (J := J) (I := I1) (I0 := I) hS hM hr hT e eR hp hc s2
    rw [← hQ] at b1
    have hcl : c < (zall n).length := by rw [zall_len hn]; exact hc
    have ht := zat'_take (s := zall n) (k := c) hcl
    have hP := zall_P hn (zat'_mem _ _ hcl)
    have hz := zP_at hP hpn
    have v53 : I2 53 p = qn (zat (zat' (zall n) c) p) := by
      have := b2 p (by rw [hP.2.1]; exact hpn)
      rw [Nat.zero_add] at this; exact this
    by_cases hq : Q (zat' (zall n) c) = true
    · rw [if_pos hq] at b1
      refine Or.inr ⟨(qn (zg2 (((zall n).take (c + 1)).filter Q) p), I2), ⟨rfl, b4⟩, ?_⟩
      rw [fM_can_b35, em, qp_bd_t, if_neg (by rw [qn_le (by omega) (by omega)]; omega), b1, qp_bd_t, if_neg (by decide), qp_gd_t (q_g6 (by omega)), qn_nat (by omega), v53, q_p2 (by omega), ht, zfil_T hq, zg2_app, s1, qn_or, show qn c + 1 = qn (c + 1) from qn_add c 1]
    · rw [if_neg hq] at b1
      refine Or.inr ⟨(qn (zg2 (((zall n).take (c + 1)).filter Q) p), I2), ⟨rfl, b4⟩, ?_⟩
      have e00 : ∀ a, qn a ||| 0 = qn a := fun a => by
        show qn a ||| qn 0 = _
        rw [qn_or, Nat.or_zero]
      rw [fM_can_b35, em, qp_bd_t, if_neg (by rw [qn_le (by omega) (by omega)]; omega), b1, qp_bd_t, if_pos (show qn 0 = 0 from rfl), ht, zfil_F hq, s1, e00, show qn c + 1 = qn (c + 1) from qn_add c 1]
/-- what the model's next leaves besides -/
def zMW (I I' : Nat → Nat → Int32) : Prop := (∀ c, c ≠ 36 → c < 48 ∨ (51 < c ∧ c ≠ 53 ∧ c ≠ 54) → I' c = I c) ∧ ∀ j, j ≠ 20 → I' 36 j = I 36 j
theorem eM_87 {k62 : Int32 → Int32 → Int32 → (Nat → Nat → Int32) → (Nat → Nat → Int64) → Option (Int32 × (Nat → Nat → Int32) × (Nat → Nat → Int64))} {F : List (List Nat)} {o : List Nat} {L : Nat} {a1 a3 : Int32} {c : Nat} (hn : n ≤ 6) (e0 : I 37 0 = qn n) (h48 : ∀ i, i < n → I 48 i = qn (zG K P o L i)) (h54 : ∀ i, i < n → ∀ g, g < 4 → I 54 (i * 4 + g) = qn (zg3 K P L F i g)) :
    ∃ I', fM_next_b87 k62 100000 a1 a3 (qn c) 0 I J = k62 a1 a3 (qn (c + 1)) I' J ∧ (∀ i, i < n → ∀ g, g < 4 → I' 54 (i * 4 + g) = qn (zg3 K P L (F ++ [o]) i g)) ∧ ∀ c, c ≠ 54 → I' c = I c := by
  refine lp (σ := Nat → Nat → Int32) (R := fun x => ∃ I', x = k62 a1 a3 (qn (c + 1)) I' J ∧ (∀ i, i < n → ∀ g, g < 4 → I' 54 (i * 4 + g) = qn (zg3 K P L (F ++ [o]) i g)) ∧ ∀ c, c ≠ 54 → I' c = I c)
    (Inv := fun a I' => (∀ i, i < n → ∀ g, g < 4 → I' 54 (i * 4 + g) = qn (if i < a then zg3 K P L (F ++ [o]) i g else zg3 K P L F i g)) ∧ ∀ c, c ≠ 54 → I' c = I c) (fun fu a I' => fM_next_b87 k62 fu a1 a3 (qn c) (qn a) I' J) n 100000 0 I (Nat.zero_le _) (by omega) ⟨fun i hi g hg => by rw [if_neg (by omega)]; exact h54 i hi g hg, fun _ _ => rfl⟩ ?_ ?_
  · rintro fu I1 ⟨s1, s2⟩
    refine ⟨I1, ?_, fun i hi g hg => by rw [s1 i hi g hg, if_pos hi], s2⟩
    rw [fM_next_b87, s2 37 (by omega), e0, if_pos (Int32.le_refl _), show qn c + 1 = qn (c + 1) from qn_add c 1]
  · rintro fu a I1 ha ⟨s1, s2⟩
    have v := h48 a ha
    have hg3 := zG_3 (K := K) (P := P) (s := o) (L := L) (i := a)
    generalize hG : zG K P o L a = g at v hg3
    have e32 : I1 54 (a * 4 + g) = qn (zg3 K P L F a g) := by rw [s1 a ha g (by omega), if_neg (by omega)]
    have ex : (4 : Int32) * qn a + qn g = qn (a * 4 + g) := by
      show qn 4 * qn a + qn g = _
      rw [qn_mul, qn_add, Nat.mul_comm]
    refine Or.inr ⟨qp_up I1 54 (a * 4 + g) (qn (zg3 K P L F a g + 1)), ⟨fun i hi g' hg' => ?_, fun c h1 => by rw [qm_nk (Ne.symm h1)]; exact s2 c h1⟩, ?_⟩
    · rw [qm_if]
      by_cases e : a * 4 + g = i * 4 + g'
      · have e1 : a = i := by omega
        have e2 : g = g' := by omega
        subst e1
        subst e2
        rw [if_pos rfl, if_pos (by omega), zg3_app, if_pos hG]
      · rw [if_neg e, s1 i hi g' hg']
        by_cases h : i < a
        · rw [if_pos h, if_pos (by omega)]
        · rw [if_neg h]
          by_cases h' : i = a
          · subst h'
            rw [if_pos (by omega), zg3_app, if_neg (by rw [hG]; omega)]
          · rw [if_neg (by omega)]
    · rw [fM_next_b87, s2 37 (by omega), e0, if_neg (by rw [qn_le (by omega) (by omega)]; omega), qn_nat (by omega), s2 48 (by omega), v, ex, qp_gd_t ⟨q_g6 (by omega), q_g24 (by omega)⟩, qn_nat (by omega), e32, show qn a + 1 = qn (a + 1) from qn_add a 1, show qn (zg3 K P L F a g) + 1 = qn (zg3 K P L F a g + 1) from qn_add _ 1]
theorem eM_next_b {r T : Nat} {wh go : Nat → Nat} {R : Nat → Int32} {g : Nat → Nat} (hS : zSt n L0 K P ds kp) (hM : zML n L0 K P ds (I 37)) (hn0 : 0 < n) (hr : r < 6) (hT : T ≤ 8) (e : I 41 r = qn (2 * T)) (eR : ∀ k, k < 40 → I 40 (40 * r + k) = R (r * 40 + k)) (hp : zpr n T wh go R r) (hg : ∀ i, g i = zmx (zg3 K P (zrun n L0 ds).2 ((zall n).filter (zQ K P (zrun n L0 ds).2 T wh go)) i) 4) :
    ∃ I1, fM_next_b38 100000 (qn r) 0 0 I J = (if ((zall n).filter (zQ K P (zrun n L0 ds).2 T wh go)).length = 0 then some (-9, I1, J) else some (qn (zmn g n), qp_up I1 36 9 (qn (g (zmn g n))), J)) ∧ zMW I I1 := by
  have hn := hS.1
  have hfl := zfac_le n (by omega)
  have e0 : I 37 0 = qn n := hM.2.2.2.2.1
  obtain ⟨Q, hQ⟩ : ∃ Q, Q = zQ K P (zrun n L0 ds).2 T wh go := ⟨_, rfl⟩
  obtain ⟨L, hL⟩ : ∃ L, L = (zrun n L0 ds).2 := ⟨_, rfl⟩
  rw [← hQ] at hg ⊢
  rw [← hL] at hg hQ
  refine lp (σ := Nat → Nat → Int32) (R := fun o => ∃ I1, o = (if ((zall n).filter Q).length = 0 then some (-9, I1, J) else some (qn (zmn g n), qp_up I1 36 9 (qn (g (zmn g n))), J)) ∧ zMW I I1) (Inv := fun a I' => (∀ j, j < a → I' 54 j = qn 0) ∧ ∀ c, c ≠ 54 → I' c = I c) (fun fu a I' => fM_next_b38 fu (qn r) 0 (qn a) I' J) 24 100000 0 I (Nat.zero_le _) (by omega) ⟨fun j hj => absurd hj (Nat.not_lt_zero j), fun _ _ => rfl⟩ ?_ ?_
  case refine_2 =>
    rintro fu a I2 ha ⟨a1, a2⟩
    refine Or.inr ⟨qp_up I2 54 a (qn 0), ⟨fun j hj => ?_, fun c hc => (qm_nk (Ne.symm hc)).trans (a2 c hc)⟩, ?_⟩
    · rw [qm_if]
      by_cases e : a = j
      · rw [if_pos e]
      · rw [if_neg e]; exact a1 j (by omega)
    · rw [fM_next_b38, if_neg (by show ¬ qn 24 ≤ qn a; rw [qn_le (by omega) (by omega)]; omega), qp_gd_t (q_g24 ha), qn_nat (by omega), show qn a + 1 = qn (a + 1) from qn_add a 1]; rfl
  case refine_1 =>
    rintro fu I0 ⟨z1, z2⟩
    rw [fM_next_b38, if_pos (by decide)]
    have hM0 : zML n L0 K P ds (I0 37) := by rw [z2 37 (by omega)]; exact hM
    refine lp (σ := Int32 × (Nat → Nat → Int32)) (R := fun o => ∃ I1, o = (if ((zall n).filter Q).length = 0 then some (-9, I1, J) else some (qn (zmn g n), qp_up I1 36 9 (qn (g (zmn g n))), J)) ∧ zMW I I1)
      (Inv := fun c q => q.1 = qn (((zall n).take c).filter Q).length ∧ (∀ i, i < n → ∀ g, g < 4 → q.2 54 (i * 4 + g) = qn (zg3 K P L (((zall n).take c).filter Q) i g)) ∧ zMW I0 q.2) (fun fu c q => fM_next_b62 fu (qn r) q.1 (qn c) q.2 J) (zfac n) 100000 0 (0, I0) (Nat.zero_le _) (by omega) ⟨rfl, fun i hi g hg => z1 _ (by omega), fun _ _ _ => rfl, fun _ _ => rfl⟩ ?_ ?_
    · rintro fu ⟨q, I1⟩ ⟨s1, s2, s3⟩
      dsimp only at s1 s2 s3 ⊢
      have hle := zfil_le (Q := Q) (c := zfac n) hn
      have x0 : I1 37 0 = qn n := by rw [s3.1 37 (by omega) (by omega), z2 37 (by omega)]; exact e0
      have em := eM_many (J := J) (I := I1) hn x0
      rw [zfil_all hn] at s1 s2 hle
      have e142 := eM_142 (J := J) (I := I1) (F := (zall n).filter Q) (L := L) (g := g) (K := K) (P := P) hn hn0 x0 s2 hle hg
      refine ⟨I1, ?_, fun c h1 h2 => (s3.1 c h1 h2).trans (z2 c (by omega)), fun j hj => (s3.2 j hj).trans (by rw [z2 36 (by omega)])⟩
      rw [fM_next_b62, em, qp_bd_t, if_pos (Int32.le_refl _), s1, e142]
    · rintro fu c ⟨q, I1⟩ hc ⟨s1, s2, s3⟩
      dsimp only at s1 s2 s3 ⊢
      have x0 : I1 37 0 = qn n := by rw [s3.1 37 (by omega) (by omega), z2 37 (by omega)]; exact e0
      have em := eM_many (J := J) (I := I1) hn x0
      have hcl : c < (zall n).length := by rw [zall_len hn]; exact hc
      obtain ⟨I2, b1, b2, b3, b4⟩ := eM_fits (J := J) (I := I1) (I0 := I1) (R := R) hS (by rw [s3.1 37 (by omega) (by omega)]; exact hM0) hr hT (by rw [s3.1 41 (by omega) (by omega), z2 41 (by omega)]; exact e) (fun k hk => by rw [s3.1 40 (by omega) (by omega), z2 40 (by omega)]; exact eR k hk) hp hc zMU_rfl
      rw [← hL, ← hQ] at b1
      rw [← hL] at b3
      have ht := zat'_take (s := zall n) (k := c) hcl
      have f2 : zMW I0 I2 := ⟨fun c h1 h2 => (b4.1 c h1 (by omega)).trans (s3.1 c h1 h2), fun j hj => (b4.2 j hj).trans (s3.2 j hj)⟩
      have t54 : ∀ i, i < n → ∀ g, g < 4 → I2 54 (i * 4 + g) = qn (zg3 K P L (((zall n).take c).filter Q) i g) := fun i hi g hg => by rw [b4.1 54 (by omega) (by omega)]; exact s2 i hi g hg
      by_cases hq : Q (zat' (zall n) c) = true
      · rw [if_pos hq] at b1
        obtain ⟨I3, d1, d2, d3⟩ := eM_87 (J := J) (I := I2) (K := K) (P := P) (L := L) (F := ((zall n).take c).filter Q) (o := zat' (zall n) c) (k62 := fun a0 a1 a2 I J => fM_next_b62 fu a0 a1 a2 I J) (a1 := qn r) (a3 := qn ((((zall n).take c).filter Q).length + 1)) (c := c) hn (by rw [f2.1 37 (by omega) (by omega), z2 37 (by omega)]; exact e0) b3 t54
        refine Or.inr ⟨(qn (((zall n).take (c + 1)).filter Q).length, I3), ⟨rfl, by rw [ht, zfil_T hq]; exact d2, fun c h1 h2 => (d3 c (by omega)).trans (f2.1 c h1 h2), fun j hj => by show I3 36 j = _; rw [d3 36 (by omega)]; exact f2.2 j hj⟩, ?_⟩
        rw [fM_next_b62, em, qp_bd_t, if_neg (by rw [qn_le (by omega) (by omega)]; omega), b1, qp_bd_t, if_neg (by decide), s1, show qn (((zall n).take c).filter Q).length + 1 = qn ((((zall n).take c).filter Q).length + 1) from qn_add _ 1, ht, zfil_T hq, List.length_append]
        exact d1
      · rw [if_neg hq] at b1
        refine Or.inr ⟨(qn (((zall n).take (c + 1)).filter Q).length, I2), ⟨rfl, by rw [ht, zfil_F hq]; exact t54, f2⟩, ?_⟩
        rw [fM_next_b62, em, qp_bd_t, if_neg (by rw [qn_le (by omega) (by omega)]; omega), b1, qp_bd_t, if_pos (show qn 0 = 0 from rfl), s1, ht, zfil_F hq, show qn c + 1 = qn (c + 1) from qn_add c 1]
end SN
theorem zXT_zR {I I1 : Nat → Nat → Int32} {J : Nat → Nat → Int64} (h : zR I J) (e : ∀ c, c < 18 ∨ (22 < c ∧ c < 29) ∨ 32 < c → I1 c = I c) : zR I1 J :=
  zR_scr h (fun c hc => by unfold zlc zcc at hc; exact e c (by omega)) (by rw [e 36 (by omega)]) (by rw [e 36 (by omega)])
theorem sim_lines (p : Int32) : zsim (fX_lines p) (fM_lines p) := by
  intro I J h
  obtain ⟨n, L0, K, P, ds, kp, hR⟩ := id h
  obtain ⟨hS, hC, hL⟩ := hR
  have hn := hS.1
  have hok := zSt_ok hS
  obtain ⟨⟨h1, h2, h3⟩, h4, hM, h10⟩ := id hL
  have e0 : I 15 0 = qn n := h3.1
  have e0' : I 37 0 = qn n := hM.2.2.2.2.1
  rcases qn_cs 6 (by omega) p with ⟨r, hr, rfl⟩ | ⟨-, hp⟩
  case inr =>
    refine ⟨-qn 1, I, J, I, J, ?_, ?_, h⟩
    · have ex : fX_refusalOfPairs p I J = some (-qn 1, I, J) := by
        unfold fX_refusalOfPairs
        rw [eX_ref1B hp, qp_bd_t, if_neg (by decide)]
      have e29 : fX_lines_b29 p I J = some (-qn 1, I, J) := by
        unfold fX_lines_b29 fX_lines_b34
        rw [ex, qp_bd_t, if_neg (by decide)]
      unfold fX_lines
      rw [eS1_numF hp, qp_bd_t, if_pos (show qn 0 = 0 from rfl), e29]
      split <;> rfl
    · unfold fM_lines
      rw [eM_isRowF hp]; rfl
  by_cases hn0 : n = 0
  · refine ⟨-qn 4, I, J, I, J, ?_, ?_, h⟩
    · unfold fX_lines fX_lines_b34
      rw [e0, hn0, if_neg (by decide), eS1_num hr, qp_bd_t, if_neg (by decide), if_neg (by decide)]; rfl
    · unfold fM_lines
      rw [eM_isRow hr, qp_bd_t, if_pos (by decide), e0', hn0, if_neg (by decide)]; rfl
  have c3 : ¬ qn n = 0 := by show ¬ qn n = qn 0; rw [qn_eq (by omega) (by omega)]; exact hn0
  rcases zprs (J := J) hC hn e0 e0' hr with ⟨f, hf1, hf5, ex, em⟩ | ⟨T, wh, go, hT, eT, hpr, ex, em⟩
  · refine ⟨-qn 3, xfd f I, J, mfd f (xfd f I), J, ?_, ?_, zR_find h⟩
    · unfold fX_lines fX_lines_b29
      rw [e0, if_pos c3, ex, qp_bd_t]
      unfold fX_lines_b34
      rw [if_neg (by decide)]
    · unfold fM_lines
      rw [eM_isRow hr, qp_bd_t, if_pos (by decide), xfd_ne (by omega) (by omega), e0', if_pos c3, em, qp_bd_t, if_neg (by decide)]
  obtain ⟨I1, a1, a2, a3⟩ := eX_tally (J := J) (K := K) (P := P) (L := (zrun n L0 ds).2) hC.1.1 hn (zSt_kx hS h2) e0 h3.2.2.1 hok.2.2 hr hT eT hpr
  obtain ⟨F, hF⟩ : ∃ F, F = (zall n).filter (zQ K P (zrun n L0 ds).2 T wh go) := ⟨_, rfl⟩
  rw [← hF] at a2
  have hF720 : F.length ≤ 720 := by
    have := zfil_le (Q := zQ K P (zrun n L0 ds).2 T wh go) (c := zfac n) hn
    rw [zfil_all hn, ← hF] at this; exact this
  have hr1 := zXT_zR h a3
  have f37 : I1 37 = I 37 := a3 37 (by omega)
  have f40 : I1 40 = I 40 := a3 40 (by omega)
  have f41 : I1 41 = I 41 := a3 41 (by omega)
  obtain ⟨I2, b1, b2⟩ := eM_lines_b (J := qp_up (qp_up J 0 12 (ql F.length)) 0 13 (ql 1)) (I := I1) (R := I 3) hS (by rw [f37]; exact hM) hr hT (by rw [f41, hC.2.1.1]; exact eT) (fun k hk => by rw [f40, hC.2.1.2.1, Nat.mul_comm]) hpr
  rw [← hF] at b1
  refine ⟨qn 1, I1, qp_up (qp_up J 0 12 (ql F.length)) 0 13 (ql 1), I2, qp_up (qp_up (qp_up (qp_up J 0 12 (ql F.length)) 0 13 (ql 1)) 36 10 (ql F.length)) 36 11 (ql 1), ?_, ?_, ?_⟩
  · have er := eX_ratio1 (I := I1) (J := J) (a := F.length) (by omega)
    unfold fX_lines fX_lines_b29
    rw [e0, if_pos c3, ex, qp_bd_t]
    unfold fX_lines_b34
    rw [if_pos (show qn 0 = 0 from rfl), a1, qp_bd_t, a2.1, qn_64 (by omega), show (1 : Int64) = ql 1 from rfl, er, qp_bd_t]
  · unfold fM_lines
    rw [eM_isRow hr, qp_bd_t, if_pos (by decide), f37, e0', if_pos c3, em I1 _ f37 f40 f41, qp_bd_t, if_pos (show qn 0 = 0 from rfl)]
    exact b1
  · exact zR_ratio (u := ql F.length) (v := ql 1) hr1 (fun c hc => by unfold zlc zcc at hc; exact b2.1 c (by omega) (by omega)) (b2.2 8 (by omega)) (b2.2 9 (by omega))
theorem sim_can (p q : Int32) : zsim (fX_can p q) (fM_can p q) := by
  intro I J h
  obtain ⟨n, L0, K, P, ds, kp, hR⟩ := id h
  obtain ⟨hS, hC, hL⟩ := hR
  have hn := hS.1
  have hok := zSt_ok hS
  obtain ⟨⟨h1, h2, h3⟩, h4, hM, h10⟩ := id hL
  have e0 : I 15 0 = qn n := h3.1
  have e0' : I 37 0 = qn n := hM.2.2.2.2.1
  rcases qn_cs n (by omega) q with ⟨i, hi, rfl⟩ | ⟨-, hq⟩
  case inr =>
    refine ⟨-qn 1, I, J, I, J, ?_, ?_, h⟩
    · unfold fX_can fX_can_b23
      rw [eC_hasF e0 hq, qp_bd_t, if_pos (show qn 0 = 0 from rfl), if_neg (by decide)]; rfl
    · unfold fM_can
      rcases qn_cs 6 (by omega) p with ⟨r, hr, rfl⟩ | ⟨-, hp⟩
      · rw [eM_isRow hr, qp_bd_t, if_neg (by decide), eM_isOneF e0' hn hq]; rfl
      · rw [eM_isRowF hp]; rfl
  rcases qn_cs 6 (by omega) p with ⟨r, hr, rfl⟩ | ⟨-, hp⟩
  case inr =>
    refine ⟨-qn 1, I, J, I, J, ?_, ?_, h⟩
    · unfold fX_can fX_refusalOfPairs
      rw [eC_has e0 hn hi, qp_bd_t, if_neg (by decide), eX_ref1B hp, qp_bd_t, if_neg (by decide), qp_bd_t]
      unfold fX_can_b23
      rw [if_neg (by decide)]
    · unfold fM_can
      rw [eM_isRowF hp]; rfl
  rcases zprs (J := J) hC hn e0 e0' hr with ⟨f, hf1, hf5, ex, em⟩ | ⟨T, wh, go, hT, eT, hpr, ex, em⟩
  · refine ⟨-qn 3, xfd f I, J, mfd f (xfd f I), J, ?_, ?_, zR_find h⟩
    · unfold fX_can
      rw [eC_has e0 hn hi, qp_bd_t, if_neg (by decide), ex, qp_bd_t]
      unfold fX_can_b23
      rw [if_neg (by decide)]
    · unfold fM_can
      rw [eM_isRow hr, qp_bd_t, if_neg (by decide), eM_isOne (by rw [xfd_ne (by omega) (by omega)]; exact e0') hn hi, qp_bd_t, if_pos (by decide), em, qp_bd_t, if_neg (by decide)]
  obtain ⟨I1, a1, a2, a3⟩ := eX_tally (J := J) (K := K) (P := P) (L := (zrun n L0 ds).2) hC.1.1 hn (zSt_kx hS h2) e0 h3.2.2.1 hok.2.2 hr hT eT hpr
  obtain ⟨F, hF⟩ : ∃ F, F = (zall n).filter (zQ K P (zrun n L0 ds).2 T wh go) := ⟨_, rfl⟩
  rw [← hF] at a2
  have hr1 := zXT_zR h a3
  have f37 : I1 37 = I 37 := a3 37 (by omega)
  have f40 : I1 40 = I 40 := a3 40 (by omega)
  have f41 : I1 41 = I 41 := a3 41 (by omega)
  obtain ⟨I2, b1, b2⟩ := eM_can_b (J := J) (I := I1) (R := I 3) (p := i) hS (by rw [f37]; exact hM) hr hT (by rw [f41, hC.2.1.1]; exact eT) (fun k hk => by rw [f40, hC.2.1.2.1, Nat.mul_comm]) hpr hi
  rw [← hF] at b1
  refine ⟨qn (zg2 F i), I1, J, I2, J, ?_, ?_, zMU_zR hr1 b2⟩
  · unfold fX_can
    rw [eC_has e0 hn hi, qp_bd_t, if_neg (by decide), ex, qp_bd_t]
    unfold fX_can_b23
    rw [if_pos (show qn 0 = 0 from rfl), a1, qp_bd_t]
    unfold fO_whoCan
    rw [if_neg (by show ¬ qn i < qn 0; rw [qn_lt (by omega) (by omega)]; omega), if_neg (by show ¬ qn 6 ≤ qn i; rw [qn_le (by omega) (by omega)]; omega), qp_gd_t (q_g6 (by omega)), qn_nat (by omega), qp_bd_t, a2.2.1 i hi]
  · unfold fM_can
    rw [eM_isRow hr, qp_bd_t, if_neg (by decide), eM_isOne (by rw [f37]; exact e0') hn hi, qp_bd_t, if_pos (by decide), em I1 _ f37 f40 f41, qp_bd_t, if_pos (show qn 0 = 0 from rfl)]
    exact b1
theorem sim_next (p : Int32) : zsim (fX_next p) (fM_next p) := by
  intro I J h
  obtain ⟨n, L0, K, P, ds, kp, hR⟩ := id h
  obtain ⟨hS, hC, hL⟩ := hR
  have hn := hS.1
  have hok := zSt_ok hS
  obtain ⟨⟨h1, h2, h3⟩, h4, hM, h10⟩ := id hL
  have e0 : I 15 0 = qn n := h3.1
  have e0' : I 37 0 = qn n := hM.2.2.2.2.1
  rcases qn_cs 6 (by omega) p with ⟨r, hr, rfl⟩ | ⟨-, hp⟩
  case inr =>
    refine ⟨-qn 1, I, J, I, J, ?_, ?_, h⟩
    · have ex : fX_refusalOfPairs p I J = some (-qn 1, I, J) := by
        unfold fX_refusalOfPairs
        rw [eX_ref1B hp, qp_bd_t, if_neg (by decide)]
      have e29 : fX_next_b29 p I J = some (-qn 1, I, J) := by
        unfold fX_next_b29 fX_next_b34
        rw [ex, qp_bd_t, if_neg (by decide)]
      unfold fX_next
      rw [eS1_numF hp, qp_bd_t, if_pos (show qn 0 = 0 from rfl), e29]
      split <;> rfl
    · unfold fM_next
      rw [eM_isRowF hp]; rfl
  by_cases hn0 : n = 0
  · refine ⟨-qn 4, I, J, I, J, ?_, ?_, h⟩
    · unfold fX_next fX_next_b34
      rw [e0, hn0, if_neg (by decide), eS1_num hr, qp_bd_t, if_neg (by decide), if_neg (by decide)]; rfl
    · unfold fM_next
      rw [eM_isRow hr, qp_bd_t, if_pos (by decide), e0', hn0, if_neg (by decide)]; rfl
  have c3 : ¬ qn n = 0 := by show ¬ qn n = qn 0; rw [qn_eq (by omega) (by omega)]; exact hn0
  rcases zprs (J := J) hC hn e0 e0' hr with ⟨f, hf1, hf5, ex, em⟩ | ⟨T, wh, go, hT, eT, hpr, ex, em⟩
  · refine ⟨-qn 3, xfd f I, J, mfd f (xfd f I), J, ?_, ?_, zR_find h⟩
    · unfold fX_next fX_next_b29
      rw [e0, if_pos c3, ex, qp_bd_t]
      unfold fX_next_b34
      rw [if_neg (by decide)]
    · unfold fM_next
      rw [eM_isRow hr, qp_bd_t, if_pos (by decide), xfd_ne (by omega) (by omega), e0', if_pos c3, em, qp_bd_t, if_neg (by decide)]
  obtain ⟨I1, a1, a2, a3⟩ := eX_tally (J := J) (K := K) (P := P) (L := (zrun n L0 ds).2) hC.1.1 hn (zSt_kx hS h2) e0 h3.2.2.1 hok.2.2 hr hT eT hpr
  obtain ⟨F, hF⟩ : ∃ F, F = (zall n).filter (zQ K P (zrun n L0 ds).2 T wh go) := ⟨_, rfl⟩
  rw [← hF] at a2
  have hF720 : F.length ≤ 720 := by
    have := zfil_le (Q := zQ K P (zrun n L0 ds).2 T wh go) (c := zfac n) hn
    rw [zfil_all hn, ← hF] at this; exact this
  have hr1 := zXT_zR h a3
  have run : fX_next (qn r) I J = if ¬ I1 29 0 = 0 then fX_next_b64 100000 0 1 I1 J else some (-9, I1, J) := by
    unfold fX_next fX_next_b29
    rw [e0, if_pos c3, ex, qp_bd_t]
    unfold fX_next_b34
    rw [if_pos (show qn 0 = 0 from rfl), a1, qp_bd_t]
  obtain ⟨g, hg⟩ : ∃ g : Nat → Nat, ∀ i, g i = zmx (zg3 K P (zrun n L0 ds).2 F i) 4 := ⟨fun i => zmx (zg3 K P (zrun n L0 ds).2 F i) 4, fun _ => rfl⟩
  have mkM : ∀ I' : Nat → Nat → Int32, I' 37 = I 37 → I' 40 = I 40 → I' 41 = I 41 → ∃ I2, fM_next (qn r) I' J = (if F.length = 0 then some (-9, I2, J) else some (qn (zmn g n), qp_up I2 36 9 (qn (g (zmn g n))), J)) ∧ zMW I' I2 := by
    intro I' f37 f40 f41
    obtain ⟨I2, b1, b2⟩ := eM_next_b (J := J) (I := I') (R := I 3) (g := g) hS (by rw [f37]; exact hM) (by omega) hr hT (by rw [f41, hC.2.1.1]; exact eT) (fun k hk => by rw [f40, hC.2.1.2.1, Nat.mul_comm]) hpr (by rw [← hF]; exact hg)
    rw [← hF] at b1
    refine ⟨I2, ?_, b2⟩
    unfold fM_next
    rw [eM_isRow hr, qp_bd_t, if_pos (by decide), f37, e0', if_pos c3, em I' _ f37 f40 f41, qp_bd_t, if_pos (show qn 0 = 0 from rfl)]
    exact b1
  have scrW : ∀ I' I2 : Nat → Nat → Int32, zR I' J → zMW I' I2 → zR I2 J := fun I' I2 hz hw => zR_scr hz (fun c hc => by unfold zlc zcc at hc; exact hw.1 c (by omega) (by omega)) (hw.2 8 (by omega)) (hw.2 9 (by omega))
  by_cases hF0 : F.length = 0
  · obtain ⟨I2, b1, b2⟩ := mkM I1 (a3 37 (by omega)) (a3 40 (by omega)) (a3 41 (by omega))
    rw [if_pos hF0] at b1
    rw [a2.1, hF0, if_neg (by exact fun q => q rfl)] at run
    exact ⟨-9, I1, J, I2, J, run, b1, scrW _ _ hr1 b2⟩
  · have ebx := eX_next_b (J := J) (I := I1) (g := g) hn (by omega) (by rw [a3 15 (by omega)]; exact e0) a2 hF720 hg
    rw [a2.1, if_pos (by show ¬ qn F.length = qn 0; rw [qn_eq (by omega) (by omega)]; exact hF0), ebx] at run
    obtain ⟨I2, b1, b2⟩ := mkM (qp_up I1 0 11 (qn (g (zmn g n)))) (by rw [qm_nk (by omega)]; exact a3 37 (by omega)) (by rw [qm_nk (by omega)]; exact a3 40 (by omega)) (by rw [qm_nk (by omega)]; exact a3 41 (by omega))
    rw [if_neg hF0] at b1
    refine ⟨qn (zmn g n), qp_up I1 0 11 (qn (g (zmn g n))), J, qp_up I2 36 9 (qn (g (zmn g n))), J, run, b1, ?_⟩
    refine zR_tell hr1 (fun c hc => ?_) ?_ ?_ ?_
    · unfold zlc zcc at hc
      rw [qm_nk (by omega), b2.1 c (by omega) (by omega), qm_nk (by omega)]
    · rw [qm_nj (by omega), b2.2 8 (by omega), qm_nk (by omega)]
    · rw [qm_nk (by omega), b2.1 0 (by omega) (by omega), qm_nj (by omega)]
    · rw [qm_eq rfl, qm_nk (by omega), b2.1 0 (by omega) (by omega), qm_eq rfl]

/-! LINES, CAN, NEXT: alike -/
def zmx (f : Nat → Nat) : Nat → Nat
  | 0 => 0
  | k + 1 => if f k ≤ zmx f k then zmx f k else f k
theorem zmx_le {f : Nat → Nat} {b : Nat} (h : ∀ k, f k ≤ b) : ∀ k, zmx f k ≤ b
  | 0 => Nat.zero_le _
  | k + 1 => by
    have := zmx_le h k
    have := h k
    unfold zmx
    split <;> assumption
theorem zmx_K {f : Nat → Nat} {k : Nat} (h : f k ≤ zmx f k) : zmx f (k + 1) = zmx f k := by
  show (if _ then _ else _) = _
  rw [if_pos h]
theorem zmx_N {f : Nat → Nat} {k : Nat} (h : ¬ f k ≤ zmx f k) : zmx f (k + 1) = f k := by
  show (if _ then _ else _) = _
  rw [if_neg h]
def zmn (g : Nat → Nat) : Nat → Nat
  | 0 => 0
  | k + 1 => if k = 0 then 0 else if g (zmn g k) ≤ g k then zmn g k else k
theorem zmn_lt {g : Nat → Nat} : ∀ k, 0 < k → zmn g k < k
  | k + 1, _ => by
    by_cases h0 : k = 0
    · subst h0; exact Nat.zero_lt_one
    · have := zmn_lt (g := g) k (by omega)
      show (if k = 0 then 0 else if g (zmn g k) ≤ g k then zmn g k else k) < k + 1
      rw [if_neg h0]
      split <;> omega
theorem zmn_K {g : Nat → Nat} {k : Nat} (h0 : ¬ k = 0) (h : g (zmn g k) ≤ g k) : zmn g (k + 1) = zmn g k := by
  show (if k = 0 then 0 else if g (zmn g k) ≤ g k then zmn g k else k) = _
  rw [if_neg h0, if_pos h]
theorem zmn_N {g : Nat → Nat} {k : Nat} (h0 : ¬ k = 0) (h : ¬ g (zmn g k) ≤ g k) : zmn g (k + 1) = k := by
  show (if k = 0 then 0 else if g (zmn g k) ≤ g k then zmn g k else k) = _
  rw [if_neg h0, if_neg h]
section SN
variable {n L0 : Nat} {K P : Nat → Nat} {ds : List Nat} {kp : Nat → Option (List Nat)} {I : Nat → Nat → Int32} {J : Nat → Nat → Int64}
theorem eO_gp {i : Nat} {f : Nat → Nat} (hi : i < 6) (h : ∀ g, g < 4 → I 32 (i * 4 + g) = qn (f g)) (hb : ∀ g, f g ≤ 720) : fO_greatestPart (qn i) I J = some (qn (zmx f 4), I, J) := by
  have e4 : qn i * 4 = qn (i * 4 + 0) := by
    show qn i * qn 4 = _
    rw [qn_mul]; rfl
  have e5 : (qn i + 1) * 4 = qn (i * 4 + 4) := by
    show (qn i + qn 1) * qn 4 = _
    rw [qn_add, qn_mul]
    congr 1; omega
  unfold fO_greatestPart
  rw [e4]
  refine lp (σ := Int32) (R := fun o => o = some (qn (zmx f 4), I, J)) (Inv := fun k a => a = qn (zmx f k)) (fun fu k a => fO_greatestPart_b6 fu (qn i) a (qn (i * 4 + k)) I J) 4 100000 0 0 (Nat.zero_le _) (by omega) rfl ?_ ?_
  · intro fu a ha
    rw [fO_greatestPart_b6, e5, if_pos (Int32.le_refl _), ha]
  · intro fu k a hk ha
    refine Or.inr ⟨qn (zmx f (k + 1)), rfl, ?_⟩
    have h1 := zmx_le hb k
    have h2 := hb k
    rw [fO_greatestPart_b6, e5, if_neg (by rw [qn_le (by omega) (by omega)]; omega), if_neg (by show ¬ qn _ < qn 0; rw [qn_lt (by omega) (by omega)]; omega), if_neg (by show ¬ qn 24 ≤ qn _; rw [qn_le (by omega) (by omega)]; omega), qp_gd_t (q_g24 (by omega)), qn_nat (by omega), h k hk, ha, show qn (i * 4 + k) + 1 = qn (i * 4 + (k + 1)) from qn_add _ 1]
    unfold fJ_max
    by_cases hc : f k ≤ zmx f k
    · rw [if_neg (by rw [qn_lt (by omega) (by omega)]; omega), qp_bd_t, zmx_K hc]
    · rw [if_pos (by rw [qn_lt (by omega) (by omega)]; omega), qp_bd_t, zmx_N hc]
theorem eX_next_b {F : List (List Nat)} {L : Nat} {g : Nat → Nat} (hn : n ≤ 6) (hn0 : 0 < n) (e0 : I 15 0 = qn n) (hT : zTy n K P L F I) (hF : F.length ≤ 720) (hg : ∀ i, g i = zmx (zg3 K P L F i) 4) : fX_next_b64 100000 0 1 I J = some (qn (zmn g n), qp_up I 0 11 (qn (g (zmn g n))), J) := by
  have hgp : ∀ i, i < n → fO_greatestPart (qn i) I J = some (qn (g i), I, J) := fun i hi => by
    rw [hg i]
    exact eO_gp (f := zg3 K P L F i) (by omega) (fun g' hg' => hT.2.2 i hi g' hg') (fun g' => Nat.le_trans zg3_le hF)
  have hgb : ∀ i, g i ≤ 720 := fun i => by rw [hg i]; exact zmx_le (fun g' => Nat.le_trans zg3_le hF) 4
  refine lp (σ := Int32) (R := fun o => o = some (qn (zmn g n), qp_up I 0 11 (qn (g (zmn g n))), J)) (Inv := fun k a => 1 ≤ k ∧ a = qn (zmn g k)) (fun fu k a => fX_next_b64 fu a (qn k) I J) n 100000 1 0 (by omega) (by omega) ⟨Nat.le_refl 1, rfl⟩ ?_ ?_
  · rintro fu a ⟨-, ha⟩
    rw [fX_next_b64, e0, if_pos (Int32.le_refl _), ha, hgp _ (zmn_lt n hn0), qp_bd_t]
    unfold fX_tell
    rw [qp_bd_t]
  · rintro fu k a hk ⟨hk1, ha⟩
    have hl := zmn_lt (g := g) k (by omega)
    have run : fX_next_b64 (fu + 1) a (qn k) I J = if g (zmn g k) ≤ g k then fX_next_b64 fu (qn (zmn g k)) (qn (k + 1)) I J else fX_next_b64 fu (qn k) (qn (k + 1)) I J := by
      have h1 := hgb (zmn g k)
      have h2 := hgb k
      rw [fX_next_b64, e0, if_neg (by rw [qn_le (by omega) (by omega)]; omega), hgp k hk, qp_bd_t, ha, hgp _ (by omega), qp_bd_t, show qn k + 1 = qn (k + 1) from qn_add k 1]
      by_cases h : g (zmn g k) ≤ g k
      · rw [if_pos h, if_pos (by rw [qn_le (by omega) (by omega)]; exact h)]
      · rw [if_neg h, if_neg (by rw [qn_le (by omega) (by omega)]; exact h)]
    by_cases h : g (zmn g k) ≤ g k
    · rw [if_pos h] at run
      exact Or.inr ⟨_, ⟨by omega, by rw [zmn_K (by omega) h]⟩, run⟩
    · rw [if_neg h] at run
      exact Or.inr ⟨_, ⟨by omega, by rw [zmn_N (by omega) h]⟩, run⟩
theorem zfil_le {Q : List Nat → Bool} {c : Nat} (hn : n ≤ 6) : (((zall n).take c).filter Q).length ≤ 720 := by
  have h1 : (((zall n).take c).filter Q).length ≤ ((zall n).take c).length := List.length_filter_le _ _
  have h2 : ((zall n).take c).length ≤ (zall n).length := List.length_take_le' _ _
  rw [zall_len hn] at h2
  have := zfac_le n (by omega)
  omega
theorem zfil_all (hn : n ≤ 6) : (zall n).take (zfac n) = zall n := by rw [← zall_len hn, List.take_length]
theorem zMU_zR {I0 I' : Nat → Nat → Int32} {J : Nat → Nat → Int64} (h : zR I0 J) (hf : zMU I0 I') : zR I' J :=
  zR_scr h (fun c hc => by unfold zlc zcc at hc; exact hf.1 c (by omega) (by omega)) (hf.2 8 (by omega)) (hf.2 9 (by omega))
/-- what the model's next leaves besides -/
def zMW (I I' : Nat → Nat → Int32) : Prop := (∀ c, c ≠ 36 → c < 48 ∨ (51 < c ∧ c ≠ 53 ∧ c ≠ 54) → I' c = I c) ∧ ∀ j, j ≠ 20 → I' 36 j = I 36 j
end SN
theorem zXT_zR {I I1 : Nat → Nat → Int32} {J : Nat → Nat → Int64} (h : zR I J) (e : ∀ c, c < 18 ∨ (22 < c ∧ c < 29) ∨ 32 < c → I1 c = I c) : zR I1 J :=
  zR_scr h (fun c hc => by unfold zlc zcc at hc; exact e c (by omega)) (by rw [e 36 (by omega)]) (by rw [e 36 (by omega)])

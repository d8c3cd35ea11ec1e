/-! THE LAW'S OWN SMALL METHODS -/
theorem up_and (x : Int32) : ∃ k, k < 2147483648 ∧ x &&& 2147483647 = qn k := by
  refine ⟨(x &&& 2147483647).toNatClampNeg, Int32.toNatClampNeg_lt _, ?_⟩
  have h : 0 ≤ x &&& 2147483647 := by
    have : ∀ b : BitVec 32, (b &&& 2147483647#32).msb = false := by
      intro b
      rw [BitVec.msb_and]
      have : (2147483647#32).msb = false := by decide
      rw [this, Bool.and_false]
    have hb := this x.toBitVec
    rw [Int32.le_iff_toInt_le]
    show (0 : Int32).toInt ≤ (x.toBitVec &&& 2147483647#32).toInt
    have e0 : (0 : Int32).toInt = 0 := rfl
    rw [e0, BitVec.toInt_eq_toNat_of_msb hb]
    exact Int.natCast_nonneg _
  exact (Int32.ofNat_toNatClampNeg _ h).symm
theorem ew_up {m : Nat} (x : Int32) (hm : 0 < m) (hm2 : m < 2147483648) {I : Nat → Nat → Int32} {J : Nat → Nat → Int64} : ∃ k, k < m ∧ ∀ (I : Nat → Nat → Int32) (J : Nat → Nat → Int64), fW_up x (qn m) I J = some (qn k, I, J) := by
  obtain ⟨a, ha, e⟩ := up_and x
  refine ⟨a % m, Nat.mod_lt _ hm, fun I J => ?_⟩
  unfold fW_up
  rw [qp_gd_t (by show ¬ qn m = qn 0; rw [qn_eq (by omega) (by omega)]; omega), e, qn_div ha hm2, qn_mul, qn_mod]
theorem ew_cell {G : qp_G} (hG : G.2.2.2.2.1 ≤ 260) {k : Nat} (hk : k < 2147483648) : ∃ x : Int32, ∀ (I : Nat → Nat → Int32) (J : Nat → Nat → Int64), fW_cell G (qn k) I J = some (x, I, J) := by
  refine ⟨if Int32.ofNat G.2.2.2.2.1 ≤ qn k then (-1676768693) * (qn k + 569) else G.2.2.2.2.2 (qn k).toNatClampNeg, fun I J => ?_⟩
  unfold fW_cell
  rw [qp_gd_t ⟨by show qn 0 ≤ qn k; rw [qn_le (by omega) hk]; omega, hG⟩]
  by_cases h : Int32.ofNat G.2.2.2.2.1 ≤ qn k
  · rw [if_pos h, if_pos h]
  · rw [if_neg h, if_neg h]
/-- a line as the law lays it into its row -/
def wRow (n L0 : Nat) (K P : Nat → Nat) (R : Nat → Int32) : Prop := R 0 = qn n ∧ R 1 = qn L0 ∧ ∀ i, i < n → R (2 + i) = qn (K i) ∧ R (8 + i) = qn (P i)
def wOk (n L0 : Nat) (K P : Nat → Nat) : Prop := 0 < n ∧ n ≤ 6 ∧ L0 ≤ 20 ∧ ∀ i, i < n → K i ≤ 5 ∧ 1 ≤ P i ∧ P i ≤ 9
section WL
variable {G : qp_G} {J : Nat → Nat → Int64}
theorem ew_lay91 (hG : G.2.2.2.2.1 ≤ 260) {n : Nat} (hn : n ≤ 6) : ∀ (d a fuel : Nat) (I : Nat → Nat → Int32), a + d = n → d < fuel → I 36 0 = qn n → ∃ (K P : Nat → Nat) (I' : Nat → Nat → Int32), fW_lay_b91 G fuel (qn a) I J = some ((), I', J) ∧ (∀ c, c ≠ 36 → I' c = I c) ∧ (∀ j, j < 2 + a ∨ (8 ≤ j ∧ j < 8 + a) → I' 36 j = I 36 j) ∧ ∀ i, a ≤ i → i < n → K i ≤ 5 ∧ 1 ≤ P i ∧ P i ≤ 9 ∧ I' 36 (2 + i) = qn (K i) ∧ I' 36 (8 + i) = qn (P i) := by
  intro d
  induction d with
  | zero =>
    intro a fuel I ha hf h0
    obtain ⟨f, rfl⟩ : ∃ f, fuel = f + 1 := ⟨fuel - 1, by omega⟩
    refine ⟨fun _ => 0, fun _ => 0, I, ?_, fun _ _ => rfl, fun _ _ => rfl, fun i h1 h2 => by omega⟩
    rw [fW_lay_b91, h0, if_pos (by rw [qn_le (by omega) (by omega)]; omega)]
  | succ d ih =>
    intro a fuel I ha hf h0
    obtain ⟨f, rfl⟩ : ∃ f, fuel = f + 1 := ⟨fuel - 1, by omega⟩
    obtain ⟨x, ex⟩ := ew_cell (k := 1 + a) hG (by omega)
    obtain ⟨k, hk, ek⟩ := ew_up (I := I) (J := J) x (m := 6) (by omega) (by omega)
    obtain ⟨c, hc, ec⟩ := ew_up (I := I) (J := J) (x >>> ((20 : Int32) &&& 31)) (m := 2) (by omega) (by omega)
    obtain ⟨p4, hp4, ep4⟩ := ew_up (I := I) (J := J) (x >>> ((4 : Int32) &&& 31)) (m := 4) (by omega) (by omega)
    obtain ⟨p9, hp9, ep9⟩ := ew_up (I := I) (J := J) (x >>> ((4 : Int32) &&& 31)) (m := 9) (by omega) (by omega)
    have e1 : (1 : Int32) + qn a = qn (1 + a) := qn_add 1 a
    have e2 : (2 : Int32) + qn a = qn (2 + a) := qn_add 2 a
    have e8 : (8 : Int32) + qn a = qn (8 + a) := qn_add 8 a
    have ea : qn a + 1 = qn (a + 1) := qn_add a 1
    have g2 : (0 : Int32) ≤ qn (2 + a) ∧ qn (2 + a) < 34 := by
      show qn 0 ≤ qn (2 + a) ∧ qn (2 + a) < qn 34
      rw [qn_le (by omega) (by omega), qn_lt (by omega) (by omega)]; omega
    have g8 : (0 : Int32) ≤ qn (8 + a) ∧ qn (8 + a) < 34 := by
      show qn 0 ≤ qn (8 + a) ∧ qn (8 + a) < qn 34
      rw [qn_le (by omega) (by omega), qn_lt (by omega) (by omega)]; omega
    obtain ⟨p, hp1, hp2, hrun⟩ : ∃ p, 1 ≤ p ∧ p ≤ 9 ∧ fW_lay_b91 G (f + 1) (qn a) I J = fW_lay_b91 G f (qn (a + 1)) (qp_up (qp_up I 36 (2 + a) (qn k)) 36 (8 + a) (qn p)) J := by
      by_cases hc0 : c = 0
      · refine ⟨1 + p9, by omega, by omega, ?_⟩
        rw [fW_lay_b91, h0, if_neg (by rw [qn_le (by omega) (by omega)]; omega), e1, ex, qp_bd_t, qp_g_self, show (6 : Int32) = qn 6 from rfl, ek, qp_bd_t, qp_g_self, e2, qp_gd_t g2, qn_nat (by omega), show fW_up (x >>> ((20 : Int32) &&& 31)) 2 = fW_up (x >>> ((20 : Int32) &&& 31)) (qn 2) from rfl, ec, qp_bd_t, if_neg (by rw [hc0]; exact fun q => q rfl), qp_g_self, show (9 : Int32) = qn 9 from rfl, ep9, qp_bd_t, qp_g_self, e8, qp_gd_t g8, qn_nat (by omega), ea, show (1 : Int32) + qn p9 = qn (1 + p9) from qn_add 1 p9]
      · refine ⟨1 + p4, by omega, by omega, ?_⟩
        rw [fW_lay_b91, h0, if_neg (by rw [qn_le (by omega) (by omega)]; omega), e1, ex, qp_bd_t, qp_g_self, show (6 : Int32) = qn 6 from rfl, ek, qp_bd_t, qp_g_self, e2, qp_gd_t g2, qn_nat (by omega), show fW_up (x >>> ((20 : Int32) &&& 31)) 2 = fW_up (x >>> ((20 : Int32) &&& 31)) (qn 2) from rfl, ec, qp_bd_t, if_pos (by show ¬ qn c = qn 0; rw [qn_eq (by omega) (by omega)]; exact hc0), qp_g_self, show fW_up (x >>> ((4 : Int32) &&& 31)) 4 = fW_up (x >>> ((4 : Int32) &&& 31)) (qn 4) from rfl, ep4, qp_bd_t, qp_g_self, e8, qp_gd_t g8, qn_nat (by omega), ea, show (1 : Int32) + qn p4 = qn (1 + p4) from qn_add 1 p4]
    obtain ⟨K, P, I', r1, r2, r3, r4⟩ := ih (a + 1) f (qp_up (qp_up I 36 (2 + a) (qn k)) 36 (8 + a) (qn p)) (by omega) (by omega) (by rw [qm_nj (by omega), qm_nj (by omega)]; exact h0)
    refine ⟨fun i => if i = a then k else K i, fun i => if i = a then p else P i, I', hrun.trans r1, fun c hc => by rw [r2 c hc, qm_nk (by omega), qm_nk (by omega)], fun j hj => by rw [r3 j (by omega), qm_nj (by omega), qm_nj (by omega)], fun i h1 h2 => ?_⟩
    by_cases hi : i = a
    · subst hi
      dsimp only
      rw [if_pos rfl, if_pos rfl]
      refine ⟨by omega, hp1, hp2, ?_, ?_⟩
      · rw [r3 (2 + i) (by omega), qm_nj (by omega)]; exact qm_eq rfl
      · rw [r3 (8 + i) (by omega)]; exact qm_eq rfl
    · dsimp only
      rw [if_neg hi, if_neg hi]
      exact r4 i (by omega) h2
theorem ew_lay70 {a : Nat} : ∀ (d : Nat) (a fuel : Nat) (I : Nat → Nat → Int32), a + d = 6 → d < fuel → ∃ I', fW_lay_b70 G fuel (qn a) I J = fW_lay_b91 G 100000 0 I' J ∧ (∀ c, c ≠ 36 → I' c = I c) ∧ ∀ j, j < 14 → I' 36 j = I 36 j := by
  intro d
  induction d with
  | zero =>
    intro a fuel I ha hf
    obtain ⟨f, rfl⟩ : ∃ f, fuel = f + 1 := ⟨fuel - 1, by omega⟩
    exact ⟨I, by rw [fW_lay_b70, if_pos (by show qn 6 ≤ qn a; rw [qn_le (by omega) (by omega)]; omega)], fun _ _ => rfl, fun _ _ => rfl⟩
  | succ d ih =>
    intro a fuel I ha hf
    obtain ⟨f, rfl⟩ : ∃ f, fuel = f + 1 := ⟨fuel - 1, by omega⟩
    obtain ⟨I', r1, r2, r3⟩ := ih (a + 1) f (qp_up I 36 (14 + a) (qn a)) (by omega) (by omega)
    refine ⟨I', ?_, fun c hc => by rw [r2 c hc, qm_nk (by omega)], fun j hj => by rw [r3 j hj, qm_nj (by omega)]⟩
    rw [← r1, fW_lay_b70, if_neg (by show ¬ qn 6 ≤ qn a; rw [qn_le (by omega) (by omega)]; omega), show (14 : Int32) + qn a = qn (14 + a) from qn_add 14 a, qp_gd_t (by show qn 0 ≤ qn (14 + a) ∧ qn (14 + a) < qn 34; rw [qn_le (by omega) (by omega), qn_lt (by omega) (by omega)]; omega), qn_nat (by omega), show qn a + 1 = qn (a + 1) from qn_add a 1]
theorem ew_lay2 : ∀ (d : Nat) (a fuel : Nat) (I : Nat → Nat → Int32), a + d = 34 → d < fuel → ∃ I' f, fW_lay_b2 G fuel (qn a) I J = fW_lay_b2 G (f + 1) 34 I' J ∧ ∀ c, c ≠ 36 → I' c = I c := by
  intro d
  induction d with
  | zero =>
    intro a fuel I ha hf
    obtain ⟨f, rfl⟩ : ∃ f, fuel = f + 1 := ⟨fuel - 1, by omega⟩
    obtain rfl : a = 34 := by omega
    exact ⟨I, f, rfl, fun _ _ => rfl⟩
  | succ d ih =>
    intro a fuel I ha hf
    obtain ⟨f, rfl⟩ : ∃ f, fuel = f + 1 := ⟨fuel - 1, by omega⟩
    obtain ⟨I', f', r1, r2⟩ := ih (a + 1) f (qp_up I 36 a 0) (by omega) (by omega)
    refine ⟨I', f', ?_, fun c hc => by rw [r2 c hc, qm_nk (by omega)]⟩
    rw [← r1, fW_lay_b2, if_neg (by show ¬ qn 34 ≤ qn a; rw [qn_le (by omega) (by omega)]; omega), qp_gd_t (by show qn 0 ≤ qn a ∧ qn a < qn 34; rw [qn_le (by omega) (by omega), qn_lt (by omega) (by omega)]; omega), qn_nat (by omega), show qn a + 1 = qn (a + 1) from qn_add a 1]
theorem ew_lay (hG : G.2.2.2.2.1 ≤ 260) (I : Nat → Nat → Int32) : ∃ (n L0 : Nat) (K P : Nat → Nat) (I' : Nat → Nat → Int32), fW_lay G I J = some ((), I', J) ∧ wOk n L0 K P ∧ wRow n L0 K P (I' 36) ∧ ∀ c, c ≠ 36 → I' c = I c := by
  obtain ⟨I1, f, a1, a2⟩ := ew_lay2 (G := G) (J := J) 34 0 100000 I (by omega) (by omega)
  obtain ⟨x, ex⟩ := ew_cell (k := 0) hG (by omega)
  obtain ⟨m, hm, em⟩ := ew_up (I := I) (J := J) x (m := 6) (by omega) (by omega)
  obtain ⟨c, hc, ec⟩ := ew_up (I := I) (J := J) (x >>> ((20 : Int32) &&& 31)) (m := 2) (by omega) (by omega)
  obtain ⟨l9, hl9, e9⟩ := ew_up (I := I) (J := J) (x >>> ((4 : Int32) &&& 31)) (m := 9) (by omega) (by omega)
  obtain ⟨l21, hl21, e21⟩ := ew_up (I := I) (J := J) (x >>> ((4 : Int32) &&& 31)) (m := 21) (by omega) (by omega)
  have ex0 : ∀ (I : Nat → Nat → Int32) (J : Nat → Nat → Int64), fW_cell G 0 I J = some (x, I, J) := ex
  obtain ⟨L0, hL0, hrun⟩ : ∃ L0, L0 ≤ 20 ∧ fW_lay G I J = fW_lay_b70 G 100000 0 (qp_up (qp_up I1 36 0 (qn (1 + m))) 36 1 (qn L0)) J := by
    have e0 : fW_lay G I J = fW_lay_b2 G (f + 1) 34 I1 J := a1
    by_cases hc0 : c = 0
    · refine ⟨l21, by omega, ?_⟩
      rw [e0, fW_lay_b2, if_pos (Int32.le_refl _), ex0, qp_bd_t, qp_g_self, show fW_up x 6 = fW_up x (qn 6) from rfl, em, qp_bd_t, qp_g_self, show (1 : Int32) + qn m = qn (1 + m) from qn_add 1 m, ex0, qp_bd_t, qp_g_self, ex0, qp_bd_t, qp_g_self, show fW_up (x >>> ((20 : Int32) &&& 31)) 2 = fW_up (x >>> ((20 : Int32) &&& 31)) (qn 2) from rfl, ec, qp_bd_t, if_neg (by rw [hc0]; exact fun q => q rfl), qp_g_self, show fW_up (x >>> ((4 : Int32) &&& 31)) 21 = fW_up (x >>> ((4 : Int32) &&& 31)) (qn 21) from rfl, e21, qp_bd_t, qp_g_self]
    · refine ⟨l9, by omega, ?_⟩
      rw [e0, fW_lay_b2, if_pos (Int32.le_refl _), ex0, qp_bd_t, qp_g_self, show fW_up x 6 = fW_up x (qn 6) from rfl, em, qp_bd_t, qp_g_self, show (1 : Int32) + qn m = qn (1 + m) from qn_add 1 m, ex0, qp_bd_t, qp_g_self, ex0, qp_bd_t, qp_g_self, show fW_up (x >>> ((20 : Int32) &&& 31)) 2 = fW_up (x >>> ((20 : Int32) &&& 31)) (qn 2) from rfl, ec, qp_bd_t, if_pos (by show ¬ qn c = qn 0; rw [qn_eq (by omega) (by omega)]; exact hc0), qp_g_self, show fW_up (x >>> ((4 : Int32) &&& 31)) 9 = fW_up (x >>> ((4 : Int32) &&& 31)) (qn 9) from rfl, e9, qp_bd_t, qp_g_self]
  obtain ⟨I2, b1, b2, b3⟩ := ew_lay70 (G := G) (J := J) (a := 0) 6 0 100000 (qp_up (qp_up I1 36 0 (qn (1 + m))) 36 1 (qn L0)) (by omega) (by omega)
  have h0 : I2 36 0 = qn (1 + m) := by rw [b3 0 (by omega), qm_nj (by omega)]; exact qm_eq rfl
  have h1 : I2 36 1 = qn L0 := by rw [b3 1 (by omega)]; exact qm_eq rfl
  obtain ⟨K, P, I3, c1, c2, c3, c4⟩ := ew_lay91 (J := J) hG (n := 1 + m) (by omega) (1 + m) 0 100000 I2 (by omega) (by omega) h0
  refine ⟨1 + m, L0, K, P, I3, (hrun.trans b1).trans c1, ⟨by omega, by omega, hL0, fun i hi => ⟨(c4 i (by omega) hi).1, (c4 i (by omega) hi).2.1, (c4 i (by omega) hi).2.2.1⟩⟩, ⟨by rw [c3 0 (by omega)]; exact h0, by rw [c3 1 (by omega)]; exact h1, fun i hi => (c4 i (by omega) hi).2.2.2⟩, fun c hc => ?_⟩
  rw [c2 c hc, b2 c hc, qm_nk (by omega), qm_nk (by omega)]; exact a2 c hc
end WL
/-! a line made by text -/
def wLet (k : Nat) : Nat := if k = 0 then 112 else if k = 1 then 115 else if k = 2 then 99 else if k = 3 then 117 else if k = 4 then 103 else 111
theorem wLet_lt (k : Nat) : wLet k < 128 := by unfold wLet; (repeat' split) <;> omega
theorem ew_letter {k : Nat} (hk : k ≤ 5) {I : Nat → Nat → Int32} {J : Nat → Nat → Int64} : fW_letter (qn k) I J = some (qn (wLet k), I, J) := by
  rcases (show k = 0 ∨ k = 1 ∨ k = 2 ∨ k = 3 ∨ k = 4 ∨ k = 5 by omega) with rfl | rfl | rfl | rfl | rfl | rfl <;> rfl
theorem wLet_kl : ∀ k, k ≤ 5 → zkl (qn (wLet k)) = some k := by decide +kernel
/-- the text of a line -/
def wTx (n L0 : Nat) (K P : Nat → Nat) (T : Nat → Int32) : Prop := T 0 = 113 ∧ T 1 = qn (48 + L0 / 10) ∧ T 2 = qn (48 + L0 % 10) ∧ T 3 = 32 ∧ ∀ i, i < n → T (4 + 2 * i) = qn (wLet (K i)) ∧ T (5 + 2 * i) = qn (48 + P i)
theorem wfig {T : Nat → Int32} {m p g : Nat} (hp : p < m) (hg : g ≤ 9) (h : T p = qn (48 + g)) : zfig T m p = some g := by
  unfold zfig
  rw [h, if_pos ⟨hp, by show qn 48 ≤ qn (48 + g); rw [qn_le (by omega) (by omega)]; omega, by show qn (48 + g) ≤ qn 57; rw [qn_le (by omega) (by omega)]; omega⟩, qn_nat (by omega)]
  congr 1; omega
theorem wsk {T : Nat → Int32} {m p : Nat} (h : ¬ (p < m ∧ T p = 32)) : ∀ f, zsk T m f p = p
  | 0 => rfl
  | f + 1 => by
    unfold zsk
    rw [if_neg h]
theorem wLet_32 (k : Nat) : ¬ qn (wLet k) = 32 := by
  unfold wLet
  repeat' split
  all_goals decide
theorem wpp {n L0 : Nat} {K P : Nat → Nat} {T : Nat → Int32} (hok : wOk n L0 K P) (h : wTx n L0 K P T) : ∀ (d i f : Nat) (ks ps : List Nat), i + d = n → d < f → ks.length = i → ps.length = i → zpp T (4 + 2 * n) f ks ps (4 + 2 * i) = (none, ks ++ (List.range' i d).map K, ps ++ (List.range' i d).map P) := by
  intro d
  induction d with
  | zero =>
    intro i f ks ps hi hf hk hp
    obtain ⟨f, rfl⟩ : ∃ f', f = f' + 1 := ⟨f - 1, by omega⟩
    unfold zpp
    have hn := hok.1
    rw [if_pos ⟨by omega, by omega⟩]
    simp
  | succ d ih =>
    intro i f ks ps hi hf hk hp
    obtain ⟨f, rfl⟩ : ∃ f', f = f' + 1 := ⟨f - 1, by omega⟩
    have hn6 := hok.2.1
    obtain ⟨o1, o2, o3⟩ := hok.2.2.2 i (by omega)
    obtain ⟨t1, t2⟩ := h.2.2.2.2 i (by omega)
    have ekd : zkd T (4 + 2 * n) (4 + 2 * i) = some (K i) := by
      unfold zkd
      rw [if_pos (by omega), t1, wLet_kl _ o1]
    have efg : zfig T (4 + 2 * n) (4 + 2 * i + 1) = some (P i) := wfig (by omega) o3 (by rw [show 4 + 2 * i + 1 = 5 + 2 * i by omega]; exact t2)
    have esk : zsk T (4 + 2 * n) 61 (4 + 2 * i + 2) = 4 + 2 * (i + 1) := by
      rw [show 4 + 2 * i + 2 = 4 + 2 * (i + 1) by omega]
      refine wsk (fun q => ?_) 61
      by_cases hl : i + 1 < n
      · rw [(h.2.2.2.2 (i + 1) hl).1] at q
        exact wLet_32 _ q.2
      · omega
    unfold zpp
    rw [if_neg (by omega), ekd]
    dsimp only
    rw [if_neg (by omega), efg]
    dsimp only
    rw [if_neg (by omega), esk, ih (i + 1) f (ks ++ [K i]) (ps ++ [P i]) (by omega) (by omega) (by rw [List.length_append, hk]; rfl) (by rw [List.length_append, hp]; rfl)]
    rw [List.range'_succ]
    simp
theorem wpar {n L0 : Nat} {K P : Nat → Nat} {T : Nat → Int32} (hok : wOk n L0 K P) (h : wTx n L0 K P T) : zpar T (4 + 2 * n) = (none, L0, (List.range' 0 n).map K, (List.range' 0 n).map P) := by
  have hL := hok.2.2.1
  have hn := hok.1
  obtain ⟨t0, t1, t2, t3, t4⟩ := id h
  have e0 : zsk T (4 + 2 * n) 61 0 = 0 := wsk (fun q => by rw [t0] at q; exact absurd q.2 (by decide)) 61
  have e3 : zsk T (4 + 2 * n) 61 (0 + 3) = 4 + 2 * 0 := by
    show (if 3 < 4 + 2 * n ∧ T 3 = 32 then zsk T (4 + 2 * n) 60 4 else 3) = 4
    rw [if_pos ⟨by omega, t3⟩]
    refine wsk (fun q => ?_) 60
    have := (t4 0 hn).1
    rw [show 4 + 2 * 0 = 4 from rfl] at this
    rw [this] at q
    exact wLet_32 _ q.2
  unfold zpar
  rw [e0, if_pos ⟨by omega, t0⟩, wfig (g := L0 / 10) (by omega) (by omega) t1]
  dsimp only
  rw [wfig (g := L0 % 10) (by omega) (by omega) t2]
  dsimp only
  rw [if_pos (by omega), e3, wpp hok h n 0 7 [] [] (by omega) (by have := hok.2.1; omega) rfl rfl]
  congr 2
  omega
theorem ew_bits {I : Nat → Nat → Int32} {J : Nat → Nat → Int64} : ∀ (k a fuel : Nat), k ≤ 6 → k < fuel → fW_bits_b4 fuel (qn a) (qn (2 ^ k - 1)) I J = some (qn (a + k), I, J) := by
  intro k
  induction k with
  | zero =>
    intro a fuel _ hf
    obtain ⟨f, rfl⟩ : ∃ f, fuel = f + 1 := ⟨fuel - 1, by omega⟩
    rw [fW_bits_b4, if_pos (by decide)]; rfl
  | succ k ih =>
    intro a fuel hk hf
    obtain ⟨f, rfl⟩ : ∃ f, fuel = f + 1 := ⟨fuel - 1, by omega⟩
    have h2 : (2 : Nat) ^ (k + 1) = 2 * 2 ^ k := by rw [Nat.pow_succ]; omega
    have hp : 0 < 2 ^ k := Nat.pow_pos (by decide)
    have h64 : (2 : Nat) ^ (k + 1) ≤ 64 := p2_le hk
    have e1 : qn (2 ^ (k + 1) - 1) &&& 1 = qn 1 := by
      show qn _ &&& qn 1 = _
      rw [qn_and, q_and1, show (2 ^ (k + 1) - 1) % 2 = 1 by omega]
    have e2 : qn (2 ^ (k + 1) - 1) >>> ((1 : Int32) &&& 31) = qn (2 ^ k - 1) := by
      show qn _ >>> (qn 1 &&& qn 31) = _
      rw [qn_shr (by omega) (by omega), show (2 ^ (k + 1) - 1) / 2 ^ 1 = 2 ^ k - 1 by omega]
    rw [fW_bits_b4, if_neg (by show ¬ qn _ ≤ qn 0; rw [qn_le (by omega) (by omega)]; omega), e1, e2, qn_add, ih (a + 1) f (by omega) (by omega), show a + 1 + k = a + (k + 1) by omega]

/-! FAULT, LINE: alike -/
section RL
variable {t m : Nat} {T : Nat → Int32} {I : Nat → Nat → Int32} {J : Nat → Nat → Int64}
theorem eR_read (ht : t < 4) (hm : m ≤ 60) (h4 : I 4 0 = qn 60) (h5 : I 5 t = qn m) (h6 : ∀ i, i < m → I 6 (t * 60 + i) = T i) :
    ∃ I', fR_read (qn t) I J = some (zfv (zpar T m).1, I', J) ∧ ((zpar T m).1 = none → I' 11 1 = qn (zpar T m).2.1 ∧ zXC (zpar T m).2.2.1 (zpar T m).2.2.2 I') ∧ ∀ c, c < 10 ∨ 13 < c → I' c = I c := by
  obtain ⟨I0, hI0⟩ : ∃ I0, I0 = qp_up (qp_up (qp_up (qp_up I 10 2 (qn t)) 10 3 0) 11 0 0) 11 1 0 := ⟨_, rfl⟩
  have f0 : ∀ c, c < 10 ∨ 13 < c → I0 c = I c := fun c hc => by rw [hI0, qm_nk (by omega), qm_nk (by omega), qm_nk (by omega), qm_nk (by omega)]
  have hX0 : zXR t m T 0 I0 := ⟨by rw [f0 4 (by omega)]; exact h4, by rw [f0 5 (by omega)]; exact h5, by rw [f0 6 (by omega)]; exact h6, by rw [hI0, qm_nk (by omega), qm_nk (by omega), qm_nj (by omega), qm_eq rfl], by rw [hI0, qm_nk (by omega), qm_nk (by omega), qm_eq rfl]; rfl⟩
  obtain ⟨I1, a1, a2, a3⟩ := eR_skip (J := J) ht hm (show 0 < 1000 by omega) hX0
  have hsk := zsk_le (T := T) (m := m) 61 0
  have f1 : ∀ c, c < 10 ∨ 13 < c → I1 c = I c := fun c hc => (a3 c (by omega)).trans (f0 c hc)
  have e11 : I1 11 0 = qn 0 := by rw [a3 11 (by omega), hI0, qm_nj (by omega), qm_eq rfl]; rfl
  have ecl : fC_clear_11 (qp_up (qp_up I 10 2 (qn t)) 10 3 0) J = some ((), I0, J) := by rw [hI0]; rfl
  unfold fR_read zpar
  generalize hq : zsk T m 61 0 = q at *
  rw [ecl, qp_bd_t, a1, qp_bd_t, a2.2.2.2.1, eS4_size ht, qp_bd_t, a2.2.1, a2.2.2.2.2]
  by_cases hqm : q < m
  case neg =>
    rw [if_pos (by rw [qn_le (by omega) (by omega)]; omega), if_neg (fun h => hqm h.1)]
    exact ⟨I1, rfl, fun h => (by cases h), f1⟩
  rw [if_neg (by rw [qn_le (by omega) (by omega)]; omega), a2.2.2.2.1, eR_get ht hm a2 hqm, qp_bd_t]
  by_cases hT : T q = 113
  case neg =>
    rw [if_neg hT, if_neg (fun h => hT h.2), a2.2.2.2.2]
    exact ⟨I1, rfl, fun h => (by cases h), f1⟩
  have hX2 : zXR t m T (q + 1) (qp_up I1 10 3 (qn (q + 1))) := zXR_p a2 (fun c h1 h2 => qm_nk (by omega)) (qm_nj (by omega)) (qm_eq rfl)
  have f2 : ∀ c, c < 10 ∨ 13 < c → qp_up I1 10 3 (qn (q + 1)) c = I c := fun c hc => by rw [qm_nk (by omega)]; exact f1 c hc
  rw [if_pos hT, if_pos ⟨hqm, hT⟩, a2.2.2.2.2, show qn q + 1 = qn (q + 1) from qn_add q 1]
  unfold fR_readLoaves
  rw [hX2.2.2.2.2, eR_fig ht hm (by omega) hX2, qp_bd_t]
  cases ha : zfig T m (q + 1) with
  | none =>
    dsimp only
    rw [if_neg (show ¬ 0 ≤ zki none by decide), qp_bd_t, if_pos (show (0 : Int32) = 0 from rfl), hX2.2.2.2.2]
    exact ⟨_, rfl, fun h => (by cases h), f2⟩
  | some a =>
    have ha9 := (zfig_9 ha).2.1
    dsimp only
    rw [if_pos (show 0 ≤ zki (some a) by show qn 0 ≤ qn a; rw [qn_le (by omega) (by omega)]; omega), hX2.2.2.2.2, show qn (q + 1) + 1 = qn (q + 2) from qn_add _ 1, eR_fig ht hm (by omega) hX2, qp_bd_t]
    cases hb : zfig T m (q + 2) with
    | none =>
      dsimp only
      rw [if_neg (show ¬ 0 ≤ zki none by decide), hX2.2.2.2.2, qp_bd_t, if_pos (show (0 : Int32) = 0 from rfl), qm_eq rfl, show qn (q + 1) + 1 = qn (q + 2) from qn_add _ 1]
      exact ⟨_, rfl, fun h => (by cases h), fun c hc => by rw [qm_nk (by omega)]; exact f2 c hc⟩
    | some b =>
      have hb9 := (zfig_9 hb).2.1
      have es : (10 : Int32) * zki (some a) + zki (some b) = qn (10 * a + b) := by
        show qn 10 * qn a + qn b = _
        rw [qn_mul, qn_add]
      dsimp only
      rw [if_pos (show 0 ≤ zki (some b) by show qn 0 ≤ qn b; rw [qn_le (by omega) (by omega)]; omega), es]
      by_cases h20 : 10 * a + b ≤ 20
      case neg =>
        rw [if_neg (by show ¬ qn _ ≤ qn 20; rw [qn_le (by omega) (by omega)]; exact h20), if_neg h20, qp_bd_t, if_pos (show (0 : Int32) = 0 from rfl), qm_nk (by omega), hX2.2.2.2.2]
        exact ⟨_, rfl, fun h => (by cases h), fun c hc => by rw [qm_nk (by omega)]; exact f2 c hc⟩
      rw [if_pos (by show qn _ ≤ qn 20; rw [qn_le (by omega) (by omega)]; exact h20), if_pos h20, hX2.2.2.2.2, qp_bd_t, if_neg (show ¬ (1 : Int32) = 0 by decide), show qn (q + 1) + 2 = qn (q + 3) from qn_add _ 2]
      obtain ⟨I3, hI3⟩ : ∃ I3, I3 = qp_up (qp_up (qp_up I1 10 3 (qn (q + 1))) 11 1 (qn (10 * a + b))) 10 3 (qn (q + 3)) := ⟨_, rfl⟩
      have hX3 : zXR t m T (q + 3) I3 := by
        rw [hI3]
        exact zXR_p a2 (fun c h1 h2 => by rw [qm_nk (by omega), qm_nk (by omega), qm_nk (by omega)]) (by rw [qm_nj (by omega), qm_nk (by omega), qm_nj (by omega)]) (qm_eq rfl)
      have e110 : I3 11 0 = qn 0 := by rw [hI3, qm_nk (by omega), qm_nj (by omega), qm_nk (by omega)]; exact e11
      obtain ⟨I4, g1, g2, g3, g4⟩ := eR_people (J := J) ht hm 7 [] [] (q + 3) 100000 I3 rfl (by decide) (by omega) (by omega) rfl hX3 ⟨e110, fun p hp => absurd hp (Nat.not_lt_zero p), fun p hp => absurd hp (Nat.not_lt_zero p)⟩
      have g1' : fR_readPeople I3 J = some (zfv (zpp T m 7 [] [] (zsk T m 61 (q + 3))).1, I4, J) := g1
      rw [← hI3, g1', qp_bd_t]
      refine ⟨I4, rfl, fun _ => ⟨?_, g2⟩, fun c hc => by rw [g4 c hc, hI3, qm_nk (by omega), qm_nk (by omega)]; exact f2 c hc⟩
      rw [g3, hI3, qm_nk (by omega), qm_eq rfl]
/-! the model -/
def zYR (t m : Nat) (T : Nat → Int32) (p : Nat) (I : Nat → Nat → Int32) : Prop := I 43 t = qn m ∧ (∀ i, i < m → I 42 (60 * t + i) = T i) ∧ I 36 14 = qn p
def zYF (I I' : Nat → Nat → Int32) : Prop := (∀ c, c ≠ 36 → c ≠ 46 → I' c = I c) ∧ ∀ j, j ≠ 14 → I' 36 j = I 36 j
theorem zYF_rfl : zYF I I := ⟨fun _ _ _ => rfl, fun _ _ => rfl⟩
theorem zYF_tr {I I1 I2 : Nat → Nat → Int32} (h : zYF I I1) (h' : zYF I1 I2) : zYF I I2 := ⟨fun c h1 h2 => (h'.1 c h1 h2).trans (h.1 c h1 h2), fun j hj => (h'.2 j hj).trans (h.2 j hj)⟩
theorem zYF_46 {j : Nat} {v : Int32} : zYF I (qp_up I 46 j v) := ⟨fun c h1 h2 => qm_nk (Ne.symm h2), fun j hj => by rw [qm_nk (by omega)]⟩
theorem zYF_36 {v : Int32} : zYF I (qp_up I 36 14 v) := ⟨fun c h1 h2 => qm_nk (Ne.symm h1), fun j hj => by rw [qm_nj (Ne.symm hj)]⟩
theorem zYR_p {p p' : Nat} {I' : Nat → Nat → Int32} (h : zYR t m T p I) (e : zYF I I') (e3 : I' 36 14 = qn p') : zYR t m T p' I' := by
  unfold zYR at h ⊢
  rw [e.1 43 (by omega) (by omega), e.1 42 (by omega) (by omega)]
  exact ⟨h.1, h.2.1, e3⟩
theorem eM_here {p : Nat} (ht : t < 4) (hm : m ≤ 60) (hp : p < 1000) (h : zYR t m T p I) : fM_here (qn t) I J = some (if p < m then T p else -9, I, J) := by
  have g4 : (0 : Int32) ≤ qn t ∧ qn t < 4 := by
    show qn 0 ≤ qn t ∧ qn t < qn 4
    rw [qn_le (by omega) (by omega), qn_lt (by omega) (by omega)]; omega
  have ex : (60 : Int32) * qn t + qn p = qn (60 * t + p) := by
    show qn 60 * qn t + qn p = _
    rw [qn_mul, qn_add]
  unfold fM_here
  rw [qp_gd_t g4, qn_nat (by omega), h.1, h.2.2]
  by_cases hpm : p < m
  · rw [if_neg (by rw [qn_le (by omega) (by omega)]; omega), ex, qp_gd_t (q_g240 (by omega)), qn_nat (by omega), h.2.1 p hpm, if_pos hpm]
  · rw [if_pos (by rw [qn_le (by omega) (by omega)]; omega), if_neg hpm]
theorem eM_skip_b (ht : t < 4) (hm : m ≤ 60) : ∀ (f p fuel : Nat) (I : Nat → Nat → Int32), m < p + f → f < fuel → p + f < 1000 → zYR t m T p I → ∃ I', fM_skip_b0 fuel (qn t) I J = some ((), I', J) ∧ zYR t m T (zsk T m f p) I' ∧ zYF I I' ∧ I' 46 = I 46 := by
  intro f
  induction f with
  | zero =>
    intro p fuel I h1 h2 hp hX
    obtain ⟨fu, rfl⟩ : ∃ fu, fuel = fu + 1 := ⟨fuel - 1, by omega⟩
    refine ⟨I, ?_, hX, zYF_rfl, rfl⟩
    rw [fM_skip_b0, eM_here ht hm (by omega) hX, qp_bd_t, if_neg (show ¬ p < m by omega), if_pos (by decide)]
  | succ f ih =>
    intro p fuel I h1 h2 hp hX
    obtain ⟨fu, rfl⟩ : ∃ fu, fuel = fu + 1 := ⟨fuel - 1, by omega⟩
    unfold zsk
    rw [fM_skip_b0, eM_here ht hm (by omega) hX, qp_bd_t]
    by_cases hpm : p < m
    · rw [if_pos hpm]
      by_cases hb : T p = 32
      · rw [if_neg (fun q => q hb), if_pos ⟨hpm, hb⟩]
        obtain ⟨I', g1, g2, g3, g4⟩ := ih (p + 1) fu (qp_up I 36 14 (qn (p + 1))) (by omega) (by omega) (by omega) (zYR_p hX zYF_36 (qm_eq rfl))
        refine ⟨I', ?_, g2, zYF_tr zYF_36 g3, by rw [g4, qm_nk (by omega)]⟩
        rw [hX.2.2, show qn p + 1 = qn (p + 1) from qn_add p 1]; exact g1
      · rw [if_pos hb, if_neg (fun q => hb q.2)]
        exact ⟨I, rfl, hX, zYF_rfl, rfl⟩
    · rw [if_neg hpm, if_pos (by decide), if_neg (fun q => hpm q.1)]
      exact ⟨I, rfl, hX, zYF_rfl, rfl⟩
theorem eM_skip {p : Nat} (ht : t < 4) (hm : m ≤ 60) (hp : p < 500) (hX : zYR t m T p I) : ∃ I', fM_skip (qn t) I J = some ((), I', J) ∧ zYR t m T (zsk T m 61 p) I' ∧ zYF I I' ∧ I' 46 = I 46 :=
  eM_skip_b ht hm 61 p 100000 I (by omega) (by omega) (by omega) hX
theorem eM_takesT {p k lo g : Nat} (ht : t < 4) (hm : m ≤ 60) (hp : p < 500) (hX : zYR t m T p I) (hk : k < 75) (hg : zfig T m p = some g) (hlo : lo ≤ g) (hlo1 : lo ≤ 1) : fM_takes (qn t) (qn k) (qn lo) I J = some (1, qp_up (qp_up I 46 k (qn g)) 36 14 (qn (p + 1)), J) := by
  obtain ⟨h1, h2, h3⟩ := zfig_9 hg
  have el : (48 : Int32) + qn lo = qn (48 + lo) := qn_add 48 lo
  have hin : fM_in (Int32.toInt64 (qn (48 + g))) (Int32.toInt64 (qn (48 + lo))) 57 I J = some (qn 1, I, J) := by
    rw [qn_64 (by omega), qn_64 (by omega)]
    exact eM_inN (a := 48 + g) (b := 48 + lo) (c := 57) (by omega) (by omega) (by omega) (by omega)
  unfold fM_takes
  rw [eM_here ht hm (by omega) hX, qp_bd_t, if_pos h1, h3, el, hin, qp_bd_t, if_pos (by decide), qp_gd_t (by show qn 0 ≤ qn k ∧ qn k < qn 75; rw [qn_le (by omega) (by omega), qn_lt (by omega) (by omega)]; omega), qn_nat (by omega), hX.2.2, show qn (48 + g) - 48 = qn (48 + g - 48) from qn_sub (b := 48) (by omega), show 48 + g - 48 = g by omega, show qn p + 1 = qn (p + 1) from qn_add p 1]
theorem eM_takesF {p k lo : Nat} (ht : t < 4) (hm : m ≤ 60) (hp : p < 500) (hX : zYR t m T p I) (hg : zfig T m p = none ∨ ∃ g, zfig T m p = some g ∧ g < lo) (hlo1 : lo ≤ 1) : fM_takes (qn t) (qn k) (qn lo) I J = some (0, I, J) := by
  have el : (48 : Int32) + qn lo = qn (48 + lo) := qn_add 48 lo
  have hin : fM_in (Int32.toInt64 (if p < m then T p else -9)) (Int32.toInt64 (qn (48 + lo))) 57 I J = some (qn 0, I, J) := by
    rw [qn_64 (show 48 + lo < 2147483648 by omega)]
    refine eM_inPF (lo := 48 + lo) (hi := 58) (by omega) (by omega) rfl ?_
    by_cases hpm : p < m
    · rw [if_pos hpm]
      rcases hg with hg | ⟨g, hg, hgl⟩
      · rcases zfig_N hg hpm with h | h
        · refine Or.inl ?_
          rw [Int32.lt_iff_toInt_lt, qn_toInt (by omega)] at h ⊢
          omega
        · exact Or.inr h
      · obtain ⟨-, h2, h3⟩ := zfig_9 hg
        refine Or.inl ?_
        rw [h3, qn_lt (by omega) (by omega)]; omega
    · rw [if_neg hpm]
      refine Or.inl ?_
      rw [Int32.lt_iff_toInt_lt, qn_toInt (by omega)]
      have : (-9 : Int32).toInt = -9 := rfl
      omega
  unfold fM_takes
  rw [eM_here ht hm (by omega) hX, qp_bd_t, el, hin, qp_bd_t, if_neg (by exact fun q => q rfl)]
def zkm : Option Nat → Int32
  | none => -9
  | some k => qn k
theorem eM_kindBy {c : Int32} : fM_kindBy c I J = some (zkm (zkl c), I, J) := by
  unfold fM_kindBy zkl
  by_cases c0 : c = 112
  · rw [if_neg (fun q => q c0), if_pos c0]; rfl
  rw [if_pos c0, if_neg c0]
  by_cases c1 : c = 115
  · rw [if_neg (fun q => q c1), if_pos c1]; rfl
  rw [if_pos c1, if_neg c1]
  by_cases c2 : c = 99
  · rw [if_neg (fun q => q c2), if_pos c2]; rfl
  rw [if_pos c2, if_neg c2]
  by_cases c3 : c = 117
  · rw [if_neg (fun q => q c3), if_pos c3]; rfl
  rw [if_pos c3, if_neg c3]
  by_cases c4 : c = 103
  · rw [if_neg (fun q => q c4), if_pos c4]; rfl
  rw [if_pos c4, if_neg c4]
  by_cases c5 : c = 111
  · rw [if_neg (fun q => q c5), if_pos c5]; rfl
  rw [if_pos c5, if_neg c5]; rfl
def zYC (ks ps : List Nat) (I : Nat → Nat → Int32) : Prop := I 46 0 = qn ks.length ∧ (∀ i, i < ks.length → I 46 (2 + i) = qn (zat ks i)) ∧ ∀ i, i < ks.length → I 46 (8 + i) = qn (zat ps i)
theorem eM_dead {fu : Nat} {a1 : Int32} : fM_faultOf_b27 (fu + 1) a1 0 I J = some (I 36 14, I, J) := by
  rw [fM_faultOf_b27, if_pos rfl, if_pos rfl]
theorem eM_people (ht : t < 4) (hm : m ≤ 60) : ∀ (f : Nat) (ks ps : List Nat) (p fuel : Nat) (I : Nat → Nat → Int32), f + ks.length = 7 → ks.length ≤ 6 → f < fuel → p < 300 → ps.length = ks.length → zYR t m T p I → zYC ks ps I →
    ∃ I', fM_faultOf_b27 fuel (qn t) 1 I J = some (zfv (zpp T m f ks ps p).1, I', J) ∧ zYC (zpp T m f ks ps p).2.1 (zpp T m f ks ps p).2.2 I' ∧ I' 46 1 = I 46 1 ∧ zYF I I' := by
  intro f
  induction f with
  | zero => intro ks ps p fuel I h1 h2; omega
  | succ f ih =>
    intro ks ps p fuel I h1 h2 h3 hp hlen hX hC
    obtain ⟨fu, rfl⟩ : ∃ fu, fuel = fu + 2 := ⟨fuel - 2, by omega⟩
    have g4 : (0 : Int32) ≤ qn t ∧ qn t < 4 := by
      show qn 0 ≤ qn t ∧ qn t < qn 4
      rw [qn_le (by omega) (by omega), qn_lt (by omega) (by omega)]; omega
    unfold zpp
    rw [fM_faultOf_b27, if_neg (show ¬ (1 : Int32) = 0 by decide), qp_gd_t g4, qn_nat (by omega), hX.1, hX.2.2]
    by_cases hmp : m ≤ p
    · rw [if_pos (by rw [qn_le (by omega) (by omega)]; exact hmp), if_neg (show ¬ (1 : Int32) = 0 by decide), hC.1]
      by_cases h0 : 0 < ks.length
      · rw [if_neg (by show ¬ qn _ ≤ qn 0; rw [qn_le (by omega) (by omega)]; omega), if_pos ⟨h0, hmp⟩]
        exact ⟨I, rfl, hC, rfl, zYF_rfl⟩
      · have ek : zkd T m p = none := by unfold zkd; rw [if_neg (by omega)]
        rw [if_pos (by show qn _ ≤ qn 0; rw [qn_le (by omega) (by omega)]; omega), if_neg (fun h => h0 h.1), ek]
        exact ⟨I, rfl, hC, rfl, zYF_rfl⟩
    · rw [if_neg (by rw [qn_le (by omega) (by omega)]; exact hmp), if_neg (fun h => hmp h.2)]
      have hpm : p < m := by omega
      unfold fM_takesOne
      rw [eM_here ht hm (by omega) hX, qp_bd_t, if_pos hpm, eM_kindBy, qp_bd_t]
      have ekd : zkd T m p = zkl (T p) := by unfold zkd; rw [if_pos hpm]
      rw [ekd]
      cases hk : zkl (T p) with
      | none =>
        dsimp only
        rw [if_pos (show zkm none = -9 from rfl), qp_bd_t, if_pos (show (0 : Int32) = 0 from rfl), eM_dead, hX.2.2]
        exact ⟨I, rfl, hC, rfl, zYF_rfl⟩
      | some k =>
        have hk5 := zkl_5 hk
        dsimp only
        have q9 : ∀ k, k ≤ 5 → ¬ zkm (some k) = -9 := by
          intro k hk
          rcases (show k = 0 ∨ k = 1 ∨ k = 2 ∨ k = 3 ∨ k = 4 ∨ k = 5 by omega) with rfl | rfl | rfl | rfl | rfl | rfl <;> decide
        rw [if_neg (q9 k hk5), hC.1]
        by_cases c6 : ks.length = 6
        · rw [if_pos c6, if_neg (by rw [c6]; exact fun q => q rfl), qp_bd_t, if_pos (show (0 : Int32) = 0 from rfl), eM_dead, hX.2.2]
          exact ⟨I, rfl, hC, rfl, zYF_rfl⟩
        have e2 : (2 : Int32) + qn ks.length = qn (2 + ks.length) := qn_add 2 _
        have e8 : (8 : Int32) + qn ks.length = qn (8 + ks.length) := qn_add 8 _
        rw [if_neg c6, if_pos (by show ¬ qn ks.length = qn 6; rw [qn_eq (by omega) (by omega)]; exact c6), e2, e8, qp_gd_t (by show qn 0 ≤ qn _ ∧ qn _ < qn 75; rw [qn_le (by omega) (by omega), qn_lt (by omega) (by omega)]; omega), qn_nat (by omega), hX.2.2, show qn p + 1 = qn (p + 1) from qn_add p 1, show zkm (some k) = qn k from rfl]
        obtain ⟨I1, hI1⟩ : ∃ I1, I1 = qp_up (qp_up I 46 (2 + ks.length) (qn k)) 36 14 (qn (p + 1)) := ⟨_, rfl⟩
        rw [← hI1]
        have y1 : zYF I I1 := by rw [hI1]; exact zYF_tr zYF_46 zYF_36
        have X1 : zYR t m T (p + 1) I1 := zYR_p hX y1 (by rw [hI1]; exact qm_eq rfl)
        have C1 : ∀ j, j ≠ 2 + ks.length → I1 46 j = I 46 j := fun j hj => by rw [hI1, qm_nk (by omega), qm_nj (Ne.symm hj)]
        have fail : zfig T m (p + 1) = none ∨ (∃ g, zfig T m (p + 1) = some g ∧ g < 1) → ∃ I', (qp_bd (qp_bd (fM_takes (qn t) (qn (8 + ks.length)) 1 I1 J) fun v3 I3 J3 => if ¬ v3 = 0 then some (1, qp_up I3 46 0 (I3 46 0 + 1), J3) else some (0, I3, J3)) fun v1 I1 J1 => if v1 = 0 then fM_faultOf_b27 (fu + 1) (qn t) v1 I1 J1 else qp_bd (fM_skip (qn t) I1 J1) fun _u I2 J2 => fM_faultOf_b27 (fu + 1) (qn t) v1 I2 J2) = some (qn (p + 1), I', J) ∧ zYC ks ps I' ∧ I' 46 1 = I 46 1 ∧ zYF I I' := by
          intro hg
          have eF := eM_takesF (J := J) (I := I1) (k := 8 + ks.length) (lo := 1) ht hm (by omega) X1 hg (by omega)
          have eF' : fM_takes (qn t) (qn (8 + ks.length)) 1 I1 J = some (0, I1, J) := eF
          rw [eF', qp_bd_t, if_neg (by exact fun q => q rfl), qp_bd_t, if_pos rfl, eM_dead, X1.2.2]
          exact ⟨I1, rfl, ⟨by rw [C1 0 (by omega)]; exact hC.1, fun i hi => by rw [C1 _ (by omega)]; exact hC.2.1 i hi, fun i hi => by rw [C1 _ (by omega)]; exact hC.2.2 i hi⟩, C1 1 (by omega), y1⟩
        cases hg : zfig T m (p + 1) with
        | none => exact fail (Or.inl hg)
        | some g =>
          have hg9 := zfig_9 hg
          dsimp only
          by_cases g0 : g = 0
          · rw [if_pos g0]
            exact fail (Or.inr ⟨g, hg, by omega⟩)
          rw [if_neg g0]
          have eT := eM_takesT (J := J) (I := I1) (k := 8 + ks.length) (lo := 1) ht hm (by omega) X1 (by omega) hg (by omega) (by omega)
          have eT' : fM_takes (qn t) (qn (8 + ks.length)) 1 I1 J = some (1, qp_up (qp_up I1 46 (8 + ks.length) (qn g)) 36 14 (qn (p + 1 + 1)), J) := eT
          have e46 : (qp_up (qp_up I1 46 (8 + ks.length) (qn g)) 36 14 (qn (p + 1 + 1))) 46 0 = qn ks.length := by rw [qm_nk (by omega), qm_nj (by omega), C1 0 (by omega)]; exact hC.1
          rw [eT', qp_bd_t, if_pos (show ¬ (1 : Int32) = 0 by decide), e46, qp_bd_t, if_neg (show ¬ (1 : Int32) = 0 by decide), show qn ks.length + 1 = qn (ks.length + 1) from qn_add _ 1]
          obtain ⟨I2, hI2⟩ : ∃ I2, I2 = qp_up (qp_up (qp_up I1 46 (8 + ks.length) (qn g)) 36 14 (qn (p + 1 + 1))) 46 0 (qn (ks.length + 1)) := ⟨_, rfl⟩
          rw [← hI2]
          have y2 : zYF I I2 := by rw [hI2]; exact zYF_tr y1 (zYF_tr (zYF_tr zYF_46 zYF_36) zYF_46)
          have X2 : zYR t m T (p + 2) I2 := zYR_p hX y2 (by rw [hI2, qm_nk (by omega), qm_eq rfl])
          obtain ⟨I3, s1, s2, s3, s4⟩ := eM_skip (J := J) ht hm (by omega) X2
          rw [s1, qp_bd_t]
          have hsk := zsk_le (T := T) (m := m) 61 (p + 2)
          have el1 : (ks ++ [k]).length = ks.length + 1 := by rw [List.length_append]; rfl
          have el2 : (ps ++ [g]).length = ps.length + 1 := by rw [List.length_append]; rfl
          have j46 : ∀ j, j ≠ 0 → j ≠ 2 + ks.length → j ≠ 8 + ks.length → I3 46 j = I 46 j := fun j h1 h2 h3 => by
            rw [s4, hI2, qm_nj (Ne.symm h1), qm_nk (by omega), qm_nj (Ne.symm h3)]; exact C1 j h2
          obtain ⟨I', g1, g2, g3, g4⟩ := ih (ks ++ [k]) (ps ++ [g]) (zsk T m 61 (p + 2)) (fu + 1) I3 (by omega) (by omega) (by omega) (by omega) (by omega) s2
            ⟨by rw [s4, hI2, qm_eq rfl, el1], fun i hi => by
              rw [zat_app (by omega)]
              by_cases e : i = ks.length
              · rw [if_pos e, e, s4, hI2, qm_nj (by omega), qm_nk (by omega), qm_nj (by omega), hI1, qm_nk (by omega), qm_eq rfl]
              · rw [if_neg e, j46 _ (by omega) (by omega) (by omega)]; exact hC.2.1 i (by omega), fun i hi => by
              rw [zat_app (by omega)]
              by_cases e : i = ks.length
              · rw [if_pos (by omega), e, s4, hI2, qm_nj (by omega), qm_nk (by omega), qm_eq rfl]
              · rw [if_neg (by omega), j46 _ (by omega) (by omega) (by omega)]; exact hC.2.2 i (by omega)⟩
          exact ⟨I', g1, g2, by rw [g3, j46 1 (by omega) (by omega) (by omega)], zYF_tr (zYF_tr y2 s3) g4⟩
theorem eM_faultOf (ht : t < 4) (hm : m ≤ 60) (h5 : I 43 t = qn m) (h6 : ∀ i, i < m → I 42 (60 * t + i) = T i) :
    ∃ I', fM_faultOf (qn t) I J = some (zfv (zpar T m).1, I', J) ∧ ((zpar T m).1 = none → I' 46 1 = qn (zpar T m).2.1 ∧ zYC (zpar T m).2.2.1 (zpar T m).2.2.2 I') ∧ zYF I I' := by
  obtain ⟨I0, hI0⟩ : ∃ I0, I0 = qp_up (qp_up I 36 14 0) 46 0 0 := ⟨_, rfl⟩
  have y0 : zYF I I0 := by rw [hI0]; exact zYF_tr zYF_36 zYF_46
  have X0 : zYR t m T 0 I0 := ⟨by rw [y0.1 43 (by omega) (by omega)]; exact h5, by rw [y0.1 42 (by omega) (by omega)]; exact h6, by rw [hI0, qm_nk (by omega), qm_eq rfl]; rfl⟩
  have e460 : I0 46 0 = qn 0 := by rw [hI0, qm_eq rfl]; rfl
  obtain ⟨I1, a1, a2, a3, a4⟩ := eM_skip (J := J) ht hm (show 0 < 500 by omega) X0
  have hsk := zsk_le (T := T) (m := m) 61 0
  have y1 := zYF_tr y0 a3
  unfold fM_faultOf fM_takesFirst zpar
  generalize hq : zsk T m 61 0 = q at *
  rw [← hI0, a1, qp_bd_t, eM_here ht hm (by omega) a2, qp_bd_t]
  have dead : ∀ (I' : Nat → Nat → Int32), fM_faultOf_b27 100000 (qn t) 0 I' J = some (I' 36 14, I', J) := fun I' => eM_dead (fu := 99999)
  by_cases hqT : q < m ∧ T q = 113
  case neg =>
    have hne : ¬ (if q < m then T q else -9) = 113 := by
      by_cases h : q < m
      · rw [if_pos h]; exact fun e => hqT ⟨h, e⟩
      · rw [if_neg h]; decide
    rw [if_neg hne, qp_bd_t, if_pos (show (0 : Int32) = 0 from rfl), dead, a2.2.2, if_neg hqT]
    exact ⟨I1, rfl, fun h => (by cases h), y1⟩
  obtain ⟨hqm, hT⟩ := hqT
  obtain ⟨I2, hI2⟩ : ∃ I2, I2 = qp_up I1 36 14 (qn (q + 1)) := ⟨_, rfl⟩
  have y2 : zYF I I2 := by rw [hI2]; exact zYF_tr y1 zYF_36
  have X2 : zYR t m T (q + 1) I2 := by rw [hI2]; exact zYR_p a2 zYF_36 (qm_eq rfl)
  rw [if_pos hqm, if_pos hT, if_pos ⟨hqm, hT⟩, a2.2.2, show qn q + 1 = qn (q + 1) from qn_add q 1, ← hI2]
  cases ha : zfig T m (q + 1) with
  | none =>
    have eF : fM_takes (qn t) 1 0 I2 J = some (0, I2, J) := eM_takesF (k := 1) (lo := 0) ht hm (by omega) X2 (Or.inl ha) (by omega)
    dsimp only
    rw [eF, qp_bd_t, if_neg (by exact fun q => q rfl), qp_bd_t, if_pos (show (0 : Int32) = 0 from rfl), dead, X2.2.2]
    exact ⟨I2, rfl, fun h => (by cases h), y2⟩
  | some a =>
    have ha9 := zfig_9 ha
    have eT : fM_takes (qn t) 1 0 I2 J = some (1, qp_up (qp_up I2 46 1 (qn a)) 36 14 (qn (q + 2)), J) := eM_takesT (k := 1) (lo := 0) ht hm (by omega) X2 (by omega) ha (by omega) (by omega)
    obtain ⟨I3, hI3⟩ : ∃ I3, I3 = qp_up (qp_up I2 46 1 (qn a)) 36 14 (qn (q + 2)) := ⟨_, rfl⟩
    have y3 : zYF I I3 := by rw [hI3]; exact zYF_tr y2 (zYF_tr zYF_46 zYF_36)
    have X3 : zYR t m T (q + 2) I3 := by rw [hI3]; exact zYR_p X2 (zYF_tr zYF_46 zYF_36) (qm_eq rfl)
    dsimp only
    rw [eT, qp_bd_t, if_pos (show ¬ (1 : Int32) = 0 by decide), ← hI3]
    cases hb : zfig T m (q + 2) with
    | none =>
      have eF : fM_takes (qn t) 1 0 I3 J = some (0, I3, J) := eM_takesF (k := 1) (lo := 0) ht hm (by omega) X3 (Or.inl hb) (by omega)
      dsimp only
      rw [eF, qp_bd_t, if_neg (by exact fun q => q rfl), qp_bd_t, if_pos (show (0 : Int32) = 0 from rfl), dead, X3.2.2]
      exact ⟨I3, rfl, fun h => (by cases h), y3⟩
    | some b =>
      have hb9 := zfig_9 hb
      have eT2 : fM_takes (qn t) 1 0 I3 J = some (1, qp_up (qp_up I3 46 1 (qn b)) 36 14 (qn (q + 3)), J) := eM_takesT (k := 1) (lo := 0) ht hm (by omega) X3 (by omega) hb (by omega) (by omega)
      have e3 : I3 46 1 = qn a := by rw [hI3, qm_nk (by omega), qm_eq rfl]
      have e4 : (qp_up (qp_up I3 46 1 (qn b)) 36 14 (qn (q + 3))) 46 1 = qn b := by rw [qm_nk (by omega), qm_eq rfl]
      have es : qn b + (10 : Int32) * qn a = qn (10 * a + b) := by
        show qn b + qn 10 * qn a = _
        rw [qn_mul, qn_add, Nat.add_comm]
      dsimp only
      rw [eT2, qp_bd_t, if_pos (show ¬ (1 : Int32) = 0 by decide), e4, e3, es]
      by_cases h20 : 10 * a + b ≤ 20
      case neg =>
        rw [if_neg (by show ¬ qn _ ≤ qn 20; rw [qn_le (by omega) (by omega)]; exact h20), if_pos (by show qn 20 < qn _; rw [qn_lt (by omega) (by omega)]; omega), qp_bd_t, if_pos (show (0 : Int32) = 0 from rfl), dead, qm_eq rfl, if_neg h20]
        exact ⟨_, rfl, fun h => (by cases h), zYF_tr y3 (zYF_tr (zYF_tr zYF_46 zYF_36) (zYF_tr zYF_46 zYF_36))⟩
      rw [if_pos (by show qn _ ≤ qn 20; rw [qn_le (by omega) (by omega)]; exact h20), if_neg (by show ¬ qn 20 < qn _; rw [qn_lt (by omega) (by omega)]; omega), qp_bd_t, if_neg (show ¬ (1 : Int32) = 0 by decide), if_pos h20]
      obtain ⟨I4, hI4⟩ : ∃ I4, I4 = qp_up (qp_up (qp_up (qp_up I3 46 1 (qn b)) 36 14 (qn (q + 3))) 46 1 (qn (10 * a + b))) 36 14 ((qp_up (qp_up I3 46 1 (qn b)) 36 14 (qn (q + 3))) 36 14) := ⟨_, rfl⟩
      rw [← hI4]
      have y4 : zYF I I4 := by rw [hI4]; exact zYF_tr y3 (zYF_tr (zYF_tr zYF_46 zYF_36) (zYF_tr zYF_46 zYF_36))
      have X4 : zYR t m T (q + 3) I4 := zYR_p X3 (by rw [hI4]; exact zYF_tr (zYF_tr zYF_46 zYF_36) (zYF_tr zYF_46 zYF_36)) (by rw [hI4, qm_eq rfl, qm_eq rfl])
      obtain ⟨I5, s1, s2, s3, s4⟩ := eM_skip (J := J) ht hm (by omega) X4
      have hsk2 := zsk_le (T := T) (m := m) 61 (q + 3)
      have e50 : I5 46 0 = qn 0 := by
        rw [s4, hI4, qm_nk (by omega), qm_nj (by omega), qm_nk (by omega), qm_nj (by omega), hI3, qm_nk (by omega), qm_nj (by omega), hI2, qm_nk (by omega), a4]; exact e460
      have e51 : I5 46 1 = qn (10 * a + b) := by rw [s4, hI4, qm_nk (by omega), qm_eq rfl]
      obtain ⟨I6, g1, g2, g3, g4⟩ := eM_people (J := J) ht hm 7 [] [] (zsk T m 61 (q + 3)) 100000 I5 rfl (by decide) (by omega) (by omega) rfl s2 ⟨e50, fun i hi => absurd hi (Nat.not_lt_zero i), fun i hi => absurd hi (Nat.not_lt_zero i)⟩
      rw [s1, qp_bd_t, g1]
      exact ⟨I6, rfl, fun _ => ⟨by rw [g3, e51], g2⟩, zYF_tr (zYF_tr y4 s3) g4⟩
end RL

/-! FAULT, LINE: alike -/
section RL
variable {t m : Nat} {T : Nat → Int32} {I : Nat → Nat → Int32} {J : Nat → Nat → Int64}
theorem eR_read (ht : t < 4) (hm : m ≤ 60) (h4 : I 4 0 = qn 60) (h5 : I 5 t = qn m) (h6 : ∀ i, i < m → I 6 (t * 60 + i) = T i) :
    ∃ I', fR_read (qn t) I J = some (zfv (zpar T m).1, I', J) ∧ ((zpar T m).1 = none → I' 11 1 = qn (zpar T m).2.1 ∧ zXC (zpar T m).2.2.1 (zpar T m).2.2.2 I') ∧ ∀ c, c < 10 ∨ 13 < c → I' c = I c := by
  obtain ⟨I0, hI0⟩ : ∃ I0, I0 = qp_up (qp_up (qp_up (qp_up I 10 2 (qn t)) 10 3 0) 11 0 0) 11 1 0 := ⟨_, rfl⟩
  have f0 : ∀ c, c < 10 ∨ 13 < c → I0 c = I c := fun c hc => by rw [hI0, qm_nk (by omega), qm_nk (by omega), qm_nk (by omega), qm_nk (by omega)]
  have hX0 : zXR t m T 0 I0 := ⟨by rw [f0 4 (by omega)]; exact h4, by rw [f0 5 (by omega)]; exact h5, by rw [f0 6 (by omega)]; exact h6, by rw [hI0, qm_nk (by omega), qm_nk (by omega), qm_nj (by omega), qm_eq rfl], by rw [hI0, qm_nk (by omega), qm_nk (by omega), qm_eq rfl]; rfl⟩
  obtain ⟨I1, a1, a2, a3⟩ := eR_skip (J := J) ht hm (show 0 < 1000 by omega) hX0
  have hsk := zsk_le (T := T) (m := m) 61 0
  have f1 : ∀ c, c < 10 ∨ 13 < c → I1 c = I c := fun c hc => (a3 c (by omega)).trans (f0 c hc)
  have e11 : I1 11 0 = qn 0 := by rw [a3 11 (by omega), hI0, qm_nj (by omega), qm_eq rfl]; rfl
  have ecl : fC_clear_11 (qp_up (qp_up I 10 2 (qn t)) 10 3 0) J = some ((), I0, J) := by rw [hI0]; rfl
  unfold fR_read zpar
  generalize hq : zsk T m 61 0 = q at *
  rw [ecl, qp_bd_t, a1, qp_bd_t, a2.2.2.2.1, eS4_size ht, qp_bd_t, a2.2.1, a2.2.2.2.2]
  by_cases hqm : q < m
  case neg =>
    rw [if_pos (by rw [qn_le (by omega) (by omega)]; omega), if_neg (fun h => hqm h.1)]
    exact ⟨I1, rfl, fun h => (by cases h), f1⟩
  rw [if_neg (by rw [qn_le (by omega) (by omega)]; omega), a2.2.2.2.1, eR_get ht hm a2 hqm, qp_bd_t]
  by_cases hT : T q = 113
  case neg =>
    rw [if_neg hT, if_neg (fun h => hT h.2), a2.2.2.2.2]
    exact ⟨I1, rfl, fun h => (by cases h), f1⟩
  have hX2 : zXR t m T (q + 1) (qp_up I1 10 3 (qn (q + 1))) := zXR_p a2 (fun c h1 h2 => qm_nk (by omega)) (qm_nj (by omega)) (qm_eq rfl)
  have f2 : ∀ c, c < 10 ∨ 13 < c → qp_up I1 10 3 (qn (q + 1)) c = I c := fun c hc => by rw [qm_nk (by omega)]; exact f1 c hc
  rw [if_pos hT, if_pos ⟨hqm, hT⟩, a2.2.2.2.2, show qn q + 1 = qn (q + 1) from qn_add q 1]
  unfold fR_readLoaves
  rw [hX2.2.2.2.2, eR_fig ht hm (by omega) hX2, qp_bd_t]
  cases ha : zfig T m (q + 1) with
  | none =>
    dsimp only
    rw [if_neg (show ¬ 0 ≤ zki none by decide), qp_bd_t, if_pos (show (0 : Int32) = 0 from rfl), hX2.2.2.2.2]
    exact ⟨_, rfl, fun h => (by cases h), f2⟩
  | some a =>
    have ha9 := (zfig_9 ha).2.1
    dsimp only
    rw [if_pos (show 0 ≤ zki (some a) by show qn 0 ≤ qn a; rw [qn_le (by omega) (by omega)]; omega), hX2.2.2.2.2, show qn (q + 1) + 1 = qn (q + 2) from qn_add _ 1, eR_fig ht hm (by omega) hX2, qp_bd_t]
    cases hb : zfig T m (q + 2) with
    | none =>
      dsimp only
      rw [if_neg (show ¬ 0 ≤ zki none by decide), hX2.2.2.2.2, qp_bd_t, if_pos (show (0 : Int32) = 0 from rfl), qm_eq rfl, show qn (q + 1) + 1 = qn (q + 2) from qn_add _ 1]
      exact ⟨_, rfl, fun h => (by cases h), fun c hc => by rw [qm_nk (by omega)]; exact f2 c hc⟩
    | some b =>
      have hb9 := (zfig_9 hb).2.1
      have es : (10 : Int32) * zki (some a) + zki (some b) = qn (10 * a + b) := by
        show qn 10 * qn a + qn b = _
        rw [qn_mul, qn_add]
      dsimp only
      rw [if_pos (show 0 ≤ zki (some b) by show qn 0 ≤ qn b; rw [qn_le (by omega) (by omega)]; omega), es]
      by_cases h20 : 10 * a + b ≤ 20
      case neg =>
        rw [if_neg (by show ¬ qn _ ≤ qn 20; rw [qn_le (by omega) (by omega)]; exact h20), if_neg h20, qp_bd_t, if_pos (show (0 : Int32) = 0 from rfl), qm_nk (by omega), hX2.2.2.2.2]
        exact ⟨_, rfl, fun h => (by cases h), fun c hc => by rw [qm_nk (by omega)]; exact f2 c hc⟩
      rw [if_pos (by show qn _ ≤ qn 20; rw [qn_le (by omega) (by omega)]; exact h20), if_pos h20, hX2.2.2.2.2, qp_bd_t, if_neg (show ¬ (1 : Int32) = 0 by decide), show qn (q + 1) + 2 = qn (q + 3) from qn_add _ 2]
      obtain ⟨I3, hI3⟩ : ∃ I3, I3 = qp_up (qp_up (qp_up I1 10 3 (qn (q + 1))) 11 1 (qn (10 * a + b))) 10 3 (qn (q + 3)) := ⟨_, rfl⟩
      have hX3 : zXR t m T (q + 3) I3 := by
        rw [hI3]
        exact zXR_p a2 (fun c h1 h2 => by rw [qm_nk (by omega), qm_nk (by omega), qm_nk (by omega)]) (by rw [qm_nj (by omega), qm_nk (by omega), qm_nj (by omega)]) (qm_eq rfl)
      have e110 : I3 11 0 = qn 0 := by rw [hI3, qm_nk (by omega), qm_nj (by omega), qm_nk (by omega)]; exact e11
      obtain ⟨I4, g1, g2, g3, g4⟩ := eR_people (J := J) ht hm 7 [] [] (q + 3) 100000 I3 rfl (by decide) (by omega) (by omega) rfl hX3 ⟨e110, fun p hp => absurd hp (Nat.not_lt_zero p), fun p hp => absurd hp (Nat.not_lt_zero p)⟩
      have g1' : fR_readPeople I3 J = some (zfv (zpp T m 7 [] [] (zsk T m 61 (q + 3))).1, I4, J) := g1
      rw [← hI3, g1', qp_bd_t]
      refine ⟨I4, rfl, fun _ => ⟨?_, g2⟩, fun c hc => by rw [g4 c hc, hI3, qm_nk (by omega), qm_nk (by omega)]; exact f2 c hc⟩
      rw [g3, hI3, qm_nk (by omega), qm_eq rfl]
/-! the model -/
def zYR (t m : Nat) (T : Nat → Int32) (p : Nat) (I : Nat → Nat → Int32) : Prop := I 43 t = qn m ∧ (∀ i, i < m → I 42 (60 * t + i) = T i) ∧ I 36 14 = qn p
def zYF (I I' : Nat → Nat → Int32) : Prop := (∀ c, c ≠ 36 → c ≠ 46 → I' c = I c) ∧ ∀ j, j ≠ 14 → I' 36 j = I 36 j
theorem zYF_rfl : zYF I I := ⟨fun _ _ _ => rfl, fun _ _ => rfl⟩
theorem zYF_tr {I I1 I2 : Nat → Nat → Int32} (h : zYF I I1) (h' : zYF I1 I2) : zYF I I2 := ⟨fun c h1 h2 => (h'.1 c h1 h2).trans (h.1 c h1 h2), fun j hj => (h'.2 j hj).trans (h.2 j hj)⟩
theorem zYF_46 {j : Nat} {v : Int32} : zYF I (qp_up I 46 j v) := ⟨fun c h1 h2 => qm_nk (Ne.symm h2), fun j hj => by rw [qm_nk (by omega)]⟩
theorem zYF_36 {v : Int32} : zYF I (qp_up I 36 14 v) := ⟨fun c h1 h2 => qm_nk (Ne.symm h1), fun j hj => by rw [qm_nj (Ne.symm hj)]⟩
theorem zYR_p {p p' : Nat} {I' : Nat → Nat → Int32} (h : zYR t m T p I) (e : zYF I I') (e3 : I' 36 14 = qn p') : zYR t m T p' I' := by
  unfold zYR at h ⊢
  rw [e.1 43 (by omega) (by omega), e.1 42 (by omega) (by omega)]
  exact ⟨h.1, h.2.1, e3⟩
def zkm : Option Nat → Int32
  | none => -9
  | some k => qn k
def zYC (ks ps : List Nat) (I : Nat → Nat → Int32) : Prop := I 46 0 = qn ks.length ∧ (∀ i, i < ks.length → I 46 (2 + i) = qn (zat ks i)) ∧ ∀ i, i < ks.length → I 46 (8 + i) = qn (zat ps i)
end RL

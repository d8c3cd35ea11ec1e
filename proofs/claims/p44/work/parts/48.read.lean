/-! FAULT, LINE: what a text says -/
/-- the text's signs, how many, from where: behind blanks -/
def zsk (T : Nat → Int32) (m : Nat) : Nat → Nat → Nat
  | 0, p => p
  | f + 1, p => if p < m ∧ T p = 32 then zsk T m f (p + 1) else p
def zfig (T : Nat → Int32) (m p : Nat) : Option Nat := if p < m ∧ 48 ≤ T p ∧ T p ≤ 57 then some ((T p).toNatClampNeg - 48) else none
def zkl (c : Int32) : Option Nat := if c = 112 then some 0 else if c = 115 then some 1 else if c = 99 then some 2 else if c = 117 then some 3 else if c = 103 then some 4 else if c = 111 then some 5 else none
def zkd (T : Nat → Int32) (m p : Nat) : Option Nat := if p < m then zkl (T p) else none
def zpp (T : Nat → Int32) (m : Nat) : Nat → List Nat → List Nat → Nat → Option Nat × List Nat × List Nat
  | 0, ks, ps, p => (some p, ks, ps)
  | f + 1, ks, ps, p =>
    if 0 < ks.length ∧ m ≤ p then (none, ks, ps) else
    match zkd T m p with
    | none => (some p, ks, ps)
    | some k => if ks.length = 6 then (some p, ks, ps) else
      match zfig T m (p + 1) with
      | none => (some (p + 1), ks, ps)
      | some g => if g = 0 then (some (p + 1), ks, ps) else zpp T m f (ks ++ [k]) (ps ++ [g]) (zsk T m 61 (p + 2))
/-- the fault, if there is one; else loaves, kinds, patience -/
def zpar (T : Nat → Int32) (m : Nat) : Option Nat × Nat × List Nat × List Nat :=
  if zsk T m 61 0 < m ∧ T (zsk T m 61 0) = 113 then
    match zfig T m (zsk T m 61 0 + 1) with
    | none => (some (zsk T m 61 0 + 1), 0, [], [])
    | some a => match zfig T m (zsk T m 61 0 + 2) with
      | none => (some (zsk T m 61 0 + 2), 0, [], [])
      | some b => if 10 * a + b ≤ 20 then ((zpp T m 7 [] [] (zsk T m 61 (zsk T m 61 0 + 3))).1, 10 * a + b, (zpp T m 7 [] [] (zsk T m 61 (zsk T m 61 0 + 3))).2) else (some (zsk T m 61 0 + 1), 0, [], [])
  else (some (zsk T m 61 0), 0, [], [])
def zfv : Option Nat → Int32
  | none => -9
  | some p => qn p
def zki : Option Nat → Int32
  | none => -1
  | some k => qn k
theorem zsk_le {T : Nat → Int32} {m : Nat} : ∀ f p, p ≤ zsk T m f p ∧ zsk T m f p ≤ max m p
  | 0, p => ⟨Nat.le_refl _, by show p ≤ max m p; omega⟩
  | f + 1, p => by
    unfold zsk
    split
    · next h =>
      have := zsk_le (T := T) (m := m) f (p + 1)
      omega
    · omega
theorem zfig_9 {T : Nat → Int32} {m p g : Nat} (h : zfig T m p = some g) : p < m ∧ g < 10 ∧ T p = qn (48 + g) := by
  unfold zfig at h
  by_cases hc : p < m ∧ 48 ≤ T p ∧ T p ≤ 57
  · rw [if_pos hc] at h
    obtain ⟨h1, h2, h3⟩ := hc
    obtain ⟨k, hk, e⟩ := qn_ofI (r := T p) (Int32.le_trans (by decide) h2)
    rw [e] at h h2 h3 ⊢
    have h2' : qn 48 ≤ qn k := h2
    have h3' : qn k ≤ qn 57 := h3
    rw [qn_le (by omega) (by omega)] at h2' h3'
    rw [qn_nat (by omega)] at h
    have h4 := Option.some.inj h
    refine ⟨h1, by omega, ?_⟩
    rw [show 48 + g = k by omega]
  · rw [if_neg hc] at h; cases h
theorem zfig_N {T : Nat → Int32} {m p : Nat} (h : zfig T m p = none) (hp : p < m) : T p < qn 48 ∨ qn 58 ≤ T p := by
  unfold zfig at h
  by_cases h2 : (48 : Int32) ≤ T p
  · by_cases h3 : T p ≤ 57
    · rw [if_pos ⟨hp, h2, h3⟩] at h; cases h
    · refine Or.inr ?_
      rw [Int32.le_iff_toInt_le] at h3 ⊢
      rw [qn_toInt (by omega)]
      have : (57 : Int32).toInt = 57 := rfl
      omega
  · exact Or.inl (Int32.not_le.mp h2)
theorem zkl_5 {c : Int32} {k : Nat} (h : zkl c = some k) : k ≤ 5 := by
  unfold zkl at h
  repeat' split at h
  all_goals first | (cases h; done) | (have := Option.some.inj h; omega)
/-- what is read is a line -/
theorem zpp_ok {T : Nat → Int32} {m : Nat} : ∀ (f : Nat) (ks ps : List Nat) (p : Nat), ks.length = ps.length → ks.length ≤ 6 → (∀ k, k ∈ ks → k ≤ 5) → (∀ g, g ∈ ps → 1 ≤ g ∧ g ≤ 9) →
    (zpp T m f ks ps p).2.1.length = (zpp T m f ks ps p).2.2.length ∧ (zpp T m f ks ps p).2.1.length ≤ 6 ∧ (∀ k, k ∈ (zpp T m f ks ps p).2.1 → k ≤ 5) ∧ ∀ g, g ∈ (zpp T m f ks ps p).2.2 → 1 ≤ g ∧ g ≤ 9
  | 0, ks, ps, p, h1, h2, h3, h4 => ⟨h1, h2, h3, h4⟩
  | f + 1, ks, ps, p, h1, h2, h3, h4 => by
    unfold zpp
    by_cases c1 : 0 < ks.length ∧ m ≤ p
    · rw [if_pos c1]; exact ⟨h1, h2, h3, h4⟩
    rw [if_neg c1]
    cases hk : zkd T m p with
    | none => exact ⟨h1, h2, h3, h4⟩
    | some k =>
      dsimp only
      by_cases c2 : ks.length = 6
      · rw [if_pos c2]; exact ⟨h1, h2, h3, h4⟩
      rw [if_neg c2]
      cases hg : zfig T m (p + 1) with
      | none => exact ⟨h1, h2, h3, h4⟩
      | some g =>
        dsimp only
        by_cases c3 : g = 0
        · rw [if_pos c3]; exact ⟨h1, h2, h3, h4⟩
        rw [if_neg c3]
        have hk5 : k ≤ 5 := by
          unfold zkd at hk
          split at hk
          · exact zkl_5 hk
          · cases hk
        have hg9 := (zfig_9 hg).2.1
        have e1 : (ks ++ [k]).length = ks.length + 1 := by rw [List.length_append]; rfl
        have e2 : (ps ++ [g]).length = ps.length + 1 := by rw [List.length_append]; rfl
        refine zpp_ok f (ks ++ [k]) (ps ++ [g]) _ (by omega) (by omega) (fun x hx => ?_) (fun x hx => ?_)
        · rcases List.mem_append.mp hx with hx | hx
          · exact h3 x hx
          · rw [List.mem_singleton.mp hx]; exact hk5
        · rcases List.mem_append.mp hx with hx | hx
          · exact h4 x hx
          · rw [List.mem_singleton.mp hx]; omega
section RX
variable {t m : Nat} {T : Nat → Int32} {I : Nat → Nat → Int32} {J : Nat → Nat → Int64}
def zXR (t m : Nat) (T : Nat → Int32) (p : Nat) (I : Nat → Nat → Int32) : Prop := I 4 0 = qn 60 ∧ I 5 t = qn m ∧ (∀ i, i < m → I 6 (t * 60 + i) = T i) ∧ I 10 2 = qn t ∧ I 10 3 = qn p
theorem zXR_p {p p' : Nat} {I' : Nat → Nat → Int32} (h : zXR t m T p I) (e : ∀ c, 4 ≤ c → c ≤ 6 → I' c = I c) (e2 : I' 10 2 = I 10 2) (e3 : I' 10 3 = qn p') : zXR t m T p' I' := by
  obtain ⟨h1, h2, h3, h4, h5⟩ := h
  unfold zXR
  rw [e 4 (by omega) (by omega), e 5 (by omega) (by omega), e 6 (by omega) (by omega), e2]
  exact ⟨h1, h2, h3, h4, e3⟩
theorem eR_get {p i : Nat} (ht : t < 4) (hm : m ≤ 60) (h : zXR t m T p I) (hi : i < m) : fS_get_4 (qn t) (qn i) I J = some (T i, I, J) := by
  rw [eS4_get h.1 ht h.2.1 hm hi, h.2.2.1 i hi]
theorem eR_skip_b (ht : t < 4) (hm : m ≤ 60) : ∀ (f p fuel : Nat) (I : Nat → Nat → Int32), m < p + f → f < fuel → p < 1000 → f < 100 → zXR t m T p I → ∃ I', fR_skipBlanks_b0 fuel I J = some ((), I', J) ∧ zXR t m T (zsk T m f p) I' ∧ (∀ c, c ≠ 10 → I' c = I c) := by
  intro f
  induction f with
  | zero =>
    intro p fuel I h1 h2 hp _ hX
    obtain ⟨fu, rfl⟩ : ∃ fu, fuel = fu + 1 := ⟨fuel - 1, by omega⟩
    refine ⟨I, ?_, hX, fun _ _ => rfl⟩
    rw [fR_skipBlanks_b0, hX.2.2.2.1, hX.2.2.2.2, eS4_size ht, qp_bd_t, hX.2.1, if_pos (by rw [qn_le (by omega) (by omega)]; omega)]
  | succ f ih =>
    intro p fuel I h1 h2 hp hf hX
    obtain ⟨fu, rfl⟩ : ∃ fu, fuel = fu + 1 := ⟨fuel - 1, by omega⟩
    unfold zsk
    rw [fR_skipBlanks_b0, hX.2.2.2.1, hX.2.2.2.2, eS4_size ht, qp_bd_t, hX.2.1]
    by_cases hpm : p < m
    · rw [if_neg (by rw [qn_le (by omega) (by omega)]; omega), hX.2.2.2.1, hX.2.2.2.2, eR_get ht hm hX hpm, qp_bd_t]
      by_cases hb : T p = 32
      · rw [if_neg (fun q => q hb), if_pos ⟨hpm, hb⟩]
        obtain ⟨I', g1, g2, g3⟩ := ih (p + 1) fu (qp_up I 10 3 (qn (p + 1))) (by omega) (by omega) (by omega) (by omega) (zXR_p hX (fun c h1 h2 => qm_nk (by omega)) (qm_nj (by omega)) (qm_eq rfl))
        refine ⟨I', ?_, g2, fun c hc => (g3 c hc).trans (qm_nk (Ne.symm hc))⟩
        rw [hX.2.2.2.2, show qn p + 1 = qn (p + 1) from qn_add p 1]; exact g1
      · rw [if_pos hb, if_neg (fun q => hb q.2)]
        exact ⟨I, rfl, hX, fun _ _ => rfl⟩
    · rw [if_pos (by rw [qn_le (by omega) (by omega)]; omega), if_neg (fun q => hpm q.1)]
      exact ⟨I, rfl, hX, fun _ _ => rfl⟩
theorem eR_skip {p : Nat} (ht : t < 4) (hm : m ≤ 60) (hp : p < 1000) (hX : zXR t m T p I) : ∃ I', fR_skipBlanks I J = some ((), I', J) ∧ zXR t m T (zsk T m 61 p) I' ∧ (∀ c, c ≠ 10 → I' c = I c) :=
  eR_skip_b ht hm 61 p 100000 I (by omega) (by omega) hp (by omega) hX
theorem eR_fig {p i : Nat} (ht : t < 4) (hm : m ≤ 60) (hi : i < 1000) (hX : zXR t m T p I) : fR_figureAt (qn i) I J = some (zki (zfig T m i), I, J) := by
  unfold fR_figureAt
  rw [hX.2.2.2.1]
  by_cases him : i < m
  · rw [eR_get ht hm hX him, qp_bd_t, hX.2.2.2.1, eS4_hp ht hX.2.1 hm him, qp_bd_t, if_neg (by decide)]
    cases hg : zfig T m i with
    | some g =>
      obtain ⟨-, h9, e⟩ := zfig_9 hg
      rw [e, if_neg (by show ¬ qn (48 + g) < qn 48; rw [qn_lt (by omega) (by omega)]; omega), if_neg (by show ¬ qn 57 < qn (48 + g); rw [qn_lt (by omega) (by omega)]; omega), show qn (48 + g) - 48 = qn (48 + g - 48) from qn_sub (b := 48) (by omega), show 48 + g - 48 = g by omega]; rfl
    | none =>
      rcases zfig_N hg him with h | h
      · rw [if_pos (show T i < 48 from h)]; rfl
      · by_cases h1 : T i < 48
        · rw [if_pos h1]; rfl
        · rw [if_neg h1, if_pos (by
            rw [Int32.le_iff_toInt_le, qn_toInt (by omega)] at h
            rw [Int32.lt_iff_toInt_lt]
            have : (57 : Int32).toInt = 57 := rfl
            omega)]; rfl
  · have hF : qn i < 0 ∨ qn m ≤ qn i := Or.inr (by rw [qn_le (by omega) (by omega)]; omega)
    have e : zfig T m i = none := by unfold zfig; rw [if_neg (fun q => him q.1)]
    rw [eS4_getF ht hX.2.1 hF, qp_bd_t, hX.2.2.2.1, eS4_hpF ht hX.2.1 hF, qp_bd_t, if_pos (show qn 0 = 0 from rfl), e]; rfl
theorem eR_kind {p i : Nat} (ht : t < 4) (hm : m ≤ 60) (hi : i < 1000) (hX : zXR t m T p I) : fR_kindAt (qn i) I J = some (zki (zkd T m i), I, J) := by
  unfold fR_kindAt zkd
  rw [hX.2.2.2.1]
  by_cases him : i < m
  · rw [eS4_hp ht hX.2.1 hm him, qp_bd_t, if_pos (by decide), if_pos him]
    have eg := eR_get (J := J) ht hm hX him
    have st : ∀ (fu k : Nat), k < 6 → fR_kindAt_b19 (fu + 1) (qn i) (qn k) I J = if ¬ T i = qp_let k then fR_kindAt_b19 fu (qn i) (qn (k + 1)) I J else some (qn k, I, J) := by
      intro fu k hk
      rw [fR_kindAt_b19, if_neg (by show ¬ qn 6 ≤ qn k; rw [qn_le (by omega) (by omega)]; omega), hX.2.2.2.1, eg, qp_bd_t, qp_gd_t (q_g6 hk), qn_nat (by omega), show qn k + 1 = qn (k + 1) from qn_add k 1]
    have s0 : fR_kindAt_b19 100000 (qn i) 0 I J = _ := st 99999 0 (by omega)
    rw [s0, st 99998 1 (by omega), st 99997 2 (by omega), st 99996 3 (by omega), st 99995 4 (by omega), st 99994 5 (by omega)]
    unfold zkl
    show (if ¬ T i = 112 then _ else _) = _
    by_cases c0 : T i = 112
    · rw [if_neg (fun q => q c0), if_pos c0]; rfl
    rw [if_pos c0, if_neg c0]
    show (if ¬ T i = 115 then _ else _) = _
    by_cases c1 : T i = 115
    · rw [if_neg (fun q => q c1), if_pos c1]; rfl
    rw [if_pos c1, if_neg c1]
    show (if ¬ T i = 99 then _ else _) = _
    by_cases c2 : T i = 99
    · rw [if_neg (fun q => q c2), if_pos c2]; rfl
    rw [if_pos c2, if_neg c2]
    show (if ¬ T i = 117 then _ else _) = _
    by_cases c3 : T i = 117
    · rw [if_neg (fun q => q c3), if_pos c3]; rfl
    rw [if_pos c3, if_neg c3]
    show (if ¬ T i = 103 then _ else _) = _
    by_cases c4 : T i = 103
    · rw [if_neg (fun q => q c4), if_pos c4]; rfl
    rw [if_pos c4, if_neg c4]
    show (if ¬ T i = 111 then _ else _) = _
    by_cases c5 : T i = 111
    · rw [if_neg (fun q => q c5), if_pos c5]; rfl
    rw [if_pos c5, if_neg c5, fR_kindAt_b19, if_pos (by decide)]; rfl
  · rw [eS4_hpF ht hX.2.1 (Or.inr (by rw [qn_le (by omega) (by omega)]; omega)), qp_bd_t, if_neg (by exact fun q => q rfl), if_neg him]; rfl
/-- whom the class has read -/
def zXC (ks ps : List Nat) (I : Nat → Nat → Int32) : Prop := I 11 0 = qn ks.length ∧ zr0 ks (I 12) ∧ zr0 ps (I 13)
theorem zki_lt {o : Option Nat} (h : ∀ k, o = some k → k < 1000) : (zki o < 0) ↔ o = none := by
  cases o with
  | none => exact ⟨fun _ => rfl, fun _ => by decide⟩
  | some k =>
    have := h k rfl
    constructor
    · intro q
      exact absurd q (by show ¬ qn k < qn 0; rw [qn_lt (by omega) (by omega)]; omega)
    · intro q; cases q
theorem eR_people (ht : t < 4) (hm : m ≤ 60) : ∀ (f : Nat) (ks ps : List Nat) (p fuel : Nat) (I : Nat → Nat → Int32), f + ks.length = 7 → ks.length ≤ 6 → f ≤ fuel → p < 500 → ps.length = ks.length → zXR t m T p I → zXC ks ps I →
    ∃ I', fR_readPeople_b2 fuel (qn ks.length) I J = some (zfv (zpp T m f ks ps (zsk T m 61 p)).1, I', J) ∧ zXC (zpp T m f ks ps (zsk T m 61 p)).2.1 (zpp T m f ks ps (zsk T m 61 p)).2.2 I' ∧ I' 11 1 = I 11 1 ∧ ∀ c, c < 10 ∨ 13 < c → I' c = I c := by
  intro f
  induction f with
  | zero => intro ks ps p fuel I h1 h2; omega
  | succ f ih =>
    intro ks ps p fuel I h1 h2 h3 hp hlen hX hC
    obtain ⟨fu, rfl⟩ : ∃ fu, fuel = fu + 1 := ⟨fuel - 1, by omega⟩
    obtain ⟨I1, a1, a2, a3⟩ := eR_skip (J := J) ht hm (show p < 1000 by omega) hX
    have hsk := zsk_le (T := T) (m := m) 61 p
    have c1 : zXC ks ps I1 := by unfold zXC at hC ⊢; rw [a3 11 (by omega), a3 12 (by omega), a3 13 (by omega)]; exact hC
    generalize hq : zsk T m 61 p = q at *
    have hq' : q < 600 := by omega
    rw [fR_readPeople_b2, if_neg (by show ¬ qn 6 < qn ks.length; rw [qn_lt (by omega) (by omega)]; omega), a1, qp_bd_t]
    have body : ∃ I', fR_readPeople_b37 (fun a0 I J => fR_readPeople_b2 fu a0 I J) (qn ks.length) I1 J = some (zfv (match zkd T m q with | none => (some q, ks, ps) | some k => if ks.length = 6 then (some q, ks, ps) else match zfig T m (q + 1) with | none => (some (q + 1), ks, ps) | some g => if g = 0 then (some (q + 1), ks, ps) else zpp T m f (ks ++ [k]) (ps ++ [g]) (zsk T m 61 (q + 2))).1, I', J) ∧ zXC (match zkd T m q with | none => (some q, ks, ps) | some k => if ks.length = 6 then (some q, ks, ps) else match zfig T m (q + 1) with | none => (some (q + 1), ks, ps) | some g => if g = 0 then (some (q + 1), ks, ps) else zpp T m f (ks ++ [k]) (ps ++ [g]) (zsk T m 61 (q + 2))).2.1 (match zkd T m q with | none => (some q, ks, ps) | some k => if ks.length = 6 then (some q, ks, ps) else match zfig T m (q + 1) with | none => (some (q + 1), ks, ps) | some g => if g = 0 then (some (q + 1), ks, ps) else zpp T m f (ks ++ [k]) (ps ++ [g]) (zsk T m 61 (q + 2))).2.2 I' ∧ I' 11 1 = I 11 1 ∧ ∀ c, c < 10 ∨ 13 < c → I' c = I c := by
      have fr : ∀ c, c < 10 ∨ 13 < c → I1 c = I c := fun c hc => a3 c (by omega)
      unfold fR_readPeople_b37
      rw [a2.2.2.2.2, eR_kind ht hm (by omega) a2, qp_bd_t]
      cases hk : zkd T m q with
      | none =>
        dsimp only
        rw [if_pos (by decide), a2.2.2.2.2]
        exact ⟨I1, rfl, c1, by rw [a3 11 (by omega)], fr⟩
      | some k =>
        have hk5 : k ≤ 5 := by
          unfold zkd at hk
          split at hk
          · exact zkl_5 hk
          · cases hk
        dsimp only
        rw [if_neg (by show ¬ qn k < qn 0; rw [qn_lt (by omega) (by omega)]; omega)]
        by_cases c6 : ks.length = 6
        · rw [if_pos c6, if_neg (by rw [c6]; exact fun q => q rfl), a2.2.2.2.2]
          exact ⟨I1, rfl, c1, by rw [a3 11 (by omega)], fr⟩
        have e1 : qn q + 1 = qn (q + 1) := qn_add q 1
        have hX2 : zXR t m T (q + 1) (qp_up I1 10 3 (qn (q + 1))) := zXR_p a2 (fun c h1 h2 => qm_nk (by omega)) (qm_nj (by omega)) (qm_eq rfl)
        rw [if_neg c6, if_pos (by show ¬ qn ks.length = qn 6; rw [qn_eq (by omega) (by omega)]; exact c6), a2.2.2.2.2, e1, eR_fig ht hm (by omega) hX2, qp_bd_t]
        have c2 : zXC ks ps (qp_up I1 10 3 (qn (q + 1))) := by unfold zXC at c1 ⊢; rw [qm_nk (by omega), qm_nk (by omega), qm_nk (by omega)]; exact c1
        have fr2 : ∀ c, c < 10 ∨ 13 < c → qp_up I1 10 3 (qn (q + 1)) c = I c := fun c hc => by rw [qm_nk (by omega)]; exact fr c hc
        cases hg : zfig T m (q + 1) with
        | none =>
          dsimp only
          rw [if_neg (by decide), hX2.2.2.2.2]
          exact ⟨_, rfl, c2, by rw [qm_nk (by omega), a3 11 (by omega)], fr2⟩
        | some g =>
          have hg9 := (zfig_9 hg).2.1
          dsimp only
          by_cases g0 : g = 0
          · rw [if_pos g0, if_neg (by rw [g0]; decide), hX2.2.2.2.2]
            exact ⟨_, rfl, c2, by rw [qm_nk (by omega), a3 11 (by omega)], fr2⟩
          rw [if_neg g0, if_pos (by show qn 1 ≤ qn g; rw [qn_le (by omega) (by omega)]; omega), hX2.2.2.2.2, show qn (q + 1) + 1 = qn (q + 2) from qn_add _ 1]
          have el1 : (ks ++ [k]).length = ks.length + 1 := by rw [List.length_append]; rfl
          have el2 : (ps ++ [g]).length = ps.length + 1 := by rw [List.length_append]; rfl
          have e11 : (qp_up (qp_up I1 10 3 (qn (q + 1))) 10 3 (qn (q + 2))) 11 0 = qn ks.length := by rw [qm_nk (by omega), qm_nk (by omega)]; exact c1.1
          have ea : fC_add_11 (qn k) (qn g) (qp_up (qp_up I1 10 3 (qn (q + 1))) 10 3 (qn (q + 2))) J = some ((), qp_up (qp_up (qp_up (qp_up (qp_up I1 10 3 (qn (q + 1))) 10 3 (qn (q + 2))) 12 ks.length (qn k)) 13 ks.length (qn g)) 11 0 (qn (ks.length + 1)), J) := by
            unfold fC_add_11
            rw [e11, if_neg (by show ¬ qn _ < qn 0; rw [qn_lt (by omega) (by omega)]; omega), if_neg (by show ¬ qn 6 ≤ qn _; rw [qn_le (by omega) (by omega)]; omega), if_neg (by show ¬ qn 6 ≤ qn _; rw [qn_le (by omega) (by omega)]; omega), qp_gd_t (q_g6 (by omega)), qn_nat (by omega), show qn ks.length + 1 = qn (ks.length + 1) from qn_add _ 1]
          obtain ⟨I', g1, g2, g3, g4⟩ := ih (ks ++ [k]) (ps ++ [g]) (q + 2) fu (qp_up (qp_up (qp_up (qp_up (qp_up I1 10 3 (qn (q + 1))) 10 3 (qn (q + 2))) 12 ks.length (qn k)) 13 ks.length (qn g)) 11 0 (qn (ks.length + 1))) (by omega) (by omega) (by omega) (by have := zfig_9 hg; omega) (by omega)
            (zXR_p a2 (fun c h1 h2 => by rw [qm_nk (by omega), qm_nk (by omega), qm_nk (by omega), qm_nk (by omega), qm_nk (by omega)]) (by rw [qm_nk (by omega), qm_nk (by omega), qm_nk (by omega), qm_nj (by omega), qm_nj (by omega)]) (by rw [qm_nk (by omega), qm_nk (by omega), qm_nk (by omega), qm_eq rfl]))
            ⟨by rw [qm_eq rfl, el1], by
              rw [qm_nk (by omega), qm_nk (by omega)]
              exact zr0_app (by rw [qm_nk (by omega), qm_nk (by omega)]; exact c1.2.1), by
              rw [qm_nk (by omega), ← hlen]
              exact zr0_app (by rw [qm_nk (by omega), qm_nk (by omega), qm_nk (by omega)]; exact c1.2.2)⟩
          refine ⟨I', ?_, g2, ?_, fun c hc => by rw [g4 c hc, qm_nk (by omega), qm_nk (by omega), qm_nk (by omega), qm_nk (by omega)]; exact fr2 c hc⟩
          · rw [show zki (some k) = qn k from rfl, show zki (some g) = qn g from rfl, ea, qp_bd_t, show qn ks.length + 1 = qn (ks ++ [k]).length by rw [el1]; exact qn_add _ 1]
            exact g1
          · rw [g3, qm_nj (by omega), qm_nk (by omega), qm_nk (by omega), qm_nk (by omega), qm_nk (by omega), a3 11 (by omega)]
    unfold zpp
    by_cases h0 : 0 < ks.length
    · rw [if_neg (by show ¬ qn ks.length ≤ qn 0; rw [qn_le (by omega) (by omega)]; omega), a2.2.2.2.1, eS4_size ht, qp_bd_t, a2.2.1, a2.2.2.2.2]
      by_cases hmq : m ≤ q
      · rw [if_neg (by rw [qn_lt (by omega) (by omega)]; omega), if_pos ⟨h0, hmq⟩]
        exact ⟨I1, rfl, c1, by rw [a3 11 (by omega)], fun c hc => a3 c (by omega)⟩
      · rw [if_pos (by rw [qn_lt (by omega) (by omega)]; omega), if_neg (fun h => hmq h.2)]
        exact body
    · rw [if_pos (by show qn ks.length ≤ qn 0; rw [qn_le (by omega) (by omega)]; omega), if_neg (fun h => h0 h.1)]
      exact body
end RX

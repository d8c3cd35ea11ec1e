/-! WHAT EACH GETS: serving as one walk over those to be served, soldiers first -/
def zwn (K : Nat → Nat) (s : List Nat) (i : Nat) : Nat := zwant (K i) (decide (zix i s + 1 = s.length))
def zord (K : Nat → Nat) (s : List Nat) : List Nat := s.filter (fun i => zsol (K i)) ++ s.filter (fun i => !zsol (K i))
def zfo (P w : Nat → Nat) (l : List Nat) (st : ZSt) : ZSt := l.foldl (fun st i => zstep P i (w i) st) st
theorem zgo_fo {K P : Nat → Nat} {s : List Nat} (hs : s.Nodup) (r : Bool) : ∀ (k p : Nat) (st : ZSt), p + k = s.length → zgo K P s.length r (s.drop p) p st = zfo P (zwn K s) ((s.drop p).filter (fun i => zsol (K i) == r)) st := by
  intro k
  induction k with
  | zero => intro p st h; rw [List.drop_of_length_le (by omega)]; rfl
  | succ k ih =>
    intro p st h
    rw [zat_drop s p (by omega)]
    show zgo K P s.length r (s.drop (p + 1)) (p + 1) (if zsol (K (zat s p)) = r then zstep P (zat s p) (zwant (K (zat s p)) (decide (p + 1 = s.length))) st else st) = _
    rw [ih (p + 1) _ (by omega)]
    have e : zwn K s (zat s p) = zwant (K (zat s p)) (decide (p + 1 = s.length)) := by unfold zwn; rw [zix_at hs (by omega)]
    by_cases h1 : zsol (K (zat s p)) = r
    · rw [if_pos h1, List.filter_cons_of_pos (by simp [h1]), ← e]; rfl
    · rw [if_neg h1, List.filter_cons_of_neg (by simp [h1])]
theorem zsv_fo {K P : Nat → Nat} {s : List Nat} (hs : s.Nodup) (st : ZSt) : zsv K P s st = zfo P (zwn K s) (zord K s) st := by
  have h1 := zgo_fo (K := K) (P := P) hs true s.length 0 st (by omega)
  have h2 := zgo_fo (K := K) (P := P) hs false s.length 0 (zgo K P s.length true s 0 st) (by omega)
  have e1 : (fun i => zsol (K i) == true) = (fun i => zsol (K i)) := by funext i; cases zsol (K i) <;> rfl
  have e2 : (fun i => zsol (K i) == false) = (fun i => !zsol (K i)) := by funext i; cases zsol (K i) <;> rfl
  rw [List.drop_zero, e1] at h1
  rw [List.drop_zero, e2] at h2
  unfold zsv zord
  rw [h2, h1]
  unfold zfo
  rw [List.foldl_append]
theorem zord_mem {K : Nat → Nat} {s : List Nat} {i : Nat} : i ∈ zord K s ↔ i ∈ s := by
  unfold zord
  rw [List.mem_append, List.mem_filter, List.mem_filter]
  cases h : zsol (K i) <;> simp
theorem zord_nd {K : Nat → Nat} {s : List Nat} (h : s.Nodup) : (zord K s).Nodup := by
  unfold zord
  refine List.nodup_append.mpr ⟨h.filter _, h.filter _, fun a ha b hb e => ?_⟩
  subst e
  have h1 := (List.mem_filter.mp ha).2
  have h2 := (List.mem_filter.mp hb).2
  rw [h1] at h2; cases h2
theorem zord_len {K : Nat → Nat} {s : List Nat} : (zord K s).length = s.length := by
  unfold zord
  rw [List.length_append]
  induction s with
  | nil => rfl
  | cons x t ih =>
    cases h : zsol (K x)
    · rw [List.filter_cons_of_neg (by simp [h]), List.filter_cons_of_pos (by simp [h]), List.length_cons, List.length_cons]; omega
    · rw [List.filter_cons_of_pos (by simp [h]), List.filter_cons_of_neg (by simp [h]), List.length_cons, List.length_cons]; omega
/-- how many one gets who is served behind v, L left -/
def zgn (P w : Nat → Nat) (v L i : Nat) : Nat := if P i < v then 0 else min (w i) L
/-- what is left as one's turn comes -/
def zlf (P w : Nat → Nat) : List Nat → Nat → Nat → Nat → Nat
  | [], _, L, _ => L
  | x :: t, v, L, i => if x = i then L else zlf P w t (v + 1) (L - zgn P w v L x) i
def zle (P w : Nat → Nat) : List Nat → Nat → Nat → Nat
  | [], _, L => L
  | x :: t, v, L => zle P w t (v + 1) (L - zgn P w v L x)
theorem zlf_le (P w : Nat → Nat) : ∀ (l : List Nat) (v L i : Nat), zlf P w l v L i ≤ L
  | [], v, L, i => Nat.le_refl _
  | x :: t, v, L, i => by
    unfold zlf
    split
    · exact Nat.le_refl _
    · exact Nat.le_trans (zlf_le P w t _ _ i) (Nat.sub_le _ _)
theorem zle_le (P w : Nat → Nat) : ∀ (l : List Nat) (v L : Nat), zle P w l v L ≤ L
  | [], v, L => Nat.le_refl _
  | x :: t, v, L => Nat.le_trans (zle_le P w t _ _) (Nat.sub_le _ _)
theorem qp_up1_if {α : Type} {f : Nat → α} {k : Nat} {v : α} {k' : Nat} : qp_up1 f k v k' = if k = k' then v else f k' := by
  by_cases h : k = k'
  · subst h; rw [qp_up1_eq, if_pos rfl]
  · rw [qp_up1_ne (fun e => h e.symm), if_neg h]
/-- the rows behind a walk -/
def zrows (P w : Nat → Nat) (l : List Nat) (st r : ZSt) : Prop :=
  (∀ i, i ∈ l → r.2.2.1 i = qn (w i) ∧ r.2.2.2.1 i = qn (zgn P w (st.1 + zix i l) (zlf P w l st.1 st.2.1 i) i) ∧ r.2.2.2.2.1 i = qn (st.1 + zix i l) ∧ r.2.2.2.2.2.1 i = qn (zlf P w l st.1 st.2.1 i)) ∧
  (∀ i, ¬ i ∈ l → r.2.2.1 i = st.2.2.1 i ∧ r.2.2.2.1 i = st.2.2.2.1 i ∧ r.2.2.2.2.1 i = st.2.2.2.2.1 i ∧ r.2.2.2.2.2.1 i = st.2.2.2.2.2.1 i)
theorem zfo_rows {P w : Nat → Nat} : ∀ (l : List Nat) (st : ZSt), l.Nodup → (zfo P w l st).1 = st.1 + l.length ∧ (zfo P w l st).2.1 = zle P w l st.1 st.2.1 ∧ zrows P w l st (zfo P w l st)
  | [], st, _ => ⟨rfl, rfl, fun i hi => (by cases hi), fun i _ => ⟨rfl, rfl, rfl, rfl⟩⟩
  | x :: t, st, hnd => by
    have hn' := List.nodup_cons.mp hnd
    obtain ⟨h1, h2, h3, h4⟩ := zfo_rows (P := P) (w := w) t (zstep P x (w x) st) hn'.2
    have e : zfo P w (x :: t) st = zfo P w t (zstep P x (w x) st) := rfl
    rw [e]
    refine ⟨?_, h2, fun i hi => ?_, fun i hi => ?_⟩
    · rw [h1, List.length_cons]
      show st.1 + 1 + t.length = _
      omega
    · by_cases hx : x = i
      · subst hx
        obtain ⟨g1, g2, g3, g4⟩ := h4 x hn'.1
        rw [g1, g2, g3, g4]
        have z0 : zix x (x :: t) = 0 := by unfold zix; rw [if_pos rfl]
        have z1 : zlf P w (x :: t) st.1 st.2.1 x = st.2.1 := by unfold zlf; rw [if_pos rfl]
        rw [z0, z1, Nat.add_zero]
        exact ⟨qp_up1_eq, qp_up1_eq, qp_up1_eq, qp_up1_eq⟩
      · have hit : i ∈ t := by
          rcases List.mem_cons.mp hi with h | h
          · exact absurd h.symm hx
          · exact h
        have z0 : zix i (x :: t) = zix i t + 1 := by
          show (if x = i then 0 else zix i t + 1) = _
          rw [if_neg hx]
        have z1 : zlf P w (x :: t) st.1 st.2.1 i = zlf P w t (st.1 + 1) (st.2.1 - zgn P w st.1 st.2.1 x) i := by
          show (if x = i then _ else _) = _
          rw [if_neg hx]
        rw [z0, z1, show st.1 + (zix i t + 1) = (st.1 + 1) + zix i t by omega]
        exact h3 i hit
    · have hx : ¬ x = i := fun e => hi (e ▸ List.mem_cons_self)
      have hit : ¬ i ∈ t := fun h => hi (List.mem_cons_of_mem _ h)
      obtain ⟨g1, g2, g3, g4⟩ := h4 i hit
      rw [g1, g2, g3, g4]
      exact ⟨qp_up1_ne (fun e => hx e.symm), qp_up1_ne (fun e => hx e.symm), qp_up1_ne (fun e => hx e.symm), qp_up1_ne (fun e => hx e.symm)⟩
theorem zfo_bits {P w : Nat → Nat} : ∀ (l : List Nat) (st : ZSt), l.Nodup → (∀ j, (zfo P w l st).2.2.2.2.2.2.1.testBit j = (st.2.2.2.2.2.2.1.testBit j || decide (j ∈ l ∧ P j < st.1 + zix j l))) ∧
    ∀ j, (zfo P w l st).2.2.2.2.2.2.2.testBit j = (st.2.2.2.2.2.2.2.testBit j || decide (j ∈ l ∧ 0 < w j ∧ zgn P w (st.1 + zix j l) (zlf P w l st.1 st.2.1 j) j = w j))
  | [], st, _ => ⟨fun j => by simp [zfo], fun j => by simp [zfo]⟩
  | x :: t, st, hnd => by
    have hn' := List.nodup_cons.mp hnd
    obtain ⟨h1, h2⟩ := zfo_bits (P := P) (w := w) t (zstep P x (w x) st) hn'.2
    have e : zfo P w (x :: t) st = zfo P w t (zstep P x (w x) st) := rfl
    have z0 : ∀ j, zix j (x :: t) = if x = j then 0 else zix j t + 1 := fun j => rfl
    have z1 : ∀ j, zlf P w (x :: t) st.1 st.2.1 j = if x = j then st.2.1 else zlf P w t (st.1 + 1) (st.2.1 - zgn P w st.1 st.2.1 x) j := fun j => rfl
    have b1 : (zstep P x (w x) st).2.2.2.2.2.2.1 = if P x < st.1 then st.2.2.2.2.2.2.1 ||| 2 ^ x else st.2.2.2.2.2.2.1 := rfl
    have b2 : (zstep P x (w x) st).2.2.2.2.2.2.2 = if 0 < w x ∧ zgn P w st.1 st.2.1 x = w x then st.2.2.2.2.2.2.2 ||| 2 ^ x else st.2.2.2.2.2.2.2 := rfl
    have b3 : (zstep P x (w x) st).1 = st.1 + 1 := rfl
    have b4 : (zstep P x (w x) st).2.1 = st.2.1 - zgn P w st.1 st.2.1 x := rfl
    rw [e]
    refine ⟨fun j => ?_, fun j => ?_⟩
    · rw [h1 j, b1, b3, z0 j]
      by_cases hx : x = j
      · subst hx
        by_cases hp : P x < st.1
        · rw [if_pos hp]; simp [Nat.testBit_or, Nat.testBit_two_pow_self, hp]
        · rw [if_neg hp]; simp [hp, hn'.1]
      · have hb : (if P x < st.1 then st.2.2.2.2.2.2.1 ||| 2 ^ x else st.2.2.2.2.2.2.1).testBit j = st.2.2.2.2.2.2.1.testBit j := by
          split
          · rw [Nat.testBit_or, Nat.testBit_two_pow_of_ne hx, Bool.or_false]
          · rfl
        rw [hb, if_neg hx, show st.1 + 1 + zix j t = st.1 + (zix j t + 1) by omega]
        simp [show ¬ j = x from fun e => hx e.symm]
    · rw [h2 j, b2, b3, b4, z0 j, z1 j]
      by_cases hx : x = j
      · subst hx
        by_cases hp : 0 < w x ∧ zgn P w st.1 st.2.1 x = w x
        · rw [if_pos hp]; simp [Nat.testBit_or, Nat.testBit_two_pow_self, hp.1, hp.2]
        · rw [if_neg hp, if_pos rfl, if_pos rfl]
          have : ¬ (x ∈ x :: t ∧ 0 < w x ∧ zgn P w (st.1 + 0) st.2.1 x = w x) := fun h => hp h.2
          rw [decide_eq_false this]
          simp [hn'.1]
      · have hb : (if 0 < w x ∧ zgn P w st.1 st.2.1 x = w x then st.2.2.2.2.2.2.2 ||| 2 ^ x else st.2.2.2.2.2.2.2).testBit j = st.2.2.2.2.2.2.2.testBit j := by
          split
          · rw [Nat.testBit_or, Nat.testBit_two_pow_of_ne hx, Bool.or_false]
          · rfl
        rw [hb, if_neg hx, if_neg hx, show st.1 + 1 + zix j t = st.1 + (zix j t + 1) by omega]
        simp [show ¬ j = x from fun e => hx e.symm]
/-! by kinds, patience, an order, loaves: what one wants, behind how many it is served, what is left then, what it gets, what is left in the end -/
def zB (K : Nat → Nat) (s : List Nat) (i : Nat) : Nat := zix i (zord K s)
def zF (K P : Nat → Nat) (s : List Nat) (L i : Nat) : Nat := zlf P (zwn K s) (zord K s) 0 L i
def zG (K P : Nat → Nat) (s : List Nat) (L i : Nat) : Nat := zgn P (zwn K s) (zB K s i) (zF K P s L i) i
def zE (K P : Nat → Nat) (s : List Nat) (L : Nat) : Nat := zle P (zwn K s) (zord K s) 0 L
def zXV (K P : Nat → Nat) (s : List Nat) (L : Nat) (I : Nat → Nat → Int32) : Prop :=
  (∀ i, i ∈ s → I 19 i = qn (zwn K s i) ∧ I 20 i = qn (zG K P s L i) ∧ I 21 i = qn (zB K s i) ∧ I 22 i = qn (zF K P s L i)) ∧ I 18 4 = qn (zE K P s L) ∧ I 18 3 = qn L ∧
  (∃ a, I 18 0 = qn a ∧ ∀ j, a.testBit j = decide (j ∈ s ∧ P j < zB K s j)) ∧ ∃ a, I 18 1 = qn a ∧ ∀ j, a.testBit j = decide (j ∈ s ∧ 0 < zwn K s j ∧ zG K P s L j = zwn K s j)
theorem eV_sv {K P : Nat → Nat} {s : List Nat} {L : Nat} {I : Nat → Nat → Int32} {J : Nat → Nat → Int64} (hs : s.Nodup) (h6 : ∀ i, i ∈ s → i < 6) (hn : s.length ≤ 6) (hk : ∀ i, i ∈ s → K i ≤ 5 ∧ P i ≤ 9 ∧ I 16 i = qn (K i) ∧ I 17 i = qn (P i)) (hL : L ≤ 20) :
    ∃ I', fV_serve (qn (zpk s)) (qn s.length) (qn L) I J = some ((), I', J) ∧ zXV K P s L I' ∧ ∀ c, c < 18 ∨ 22 < c → I' c = I c := by
  obtain ⟨I', a1, a2, a3, a4⟩ := eV_serve (J := J) (K := K) (P := P) (s := s) (L := L) (I := I) (fun x hx => by have := h6 x hx; omega) hn (fun i hi => ⟨h6 i hi, (hk i hi).1, by have := (hk i hi).2.1; omega, (hk i hi).2.2⟩) hL
  refine ⟨I', a1, ?_, a3⟩
  rw [zsv_fo hs] at a2
  obtain ⟨r1, r2, r3, -⟩ := zfo_rows (P := P) (w := zwn K s) (zord K s) (0, L, I 19, I 20, I 21, I 22, 0, 0) (zord_nd hs)
  obtain ⟨t1, t2⟩ := zfo_bits (P := P) (w := zwn K s) (zord K s) (0, L, I 19, I 20, I 21, I 22, 0, 0) (zord_nd hs)
  obtain ⟨x1, x2, x3, x4, x5, x6, x7, x8⟩ := a2
  refine ⟨fun i hi => ?_, by rw [x2, r2]; rfl, a4, ⟨_, x7, fun j => ?_⟩, ⟨_, x8, fun j => ?_⟩⟩
  · have h := r3 i (zord_mem.mpr hi)
    rw [x3, x4, x5, x6]
    dsimp only at h
    rw [Nat.zero_add] at h
    exact h
  · rw [t1 j]
    dsimp only
    rw [Nat.zero_testBit, Bool.false_or, Nat.zero_add]
    have e : (j ∈ zord K s) = (j ∈ s) := propext zord_mem
    simp only [e]; rfl
  · rw [t2 j]
    dsimp only
    rw [Nat.zero_testBit, Bool.false_or, Nat.zero_add]
    have e : (j ∈ zord K s) = (j ∈ s) := propext zord_mem
    simp only [e]; rfl
theorem zwn_le {K : Nat → Nat} {s : List Nat} {i : Nat} : zwn K s i ≤ 3 := zwant_le _ _
theorem zB_lt {K : Nat → Nat} {s : List Nat} {i : Nat} (h : i ∈ s) : zB K s i < s.length := by have := zix_lt (zord_mem (K := K).mpr h); rw [zord_len] at this; exact this
theorem zF_le {K P : Nat → Nat} {s : List Nat} {L i : Nat} : zF K P s L i ≤ L := zlf_le _ _ _ _ _ _
theorem zE_le {K P : Nat → Nat} {s : List Nat} {L : Nat} : zE K P s L ≤ L := zle_le _ _ _ _ _
theorem zG_le {K P : Nat → Nat} {s : List Nat} {L i : Nat} : zG K P s L i ≤ zwn K s i := by
  unfold zG zgn
  split
  · exact Nat.zero_le _
  · exact Nat.min_le_left _ _
theorem zG_3 {K P : Nat → Nat} {s : List Nat} {L i : Nat} : zG K P s L i ≤ 3 := Nat.le_trans zG_le zwn_le
/-- what others of the same kinds and patience are makes no other serving -/
def zMS (st : ZSt) (I : Nat → Nat → Int32) : Prop := I 36 20 = qn st.2.1 ∧ I 51 = st.2.2.1 ∧ I 48 = st.2.2.2.1 ∧ I 49 = st.2.2.2.2.1 ∧ I 50 = st.2.2.2.2.2.1
def zMF (I I' : Nat → Nat → Int32) : Prop := (∀ c, c ≠ 36 → c < 48 ∨ 51 < c → I' c = I c) ∧ ∀ j, j ≠ 20 → I' 36 j = I 36 j
theorem zMF_rfl {I : Nat → Nat → Int32} : zMF I I := ⟨fun _ _ _ => rfl, fun _ _ => rfl⟩
theorem zMF_tr {I I1 I2 : Nat → Nat → Int32} (h : zMF I I1) (h' : zMF I1 I2) : zMF I I2 := ⟨fun c h1 h2 => (h'.1 c h1 h2).trans (h.1 c h1 h2), fun j hj => (h'.2 j hj).trans (h.2 j hj)⟩
def zMV (K P : Nat → Nat) (s : List Nat) (L : Nat) (I : Nat → Nat → Int32) : Prop :=
  (∀ i, i ∈ s → I 51 i = qn (zwn K s i) ∧ I 48 i = qn (zG K P s L i) ∧ I 49 i = qn (zB K s i) ∧ I 50 i = qn (zF K P s L i)) ∧ I 36 20 = qn (zE K P s L)

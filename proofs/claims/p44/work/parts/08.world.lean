/-! THE WORLD OF A MEMORY: where its cells lie in the heap -/
def qp_tr (ad : Nat → Nat) : Value → Value
  | .ref r => .ref (ad r)
  | v => v
theorem qp_tr_cat (ad : Nat → Nat) (v : Value) : (qp_tr ad v).category = v.category := by cases v <;> rfl
/-- places of classes, the class of int[], of boolean[] -/
abbrev qp_G : Type := va_G × ClassId × ClassId × (Nat × Nat × (Nat → Int32))
def qp_fs (M : qp_M) (ad : Nat → Nat) (r : Nat) : List Value := (List.range (M.2.2.2.1 r).2).map (fun k => qp_tr ad (qp_get M (M.2.2.2.1 r).1 r k))
def qp_e (G : qp_G) (M : qp_M) (ad : Nat → Nat) (r : Nat) : va_E :=
  bif Nat.beq (M.2.2.2.1 r).1 50 then .inl (G.2.1, ((M.2.2.2.1 r).2, .inl (M.1 r))) else bif Nat.beq (M.2.2.2.1 r).1 51 then .inl (G.2.2.1, ((M.2.2.2.1 r).2, .inl (M.1 r))) else .inr ((M.2.2.2.1 r).1, qp_fs M ad r)
def qp_w (G : qp_G) (M : qp_M) (ad : Nat → Nat) : va_W := (List.range M.2.2.2.2.1).map (fun r => (ad r, qp_e G M ad r))
abbrev qp_cl : List vw_C := (List.range 10).map (fun t => (qp_R t, qp_T t, qp_N t))
abbrev qp_tys (G : qp_G) : List (ClassId × FieldType) := [(G.2.1, .int), (G.2.2.1, .boolean)]
theorem qp_cl_at {t : Nat} (h : t < 10) : qp_cl[t]? = some (qp_R t, qp_T t, qp_N t) := by
  simp [qp_cl, h]
theorem qp_w_at {G : qp_G} {M : qp_M} {ad : Nat → Nat} {r : Nat} (h : r < M.2.2.2.2.1) : (qp_w G M ad)[r]? = some (ad r, qp_e G M ad r) := by
  simp [qp_w, h]
theorem qp_w_len {G : qp_G} {M : qp_M} {ad : Nat → Nat} : (qp_w G M ad).length = M.2.2.2.2.1 := by simp [qp_w]
theorem qp_w_set {G : qp_G} {M M' : qp_M} {ad : Nat → Nat} {r : Nat} {e : va_E} (hn : M'.2.2.2.2.1 = M.2.2.2.2.1) (he : qp_e G M' ad r = e) (ho : ∀ k, k ≠ r → qp_e G M' ad k = qp_e G M ad k) : (qp_w G M ad).set r (ad r, e) = qp_w G M' ad := by
  apply List.ext_getElem?
  intro k
  rw [List.getElem?_set]
  by_cases hk : r = k
  · subst hk
    rw [if_pos rfl, qp_w_len]
    by_cases hl : r < M.2.2.2.2.1
    · rw [if_pos hl, qp_w_at (by rw [hn]; exact hl), he]
    · rw [if_neg hl, List.getElem?_eq_none (by rw [qp_w_len]; omega)]
  · rw [if_neg hk]
    by_cases hl : k < M.2.2.2.2.1
    · rw [qp_w_at hl, qp_w_at (by rw [hn]; exact hl), ho k (fun q => hk q.symm)]
    · rw [List.getElem?_eq_none (by rw [qp_w_len]; omega), List.getElem?_eq_none (by rw [qp_w_len]; omega)]
theorem qp_w_app {G : qp_G} {M M' : qp_M} {ad ad' : Nat → Nat} {e : va_E} (hn : M'.2.2.2.2.1 = M.2.2.2.2.1 + 1) (he : qp_e G M' ad' M.2.2.2.2.1 = e) (ha : ∀ k, k < M.2.2.2.2.1 → ad' k = ad k) (ho : ∀ k, k < M.2.2.2.2.1 → qp_e G M' ad' k = qp_e G M ad k) : qp_w G M ad ++ [(ad' M.2.2.2.2.1, e)] = qp_w G M' ad' := by
  unfold qp_w
  rw [hn, List.range_succ, List.map_append, List.map_cons, List.map_nil, he]
  congr 1
  apply List.map_congr_left
  intro k hk
  rw [ha k (List.mem_range.mp hk), ho k (List.mem_range.mp hk)]
/-! small things on the functions -/
theorem qp_up_ne {α : Type} {f : Nat → Nat → α} {k j : Nat} {v : α} {k' j' : Nat} (h : k' ≠ k) : qp_up f k j v k' j' = f k' j' := by
  have h0 : Nat.beq k k' = false := Bool.eq_false_iff.mpr (fun q => h (Nat.eq_of_beq_eq_true q).symm)
  simp [qp_up, h0]
theorem qp_up_nj {α : Type} {f : Nat → Nat → α} {k j : Nat} {v : α} {k' j' : Nat} (h : j' ≠ j) : qp_up f k j v k' j' = f k' j' := by
  have h0 : Nat.beq j j' = false := Bool.eq_false_iff.mpr (fun q => h (Nat.eq_of_beq_eq_true q).symm)
  simp [qp_up, h0]
theorem qp_up_eq {α : Type} {f : Nat → Nat → α} {k j : Nat} {v : α} : qp_up f k j v k j = v := by simp [qp_up]
theorem qp_up1_ne {α : Type} {f : Nat → α} {k : Nat} {v : α} {k' : Nat} (h : k' ≠ k) : qp_up1 f k v k' = f k' := by
  have h0 : Nat.beq k k' = false := Bool.eq_false_iff.mpr (fun q => h (Nat.eq_of_beq_eq_true q).symm)
  simp [qp_up1, h0]
theorem qp_up1_eq {α : Type} {f : Nat → α} {k : Nat} {v : α} : qp_up1 f k v k = v := by simp [qp_up1]
theorem qp_len_eq {α : Type} (L : List α) : qp_len L = L.length := by
  induction L with
  | nil => rfl
  | cons a t ih => show Nat.succ (qp_len t) = _; rw [ih]; rfl
theorem qp_nth_eq {α : Type} : ∀ (L : List α) (i : Nat), qp_nth L i = L[i]?
  | [], i => by simp [qp_nth]
  | _ :: _, 0 => rfl
  | _ :: t, i + 1 => by simp [qp_nth, qp_nth_eq t i]
theorem qp_setN_eq {α : Type} : ∀ (L : List α) (i : Nat) (v : α), qp_setN L i v = L.set i v
  | [], i, v => by simp [qp_setN]
  | _ :: _, 0, v => rfl
  | _ :: t, i + 1, v => by simp [qp_setN, qp_setN_eq t i v]
theorem qp_cat_eq (L : List Value) : qp_cat L = (L.map (fun v => v.category)).sum := by
  induction L with
  | nil => rfl
  | cons a t ih => simp [qp_cat, ih]
theorem qp_cat_tr (ad : Nat → Nat) (L : List Value) : ((L.map (qp_tr ad)).map (fun v => v.category)).sum = qp_cat L := by
  rw [qp_cat_eq, List.map_map]
  congr 1
  apply List.map_congr_left
  intro v _
  exact qp_tr_cat ad v
/-! the locals -/
def qp_Ls (ls : Array Slot) (nL : Nat) (ad : Nat → Nat) (L : List (Option Value)) : Prop := ls.size = nL ∧ lv_wf ls ∧ L.length = nL ∧ ∀ (i : Nat) (v : Value), L[i]? = some (some v) → ls[i]? = some (.val (qp_tr ad v))
def qp_lv (ad : Nat → Nat) (L : List (Option Value)) : List (Nat × Value) := (List.range L.length).filterMap (fun i => match L[i]? with
  | some (some v) => some (i, qp_tr ad v)
  | _ => none)
theorem qp_lv_mem {ad : Nat → Nat} {L : List (Option Value)} {i : Nat} {w : Value} : (i, w) ∈ qp_lv ad L ↔ ∃ v, L[i]? = some (some v) ∧ w = qp_tr ad v := by
  unfold qp_lv
  rw [List.mem_filterMap]
  constructor
  · rintro ⟨j, hj, h⟩
    split at h
    · next v hv =>
      simp only [Option.some.injEq, Prod.mk.injEq] at h
      obtain ⟨rfl, rfl⟩ := h
      exact ⟨v, hv, rfl⟩
    · cases h
  · rintro ⟨v, hv, rfl⟩
    refine ⟨i, List.mem_range.mpr (List.getElem?_eq_some_iff.mp hv).1, ?_⟩
    rw [hv]
theorem qp_Ls_has {ls : Array Slot} {nL : Nat} {ad : Nat → Nat} {L : List (Option Value)} (h : qp_Ls ls nL ad L) : lv_has ls nL (qp_lv ad L) := by
  refine ⟨h.1, h.2.1, fun q hq => ?_⟩
  obtain ⟨i, w⟩ := q
  obtain ⟨v, hv, rfl⟩ := qp_lv_mem.mp hq
  exact h.2.2.2 i v hv
theorem qp_Ls_at {ls : Array Slot} {nL : Nat} {ad : Nat → Nat} {L : List (Option Value)} (h : qp_Ls ls nL ad L) {i : Nat} {v : Value} (hi : qp_nth L i = some (some v)) : ls[i]? = some (.val (qp_tr ad v)) := h.2.2.2 i v (by rw [← qp_nth_eq]; exact hi)
theorem qp_cut_at {L : List (Option Value)} {j i : Nat} {v : Value} (h : (qp_cut L j)[i]? = some (some v)) : L[i]? = some (some v) ∧ ¬ (i + 1 = j ∧ v.category = 2) := by
  cases j with
  | zero => exact ⟨h, fun q => by omega⟩
  | succ k =>
    simp only [qp_cut] at h
    split at h
    · next w hw =>
      rw [qp_setN_eq, List.getElem?_set] at h
      by_cases hk : k = i
      · subst hk
        rw [if_pos rfl] at h
        split at h
        · cases h
        · cases h
      · rw [if_neg hk] at h
        exact ⟨h, fun q => hk (by omega)⟩
    · next w hw =>
      rw [qp_setN_eq, List.getElem?_set] at h
      by_cases hk : k = i
      · subst hk
        rw [if_pos rfl] at h
        split at h
        · cases h
        · cases h
      · rw [if_neg hk] at h
        exact ⟨h, fun q => hk (by omega)⟩
    · next hn1 hn2 =>
      refine ⟨h, fun q => ?_⟩
      have hik : i = k := by omega
      subst hik
      rw [qp_nth_eq] at hn1 hn2
      cases v with
      | long x => exact hn1 x h
      | double x => exact hn2 x h
      | _ => exact absurd q.2 (by simp [Value.category])
theorem qp_cut_len {L : List (Option Value)} {j : Nat} : (qp_cut L j).length = L.length := by
  cases j with
  | zero => rfl
  | succ k =>
    simp only [qp_cut]
    split <;> first | rfl | rw [qp_setN_eq, List.length_set]
theorem qp_Ls_sto {ls' : Array Slot} {nL : Nat} {ad : Nat → Nat} {L : List (Option Value)} {j : Nat} {v : Value} (hn : L.length = nL)
    (h : lv_has ls' nL ((j, qp_tr ad v) :: (qp_lv ad L).filter (fun q => !(q.1 == j) && !(q.1 + 1 == j && q.2.category == 2)))) : qp_Ls ls' nL ad (qp_sto L j v) := by
  refine ⟨h.1, h.2.1, ?_, fun i w hi => ?_⟩
  · unfold qp_sto
    rw [qp_setN_eq, List.length_set, qp_cut_len, hn]
  · unfold qp_sto at hi
    rw [qp_setN_eq, List.getElem?_set] at hi
    by_cases hk : j = i
    · subst hk
      rw [if_pos rfl] at hi
      split at hi
      · simp only [Option.some.injEq] at hi
        subst hi
        exact h.2.2 (j, _) List.mem_cons_self
      · cases hi
    · rw [if_neg hk] at hi
      obtain ⟨h1, h2⟩ := qp_cut_at hi
      refine h.2.2 (i, qp_tr ad w) (List.mem_cons_of_mem _ (List.mem_filter.mpr ⟨qp_lv_mem.mpr ⟨w, h1, rfl⟩, ?_⟩))
      have e1 : (i == j) = false := by simpa using fun q => hk q.symm
      have e2 : ((i + 1 == j) && ((qp_tr ad w).category == 2)) = false := by
        rw [qp_tr_cat]
        cases ha : (i + 1 == j) with
        | false => rfl
        | true =>
          cases hb : (w.category == 2) with
          | false => rfl
          | true => exact absurd ⟨by simpa using ha, by simpa using hb⟩ h2
      show (!(i == j) && !((i + 1 == j) && ((qp_tr ad w).category == 2))) = true
      rw [e1, e2]
      rfl
theorem qp_Ls_stoL {ls' : Array Slot} {nL : Nat} {ad : Nat → Nat} {L : List (Option Value)} {j : Nat} {v : Value} (hn : L.length = nL)
    (h : lv_has ls' nL ((j, qp_tr ad v) :: (qp_lv ad L).filter (fun q => !(q.1 == j) && (!(q.1 == j + 1) && !(q.1 + 1 == j && q.2.category == 2))))) : qp_Ls ls' nL ad (qp_stoL L j v) := by
  refine ⟨h.1, h.2.1, ?_, fun i w hi => ?_⟩
  · unfold qp_stoL
    rw [qp_setN_eq, qp_setN_eq, List.length_set, List.length_set, qp_cut_len, hn]
  · unfold qp_stoL at hi
    rw [qp_setN_eq, qp_setN_eq, List.getElem?_set] at hi
    by_cases hk1 : j + 1 = i
    · subst hk1
      rw [if_pos rfl] at hi
      split at hi
      · cases hi
      · cases hi
    rw [if_neg hk1, List.getElem?_set] at hi
    by_cases hk : j = i
    · subst hk
      rw [if_pos rfl] at hi
      split at hi
      · simp only [Option.some.injEq] at hi
        subst hi
        exact h.2.2 (j, _) List.mem_cons_self
      · cases hi
    · rw [if_neg hk] at hi
      obtain ⟨h1, h2⟩ := qp_cut_at hi
      refine h.2.2 (i, qp_tr ad w) (List.mem_cons_of_mem _ (List.mem_filter.mpr ⟨qp_lv_mem.mpr ⟨w, h1, rfl⟩, ?_⟩))
      have e1 : (i == j) = false := by simpa using fun q => hk q.symm
      have e3 : (i == j + 1) = false := by simpa using fun q => hk1 q.symm
      have e2 : ((i + 1 == j) && ((qp_tr ad w).category == 2)) = false := by
        rw [qp_tr_cat]
        cases ha : (i + 1 == j) with
        | false => rfl
        | true =>
          cases hb : (w.category == 2) with
          | false => rfl
          | true => exact absurd ⟨by simpa using ha, by simpa using hb⟩ h2
      show (!(i == j) && (!(i == j + 1) && !((i + 1 == j) && ((qp_tr ad w).category == 2)))) = true
      rw [e1, e2, e3]
      rfl

/-! LISTS: what moves, tickets, deeds and serving do, in naturals -/
theorem lp {σ β : Type} {R : β → Prop} {Inv : Nat → σ → Prop} (G : Nat → Nat → σ → β) (N fuel i : Nat) (s : σ) (h1 : i ≤ N) (h2 : N < i + fuel) (h3 : Inv i s) (ex : ∀ f s, Inv N s → R (G (f + 1) N s))
    (st : ∀ f i s, i < N → Inv i s → R (G (f + 1) i s) ∨ ∃ s', Inv (i + 1) s' ∧ G (f + 1) i s = G f (i + 1) s') : R (G fuel i s) := by
  have h : ∀ (k fuel i : Nat) (s : σ), i + k = N → k < fuel → Inv i s → R (G fuel i s) := by
    intro k
    induction k with
    | zero =>
      intro fuel i s h1 h2 h3
      obtain ⟨f, rfl⟩ : ∃ f, fuel = f + 1 := ⟨fuel - 1, by omega⟩
      have e : i = N := by omega
      subst e
      exact ex f s h3
    | succ k ih =>
      intro fuel i s h1 h2 h3
      obtain ⟨f, rfl⟩ : ∃ f, fuel = f + 1 := ⟨fuel - 1, by omega⟩
      rcases st f i s (by omega) h3 with h | ⟨s', h4, h5⟩
      · exact h
      · rw [h5]; exact ih f (i + 1) s' (by omega) (by omega) h4
  exact h (N - i) fuel i s (by omega) (by omega) h3
theorem zat_rm {i : Nat} : ∀ {s : List Nat} {j : Nat}, i ∈ s → zat (zrm i s) j = if j < zix i s then zat s j else zat s (j + 1)
  | x :: t, j, h => by
    unfold zrm zix
    by_cases hx : x = i
    · rw [if_pos hx, if_pos hx, if_neg (by omega)]; rfl
    · have hm : i ∈ t := by
        rcases List.mem_cons.mp h with h | h
        · exact absurd h.symm hx
        · exact h
      rw [if_neg hx, if_neg hx]
      cases j with
      | zero => rw [if_pos (by omega)]; rfl
      | succ j =>
        show zat (zrm i t) j = _
        rw [zat_rm hm]
        by_cases hj : j < zix i t
        · rw [if_pos hj, if_pos (by omega)]; rfl
        · rw [if_neg hj, if_neg (by omega)]; rfl
theorem zat_zin {i : Nat} : ∀ {p : Nat} {t : List Nat} {j : Nat}, p ≤ t.length → zat (zin i p t) j = if j < p then zat t j else if j = p then i else zat t (j - 1)
  | 0, t, 0, _ => by rw [if_neg (by omega), if_pos rfl]; rfl
  | 0, t, j + 1, _ => by rw [if_neg (by omega), if_neg (by omega)]; rfl
  | p + 1, [], j, h => absurd h (by simp)
  | p + 1, x :: t, 0, h => by rw [if_pos (by omega)]; rfl
  | p + 1, x :: t, j + 1, h => by
    show zat (zin i p t) j = _
    rw [zat_zin (by simpa using h)]
    by_cases h1 : j < p
    · rw [if_pos h1, if_pos (by omega)]; rfl
    · rw [if_neg h1, if_neg (by omega : ¬ j + 1 < p + 1)]
      by_cases h2 : j = p
      · rw [if_pos h2, if_pos (by omega)]
      · rw [if_neg h2, if_neg (by omega)]
        obtain ⟨j', rfl⟩ : ∃ j', j = j' + 1 := ⟨j - 1, by omega⟩
        rfl
theorem zat_mv {i p j : Nat} {s : List Nat} (h : i ∈ s) (hp : p < s.length) : zat (zmv i p s) j = if j = p then i else if zix i s ≤ j ∧ j < p then zat s (j + 1) else if p < j ∧ j ≤ zix i s then zat s (j - 1) else zat s j := by
  unfold zmv
  rw [zat_zin (by have := zrm_len h; omega), zat_rm h, zat_rm h]
  repeat' split
  all_goals first | rfl | omega | (congr 1; omega)
/-- an order of n people -/
def zP (n : Nat) (s : List Nat) : Prop := s.Nodup ∧ s.length = n ∧ ∀ i, i ∈ s ↔ i < n
def zid (n : Nat) : List Nat := List.range n
theorem zid_P (n : Nat) : zP n (zid n) := ⟨List.nodup_range, List.length_range, fun i => List.mem_range⟩
theorem zid_at {n : Nat} : ∀ {p : Nat}, p < n → zat (zid n) p = p := by
  have h : ∀ (l : List Nat) (p : Nat), p < l.length → l[p]? = some (zat l p) := by
    intro l
    induction l with
    | nil => intro p h; cases h
    | cons x t ih =>
      intro p h
      cases p with
      | zero => rfl
      | succ p => exact (List.getElem?_cons_succ).trans (ih p (by simpa using h))
  intro p hp
  have h1 := h (zid n) p (by rw [(zid_P n).2.1]; exact hp)
  have h2 : (zid n)[p]? = some p := by unfold zid; rw [List.getElem?_range hp]
  rw [h2] at h1
  exact (Option.some.inj h1).symm
theorem zmv_P {n i p : Nat} {s : List Nat} (h : zP n s) (hi : i < n) : zP n (zmv i p s) :=
  ⟨zmv_nd h.1, by rw [zmv_len ((h.2.2 i).2 hi)]; exact h.2.1, fun y => (zmv_mem ((h.2.2 i).2 hi)).trans (h.2.2 y)⟩
theorem zP_8 {n : Nat} {s : List Nat} (hn : n ≤ 6) (h : zP n s) : ∀ x ∈ s, x < 8 := fun x hx => by have := (h.2.2 x).1 hx; omega
theorem zP_at {n p : Nat} {s : List Nat} (h : zP n s) (hp : p < n) : zat s p < n := (h.2.2 _).1 (zat_mem s p (by rw [h.2.1]; exact hp))
theorem zP_ix {n i : Nat} {s : List Nat} (h : zP n s) (hi : i < n) : zix i s < n := by have := zix_lt ((h.2.2 i).2 hi); rw [h.2.1] at this; exact this
theorem zP_ixat {n p : Nat} {s : List Nat} (h : zP n s) (hp : p < n) : zix (zat s p) s = p := zix_at h.1 (by rw [h.2.1]; exact hp)
theorem zP_atix {n i : Nat} {s : List Nat} (h : zP n s) (hi : i < n) : zat s (zix i s) = i := zat_ix ((h.2.2 i).2 hi)
theorem zP_iff {n i p : Nat} {s : List Nat} (h : zP n s) (hi : i < n) (hp : p < n) : zix i s = p ↔ zat s p = i := by
  constructor
  · intro e; rw [← e]; exact zP_atix h hi
  · intro e; rw [← e]; exact zP_ixat h hp
theorem zmv_same {n i p : Nat} {s : List Nat} (h : zP n s) (hp : p < n) (he : zat s p = i) : zmv i p s = s := by
  have hi : i ∈ s := he ▸ zat_mem s p (by rw [h.2.1]; exact hp)
  have hx : zix i s = p := by rw [← he]; exact zP_ixat h hp
  have key : ∀ (l : List Nat), i ∈ l → zin i (zix i l) (zrm i l) = l := by
    intro l
    induction l with
    | nil => intro h; cases h
    | cons x t ih =>
      intro hm
      unfold zix zrm
      by_cases hxi : x = i
      · rw [if_pos hxi, if_pos hxi, hxi]; rfl
      · rw [if_neg hxi, if_neg hxi]
        show x :: zin i (zix i t) (zrm i t) = x :: t
        rw [ih (by
          rcases List.mem_cons.mp hm with h | h
          · exact absurd h.symm hxi
          · exact h)]
  unfold zmv
  rw [← hx]
  exact key s hi
/-- lists with the same places are the same -/
theorem zat_ext : ∀ {s t : List Nat}, s.length = t.length → (∀ p, p < s.length → zat s p = zat t p) → s = t
  | [], [], _, _ => rfl
  | [], _ :: _, h, _ => by simp at h
  | _ :: _, [], h, _ => by simp at h
  | x :: s, y :: t, h, hp => by
    have h0 := hp 0 (by simp)
    have h1 : s = t := zat_ext (by simpa using h) (fun p h2 => hp (p + 1) (by simpa using h2))
    have h0' : x = y := h0
    rw [h0', h1]
theorem zat_app : ∀ {s : List Nat} {x p : Nat}, p ≤ s.length → zat (s ++ [x]) p = if p = s.length then x else zat s p
  | [], x, p, h => by
    have : p = 0 := by simpa using h
    subst this; rfl
  | y :: s, x, 0, h => by rw [if_neg (by simp)]; rfl
  | y :: s, x, p + 1, h => by
    show zat (s ++ [x]) p = _
    rw [zat_app (by simpa using h)]
    by_cases hp : p = s.length
    · rw [if_pos hp, if_pos (by simp [hp])]
    · rw [if_neg hp, if_neg (by simpa using hp)]; rfl
theorem zat_take : ∀ {s : List Nat} {k p : Nat}, p < k → zat (s.take k) p = zat s p
  | [], k, p, _ => by simp
  | x :: s, 0, p, h => by omega
  | x :: s, k + 1, 0, h => rfl
  | x :: s, k + 1, p + 1, h => zat_take (s := s) (k := k) (p := p) (by omega)
theorem take_zat {s : List Nat} {k : Nat} (h : k < s.length) : s.take (k + 1) = s.take k ++ [zat s k] := by
  induction s generalizing k with
  | nil => cases h
  | cons x t ih =>
    cases k with
    | zero => rfl
    | succ k =>
      show x :: t.take (k + 1) = x :: (t.take k ++ [zat t k])
      rw [ih (by simpa using h)]
/-- the order by tickets -/
def zls (n : Nat) (tk : List Nat) : List Nat := tk.foldl (fun s t => zmv (t / 8) (t % 8) s) (zid n)
def zT (n : Nat) (tk : List Nat) : Prop := ∀ t ∈ tk, t / 8 < n ∧ t % 8 < n
theorem zls_app {n t : Nat} {tk : List Nat} : zls n (tk ++ [t]) = zmv (t / 8) (t % 8) (zls n tk) := by unfold zls; rw [List.foldl_append]; rfl
theorem zls_P {n : Nat} : ∀ {tk : List Nat}, zT n tk → zP n (zls n tk) := by
  have h : ∀ (tk s : List Nat), zP n s → zT n tk → zP n (tk.foldl (fun s t => zmv (t / 8) (t % 8) s) s) := by
    intro tk
    induction tk with
    | nil => intro s hs _; exact hs
    | cons t r ih => intro s hs ht; exact ih _ (zmv_P hs (ht t List.mem_cons_self).1) (fun x hx => ht x (List.mem_cons_of_mem _ hx))
  intro tk ht
  exact h tk (zid n) (zid_P n) ht
theorem zT_take {n k : Nat} {tk : List Nat} (h : zT n tk) : zT n (tk.take k) := fun t ht => h t (List.mem_of_mem_take ht)
theorem zT_app {n t : Nat} {tk : List Nat} (h : zT n tk) (h1 : t / 8 < n) (h2 : t % 8 < n) : zT n (tk ++ [t]) := by
  intro x hx
  rcases List.mem_append.mp hx with hx | hx
  · exact h x hx
  · rw [List.mem_singleton.mp hx]; exact ⟨h1, h2⟩
theorem zT_at {n k : Nat} {tk : List Nat} (h : zT n tk) (hk : k < tk.length) : zat tk k / 8 < n ∧ zat tk k % 8 < n := h _ (zat_mem tk k hk)
/-- ticket k is given back: tickets that stay, the order by them, how many fall -/
abbrev ZW : Type := List Nat × List Nat × Nat
def zwk1 (k t x : Nat) (st : ZW) : ZW := if k < t ∧ zat st.2.1 (x % 8) = x / 8 then (st.1, st.2.1, st.2.2 + 1) else if t = k then st else (st.1 ++ [x], zmv (x / 8) (x % 8) st.2.1, st.2.2)
def zwk (k : Nat) : Nat → List Nat → ZW → ZW
  | _, [], st => st
  | t, x :: r, st => zwk k (t + 1) r (zwk1 k t x st)
def zback (n k : Nat) (tk : List Nat) : ZW := zwk k 0 tk ([], zid n, 0)
theorem zwk_drop {k t : Nat} {tk : List Nat} {st : ZW} (h : t < tk.length) : zwk k t (tk.drop t) st = zwk k (t + 1) (tk.drop (t + 1)) (zwk1 k t (zat tk t) st) := by
  rw [zat_drop tk t h]; rfl
theorem zwk_lo {n k : Nat} {tk : List Nat} (hk : k < tk.length) : ∀ t, t ≤ k → zwk k t (tk.drop t) (tk.take t, zls n (tk.take t), 0) = zback n k tk := by
  intro t
  induction t with
  | zero => intro _; rfl
  | succ t ih =>
    intro h
    rw [← ih (by omega), zwk_drop (t := t) (by omega), take_zat (by omega), zls_app]
    congr 1
    unfold zwk1
    rw [if_neg (by omega), if_neg (by omega)]
theorem zwk_k {n k : Nat} {tk : List Nat} (hk : k < tk.length) : zwk k (k + 1) (tk.drop (k + 1)) (tk.take k, zls n (tk.take k), 0) = zback n k tk := by
  rw [← zwk_lo (n := n) hk k (Nat.le_refl k), zwk_drop (t := k) hk]
  congr 1
  unfold zwk1
  rw [if_neg (by omega), if_pos rfl]
/-- what stays valid on the way -/
def zWok (n : Nat) (st : ZW) : Prop := zT n st.1 ∧ st.2.1 = zls n st.1
theorem zwk1_ok {n k t x : Nat} {st : ZW} (h : zWok n st) (h1 : x / 8 < n) (h2 : x % 8 < n) : zWok n (zwk1 k t x st) := by
  unfold zwk1
  split
  · exact h
  · split
    · exact h
    · exact ⟨zT_app h.1 h1 h2, by show zmv _ _ st.2.1 = _; rw [h.2, zls_app]⟩
theorem zwk1_len {k t x : Nat} {st : ZW} (h : st.1.length ≤ t) : (zwk1 k t x st).1.length ≤ t + 1 := by
  unfold zwk1
  split
  · show st.1.length ≤ _; omega
  · split
    · omega
    · show (st.1 ++ [x]).length ≤ _
      rw [List.length_append]
      have : [x].length = 1 := rfl
      omega
theorem zwk_ok {n k : Nat} : ∀ (r : List Nat) (t : Nat) (st : ZW), zWok n st → zT n r → zWok n (zwk k t r st)
  | [], t, st, h, _ => h
  | x :: r, t, st, h, hr => zwk_ok r (t + 1) _ (zwk1_ok h (hr x List.mem_cons_self).1 (hr x List.mem_cons_self).2) (fun y hy => hr y (List.mem_cons_of_mem _ hy))
theorem zwk_len {k : Nat} : ∀ (r : List Nat) (t : Nat) (st : ZW), st.1.length ≤ t → (zwk k t r st).1.length ≤ t + r.length
  | [], t, st, h => h
  | x :: r, t, st, h => by
    have := zwk_len (k := k) r (t + 1) _ (zwk1_len (k := k) (x := x) h)
    rw [List.length_cons]
    show (zwk k (t + 1) r (zwk1 k t x st)).1.length ≤ _
    omega
theorem zback_ok {n k : Nat} {tk : List Nat} (h : zT n tk) : zT n (zback n k tk).1 ∧ (zback n k tk).2.1 = zls n (zback n k tk).1 :=
  zwk_ok tk 0 _ ⟨fun t ht => (by cases ht), rfl⟩ h
theorem zback_len {n k : Nat} {tk : List Nat} : (zback n k tk).1.length ≤ tk.length := by
  have := zwk_len (k := k) tk 0 ([], zid n, 0) (Nat.le_refl 0)
  unfold zback; omega
theorem zwk_fall {k : Nat} : ∀ (r : List Nat) (t : Nat) (st : ZW), (zwk k t r st).2.2 ≤ st.2.2 + r.length
  | [], t, st => Nat.le_refl _
  | x :: r, t, st => by
    have h1 := zwk_fall (k := k) r (t + 1) (zwk1 k t x st)
    have h2 : (zwk1 k t x st).2.2 ≤ st.2.2 + 1 := by
      unfold zwk1
      split
      · exact Nat.le_refl _
      · split
        · omega
        · show st.2.2 ≤ _; omega
    rw [List.length_cons]
    show (zwk k (t + 1) r (zwk1 k t x st)).2.2 ≤ _
    omega
/-- a deed, 64 times what is done, and a number: 0 nothing, 1 a ticket sold, 2 one given back, 3 loaves changed; tickets and loaves -/
abbrev ZR : Type := List Nat × Nat
def zdeed (n : Nat) (st : ZR) (c : Nat) : ZR := if c / 64 = 1 then (st.1 ++ [c % 64], st.2) else if c / 64 = 2 then ((zback n (c % 64) st.1).1, st.2) else if c / 64 = 3 then (st.1, c % 64) else st
def zvd (n : Nat) (st : ZR) (c : Nat) : Prop := c = 0 ∨ (c / 64 = 1 ∧ c % 64 / 8 < n ∧ c % 64 % 8 < n ∧ st.1.length < 12) ∨ (c / 64 = 2 ∧ c % 64 < st.1.length) ∨ (c / 64 = 3 ∧ c % 64 ≤ 20)
def zval (n : Nat) : ZR → List Nat → Prop
  | _, [] => True
  | st, c :: r => zvd n st c ∧ zval n (zdeed n st c) r
def zrun (n L0 : Nat) (ds : List Nat) : ZR := ds.foldl (zdeed n) ([], L0)
def zRok (n : Nat) (st : ZR) : Prop := zT n st.1 ∧ st.1.length ≤ 12 ∧ st.2 ≤ 20
theorem zdeed_ok {n c : Nat} {st : ZR} (h : zRok n st) (hv : zvd n st c) : zRok n (zdeed n st c) := by
  unfold zdeed
  rcases hv with hv | hv | hv | hv
  · subst hv; exact h
  · rw [if_pos hv.1]
    refine ⟨zT_app h.1 hv.2.1 hv.2.2.1, ?_, h.2.2⟩
    show (st.1 ++ [c % 64]).length ≤ 12
    rw [List.length_append]
    have : [c % 64].length = 1 := rfl
    omega
  · rw [if_neg (by omega), if_pos hv.1]
    exact ⟨(zback_ok h.1).1, Nat.le_trans zback_len h.2.1, h.2.2⟩
  · rw [if_neg (by omega), if_neg (by omega), if_pos hv.1]
    exact ⟨h.1, h.2.1, hv.2⟩
theorem zvd_lt {n c : Nat} {st : ZR} (hn : n ≤ 6) (h : zRok n st) (hv : zvd n st c) : c < 256 := by
  have := h.2.1
  rcases hv with hv | hv | hv | hv <;> omega
theorem zrun_app {n L0 c : Nat} {ds : List Nat} : zrun n L0 (ds ++ [c]) = zdeed n (zrun n L0 ds) c := by unfold zrun; rw [List.foldl_append]; rfl
theorem zval_app {n c : Nat} : ∀ {ds : List Nat} {st : ZR}, zval n st (ds ++ [c]) ↔ zval n st ds ∧ zvd n (ds.foldl (zdeed n) st) c
  | [], st => by simp [zval]
  | d :: ds, st => by
    show zvd n st d ∧ zval n (zdeed n st d) (ds ++ [c]) ↔ (zvd n st d ∧ zval n (zdeed n st d) ds) ∧ _
    rw [zval_app, and_assoc]; rfl
theorem zval_take {n k : Nat} : ∀ {ds : List Nat} {st : ZR}, zval n st ds → zval n st (ds.take k) := by
  induction k with
  | zero => intro ds st _; rw [List.take_zero]; trivial
  | succ k ih =>
    intro ds st h
    cases ds with
    | nil => exact h
    | cons d ds => exact ⟨h.1, ih h.2⟩
theorem zval_ok {n : Nat} : ∀ {ds : List Nat} {st : ZR}, zRok n st → zval n st ds → zRok n (ds.foldl (zdeed n) st)
  | [], st, h, _ => h
  | d :: ds, st, h, hv => zval_ok (ds := ds) (st := zdeed n st d) (zdeed_ok h hv.1) hv.2
theorem zval_at {n k : Nat} {ds : List Nat} {st : ZR} (h : zval n st ds) (hk : k < ds.length) : zvd n ((ds.take k).foldl (zdeed n) st) (zat ds k) := by
  have h1 := zval_take (k := k + 1) h
  rw [take_zat hk] at h1
  exact (zval_app.mp h1).2
theorem zR0 {n L0 : Nat} (hL : L0 ≤ 20) : zRok n ([], L0) := ⟨fun t ht => (by cases ht), Nat.zero_le _, hL⟩

/-! WISH: all ways of tickets one by one; a walk that keeps the first way to each order -/
def zqe (s w : List Nat) : List Nat := w.foldl (fun s t => zmv (t / 8) (t % 8) s) s
def zqt (d : Nat) : Nat := 8 * (d / 6) + d % 6
def zqo (n t : Nat) : Bool := decide (t / 8 < n ∧ t % 8 < n)
def zqx (n : Nat) : List Nat := ((List.range 36).map zqt).filter (zqo n)
def zqs (n : Nat) (w : List Nat) : List (List Nat) := (zqx n).map (fun t => w ++ [t])
def zqW (n : Nat) : Nat → List (List Nat)
  | 0 => [[]]
  | k + 1 => (zqW n k).flatMap (zqs n)
/-- an order that some way of A comes to -/
def zqn (s : List Nat) (A : List (List Nat)) (w : List Nat) : Prop := ∃ w', w' ∈ A ∧ zqe s w' = zqe s w
def zqr (s : List Nat) (A : List (List Nat)) (w : List Nat) : List (List Nat) := if A.any (fun w' => decide (zqe s w' = zqe s w)) = true then A else A ++ [w]
def zql (s : List Nat) (A V : List (List Nat)) : List (List Nat) := V.foldl (zqr s) A
theorem zqe_app {s w : List Nat} {t : Nat} : zqe s (w ++ [t]) = zmv (t / 8) (t % 8) (zqe s w) := by unfold zqe; rw [List.foldl_append]; rfl
theorem zqn_any {s w : List Nat} {A : List (List Nat)} : A.any (fun w' => decide (zqe s w' = zqe s w)) = true ↔ zqn s A w := by
  rw [List.any_eq_true]
  unfold zqn
  constructor
  · rintro ⟨x, h1, h2⟩; exact ⟨x, h1, of_decide_eq_true h2⟩
  · rintro ⟨x, h1, h2⟩; exact ⟨x, h1, decide_eq_true h2⟩
theorem zqr_T {s w : List Nat} {A : List (List Nat)} (h : zqn s A w) : zqr s A w = A := by unfold zqr; rw [if_pos (zqn_any.mpr h)]
theorem zqr_F {s w : List Nat} {A : List (List Nat)} (h : ¬ zqn s A w) : zqr s A w = A ++ [w] := by unfold zqr; rw [if_neg (fun q => h (zqn_any.mp q))]
theorem zqn_mono {s w : List Nat} {A B : List (List Nat)} (h : ∀ x, x ∈ A → x ∈ B) (hn : zqn s A w) : zqn s B w := by
  obtain ⟨x, h1, h2⟩ := hn
  exact ⟨x, h x h1, h2⟩
theorem zqr_sub {s w x : List Nat} {A : List (List Nat)} (h : x ∈ A) : x ∈ zqr s A w := by
  unfold zqr
  split
  · exact h
  · exact List.mem_append_left _ h
theorem zqr_in {s w : List Nat} {A : List (List Nat)} : zqn s (zqr s A w) w := by
  by_cases h : zqn s A w
  · rw [zqr_T h]; exact h
  · rw [zqr_F h]; exact ⟨w, List.mem_append_right _ (List.mem_singleton.mpr rfl), rfl⟩
theorem zql_app {s : List Nat} {A U V : List (List Nat)} : zql s A (U ++ V) = zql s (zql s A U) V := by unfold zql; rw [List.foldl_append]
theorem zql_sub {s x : List Nat} : ∀ {V A : List (List Nat)}, x ∈ A → x ∈ zql s A V
  | [], A, h => h
  | w :: V, A, h => zql_sub (V := V) (A := zqr s A w) (zqr_sub h)
theorem zql_in {s x : List Nat} : ∀ {V A : List (List Nat)}, x ∈ V → zqn s (zql s A V) x
  | w :: V, A, h => by
    rcases List.mem_cons.mp h with h | h
    · subst h
      exact zqn_mono (fun y hy => zql_sub (V := V) hy) zqr_in
    · exact zql_in (V := V) (A := zqr s A w) h
theorem zql_mem {s x : List Nat} : ∀ {V A : List (List Nat)}, x ∈ zql s A V → x ∈ A ∨ x ∈ V
  | [], A, h => Or.inl h
  | w :: V, A, h => by
    rcases zql_mem (V := V) (A := zqr s A w) h with h | h
    · unfold zqr at h
      split at h
      · exact Or.inl h
      · rcases List.mem_append.mp h with h | h
        · exact Or.inl h
        · exact Or.inr (by rw [List.mem_singleton.mp h]; exact List.mem_cons_self)
    · exact Or.inr (List.mem_cons_of_mem _ h)
theorem zql_all {s : List Nat} : ∀ {V A : List (List Nat)}, (∀ x, x ∈ V → zqn s A x) → zql s A V = A
  | [], A, _ => rfl
  | w :: V, A, h => by
    show zql s (zqr s A w) V = A
    rw [zqr_T (h w List.mem_cons_self)]
    exact zql_all (fun x hx => h x (List.mem_cons_of_mem _ hx))
theorem zqn_end {s w w' : List Nat} {A : List (List Nat)} (e : zqe s w' = zqe s w) (h : zqn s A w') : zqn s A w := by
  obtain ⟨x, h1, h2⟩ := h
  exact ⟨x, h1, h2.trans e⟩
theorem zqs_mem {n : Nat} {w x : List Nat} : x ∈ zqs n w ↔ ∃ t, t ∈ zqx n ∧ w ++ [t] = x := by unfold zqs; rw [List.mem_map]
theorem zqs_seen {s : List Nat} {n : Nat} {w w' : List Nat} {X : List (List Nat)} (e : zqe s w' = zqe s w) (h : ∀ x, x ∈ zqs n w' → zqn s X x) : ∀ x, x ∈ zqs n w → zqn s X x := by
  intro x hx
  obtain ⟨t, h1, rfl⟩ := zqs_mem.mp hx
  exact zqn_end (by rw [zqe_app, zqe_app, e]) (h (w' ++ [t]) (zqs_mem.mpr ⟨t, h1, rfl⟩))
/-- the walk over the ways from those that were new is the walk over all ways -/
theorem zql_bfs {s : List Nat} {n : Nat} {A : List (List Nat)} : ∀ (V D X : List (List Nat)), (∀ w, w ∈ A ++ D → ∀ x, x ∈ zqs n w → zqn s X x) → ∃ D', zql s (A ++ D) V = A ++ D ++ D' ∧ zql s X (V.flatMap (zqs n)) = zql s X (D'.flatMap (zqs n))
  | [], D, X, _ => ⟨[], by rw [List.append_nil]; rfl, rfl⟩
  | w :: V, D, X, h => by
    rw [List.flatMap_cons, zql_app]
    by_cases hn : zqn s (A ++ D) w
    · obtain ⟨w', h1, h2⟩ := hn
      obtain ⟨D', g1, g2⟩ := zql_bfs V D X h
      refine ⟨D', ?_, ?_⟩
      · show zql s (zqr s (A ++ D) w) V = _
        rw [zqr_T ⟨w', h1, h2⟩]; exact g1
      · rw [zql_all (zqs_seen h2 (h w' h1))]; exact g2
    · obtain ⟨D', g1, g2⟩ := zql_bfs V (D ++ [w]) (zql s X (zqs n w)) (fun y hy x hx => by
        rw [← List.append_assoc] at hy
        rcases List.mem_append.mp hy with hy | hy
        · exact zqn_mono (fun z hz => zql_sub hz) (h y hy x hx)
        · rw [List.mem_singleton.mp hy] at hx
          exact zql_in hx)
      refine ⟨w :: D', ?_, ?_⟩
      · show zql s (zqr s (A ++ D) w) V = _
        rw [zqr_F hn, List.append_assoc, g1]
        simp only [List.append_assoc, List.singleton_append]
      · rw [g2, List.flatMap_cons, zql_app]
/-- the first one that fits is a new one -/
theorem zql_find {s : List Nat} {A : List (List Nat)} {Q : List Nat → Bool} : ∀ (V D : List (List Nat)), (∀ w, w ∈ A ++ D → ¬ Q (zqe s w) = true) → ∃ D', zql s (A ++ D) V = A ++ D ++ D' ∧ D'.find? (fun w => Q (zqe s w)) = V.find? (fun w => Q (zqe s w))
  | [], D, _ => ⟨[], by rw [List.append_nil]; rfl, rfl⟩
  | w :: V, D, h => by
    by_cases hn : zqn s (A ++ D) w
    · obtain ⟨w', h1, h2⟩ := hn
      obtain ⟨D', g1, g2⟩ := zql_find V D h
      refine ⟨D', ?_, ?_⟩
      · show zql s (zqr s (A ++ D) w) V = _
        rw [zqr_T ⟨w', h1, h2⟩]; exact g1
      · rw [g2, List.find?_cons_of_neg (p := fun w => Q (zqe s w)) (a := w) (by rw [← h2]; exact h w' h1)]
    · by_cases hq : Q (zqe s w) = true
      · have key : ∃ D', zql s (A ++ (D ++ [w])) V = A ++ (D ++ [w]) ++ D' := by
          have : ∀ (V B : List (List Nat)), ∃ D', zql s B V = B ++ D' := by
            intro V
            induction V with
            | nil => intro B; exact ⟨[], by rw [List.append_nil]; rfl⟩
            | cons v V ih =>
              intro B
              obtain ⟨D', e⟩ := ih (zqr s B v)
              show ∃ D', zql s (zqr s B v) V = B ++ D'
              by_cases hb : zqn s B v
              · rw [zqr_T hb] at e ⊢; exact ⟨D', e⟩
              · rw [zqr_F hb] at e ⊢; exact ⟨v :: D', by rw [e, List.append_assoc]; rfl⟩
          exact this V _
        obtain ⟨D', g1⟩ := key
        refine ⟨w :: D', ?_, ?_⟩
        · show zql s (zqr s (A ++ D) w) V = _
          rw [zqr_F hn, List.append_assoc, g1]
          simp only [List.append_assoc, List.singleton_append]
        · rw [List.find?_cons_of_pos (p := fun w => Q (zqe s w)) (a := w) hq, List.find?_cons_of_pos (p := fun w => Q (zqe s w)) (a := w) hq]
      · obtain ⟨D', g1, g2⟩ := zql_find V (D ++ [w]) (fun y hy => by
          rw [← List.append_assoc] at hy
          rcases List.mem_append.mp hy with hy | hy
          · exact h y hy
          · rw [List.mem_singleton.mp hy]; exact hq)
        refine ⟨w :: D', ?_, ?_⟩
        · show zql s (zqr s (A ++ D) w) V = _
          rw [zqr_F hn, List.append_assoc, g1]
          simp only [List.append_assoc, List.singleton_append]
        · rw [List.find?_cons_of_neg (p := fun w => Q (zqe s w)) (a := w) hq, List.find?_cons_of_neg (p := fun w => Q (zqe s w)) (a := w) hq]; exact g2
/-- what is kept behind k tickets; behind k - 1 -/
def zqA (n : Nat) (s : List Nat) : Nat → List (List Nat)
  | 0 => [[]]
  | k + 1 => zql s (zqA n s k) (zqW n (k + 1))
def zqB (n : Nat) (s : List Nat) : Nat → List (List Nat)
  | 0 => []
  | k + 1 => zqA n s k
theorem zqA_B {n : Nat} {s : List Nat} : ∀ k, zqA n s k = zql s (zqB n s k) (zqW n k)
  | 0 => by
    show [[]] = zqr s [] []
    rw [zqr_F (fun ⟨x, hx, _⟩ => by cases hx)]; rfl
  | k + 1 => rfl
theorem zqA_mem {n : Nat} {s x : List Nat} : ∀ k, x ∈ zqA n s k → ∃ j, j ≤ k ∧ x ∈ zqW n j
  | 0, h => ⟨0, Nat.le_refl 0, h⟩
  | k + 1, h => by
    rcases zql_mem h with h | h
    · obtain ⟨j, h1, h2⟩ := zqA_mem k h
      exact ⟨j, by omega, h2⟩
    · exact ⟨k + 1, Nat.le_refl _, h⟩
theorem zqA_nb {n : Nat} {s : List Nat} : ∀ k, ∀ w, w ∈ zqB n s k → ∀ x, x ∈ zqs n w → zqn s (zqA n s k) x
  | 0, w, h, _, _ => by cases h
  | k + 1, w, h, x, hx => by
    obtain ⟨j, hj, hw⟩ := zqA_mem k h
    by_cases hjk : j = k
    · subst hjk
      exact zql_in (List.mem_flatMap.mpr ⟨w, hw, hx⟩)
    · have hxj : x ∈ zqW n (j + 1) := List.mem_flatMap.mpr ⟨w, hw, hx⟩
      have up : ∀ m, j + 1 ≤ m → zqn s (zqA n s m) x := by
        intro m
        induction m with
        | zero => intro h; omega
        | succ m ih =>
          intro hm
          by_cases h2 : j = m
          · subst h2; exact zql_in hxj
          · exact zqn_mono (fun y hy => zql_sub hy) (ih (by omega))
      exact up (k + 1) (by omega)
theorem zqA_step {n : Nat} {s : List Nat} (k : Nat) : ∃ D, zqA n s k = zqB n s k ++ D ∧ zql s (zqA n s k) (D.flatMap (zqs n)) = zqA n s (k + 1) := by
  obtain ⟨D, h1, h2⟩ := zql_bfs (s := s) (n := n) (A := zqB n s k) (zqW n k) [] (zqA n s k) (fun w hw x hx => by rw [List.append_nil] at hw; exact zqA_nb k w hw x hx)
  rw [List.append_nil, ← zqA_B] at h1
  exact ⟨D, h1, by rw [← h2]; rfl⟩
theorem zqA_find {n : Nat} {s : List Nat} {Q : List Nat → Bool} (k : Nat) (h : ∀ w, w ∈ zqB n s k → ¬ Q (zqe s w) = true) : ∃ D, zqA n s k = zqB n s k ++ D ∧ D.find? (fun w => Q (zqe s w)) = (zqW n k).find? (fun w => Q (zqe s w)) := by
  obtain ⟨D, h1, h2⟩ := zql_find (s := s) (A := zqB n s k) (Q := Q) (zqW n k) [] (fun w hw => by rw [List.append_nil] at hw; exact h w hw)
  rw [List.append_nil, ← zqA_B] at h1
  exact ⟨D, h1, h2⟩
/-- both at once -/
theorem zqA_both {n : Nat} {s : List Nat} {Q : List Nat → Bool} (k : Nat) (h : ∀ w, w ∈ zqB n s k → ¬ Q (zqe s w) = true) : ∃ D, zqA n s k = zqB n s k ++ D ∧ zql s (zqA n s k) (D.flatMap (zqs n)) = zqA n s (k + 1) ∧ D.find? (fun w => Q (zqe s w)) = (zqW n k).find? (fun w => Q (zqe s w)) := by
  obtain ⟨D, h1, h2⟩ := zqA_step (n := n) (s := s) k
  obtain ⟨D', h3, h4⟩ := zqA_find (n := n) (s := s) (Q := Q) k h
  have e : D = D' := List.append_cancel_left (h1.symm.trans h3)
  subst e
  exact ⟨D, h1, h2, h4⟩
theorem zqB_no {n : Nat} {s : List Nat} {Q : List Nat → Bool} {k : Nat} (h : ∀ j, j < k → (zqW n j).find? (fun w => Q (zqe s w)) = none) : ∀ w, w ∈ zqB n s k → ¬ Q (zqe s w) = true := by
  intro w hw
  cases k with
  | zero => cases hw
  | succ k =>
    obtain ⟨j, hj, hwj⟩ := zqA_mem k hw
    exact List.find?_eq_none.mp (h j (by omega)) w hwj
/-! the same by numbers -/
def zqd : Nat → Nat → List Nat
  | 0, _ => []
  | k + 1, c => zqd k (c / 36) ++ [zqt (c % 36)]
def zqM (k : Nat) : List (List Nat) := (List.range (36 ^ k)).map (zqd k)
theorem zqM_s (k : Nat) : zqM (k + 1) = (zqM k).flatMap (fun w => (List.range 36).map (fun d => w ++ [zqt d])) := by
  have h : ∀ m, (List.range (m * 36)).map (zqd (k + 1)) = ((List.range m).map (zqd k)).flatMap (fun w => (List.range 36).map (fun d => w ++ [zqt d])) := by
    intro m
    induction m with
    | zero => rw [Nat.zero_mul]; rfl
    | succ m ih =>
      rw [Nat.succ_mul, List.range_add, List.map_append, ih, List.range_succ (n := m), List.map_append, List.flatMap_append, List.map_map]
      congr 1
      rw [List.map_singleton, List.flatMap_singleton]
      refine List.map_congr_left (fun d hd => ?_)
      have hd' := List.mem_range.mp hd
      show zqd k ((m * 36 + d) / 36) ++ [zqt ((m * 36 + d) % 36)] = zqd k m ++ [zqt d]
      rw [show (m * 36 + d) / 36 = m by omega, show (m * 36 + d) % 36 = d by omega]
  show (List.range (36 ^ (k + 1))).map _ = _
  rw [Nat.pow_succ]
  exact h (36 ^ k)
theorem zq_ff {α : Type} {p q : α → Bool} {f g : α → List α} (h : ∀ x, p x = true → (f x).filter q = g x) (h0 : ∀ x, ¬ p x = true → (f x).filter q = []) : ∀ l : List α, (l.flatMap f).filter q = (l.filter p).flatMap g
  | [] => rfl
  | x :: l => by
    rw [List.flatMap_cons, List.filter_append, zq_ff h h0 l]
    by_cases hp : p x = true
    · rw [List.filter_cons_of_pos hp, List.flatMap_cons, h x hp]
    · rw [List.filter_cons_of_neg hp, h0 x hp, List.nil_append]
theorem zqW_M {n : Nat} : ∀ k, zqW n k = (zqM k).filter (fun w => w.all (zqo n))
  | 0 => rfl
  | k + 1 => by
    rw [zqM_s, zq_ff (p := fun w => w.all (zqo n)) (g := zqs n) (fun w hw => ?_) (fun w hw => ?_), ← zqW_M k]
    · rfl
    · unfold zqs zqx
      rw [List.filter_map, List.filter_map, List.map_map]
      congr 1
      refine List.filter_congr (fun d _ => ?_)
      show (w ++ [zqt d]).all (zqo n) = zqo n (zqt d)
      rw [List.all_append, hw, Bool.true_and, List.all_cons, List.all_nil, Bool.and_true]
    · rw [List.filter_eq_nil_iff]
      intro x hx
      obtain ⟨d, -, rfl⟩ := List.mem_map.mp hx
      rw [List.all_append]
      intro q
      rw [Bool.and_eq_true] at q
      exact hw q.1
theorem zqW_in {n : Nat} : ∀ (k : Nat) (w : List Nat), w.length = k → (∀ t, t ∈ w → t ∈ zqx n) → w ∈ zqW n k
  | 0, w, h, _ => by
    rw [List.length_eq_zero_iff.mp h]; exact List.mem_singleton.mpr rfl
  | k + 1, w, h, ht => by
    rcases List.eq_nil_or_concat w with e | ⟨w', t, e⟩
    · rw [e] at h; cases h
    · rw [List.concat_eq_append] at e
      subst e
      rw [List.length_append] at h
      have hl : w'.length = k := by
        have : [t].length = 1 := rfl
        omega
      exact List.mem_flatMap.mpr ⟨w', zqW_in k w' hl (fun x hx => ht x (List.mem_append_left _ hx)), zqs_mem.mpr ⟨t, ht t (List.mem_append_right _ (List.mem_singleton.mpr rfl)), rfl⟩⟩
theorem zqx_m : ∀ n, n < 7 → ∀ t, t < 64 → (t / 8 < n ∧ t % 8 < n) → t ∈ zqx n := by decide +kernel
theorem zqx_o {n t : Nat} (h : t ∈ zqx n) : t / 8 < n ∧ t % 8 < n := of_decide_eq_true (List.mem_filter.mp h).2
theorem zqW_ok {n : Nat} : ∀ (k : Nat) (w : List Nat), w ∈ zqW n k → w.length = k ∧ ∀ t, t ∈ w → t ∈ zqx n
  | 0, w, h => by
    rw [List.mem_singleton.mp h]
    exact ⟨rfl, fun t ht => by cases ht⟩
  | k + 1, w, h => by
    obtain ⟨w', h1, h2⟩ := List.mem_flatMap.mp h
    obtain ⟨t, h3, rfl⟩ := zqs_mem.mp h2
    obtain ⟨g1, g2⟩ := zqW_ok k w' h1
    refine ⟨by rw [List.length_append, g1]; rfl, fun x hx => ?_⟩
    rcases List.mem_append.mp hx with hx | hx
    · exact g2 x hx
    · rw [List.mem_singleton.mp hx]; exact h3
/-- a way with no ticket that changes nothing -/
def zqv (n : Nat) : List Nat → List Nat → Bool
  | _, [] => true
  | s, t :: w => decide (t / 8 < n ∧ t % 8 < n ∧ ¬ zat s (t % 8) = t / 8) && zqv n (zmv (t / 8) (t % 8) s) w
theorem zqv_ok {n : Nat} : ∀ (w s : List Nat), zqv n s w = true → w.all (zqo n) = true
  | [], s, _ => rfl
  | t :: w, s, h => by
    have h' : (decide (t / 8 < n ∧ t % 8 < n ∧ ¬ zat s (t % 8) = t / 8) && zqv n (zmv (t / 8) (t % 8) s) w) = true := h
    rw [Bool.and_eq_true, decide_eq_true_iff] at h'
    rw [List.all_cons, zqv_ok w _ h'.2, Bool.and_true]
    exact decide_eq_true ⟨h'.1.1, h'.1.2.1⟩
theorem zqv_F {n : Nat} : ∀ (w s : List Nat), zP n s → (∀ t, t ∈ w → t ∈ zqx n) → ¬ zqv n s w = true → ∃ w', w'.length + 1 = w.length ∧ (∀ t, t ∈ w' → t ∈ zqx n) ∧ zqe s w' = zqe s w
  | [], s, _, _, h => absurd rfl h
  | t :: w, s, hP, ht, h => by
    have ho := zqx_o (ht t List.mem_cons_self)
    by_cases hz : zat s (t % 8) = t / 8
    · refine ⟨w, rfl, fun x hx => ht x (List.mem_cons_of_mem _ hx), ?_⟩
      show zqe s w = zqe (zmv (t / 8) (t % 8) s) w
      rw [zmv_same hP ho.2 hz]
    · have h2 : ¬ zqv n (zmv (t / 8) (t % 8) s) w = true := fun q => h (by
        show (decide (t / 8 < n ∧ t % 8 < n ∧ ¬ zat s (t % 8) = t / 8) && zqv n (zmv (t / 8) (t % 8) s) w) = true
        rw [q, decide_eq_true ⟨ho.1, ho.2, hz⟩]; rfl)
      obtain ⟨w', g1, g2, g3⟩ := zqv_F w _ (zmv_P hP ho.1) (fun x hx => ht x (List.mem_cons_of_mem _ hx)) h2
      refine ⟨t :: w', by rw [List.length_cons, List.length_cons, g1], fun x hx => ?_, g3⟩
      rcases List.mem_cons.mp hx with hx | hx
      · rw [hx]; exact ht t List.mem_cons_self
      · exact g2 x hx
theorem zq_fc {α : Type} {p q : α → Bool} : ∀ {l : List α}, (∀ x, x ∈ l → p x = q x) → l.find? p = l.find? q
  | [], _ => rfl
  | x :: l, h => by
    have h1 := h x List.mem_cons_self
    have h2 := zq_fc (l := l) (fun y hy => h y (List.mem_cons_of_mem _ hy))
    by_cases hp : p x = true
    · rw [List.find?_cons_of_pos hp, List.find?_cons_of_pos (by rw [← h1]; exact hp)]
    · rw [List.find?_cons_of_neg hp, List.find?_cons_of_neg (by rw [← h1]; exact hp), h2]
theorem zq_ff2 {α : Type} {p q : α → Bool} : ∀ {l : List α}, (l.filter p).find? q = l.find? (fun x => p x && q x)
  | [] => rfl
  | x :: l => by
    by_cases hp : p x = true
    · rw [List.filter_cons_of_pos hp]
      by_cases hq : q x = true
      · rw [List.find?_cons_of_pos hq, List.find?_cons_of_pos (by rw [hp, hq]; rfl)]
      · rw [List.find?_cons_of_neg hq, List.find?_cons_of_neg (by rw [hp, Bool.true_and]; exact hq), zq_ff2]
    · rw [List.filter_cons_of_neg hp, List.find?_cons_of_neg (by rw [Bool.and_eq_true]; exact fun h => hp h.1), zq_ff2]
/-- by numbers the first way that fits is the same -/
theorem zqM_find {n : Nat} {s : List Nat} {Q : List Nat → Bool} {k : Nat} (hP : zP n s) (h : ∀ j, j < k → (zqW n j).find? (fun w => Q (zqe s w)) = none) : (zqM k).find? (fun w => zqv n s w && Q (zqe s w)) = (zqW n k).find? (fun w => Q (zqe s w)) := by
  rw [zqW_M, zq_ff2]
  refine zq_fc (fun w hw => ?_)
  by_cases ho : w.all (zqo n) = true
  · rw [ho, Bool.true_and]
    by_cases hv : zqv n s w = true
    · rw [hv, Bool.true_and]
    · have hW : w ∈ zqW n k := by rw [zqW_M]; exact List.mem_filter.mpr ⟨hw, ho⟩
      obtain ⟨g1, g2⟩ := zqW_ok k w hW
      obtain ⟨w', f1, f2, f3⟩ := zqv_F w s hP g2 hv
      have hno := List.find?_eq_none.mp (h (k - 1) (by omega)) w' (zqW_in (k - 1) w' (by omega) f2)
      rw [f3] at hno
      cases hv2 : zqv n s w with
      | true => exact absurd hv2 hv
      | false =>
        cases hq : Q (zqe s w) with
        | true => exact absurd hq hno
        | false => rfl
  · cases ho2 : w.all (zqo n) with
    | true => exact absurd ho2 ho
    | false =>
      cases hv : zqv n s w with
      | true => exact absurd (zqv_ok w s hv) ho
      | false => rfl

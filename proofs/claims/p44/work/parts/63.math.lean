/-! NUMBERS AND LISTS that the law's checks rest on -/
/-! every order is among all -/
theorem zext_all {n : Nat} {o : List Nat} (hP : zP n o) : ∀ (d : Nat) (s t : List Nat), o = s ++ t → t.length = d → o ∈ zext n d s
  | 0, s, t, h, hl => by
    have : t = [] := List.eq_nil_of_length_eq_zero hl
    subst this
    rw [List.append_nil] at h
    rw [h]; exact List.mem_singleton.mpr rfl
  | d + 1, s, [], h, hl => by cases hl
  | d + 1, s, a :: t, h, hl => by
    have ha : a < n := (hP.2.2 a).1 (by rw [h]; exact List.mem_append_right _ List.mem_cons_self)
    have hs : ¬ a ∈ s := by
      have hnd := hP.1
      rw [h] at hnd
      have := (List.nodup_append.mp hnd).2.2
      exact fun q => this a q a List.mem_cons_self rfl
    refine zexa_in hs ?_ n ha
    exact zext_all hP d (s ++ [a]) t (by rw [h, List.append_assoc]; rfl) (by simpa using hl)
theorem zall_all {n : Nat} {o : List Nat} (hP : zP n o) : o ∈ zall n := zext_all hP n [] o rfl hP.2.1
/-! tickets given back -/
theorem zwk_cnt {k : Nat} : ∀ (r : List Nat) (t : Nat) (st : ZW), k < t → (zwk k t r st).1.length + (zwk k t r st).2.2 = st.1.length + st.2.2 + r.length
  | [], t, st, _ => rfl
  | x :: r, t, st, h => by
    show (zwk k (t + 1) r (zwk1 k t x st)).1.length + (zwk k (t + 1) r (zwk1 k t x st)).2.2 = _
    rw [zwk_cnt r (t + 1) _ (by omega), List.length_cons]
    unfold zwk1
    by_cases h1 : k < t ∧ zat st.2.1 (x % 8) = x / 8
    · rw [if_pos h1]; show st.1.length + (st.2.2 + 1) + r.length = _; omega
    · rw [if_neg h1, if_neg (by omega)]
      show (st.1 ++ [x]).length + st.2.2 + r.length = _
      rw [List.length_append]
      show st.1.length + 1 + st.2.2 + r.length = _
      omega
theorem zback_cnt {n k : Nat} {tk : List Nat} (hk : k < tk.length) : (zback n k tk).1.length + (zback n k tk).2.2 + 1 = tk.length := by
  rw [← zwk_k hk, zwk_cnt _ _ _ (by omega), List.length_drop]
  show (tk.take k).length + 0 + (tk.length - (k + 1)) + 1 = _
  rw [List.length_take]; omega
theorem zback_fall {n k : Nat} {tk : List Nat} (hk : k < tk.length) : (zback n k tk).2.2 + 1 + k ≤ tk.length := by
  have h := zwk_fall (k := k) (tk.drop (k + 1)) (k + 1) (tk.take k, zls n (tk.take k), 0)
  rw [zwk_k hk, List.length_drop] at h
  show (zback n k tk).2.2 + 1 + k ≤ tk.length
  have h' : (zback n k tk).2.2 ≤ 0 + (tk.length - (k + 1)) := h
  omega
/-! the best place -/
theorem zbp_spec (g : Nat → Nat) : ∀ k, (zbp g k).1 ≤ k ∧ (zbp g k).2 = g (zbp g k).1 ∧ (∀ p, p ≤ k → g p ≤ (zbp g k).2) ∧ ∀ p, p < (zbp g k).1 → g p < (zbp g k).2
  | 0 => ⟨Nat.le_refl 0, rfl, fun p hp => by rw [show p = 0 by omega]; exact Nat.le_refl _, fun p hp => absurd hp (Nat.not_lt_zero p)⟩
  | k + 1 => by
    obtain ⟨h1, h2, h3, h4⟩ := zbp_spec g k
    unfold zbp
    by_cases h : g (k + 1) ≤ (zbp g k).2
    · rw [if_pos h]
      exact ⟨by omega, h2, fun p hp => by
        rcases (show p ≤ k ∨ p = k + 1 by omega) with q | q
        · exact h3 p q
        · rw [q]; exact h, h4⟩
    · rw [if_neg h]
      have h' : (zbp g k).2 < g (k + 1) := Nat.not_le.mp h
      exact ⟨Nat.le_refl _, rfl, fun p hp => by
        show g p ≤ g (k + 1)
        rcases (show p ≤ k ∨ p = k + 1 by omega) with q | q
        · have := h3 p q; omega
        · rw [q]; exact Nat.le_refl _, fun p hp => by
        show g p < g (k + 1)
        have hp' : p < k + 1 := hp
        have := h3 p (by omega); omega⟩
/-! who can stand where -/
theorem zg2_fold (p j : Nat) : ∀ (F : List (List Nat)) (a : Nat), (F.foldl (fun a o => a ||| 2 ^ zat o p) a).testBit j = (a.testBit j || F.any (fun o => decide (zat o p = j)))
  | [], a => by simp
  | o :: F, a => by
    rw [List.foldl_cons, zg2_fold p j F, Nat.testBit_or, Nat.testBit_two_pow, List.any_cons, Bool.or_assoc]
theorem zg2_bit {F : List (List Nat)} {o : List Nat} {p : Nat} (h : o ∈ F) : (zg2 F p).testBit (zat o p) = true := by
  unfold zg2
  rw [zg2_fold]
  simp only [Bool.or_eq_true, List.any_eq_true, decide_eq_true_eq]
  exact Or.inr ⟨o, h, rfl⟩
theorem zg2_lt {F : List (List Nat)} {n p : Nat} (h : ∀ o ∈ F, zat o p < n) : zg2 F p < 2 ^ n := by
  refine Nat.lt_pow_two_of_testBit _ (fun j hj => ?_)
  unfold zg2
  rw [zg2_fold, Nat.zero_testBit, Bool.false_or, List.any_eq_false]
  intro o ho q
  have := h o ho
  have := of_decide_eq_true q
  omega
theorem zmx_ge {f : Nat → Nat} : ∀ (k j : Nat), j < k → f j ≤ zmx f k
  | 0, j, h => absurd h (Nat.not_lt_zero j)
  | k + 1, j, h => by
    unfold zmx
    rcases (show j < k ∨ j = k by omega) with q | q
    · have := zmx_ge (f := f) k j q
      split <;> omega
    · subst q
      split <;> omega
theorem zg3_pos {K P : Nat → Nat} {L : Nat} {F : List (List Nat)} {o : List Nat} (h : o ∈ F) (i : Nat) : 1 ≤ zmx (zg3 K P L F i) 4 := by
  have h1 : 1 ≤ zg3 K P L F i (zG K P o L i) := by
    unfold zg3
    have : o ∈ F.filter (fun o' => decide (zG K P o' L i = zG K P o L i)) := List.mem_filter.mpr ⟨h, decide_eq_true rfl⟩
    exact List.length_pos_of_mem this
  have h3 := zG_3 (K := K) (P := P) (s := o) (L := L) (i := i)
  exact Nat.le_trans h1 (zmx_ge 4 _ (by omega))
/-! sums -/
theorem zsm_add {f g : Nat → Nat} : ∀ n, zsm (fun i => f i + g i) n = zsm f n + zsm g n
  | 0 => rfl
  | n + 1 => by
    show zsm (fun i => f i + g i) n + (f n + g n) = zsm f n + f n + (zsm g n + g n)
    rw [zsm_add n]; omega
theorem zsm_one {m : Nat} : ∀ n, m < n → zsm (fun v => if m = v then 1 else 0) n = 1
  | 0, h => absurd h (Nat.not_lt_zero m)
  | n + 1, h => by
    show zsm (fun v => if m = v then 1 else 0) n + (if m = n then 1 else 0) = 1
    rcases (show m < n ∨ m = n by omega) with q | q
    · rw [zsm_one n q, if_neg (by omega)]
    · subst q
      rw [if_pos rfl]
      have : ∀ k, k ≤ m → zsm (fun v => if m = v then 1 else 0) k = 0 := by
        intro k
        induction k with
        | zero => intro _; rfl
        | succ k ih =>
          intro hk
          show zsm (fun v => if m = v then 1 else 0) k + (if m = k then 1 else 0) = 0
          rw [ih (by omega), if_neg (by omega)]
      rw [this m (Nat.le_refl _)]
theorem zsm_cnt {f : Nat → Nat} {M : Nat} (hf : ∀ j, f j < M) : ∀ N, zsm (fun v => zcnt (fun j => decide (f j = v)) N) M = N
  | 0 => by
    have : ∀ k, zsm (fun v => zcnt (fun j => decide (f j = v)) 0) k = 0 := by
      intro k
      induction k with
      | zero => rfl
      | succ k ih => show zsm _ k + 0 = 0; rw [ih]
    exact this M
  | N + 1 => by
    have h : (fun v => zcnt (fun j => decide (f j = v)) (N + 1)) = fun v => zcnt (fun j => decide (f j = v)) N + (if f N = v then 1 else 0) := by
      funext v
      by_cases q : f N = v
      · rw [zcnt_T (decide_eq_true q), if_pos q]
      · rw [zcnt_F (decide_eq_false q), if_neg q]; rfl
    rw [h, zsm_add, zsm_cnt hf N, zsm_one M (hf N)]
/-! sets: the first of a kind, what is in each, what in none -/
theorem zfs_0 {c : Nat → Bool} : ∀ N, zcnt c N = 0 → zfs c N = -qn 9
  | 0, _ => rfl
  | N + 1, h => by
    cases hc : c N with
    | true => rw [zcnt_T hc] at h; omega
    | false => rw [zcnt_F hc] at h; rw [zfs_F hc]; exact zfs_0 N h
theorem zfs_1 {c : Nat → Bool} : ∀ N, ¬ zcnt c N = 0 → ∃ j, j < N ∧ c j = true ∧ zfs c N = qn j
  | 0, h => absurd rfl h
  | N + 1, h => by
    by_cases h0 : zcnt c N = 0
    · cases hc : c N with
      | true => exact ⟨N, by omega, hc, zfs_T hc h0⟩
      | false => rw [zcnt_F hc] at h; exact absurd h0 h
    · obtain ⟨j, h1, h2, h3⟩ := zfs_1 N h0
      exact ⟨j, by omega, h2, by rw [zfs_N h0]; exact h3⟩
theorem zie_in {c : Nat → Bool} {a j b : Nat} (hc : c j = true) : ∀ N, j < N → (zie c a N).testBit b = true → j.testBit b = true
  | 0, h, _ => absurd h (Nat.not_lt_zero j)
  | N + 1, h, hb => by
    by_cases hN : c N = true
    · rw [zie_T hN, Nat.testBit_and, Bool.and_eq_true] at hb
      rcases (show j < N ∨ j = N by omega) with q | q
      · exact zie_in hc N q hb.1
      · rw [q]; exact hb.2
    · rw [zie_F (Bool.eq_false_iff.mpr hN)] at hb
      rcases (show j < N ∨ j = N by omega) with q | q
      · exact zie_in hc N q hb
      · rw [q] at hc; exact absurd hc hN
theorem zie_le {c : Nat → Bool} {a : Nat} : ∀ N, zie c a N ≤ a
  | 0 => Nat.le_refl _
  | N + 1 => by
    cases hN : c N with
    | true => rw [zie_T hN]; exact Nat.le_trans Nat.and_le_left (zie_le N)
    | false => rw [zie_F hN]; exact zie_le N
theorem zis_in {c : Nat → Bool} {j b : Nat} (hc : c j = true) (hb : j.testBit b = true) : ∀ N, j < N → (zis c N).testBit b = true
  | 0, h => absurd h (Nat.not_lt_zero j)
  | N + 1, h => by
    rcases (show j < N ∨ j = N by omega) with q | q
    · have := zis_in hc hb N q
      cases hN : c N with
      | true => rw [zis_T hN, Nat.testBit_or, this]; rfl
      | false => rw [zis_F hN]; exact this
    · subst q
      rw [zis_T hc, Nat.testBit_or, hb, Bool.or_true]
theorem zis_lt {c : Nat → Bool} {n : Nat} : ∀ N, N ≤ 2 ^ n → zis c N < 2 ^ n
  | 0, _ => Nat.pow_pos (by decide)
  | N + 1, h => by
    cases hN : c N with
    | true => rw [zis_T hN]; exact Nat.or_lt_two_pow (zis_lt N (by omega)) (by omega)
    | false => rw [zis_F hN]; exact zis_lt N (by omega)
/-- what those of a set want together, one after the other -/
theorem zws_line {n : Nat} {K : Nat → Nat} {s : List Nat} {set : Nat} (hP : zP n s) : zsl (zws K s set) s = zsm (zws K s set) n := zsl_sm n s hP.1 hP.2.2
theorem zsl_take {f : Nat → Nat} {s : List Nat} {k : Nat} (h : k < s.length) : zsl f (s.take (k + 1)) = zsl f (s.take k) + f (zat s k) := by
  rw [take_zat h, zsl_app]
theorem zwn_at {n p : Nat} {K : Nat → Nat} {s : List Nat} (hP : zP n s) (hp : p < n) : zwn K s (zat s p) = zwant (K (zat s p)) (decide (p = n - 1)) := by
  unfold zwn
  rw [zP_ixat hP hp, hP.2.1]
  congr 1
  by_cases h : p = n - 1
  · rw [decide_eq_true h, decide_eq_true (by omega)]
  · rw [decide_eq_false h, decide_eq_false (by omega)]
/-! bits of all -/
theorem zall_bits {n a : Nat} (h : ∀ b, a.testBit b = decide (b < n)) : a = 2 ^ n - 1 := Nat.eq_of_testBit_eq (fun b => by rw [h b, Nat.testBit_two_pow_sub_one])
/-- one after the other, bits of a row of numbers -/
def xbt (f : Nat → Nat) : Nat → Nat
  | 0 => 0
  | p + 1 => xbt f p ||| 2 ^ f p
theorem xbt_bit (f : Nat → Nat) (b : Nat) : ∀ N, (xbt f N).testBit b = true ↔ ∃ p, p < N ∧ f p = b
  | 0 => by
    show (0 : Nat).testBit b = true ↔ _
    rw [Nat.zero_testBit]
    exact ⟨fun h => (by cases h), fun ⟨p, hp, _⟩ => absurd hp (Nat.not_lt_zero p)⟩
  | N + 1 => by
    show (xbt f N ||| 2 ^ f N).testBit b = true ↔ _
    rw [Nat.testBit_or, Bool.or_eq_true, xbt_bit f b N, Nat.testBit_two_pow, decide_eq_true_iff]
    constructor
    · rintro (⟨p, h1, h2⟩ | h)
      · exact ⟨p, by omega, h2⟩
      · exact ⟨N, by omega, h⟩
    · rintro ⟨p, h1, h2⟩
      rcases (show p < N ∨ p = N by omega) with q | q
      · exact Or.inl ⟨p, q, h2⟩
      · subst q; exact Or.inr h2
theorem xbt_all {n : Nat} {f : Nat → Nat} (h : ∀ b, (∃ p, p < n ∧ f p = b) ↔ b < n) : xbt f n = 2 ^ n - 1 := zall_bits (fun b => by
  have := (xbt_bit f b n).trans (h b)
  by_cases q : b < n
  · rw [decide_eq_true q]; exact this.mpr q
  · rw [decide_eq_false q]; exact Bool.eq_false_iff.mpr (fun z => q (this.mp z)))
theorem xbt_lt {f : Nat → Nat} {m : Nat} (h : ∀ p, f p < m) : ∀ N, xbt f N < 2 ^ m
  | 0 => Nat.pow_pos (by decide)
  | N + 1 => Nat.or_lt_two_pow (xbt_lt h N) (Nat.pow_lt_pow_right (by decide) (h N))
theorem xused {n : Nat} {s : List Nat} (hP : zP n s) : xbt (fun p => zat s p) n = 2 ^ n - 1 := xbt_all (fun b => ⟨fun ⟨p, h1, h2⟩ => by rw [← h2]; exact zP_at hP h1, fun h => ⟨zix b s, zP_ix hP h, zP_atix hP h⟩⟩)
theorem zord_P {n : Nat} {K : Nat → Nat} {s : List Nat} (hP : zP n s) : zP n (zord K s) := ⟨zord_nd hP.1, by rw [zord_len]; exact hP.2.1, fun i => by rw [zord_mem]; exact hP.2.2 i⟩
theorem xserved {n : Nat} {K : Nat → Nat} {s : List Nat} (hP : zP n s) : xbt (fun p => zB K s (zat s p)) n = 2 ^ n - 1 := xbt_all (fun b => by
  have hO := zord_P (K := K) hP
  constructor
  · rintro ⟨p, h1, h2⟩
    rw [← h2]
    exact zP_ix hO (zP_at hP h1)
  · intro h
    refine ⟨zix (zat (zord K s) b) s, zP_ix hP (zP_at hO h), ?_⟩
    show zB K s (zat s (zix (zat (zord K s) b) s)) = b
    rw [zP_atix hP (zP_at hO h)]
    exact zP_ixat hO h)
/-- who stands next to one -/
theorem xmet {n p : Nat} {s : List Nat} (hP : zP n s) (hp : p < n) : zmask (zapart s (zat s p)) n = (if 0 < p then 2 ^ zat s (p - 1) else 0) ||| (if p + 1 < n then 2 ^ zat s (p + 1) else 0) := by
  refine (zmask_eq (fun b => ?_)).symm
  have bit2 : ∀ (c : Prop) [Decidable c] (x : Nat), ((if c then 2 ^ x else 0) : Nat).testBit b = (decide c && decide (x = b)) := by
    intro c _ x
    by_cases hc : c
    · rw [if_pos hc, decide_eq_true hc, Nat.testBit_two_pow]; rfl
    · rw [if_neg hc, decide_eq_false hc, Nat.zero_testBit]; rfl
  rw [Nat.testBit_or, bit2, bit2]
  unfold zapart
  rw [zP_ixat hP hp]
  by_cases hb : b < n
  · rw [decide_eq_true hb, Bool.true_and]
    have hx := zP_ix hP hb
    have e1 : (0 < p ∧ zat s (p - 1) = b) ↔ p = zix b s + 1 := by
      constructor
      · rintro ⟨h1, h2⟩
        have := (zP_iff hP hb (show p - 1 < n by omega)).2 h2
        omega
      · intro h
        exact ⟨by omega, (zP_iff hP hb (by omega)).1 (by omega)⟩
    have e2 : (p + 1 < n ∧ zat s (p + 1) = b) ↔ zix b s = p + 1 := by
      constructor
      · rintro ⟨h1, h2⟩
        exact (zP_iff hP hb h1).2 h2
      · intro h
        exact ⟨by omega, (zP_iff hP hb (by omega)).1 h⟩
    rw [Bool.eq_iff_iff]
    simp only [Bool.or_eq_true, Bool.and_eq_true, decide_eq_true_eq]
    rw [e1, e2]
  · rw [decide_eq_false hb, Bool.false_and]
    rw [Bool.eq_false_iff]
    intro q
    simp only [Bool.or_eq_true, Bool.and_eq_true, decide_eq_true_eq] at q
    rcases q with ⟨h1, h2⟩ | ⟨h1, h2⟩
    · have := zP_at hP (show p - 1 < n by omega); omega
    · have := zP_at hP h1; omega
/-! shares -/
/-- how many of the first n are in a set -/
def xpc : Nat → Nat → Nat
  | 0, _ => 0
  | n + 1, set => xpc n set + (if set / 2 ^ n % 2 = 1 then 1 else 0)
theorem xpc_le : ∀ n set, xpc n set ≤ n
  | 0, _ => Nat.le_refl _
  | n + 1, set => by
    show xpc n set + _ ≤ n + 1
    have := xpc_le n set
    split <;> omega
theorem xpc_hi {n : Nat} : ∀ m set, m ≤ n → xpc m (2 ^ n + set) = xpc m set
  | 0, _, _ => rfl
  | m + 1, set, h => by
    show xpc m (2 ^ n + set) + _ = xpc m set + _
    rw [xpc_hi m set (by omega)]
    congr 1
    obtain ⟨d, rfl⟩ : ∃ d, n = m + 1 + d := ⟨n - (m + 1), by omega⟩
    have e : (2 ^ (m + 1 + d) + set) / 2 ^ m % 2 = set / 2 ^ m % 2 := by
      rw [show (2 : Nat) ^ (m + 1 + d) = 2 ^ m * (2 * 2 ^ d) by rw [Nat.pow_add, Nat.pow_succ, Nat.mul_assoc], Nat.mul_add_div (Nat.pow_pos (by decide))]
      omega
    rw [e]
theorem xpc_len {set : Nat} : ∀ (n : Nat) (l : List Nat), l.Nodup → (∀ i, i ∈ l ↔ i < n) → (zsub l set).length = xpc n set := by
  intro n l hnd hm
  have h1 : (zsub l set).length = zsl (fun i => if set / 2 ^ i % 2 = 1 then 1 else 0) l := by
    clear hnd hm
    induction l with
    | nil => rfl
    | cons x t ih =>
      unfold zsub at ih ⊢
      show (List.filter _ (x :: t)).length = (if set / 2 ^ x % 2 = 1 then 1 else 0) + zsl _ t
      rw [List.filter_cons, ← ih]
      by_cases h : set / 2 ^ x % 2 = 1
      · rw [if_pos (by exact decide_eq_true h), if_pos h, List.length_cons]; omega
      · rw [if_neg (by rw [decide_eq_false h]; decide), if_neg h]; omega
  have h2 : ∀ n, zsm (fun i => if set / 2 ^ i % 2 = 1 then 1 else 0) n = xpc n set := by
    intro n
    induction n with
    | zero => rfl
    | succ n ih => show zsm _ n + _ = xpc n set + _; rw [ih]
  rw [h1, zsl_sm n l hnd hm, h2]
theorem xsub_len {n set : Nat} {s : List Nat} (hP : zP n s) : (zsub s set).length = xpc n set := xpc_len n s hP.1 hP.2.2
theorem zsm_split {f : Nat → Nat} {a : Nat} : ∀ b, zsm f (a + b) = zsm f a + zsm (fun i => f (a + i)) b
  | 0 => rfl
  | b + 1 => by
    show zsm f (a + b) + f (a + b) = zsm f a + (zsm (fun i => f (a + i)) b + f (a + b))
    rw [zsm_split b]; omega
theorem zsm_mul {f : Nat → Nat} {c : Nat} : ∀ n, zsm (fun i => f i * c) n = zsm f n * c
  | 0 => by show 0 = 0 * c; omega
  | n + 1 => by
    show zsm (fun i => f i * c) n + f n * c = (zsm f n + f n) * c
    rw [zsm_mul n, Nat.add_mul]
theorem zsm_mono {f g : Nat → Nat} : ∀ {n : Nat}, (∀ i, i < n → f i ≤ g i) → zsm f n ≤ zsm g n
  | 0, _ => Nat.le_refl _
  | n + 1, h => Nat.add_le_add (zsm_mono (fun i hi => h i (by omega))) (h n (by omega))
/-- all shares together -/
theorem xwg_sum {p : Nat} (hp : p ≤ 12) : ∀ n, zsm (fun set => zwg n p (xpc n set)) (2 ^ n) = 12 ^ n
  | 0 => by decide +revert
  | n + 1 => by
    have ih := xwg_sum hp n
    have e1 : zsm (fun set => zwg (n + 1) p (xpc (n + 1) set)) (2 ^ n) = 12 ^ n * p := by
      rw [← ih, ← zsm_mul]
      refine zsm_eq (fun set hs => ?_)
      rw [zwg_F (xpc_le n set)]
      have : set / 2 ^ n = 0 := Nat.div_eq_of_lt hs
      show zwg (n + 1) p (xpc n set + (if set / 2 ^ n % 2 = 1 then 1 else 0)) = _
      rw [this, if_neg (by decide)]; rfl
    have e2 : zsm (fun set => zwg (n + 1) p (xpc (n + 1) (2 ^ n + set))) (2 ^ n) = 12 ^ n * (12 - p) := by
      rw [← ih, ← zsm_mul]
      refine zsm_eq (fun set hs => ?_)
      rw [zwg_T (xpc_le n set)]
      show zwg (n + 1) p (xpc n (2 ^ n + set) + (if (2 ^ n + set) / 2 ^ n % 2 = 1 then 1 else 0)) = _
      have : (2 ^ n + set) / 2 ^ n = 1 := by
        rw [Nat.div_eq_iff (Nat.pow_pos (by decide))]
        constructor <;> omega
      rw [this, if_pos (by decide), xpc_hi n set (Nat.le_refl _)]
    rw [show (2 : Nat) ^ (n + 1) = 2 ^ n + 2 ^ n by rw [Nat.pow_succ]; omega, zsm_split, e1]
    have e2' : zsm (fun i => (fun set => zwg (n + 1) p (xpc (n + 1) set)) (2 ^ n + i)) (2 ^ n) = 12 ^ n * (12 - p) := e2
    rw [e2', ← Nat.mul_add, show p + (12 - p) = 12 by omega, Nat.pow_succ]
/-- a set that has all -/
theorem xpc_all : ∀ n set, set < 2 ^ n → xpc n set = n → set = 2 ^ n - 1
  | 0, set, h, _ => by simp at h ⊢; exact h
  | n + 1, set, h, e => by
    have e' : xpc n set + (if set / 2 ^ n % 2 = 1 then 1 else 0) = n + 1 := e
    have hl := xpc_le n set
    have h2 : (2 : Nat) ^ (n + 1) = 2 ^ n + 2 ^ n := by rw [Nat.pow_succ]; omega
    by_cases hb : set / 2 ^ n % 2 = 1
    · rw [if_pos hb] at e'
      have hge : 2 ^ n ≤ set := by
        rcases Nat.lt_or_ge set (2 ^ n) with q | q
        · rw [Nat.div_eq_of_lt q] at hb; cases hb
        · exact q
      obtain ⟨r, rfl⟩ : ∃ r, set = 2 ^ n + r := ⟨set - 2 ^ n, by omega⟩
      rw [xpc_hi n r (Nat.le_refl _)] at e'
      have := xpc_all n r (by omega) (by omega)
      omega
    · rw [if_neg hb] at e'; omega
theorem xpc_0 : ∀ n set, set < 2 ^ n → xpc n set = 0 → set = 0
  | 0, set, h, _ => by simp at h; exact h
  | n + 1, set, h, e => by
    have e' : xpc n set + (if set / 2 ^ n % 2 = 1 then 1 else 0) = 0 := e
    have h2 : (2 : Nat) ^ (n + 1) = 2 ^ n + 2 ^ n := by rw [Nat.pow_succ]; omega
    by_cases hb : set / 2 ^ n % 2 = 1
    · rw [if_pos hb] at e'; omega
    · have hlt : set < 2 ^ n := by
        rcases Nat.lt_or_ge set (2 ^ n) with q | q
        · exact q
        · obtain ⟨r, rfl⟩ : ∃ r, set = 2 ^ n + r := ⟨set - 2 ^ n, by omega⟩
          have : (2 ^ n + r) / 2 ^ n = 1 := by
            rw [Nat.div_eq_iff (Nat.pow_pos (by decide))]
            constructor <;> omega
          rw [this] at hb; exact absurd rfl hb
      exact xpc_0 n set hlt (by omega)
theorem zsm_zero {f : Nat → Nat} : ∀ {n : Nat}, (∀ i, i < n → f i = 0) → zsm f n = 0
  | 0, _ => rfl
  | n + 1, h => by
    show zsm f n + f n = 0
    rw [zsm_zero (fun i hi => h i (by omega)), h n (by omega)]
theorem zsm_single {f : Nat → Nat} {m : Nat} : ∀ {n : Nat}, m < n → (∀ i, i < n → i ≠ m → f i = 0) → zsm f n = f m
  | 0, h, _ => absurd h (Nat.not_lt_zero m)
  | n + 1, h, h0 => by
    show zsm f n + f n = f m
    rcases (show m < n ∨ m = n by omega) with q | q
    · rw [zsm_single q (fun i hi hm => h0 i (by omega) hm), h0 n (by omega) (by omega)]; rfl
    · subst q
      rw [zsm_zero (fun i hi => h0 i (by omega) (by omega))]; omega
theorem zsub_all {n : Nat} {s : List Nat} (hn : n ≤ 6) (hP : zP n s) : zsub s (2 ^ n - 1) = s := by
  unfold zsub
  refine List.filter_eq_self.mpr (fun i hi => ?_)
  have h1 := (hP.2.2 i).1 hi
  have := Nat.testBit_two_pow_sub_one n i
  rw [Nat.testBit_eq_decide_div_mod_eq, decide_eq_true h1] at this
  exact this
theorem zsub_none {s : List Nat} : zsub s 0 = [] := by
  unfold zsub
  refine List.filter_eq_nil_iff.mpr (fun i _ q => ?_)
  have := of_decide_eq_true q
  rw [Nat.zero_div] at this; cases this
theorem xwg_0 {n k : Nat} (hk : k < n) : zwg n 0 k = 0 := by
  unfold zwg
  rw [Nat.zero_pow (by omega), Nat.mul_zero]
theorem xwg_12 {n k : Nat} (hk : 0 < k) : zwg n 12 k = 0 := by
  unfold zwg
  rw [show 12 - 12 = 0 from rfl, Nat.zero_pow hk, Nat.zero_mul]
theorem xFc_0 {n L i : Nat} {K P : Nat → Nat} {s : List Nat} (hn : n ≤ 6) (hP : zP n s) : zsm (zFc n K P s L 0 i) (2 ^ n) = 12 ^ n * (if i ∈ s ∧ 0 < zwn K s i ∧ zG K P s L i = zwn K s i then 1 else 0) := by
  have h2 : 0 < 2 ^ n := Nat.pow_pos (by decide)
  rw [zsm_single (m := 2 ^ n - 1) (by omega) (fun set hs hne => ?_)]
  · unfold zFc
    rw [zsub_all hn hP, hP.2.1]
    unfold zwg
    rw [Nat.sub_self, Nat.sub_zero, Nat.pow_zero, Nat.mul_one]
  · unfold zFc
    rw [xsub_len hP, xwg_0 (by
      have h1 := xpc_le n set
      have h3 : ¬ xpc n set = n := fun q => hne (xpc_all n set hs q)
      omega), Nat.zero_mul]
theorem xFc_12 {n L i : Nat} {K P : Nat → Nat} {s : List Nat} (hP : zP n s) : zsm (zFc n K P s L 12 i) (2 ^ n) = 0 := by
  refine zsm_zero (fun set hs => ?_)
  unfold zFc
  by_cases h0 : xpc n set = 0
  · rw [xpc_0 n set hs h0, zsub_none]
    rw [if_neg (fun q => by cases q.1), Nat.mul_zero]
  · rw [xsub_len hP, xwg_12 (by omega), Nat.zero_mul]
theorem xFc_le {n L p i : Nat} {K P : Nat → Nat} {s : List Nat} (hp : p ≤ 12) (hP : zP n s) : zsm (zFc n K P s L p i) (2 ^ n) ≤ 12 ^ n := by
  rw [← xwg_sum hp n]
  refine zsm_mono (fun set hs => ?_)
  unfold zFc
  rw [xsub_len hP]
  split
  · rw [Nat.mul_one]; exact Nat.le_refl _
  · rw [Nat.mul_zero]; exact Nat.zero_le _
theorem xFl_0 {n L : Nat} {K P : Nat → Nat} {s : List Nat} (hn : n ≤ 6) (hP : zP n s) : zsm (zFl n K P s L 0) (2 ^ n) = 12 ^ n * zE K P s L := by
  have h2 : 0 < 2 ^ n := Nat.pow_pos (by decide)
  rw [zsm_single (m := 2 ^ n - 1) (by omega) (fun set hs hne => ?_)]
  · unfold zFl
    rw [zsub_all hn hP, hP.2.1]
    unfold zwg
    rw [Nat.sub_self, Nat.sub_zero, Nat.pow_zero, Nat.mul_one]
  · unfold zFl
    rw [xsub_len hP, xwg_0 (by
      have h1 := xpc_le n set
      have h3 : ¬ xpc n set = n := fun q => hne (xpc_all n set hs q)
      omega), Nat.zero_mul]
theorem xFl_12 {n L : Nat} {K P : Nat → Nat} {s : List Nat} (hP : zP n s) : zsm (zFl n K P s L 12) (2 ^ n) = 12 ^ n * L := by
  have h2 : 0 < 2 ^ n := Nat.pow_pos (by decide)
  rw [zsm_single (m := 0) h2 (fun set hs hne => ?_)]
  · unfold zFl
    rw [zsub_none]
    show zwg n 12 0 * L = _
    unfold zwg
    rw [Nat.sub_zero, Nat.pow_zero, Nat.one_mul]
  · unfold zFl
    rw [xsub_len hP, xwg_12 (by
      have h3 : ¬ xpc n set = 0 := fun q => hne (xpc_0 n set hs q)
      omega), Nat.zero_mul]
theorem xFl_le {n L p : Nat} {K P : Nat → Nat} {s : List Nat} (hp : p ≤ 12) (hP : zP n s) : zsm (zFl n K P s L p) (2 ^ n) ≤ L * 12 ^ n := by
  rw [← xwg_sum hp n, Nat.mul_comm, ← zsm_mul]
  refine zsm_mono (fun set hs => ?_)
  unfold zFl
  rw [xsub_len hP]
  exact Nat.mul_le_mul_left _ zE_le
/-! the fewest tickets -/
theorem zfw_no {n k j : Nat} {s w : List Nat} {Q : List Nat → Bool} (h : zfw n s Q k w) (hj : j < k) {v : List Nat} (hv : v ∈ zqW n j) : ¬ Q (zqe s v) = true := by
  have := List.find?_eq_none.mp (h.2.2 j hj) v hv
  exact this
theorem zfw_yes {n k : Nat} {s w : List Nat} {Q : List Nat → Bool} (h : zfw n s Q k w) : Q (zqe s w) = true := List.find?_some (p := fun w => Q (zqe s w)) h.2.1
theorem zfw_0 {n k : Nat} {s w : List Nat} {Q : List Nat → Bool} (h : zfw n s Q k w) : k = 0 ↔ Q s = true := by
  have h0 : zqW n 0 = [[]] := rfl
  constructor
  · intro hk
    subst hk
    have hw := zqW_ok 0 w (List.mem_of_find?_eq_some h.2.1)
    have : w = [] := List.eq_nil_of_length_eq_zero hw.1
    have hy := zfw_yes h
    rw [this] at hy; exact hy
  · intro hq
    rcases Nat.eq_zero_or_pos k with hk | hk
    · exact hk
    · exact absurd hq (zfw_no h hk (v := []) (by rw [h0]; exact List.mem_singleton.mpr rfl))
theorem zfw_un {n k k' : Nat} {s w w' : List Nat} {Q : List Nat → Bool} (h : zfw n s Q k w) (h' : zfw n s Q k' w') : k = k' := by
  rcases Nat.lt_trichotomy k k' with q | q | q
  · exact absurd (zfw_yes h) (zfw_no h' q (List.mem_of_find?_eq_some h.2.1))
  · exact q
  · exact absurd (zfw_yes h') (zfw_no h q (List.mem_of_find?_eq_some h'.2.1))
theorem zqe_take {s w : List Nat} {j : Nat} (h : j < w.length) : zqe s (w.take (j + 1)) = zmv (zat w j / 8) (zat w j % 8) (zqe s (w.take j)) := by
  rw [take_zat h, zqe_app]
theorem zfw_step {n k j : Nat} {s w : List Nat} {Q : List Nat → Bool} (hP : zP n s) (h : zfw n s Q k w) (hj : j < k) : w.length = k ∧ (zat w j / 8 < n ∧ zat w j % 8 < n) ∧ ¬ Q (zqe s (w.take j)) = true ∧ zP n (zqe s (w.take j)) ∧ ¬ zat (zqe s (w.take j)) (zat w j % 8) = zat w j / 8 := by
  have hw := zqW_ok k w (List.mem_of_find?_eq_some h.2.1)
  have hlen := hw.1
  have hx := hw.2 _ (zat_mem w j (by omega))
  have ho := zqx_o hx
  have htl : (w.take j).length = j := by rw [List.length_take]; omega
  have hPt : ∀ (v s : List Nat), zP n s → (∀ t, t ∈ v → t ∈ zqx n) → zP n (zqe s v) := by
    intro v
    induction v with
    | nil => intro s hs _; exact hs
    | cons t v ih =>
      intro s hs ht
      show zP n (zqe (zmv (t / 8) (t % 8) s) v)
      exact ih _ (zmv_P hs (zqx_o (ht t List.mem_cons_self)).1) (fun t' h' => ht t' (List.mem_cons_of_mem _ h'))
  have htk : ∀ t, t ∈ w.take j → t ∈ zqx n := fun t ht => hw.2 t (List.mem_of_mem_take ht)
  have hPj := hPt (w.take j) s hP htk
  refine ⟨hlen, ho, zfw_no h hj (zqW_in j _ htl htk), hPj, fun e => ?_⟩
  -- a ticket that moves nobody: one fewer would do
  have e1 : zqe s (w.take (j + 1)) = zqe s (w.take j) := by
    rw [zqe_take (by omega)]
    exact zmv_same hPj ho.2 e
  have e2 : zqe s (w.take j ++ w.drop (j + 1)) = zqe s w := by
    have a1 : zqe s (w.take j ++ w.drop (j + 1)) = zqe (zqe s (w.take j)) (w.drop (j + 1)) := by unfold zqe; rw [List.foldl_append]
    have a2 : zqe s w = zqe (zqe s (w.take (j + 1))) (w.drop (j + 1)) := by
      conv => lhs; rw [← List.take_append_drop (j + 1) w]
      unfold zqe; rw [List.foldl_append]
    rw [a1, a2, e1]
  have hv : w.take j ++ w.drop (j + 1) ∈ zqW n (k - 1) := by
    refine zqW_in _ _ ?_ (fun t ht => ?_)
    · rw [List.length_append, htl, List.length_drop]; omega
    · rcases List.mem_append.mp ht with q | q
      · exact htk t q
      · exact hw.2 t (List.mem_of_mem_drop q)
  have := zfw_no h (show k - 1 < k by omega) hv
  rw [e2] at this
  exact this (zfw_yes h)
theorem zQf_sym {K P : Nat → Nat} {L a b c : Nat} : zQf K P L a b c = zQf K P L b a c := by
  funext o
  unfold zQf zapart
  congr 2
  exact propext or_comm

/-! WISH: the class's search -/
def zpop (x : Nat) : Nat := x % 2 + x / 2 % 2 + x / 4 % 2 + x / 8 % 2 + x / 16 % 2 + x / 32 % 2
def zbv (p : Int32) : Int32 := match fJ_bitCount p (fun _ _ => 0) (fun _ _ => 0) with
  | some r => r.1
  | none => 0
theorem zbv_pop : ∀ x, x < 64 → zbv (qn x) = qn (zpop x) := by decide +kernel
theorem zpop_le : ∀ x, x < 64 → ∀ i, i < 6 → zpop (x &&& (2 ^ i - 1)) ≤ i := by decide +kernel
def zrk (n : Nat) : List Nat → Nat → Nat → Nat → Nat
  | [], r, _, _ => r
  | i :: t, r, st, p => zrk n t (r * (n - p) + i - zpop (st &&& (2 ^ i - 1))) (st ||| 2 ^ i) (p + 1)
def zrank (n : Nat) (s : List Nat) : Nat := zrk n s 0 0 0
theorem zrank_all : ∀ n, n < 7 → (zall n).map (zrank n) = List.range (zfac n) := by decide +kernel
theorem zexa_in {e : List Nat → List (List Nat)} {s : List Nat} {a : Nat} (hns : ¬ a ∈ s) {o : List Nat} (ho : o ∈ e (s ++ [a])) : ∀ N, a < N → o ∈ zexa e s N
  | N + 1, h => by
    show o ∈ zexa e s N ++ (if N ∈ s then [] else e (s ++ [N]))
    rcases (show a < N ∨ a = N by omega) with h' | h'
    · exact List.mem_append_left _ (zexa_in hns ho N h')
    · subst h'
      rw [if_neg hns]
      exact List.mem_append_right _ ho
theorem zat_ntake : ∀ {s : List Nat} {k : Nat}, s.Nodup → k < s.length → ¬ zat s k ∈ s.take k
  | x :: t, 0, _, _ => by intro h; cases h
  | x :: t, k + 1, hn, h => by
    have hn' := List.nodup_cons.mp hn
    have hk : k < t.length := by simpa using h
    intro q
    rcases List.mem_cons.mp (show zat t k ∈ x :: t.take k from q) with q | q
    · exact hn'.1 (q ▸ zat_mem t k hk)
    · exact zat_ntake hn'.2 hk q
theorem zall_in {n : Nat} {s : List Nat} (hP : zP n s) : s ∈ zall n := by
  have h : ∀ d, d ≤ n → s ∈ zext n d (s.take (n - d)) := by
    intro d
    induction d with
    | zero =>
      intro _
      rw [Nat.sub_zero, ← hP.2.1, List.take_length]; exact List.mem_singleton.mpr rfl
    | succ d ih =>
      intro hd
      have hlt : n - (d + 1) < s.length := by rw [hP.2.1]; omega
      have h1 := ih (by omega)
      rw [show n - d = n - (d + 1) + 1 by omega, take_zat hlt] at h1
      exact zexa_in (zat_ntake hP.1 hlt) h1 n (zP_at hP (by omega))
  have h2 := h n (Nat.le_refl n)
  rw [Nat.sub_self] at h2
  exact h2
theorem zat'_ix {l : List (List Nat)} {x : List Nat} (h : x ∈ l) : ∃ c, c < l.length ∧ zat' l c = x := by
  induction l with
  | nil => cases h
  | cons y t ih =>
    rcases List.mem_cons.mp h with h | h
    · exact ⟨0, by simp, h.symm⟩
    · obtain ⟨c, h1, h2⟩ := ih h
      exact ⟨c + 1, by simpa using h1, h2⟩
theorem zrank_at {n c : Nat} (hn : n ≤ 6) (hc : c < zfac n) : zrank n (zat' (zall n) c) = c := by
  have h : ((zall n).map (zrank n))[c]? = (List.range (zfac n))[c]? := by rw [zrank_all n (by omega)]
  rw [List.getElem?_map, List.getElem?_range hc, zat'_get _ _ (by rw [zall_len hn]; exact hc)] at h
  exact Option.some.inj h
theorem zrank_lt {n : Nat} {s : List Nat} (hn : n ≤ 6) (hP : zP n s) : zrank n s < 720 := by
  obtain ⟨c, h1, h2⟩ := zat'_ix (zall_in hP)
  rw [zall_len hn] at h1
  have := zfac_le n (by omega)
  rw [← h2, zrank_at hn h1]; omega
theorem zrank_inj {n : Nat} {s t : List Nat} (hn : n ≤ 6) (hs : zP n s) (ht : zP n t) (h : zrank n s = zrank n t) : s = t := by
  obtain ⟨c, h1, h2⟩ := zat'_ix (zall_in hs)
  obtain ⟨d, h3, h4⟩ := zat'_ix (zall_in ht)
  rw [zall_len hn] at h1 h3
  rw [← h2, ← h4, zrank_at hn h1, zrank_at hn h3] at h
  rw [← h2, ← h4, h]
/-- as many small ones that differ -/
theorem zpig : ∀ (m : Nat) (l : List Nat), l.Nodup → (∀ x, x ∈ l → x < m) → l.length ≤ m
  | 0, [], _, _ => Nat.le_refl 0
  | 0, x :: l, _, h => absurd (h x List.mem_cons_self) (Nat.not_lt_zero x)
  | m + 1, l, hn, h => by
    by_cases hm : m ∈ l
    · have h1 := zpig m (zrm m l) (zrm_nd hn) (fun x hx => by
        have h2 := h x (zrm_mem hx)
        have h3 : x ≠ m := fun e => zrm_ne hn (e ▸ hx)
        omega)
      have := zrm_len hm
      omega
    · have h1 := zpig m l hn (fun x hx => by
        have h2 := h x hx
        have h3 : x ≠ m := fun e => hm (e ▸ hx)
        omega)
      omega
def zcw (w : List Nat) : Nat := w.foldl (fun a t => a * 64 + t) 0
theorem zcw_app {w : List Nat} {t : Nat} : zcw (w ++ [t]) = zcw w * 64 + t := by unfold zcw; rw [List.foldl_append]; rfl
theorem zcw_lt : ∀ (w : List Nat), w.length ≤ 3 → (∀ t, t ∈ w → t < 64) → zcw w < 262144
  | [], _, _ => by decide
  | [a], _, h => by have := h a (by simp); show 0 * 64 + a < _; omega
  | [a, b], _, h => by
    have := h a (by simp)
    have := h b (by simp)
    show (0 * 64 + a) * 64 + b < _; omega
  | [a, b, c], _, h => by
    have := h a (by simp)
    have := h b (by simp)
    have := h c (by simp)
    show ((0 * 64 + a) * 64 + b) * 64 + c < _; omega
  | _ :: _ :: _ :: _ :: _, h, _ => by simp at h
theorem zcw_at : ∀ (w : List Nat), w.length ≤ 3 → (∀ t, t ∈ w → t < 64) → ∀ j, j < w.length → zcw w / 2 ^ (6 * (w.length - 1 - j)) % 64 = zat w j
  | [], _, _, j, hj => absurd hj (Nat.not_lt_zero j)
  | [a], _, h, j, hj => by
    have := h a (by simp)
    have e : j = 0 := by simpa using hj
    subst e
    show (0 * 64 + a) / 1 % 64 = a
    omega
  | [a, b], _, h, j, hj => by
    have := h a (by simp)
    have := h b (by simp)
    have e : j < 2 := hj
    rcases (show j = 0 ∨ j = 1 by omega) with rfl | rfl
    · show ((0 * 64 + a) * 64 + b) / 64 % 64 = a
      omega
    · show ((0 * 64 + a) * 64 + b) / 1 % 64 = b
      omega
  | [a, b, c], _, h, j, hj => by
    have := h a (by simp)
    have := h b (by simp)
    have := h c (by simp)
    have e : j < 3 := hj
    rcases (show j = 0 ∨ j = 1 ∨ j = 2 by omega) with rfl | rfl | rfl
    · show (((0 * 64 + a) * 64 + b) * 64 + c) / 2 ^ 12 % 64 = a
      simp only [Nat.reducePow]
      omega
    · show (((0 * 64 + a) * 64 + b) * 64 + c) / 64 % 64 = b
      omega
    · show (((0 * 64 + a) * 64 + b) * 64 + c) / 1 % 64 = c
      omega
  | _ :: _ :: _ :: _ :: _, h, _, _, _ => by simp at h
theorem zat'_appl : ∀ {A E : List (List Nat)} {q : Nat}, q < A.length → zat' (A ++ E) q = zat' A q
  | x :: A, E, 0, _ => rfl
  | x :: A, E, q + 1, h => zat'_appl (A := A) (E := E) (q := q) (by simpa using h)
theorem zat'_appr : ∀ {A E : List (List Nat)} {q : Nat}, zat' (A ++ E) (A.length + q) = zat' E q
  | [], E, q => by rw [List.length_nil, Nat.zero_add]; rfl
  | x :: A, E, q => by
    rw [List.length_cons, show A.length + 1 + q = A.length + q + 1 by omega]
    exact zat'_appr (A := A) (E := E) (q := q)
theorem zql_pre {s : List Nat} : ∀ (V A : List (List Nat)), ∃ E, zql s A V = A ++ E
  | [], A => ⟨[], by rw [List.append_nil]; rfl⟩
  | w :: V, A => by
    obtain ⟨E, h⟩ := zql_pre V (zqr s A w)
    show ∃ E, zql s (zqr s A w) V = A ++ E
    by_cases hn : zqn s A w
    · rw [zqr_T hn] at h ⊢; exact ⟨E, h⟩
    · rw [zqr_F hn] at h ⊢
      exact ⟨w :: E, by rw [h, List.append_assoc]; rfl⟩
theorem zqx_fl : ∀ n, n < 7 → zqx n = (List.range n).flatMap (fun i => (List.range n).map (fun p => 8 * i + p)) := by decide +kernel
theorem zqe_P {n : Nat} : ∀ {w s : List Nat}, zP n s → (∀ t, t ∈ w → t ∈ zqx n) → zP n (zqe s w)
  | [], s, h, _ => h
  | t :: w, s, h, ht => zqe_P (w := w) (zmv_P h (zqx_o (ht t List.mem_cons_self)).1) (fun x hx => ht x (List.mem_cons_of_mem _ hx))
theorem zq_fs {α : Type} {p : List Nat → Bool} : ∀ {D : List (List Nat)} {j : Nat}, j < D.length → (∀ x, x ∈ D.take j → ¬ p x = true) → p (zat' D j) = true → D.find? p = some (zat' D j)
  | x :: D, 0, _, _, h => List.find?_cons_of_pos h
  | x :: D, j + 1, hj, hn, h => by
    rw [List.find?_cons_of_neg (hn x (by rw [List.take_succ_cons]; exact List.mem_cons_self))]
    exact zq_fs (α := α) (D := D) (j := j) (by simpa using hj) (fun y hy => hn y (by rw [List.take_succ_cons]; exact List.mem_cons_of_mem _ hy)) h
/-- a way by up to three tickets -/
def zqg (n : Nat) (w : List Nat) : Prop := w.length ≤ 3 ∧ ∀ t, t ∈ w → t ∈ zqx n
theorem zqx_64 {n t : Nat} (hn : n ≤ 6) (h : t ∈ zqx n) : t < 64 := by have := zqx_o h; omega
/-- what the search holds -/
def zQM (n : Nat) (s : List Nat) (A : List (List Nat)) (I : Nat → Nat → Int32) : Prop :=
  (∀ w, w ∈ A → zqg n w) ∧ (A.map (fun w => zrank n (zqe s w))).Nodup ∧ I 25 4 = qn A.length ∧ (∀ q, q < A.length → I 26 q = qn (zpk (zqe s (zat' A q))) ∧ I 27 q = qn (zcw (zat' A q))) ∧
  (∀ w, w ∈ A → I 28 (zrank n (zqe s w)) = qn 1) ∧ ∀ r, r < 720 → ¬ I 28 r = 0 → ∃ w, w ∈ A ∧ zrank n (zqe s w) = r
section SE
variable {n L0 : Nat} {K P : Nat → Nat} {ds : List Nat} {kp : Nat → Option (List Nat)} {I : Nat → Nat → Int32} {J : Nat → Nat → Int64}
theorem eJ_bc {x : Nat} (h : x < 64) : fJ_bitCount (qn x) I J = some (qn (zpop x), I, J) := by rw [← zbv_pop x h]; rfl
theorem eD_rank {s : List Nat} (hP : zP n s) (hn : n ≤ 6) : fD_rank (qn (zpk s)) (qn n) I J = some (qn (zrank n s), I, J) := by
  unfold fD_rank
  refine lp (σ := Int32 × Int32) (R := fun o => o = some (qn (zrank n s), I, J)) (Inv := fun p q => ∃ r st, q.1 = qn r ∧ q.2 = qn st ∧ st < 64 ∧ zrk n (s.drop p) r st p = zrank n s) (fun fu p q => fD_rank_b7 fu (qn (zpk s)) (qn n) q.1 q.2 (qn p) I J) n 100000 0 (0, 0) (Nat.zero_le _) (by omega) ⟨0, 0, rfl, rfl, by omega, rfl⟩ ?_ ?_
  · rintro fu ⟨q1, q2⟩ ⟨r, st, h1, h2, h3, h4⟩
    dsimp only at h1 h2 ⊢
    rw [List.drop_of_length_le (by rw [hP.2.1]; exact Nat.le_refl n)] at h4
    rw [fD_rank_b7, if_pos (Int32.le_refl _), h1]
    have h5 : r = zrank n s := by rw [← h4]; rfl
    rw [h5]
  · rintro fu p ⟨q1, q2⟩ hp ⟨r, st, h1, h2, h3, h4⟩
    dsimp only at h1 h2 ⊢
    have hz := zP_at hP hp
    rw [zat_drop s p (by rw [hP.2.1]; exact hp)] at h4
    have h4' : zrk n (s.drop (p + 1)) (r * (n - p) + zat s p - zpop (st &&& (2 ^ zat s p - 1))) (st ||| 2 ^ zat s p) (p + 1) = zrank n s := h4
    have hst : st ||| 2 ^ zat s p < 64 := Nat.or_lt_two_pow (n := 6) h3 (Nat.pow_lt_pow_right (by decide) (by omega))
    have hle := zpop_le st h3 (zat s p) (by omega)
    have hand : st &&& (2 ^ zat s p - 1) < 64 := Nat.lt_of_le_of_lt Nat.and_le_left h3
    have esh : (1 : Int32) <<< (qn (zat s p) &&& 31) = qn (2 ^ zat s p) := q_p2 (by omega)
    have em : qn (2 ^ zat s p) - 1 = qn (2 ^ zat s p - 1) := qn_sub (b := 1) (Nat.pow_pos (by decide))
    refine Or.inr ⟨(qn (r * (n - p) + zat s p - zpop (st &&& (2 ^ zat s p - 1))), qn (st ||| 2 ^ zat s p)), ⟨_, _, rfl, rfl, hst, h4'⟩, ?_⟩
    rw [fD_rank_b7, if_neg (by rw [qn_le (by omega) (by omega)]; omega), eD_who hP hn (by omega), qp_bd_t, esh, em, h1, h2, qn_and, eJ_bc hand, qp_bd_t, qn_or, qn_sub (by omega), qn_mul, qn_add, qn_sub (by omega), show qn p + 1 = qn (p + 1) from qn_add p 1]
def zXH (I I' : Nat → Nat → Int32) : Prop := ∀ c, c < 18 ∨ c = 23 ∨ c = 24 ∨ 28 < c → I' c = I c
theorem zXH_tr {I I1 I2 : Nat → Nat → Int32} (h : zXH I I1) (h' : zXH I1 I2) : zXH I I2 := fun c hc => (h' c hc).trans (h c hc)
theorem eH_reach {s w : List Nat} {A : List (List Nat)} (hP : zP n s) (hn : n ≤ 6) (e0 : I 15 0 = qn n) (hA : zQM n s A I) (hw : zqg n w) :
    ∃ I', fH_reach (qn (zpk (zqe s w))) (qn (zcw w)) I J = some ((), I', J) ∧ zQM n s (zqr s A w) I' ∧ zXH I I' := by
  have hPw := zqe_P hP hw.2
  have hr := zrank_lt hn hPw
  obtain ⟨a1, a2, a3, a4, a5, a6⟩ := id hA
  have g0 : (0 : Int32) ≤ qn (zrank n (zqe s w)) ∧ qn (zrank n (zqe s w)) < 720 := by
    show qn 0 ≤ qn _ ∧ qn _ < qn 720
    rw [qn_le (by omega) (by omega), qn_lt (by omega) (by omega)]; omega
  unfold fH_reach
  rw [e0, eD_rank hPw hn, qp_bd_t, if_neg (by show ¬ qn _ < qn 0; rw [qn_lt (by omega) (by omega)]; omega), if_neg (by show ¬ qn 720 ≤ qn _; rw [qn_le (by omega) (by omega)]; omega), qp_gd_t g0, qn_nat (by omega)]
  by_cases hs : zqn s A w
  · obtain ⟨w', h1, h2⟩ := id hs
    have h5 := a5 w' h1
    rw [h2] at h5
    rw [h5, if_pos (by decide), zqr_T hs]
    exact ⟨I, rfl, hA, fun _ _ => rfl⟩
  · have h0 : I 28 (zrank n (zqe s w)) = 0 := by
      by_cases h : I 28 (zrank n (zqe s w)) = 0
      · exact h
      · obtain ⟨w', h1, h2⟩ := a6 _ hr h
        exact absurd ⟨w', h1, zrank_inj hn (zqe_P hP (a1 w' h1).2) hPw h2⟩ hs
    have hnew : ¬ zrank n (zqe s w) ∈ A.map (fun w => zrank n (zqe s w)) := fun h => by
      obtain ⟨w', h1, h2⟩ := List.mem_map.mp h
      exact hs ⟨w', h1, zrank_inj hn (zqe_P hP (a1 w' h1).2) hPw h2⟩
    have hlen : A.length < 720 := by
      have h := zpig 720 (zrank n (zqe s w) :: A.map (fun w => zrank n (zqe s w))) (List.nodup_cons.mpr ⟨hnew, a2⟩) (fun x hx => by
        rcases List.mem_cons.mp hx with hx | hx
        · rw [hx]; exact hr
        · obtain ⟨w', h1, h2⟩ := List.mem_map.mp hx
          rw [← h2]; exact zrank_lt hn (zqe_P hP (a1 w' h1).2))
      rw [List.length_cons, List.length_map] at h
      omega
    have g1 : (0 : Int32) ≤ qn A.length ∧ qn A.length < 720 := by
      show qn 0 ≤ qn _ ∧ qn _ < qn 720
      rw [qn_le (by omega) (by omega), qn_lt (by omega) (by omega)]; omega
    rw [if_neg (by rw [h0]; exact fun q => q rfl), a3, if_neg (by show ¬ qn 720 ≤ qn _; rw [qn_le (by omega) (by omega)]; omega), qp_gd_t ⟨g0, g1⟩, qn_nat (by omega), zqr_F hs, show qn A.length + 1 = qn (A.length + 1) from qn_add _ 1]
    refine ⟨_, rfl, ⟨fun x hx => ?_, ?_, ?_, fun q hq => ?_, fun x hx => ?_, fun r hr' h => ?_⟩, fun c hc => ?_⟩
    · rcases List.mem_append.mp hx with hx | hx
      · exact a1 x hx
      · rw [List.mem_singleton.mp hx]; exact hw
    · rw [List.map_append]
      refine List.nodup_append.mpr ⟨a2, by simp, fun x hx y hy e => ?_⟩
      have hy' : y = zrank n (zqe s w) := List.mem_singleton.mp hy
      rw [e, hy'] at hx
      exact hnew hx
    · rw [qm_eq rfl, List.length_append]; rfl
    · rw [List.length_append] at hq
      have hq1 : q < A.length + 1 := hq
      rw [qm_nk (by omega), qm_nk (by omega), qm_nk (k := 25) (k' := 27) (by omega)]
      by_cases e : A.length = q
      · subst e
        have := zat'_appr (A := A) (E := [w]) (q := 0)
        rw [Nat.add_zero] at this
        rw [this, qm_eq rfl, qm_eq rfl]
        exact ⟨rfl, rfl⟩
      · rw [zat'_appl (by omega), qm_nj e, qm_nj e, qm_nk (by omega), qm_nk (by omega), qm_nk (by omega)]
        exact a4 q (by omega)
    · rw [qm_nk (by omega), qm_nk (by omega), qm_nk (by omega), qm_if]
      rcases List.mem_append.mp hx with hx | hx
      · rw [if_neg (fun e : zrank n (zqe s w) = zrank n (zqe s x) => hnew (by rw [e]; exact List.mem_map.mpr ⟨x, hx, rfl⟩))]
        exact a5 x hx
      · rw [List.mem_singleton.mp hx, if_pos rfl]; rfl
    · rw [qm_nk (by omega), qm_nk (by omega), qm_nk (by omega), qm_if] at h
      by_cases e : zrank n (zqe s w) = r
      · exact ⟨w, List.mem_append_right _ (List.mem_singleton.mpr rfl), e⟩
      · rw [if_neg e] at h
        obtain ⟨w', h1, h2⟩ := a6 r hr' h
        exact ⟨w', List.mem_append_left _ h1, h2⟩
    · rw [qm_nk (by omega), qm_nk (by omega), qm_nk (by omega), qm_nk (by omega)]
theorem zql_1 {s w : List Nat} {A : List (List Nat)} : zql s A [w] = zqr s A w := rfl
theorem eH_goOn {s w : List Nat} {A : List (List Nat)} (hP : zP n s) (hn : n ≤ 6) (e0 : I 15 0 = qn n) (hA : zQM n s A I) (hw : w.length ≤ 2) (hwx : ∀ t, t ∈ w → t ∈ zqx n) :
    ∃ I', fH_goOn (qn (zpk (zqe s w))) (qn (zcw w)) I J = some ((), I', J) ∧ zQM n s (zql s A (zqs n w)) I' ∧ zXH I I' := by
  have hPw := zqe_P hP hwx
  have hfl := zqx_fl n (by omega)
  have hcw := zcw_lt w (by omega) (fun t ht => zqx_64 hn (hwx t ht))
  obtain ⟨T, hT⟩ : ∃ T : Nat → List (List Nat), T = fun i => ((List.range i).flatMap (fun i => (List.range n).map (fun p => 8 * i + p))).map (fun t => w ++ [t]) := ⟨_, rfl⟩
  have hTn : T n = zqs n w := by
    rw [hT]; unfold zqs; rw [hfl]
  have hTs : ∀ i, T (i + 1) = T i ++ (List.range n).map (fun p => w ++ [8 * i + p]) := fun i => by
    rw [hT]
    dsimp only
    rw [List.range_succ, List.flatMap_append, List.map_append, List.flatMap_singleton, List.map_map]; rfl
  unfold fH_goOn
  rw [e0, ← hTn]
  refine lp (σ := Nat → Nat → Int32) (R := fun o => ∃ I', o = some ((), I', J) ∧ zQM n s (zql s A (T n)) I' ∧ zXH I I') (Inv := fun i I' => zQM n s (zql s A (T i)) I' ∧ zXH I I') (fun fu i I' => fH_goOn_b14 fu (qn (zpk (zqe s w))) (qn (zcw w)) (qn n) (qn i) I' J) n 100000 0 I (Nat.zero_le _) (by omega) ⟨by rw [hT]; exact hA, fun _ _ => rfl⟩ ?_ ?_
  · rintro fu I1 ⟨s1, s2⟩
    exact ⟨I1, by rw [fH_goOn_b14, if_pos (Int32.le_refl _)], s1, s2⟩
  · rintro fu i I1 hi ⟨s1, s2⟩
    refine Or.inr ?_
    rw [fH_goOn_b14, if_neg (by rw [qn_le (by omega) (by omega)]; omega)]
    refine lp (σ := Nat → Nat → Int32) (R := fun o => ∃ s', (zQM n s (zql s A (T (i + 1))) s' ∧ zXH I s') ∧ o = fH_goOn_b14 fu (qn (zpk (zqe s w))) (qn (zcw w)) (qn n) (qn (i + 1)) s' J) (Inv := fun p I' => zQM n s (zql s A (T i ++ (List.range p).map (fun p => w ++ [8 * i + p]))) I' ∧ zXH I I')
      (fun fu' p I' => fH_goOn_b23 (fun a0 a1 a2 a3 I J => fH_goOn_b14 fu a0 a1 a2 a3 I J) fu' (qn (zpk (zqe s w))) (qn (zcw w)) (qn n) (qn i) (qn p) I' J) n 100000 0 I1 (Nat.zero_le _) (by omega) ⟨by rw [show (List.range 0).map (fun p => w ++ [8 * i + p]) = [] from rfl, List.append_nil]; exact s1, s2⟩ ?_ ?_
    · rintro fu' I2 ⟨t1, t2⟩
      refine ⟨I2, ⟨by rw [hTs]; exact t1, t2⟩, ?_⟩
      rw [fH_goOn_b23, if_pos (Int32.le_refl _), show qn i + 1 = qn (i + 1) from qn_add i 1]
    · rintro fu' p I2 hp ⟨t1, t2⟩
      have x0 : I2 15 0 = qn n := by rw [t2 15 (by omega)]; exact e0
      have ho1 : (8 * i + p) / 8 < n := by omega
      have ho2 : (8 * i + p) % 8 < n := by omega
      have hgw : zqg n (w ++ [8 * i + p]) := ⟨by rw [List.length_append]; show w.length + 1 ≤ 3; omega, fun t ht => by
        rcases List.mem_append.mp ht with ht | ht
        · exact hwx t ht
        · rw [List.mem_singleton.mp ht]; exact zqx_m n (by omega) _ (by omega) ⟨ho1, ho2⟩⟩
      obtain ⟨I3, r1, r2, r3⟩ := eH_reach (I := I2) (J := J) hP hn x0 t1 hgw
      have eb := eD_byt (I := I2) (J := J) (t := 8 * i + p) hPw hn ho1 ho2
      rw [zqe_app, zcw_app] at r1
      have ex : (8 : Int32) * qn i + qn p = qn (8 * i + p) := by
        show qn 8 * qn i + qn p = _
        rw [qn_mul, qn_add]
      have ew : qn (zcw w) <<< ((6 : Int32) &&& 31) ||| qn (8 * i + p) = qn (zcw w * 64 + (8 * i + p)) := by
        show qn (zcw w) <<< (qn 6 &&& qn 31) ||| qn (8 * i + p) = _
        rw [qn_shl (by omega), qn_or, Nat.mul_comm, ← Nat.two_pow_add_eq_or_of_lt (i := 6) (by omega : 8 * i + p < 2 ^ 6), Nat.mul_comm]
      refine Or.inr ⟨I3, ⟨?_, zXH_tr t2 r3⟩, ?_⟩
      · rw [List.range_succ, List.map_append, ← List.append_assoc, zql_app]; exact r2
      · rw [fH_goOn_b23, if_neg (by rw [qn_le (by omega) (by omega)]; omega), ex, eb, qp_bd_t, ew, r1, qp_bd_t, show qn p + 1 = qn (p + 1) from qn_add p 1]
end SE

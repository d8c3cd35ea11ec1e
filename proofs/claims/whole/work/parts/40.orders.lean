/-! ORDERS ONE BY ONE: by a walk that lays one behind the other; by a number -/
def zexa (e : List Nat → List (List Nat)) (s : List Nat) : Nat → List (List Nat)
  | 0 => []
  | a + 1 => zexa e s a ++ (if a ∈ s then [] else e (s ++ [a]))
def zext (n : Nat) : Nat → List Nat → List (List Nat)
  | 0, s => [s]
  | d + 1, s => zexa (zext n d) s n
def zall (n : Nat) : List (List Nat) := zext n n []
def zpo : Nat → Nat → Nat → Nat → Option Nat
  | 0, _, _, _ => none
  | f + 1, set, q, a => if set / 2 ^ a % 2 = 1 then (if q = 0 then some a else zpo f set (q - 1) (a + 1)) else zpo f set q (a + 1)
def zlo (n : Nat) : Nat → Nat → Nat → Nat → Nat → Option (List Nat)
  | 0, _, _, _, _ => some []
  | k + 1, set, rest, blk, p =>
    if blk = 0 then none else
    match zpo 6 set (rest / blk) 0 with
    | none => none
    | some x => match zlo n k (if set / 2 ^ x % 2 = 1 then set - 2 ^ x else set) (rest % blk) (if n ≤ p + 2 then 1 else blk / (n - 1 - p)) (p + 1) with
      | none => none
      | some l => some (x :: l)
def zfac : Nat → Nat
  | 0 => 1
  | n + 1 => (n + 1) * zfac n
def zcode (n c : Nat) : Option (List Nat) := zlo n n (2 ^ n - 1) c (zfac (n - 1)) 0
theorem zall_code : ∀ n, n < 7 → (List.range (zfac n)).map (zcode n) = (zall n).map some := by decide +kernel
theorem zall_ok : ∀ n, n < 7 → ∀ o ∈ zall n, o.Nodup ∧ o.length = n ∧ (∀ i ∈ o, i < n) ∧ ∀ i, i < n → i ∈ o := by decide +kernel
theorem zfac_le : ∀ n, n < 7 → zfac n ≤ 720 := by decide +kernel
theorem zall_P {n : Nat} (hn : n ≤ 6) {o : List Nat} (h : o ∈ zall n) : zP n o := by
  obtain ⟨a, b, c, d⟩ := zall_ok n (by omega) o h
  exact ⟨a, b, fun i => ⟨c i, d i⟩⟩
theorem zall_len {n : Nat} (hn : n ≤ 6) : (zall n).length = zfac n := by
  have h := congrArg List.length (zall_code n (by omega))
  rw [List.length_map, List.length_map, List.length_range] at h
  exact h.symm
def zat' : List (List Nat) → Nat → List Nat
  | [], _ => []
  | x :: _, 0 => x
  | _ :: t, p + 1 => zat' t p
theorem zat'_take {s : List (List Nat)} {k : Nat} (h : k < s.length) : s.take (k + 1) = s.take k ++ [zat' s k] := by
  induction s generalizing k with
  | nil => cases h
  | cons x t ih =>
    cases k with
    | zero => rfl
    | succ k =>
      show x :: t.take (k + 1) = x :: (t.take k ++ [zat' t k])
      rw [ih (by simpa using h)]
theorem zat'_mem : ∀ (s : List (List Nat)) (k : Nat), k < s.length → zat' s k ∈ s
  | x :: t, 0, _ => List.mem_cons_self
  | x :: t, k + 1, h => List.mem_cons_of_mem _ (zat'_mem t k (by simpa using h))
theorem zat'_get : ∀ (s : List (List Nat)) (k : Nat), k < s.length → s[k]? = some (zat' s k)
  | x :: t, 0, _ => rfl
  | x :: t, k + 1, h => zat'_get t k (by simpa using h)
theorem zcode_at {n c : Nat} (hn : n ≤ 6) (hc : c < zfac n) : zcode n c = some (zat' (zall n) c) := by
  have h : ((List.range (zfac n)).map (zcode n))[c]? = ((zall n).map some)[c]? := by rw [zall_code n (by omega)]
  rw [List.getElem?_map, List.getElem?_map, List.getElem?_range hc, zat'_get _ _ (by rw [zall_len hn]; exact hc)] at h
  exact Option.some.inj h
theorem q_andn : ∀ set, set < 64 → ∀ a, a < 6 → qn set &&& (((1 : Int32) <<< (qn a &&& 31)) ^^^ (-1)) = qn (if set / 2 ^ a % 2 = 1 then set - 2 ^ a else set) := by decide +kernel
theorem q_sub2 : ∀ n, n < 7 → ∀ p, p < 7 → decide (qn n - 2 ≤ qn p) = decide (n ≤ p + 2) := by decide +kernel
section LO
variable {n : Nat} {J : Nat → Nat → Int64}
theorem eM_pick {k44 : Int32 → Int32 → Int32 → Int32 → Int32 → (Nat → Nat → Int32) → (Nat → Nat → Int64) → Option (Unit × (Nat → Nat → Int32) × (Nat → Nat → Int64))} {a2 a4 a5 : Int32} {p set x : Nat} {I : Nat → Nat → Int32} (hp : p < 6) (hs : set < 64) :
    ∀ (f a q fuel : Nat), f + a = 6 → f < fuel → q < 1000 → zpo f set q a = some x → x < 6 ∧ fM_layOrder_b90 k44 fuel a2 (qn set) a4 a5 (qn p) (qn q) (qn a) I J = k44 a2 (qn (if set / 2 ^ x % 2 = 1 then set - 2 ^ x else set)) a4 a5 (qn (p + 1)) (qp_up I 53 p (qn x)) J := by
  intro f
  induction f with
  | zero => intro a q fuel _ _ _ h; cases h
  | succ f ih =>
    intro a q fuel hf hfu hq h
    obtain ⟨fu, rfl⟩ : ∃ fu, fuel = fu + 1 := ⟨fuel - 1, by omega⟩
    have eh := eM_has (I := I) (J := J) (set := set) (i := a) hs (by omega)
    unfold zpo at h
    by_cases hb : set / 2 ^ a % 2 = 1
    · rw [if_pos hb] at h
      rw [hb] at eh
      by_cases hq0 : q = 0
      · rw [if_pos hq0] at h
        have hx : a = x := Option.some.inj h
        subst hx
        refine ⟨by omega, ?_⟩
        rw [fM_layOrder_b90, eh, qp_bd_t, if_neg (by decide), hq0, if_pos (by decide), q_andn set hs a (by omega), qp_gd_t (by show qn 0 ≤ qn p ∧ qn p < qn 6; rw [qn_le (by omega) (by omega), qn_lt (by omega) (by omega)]; omega), qn_nat (by omega), show qn p + 1 = qn (p + 1) from qn_add p 1]
      · rw [if_neg hq0] at h
        obtain ⟨h1, h2⟩ := ih (a + 1) (q - 1) fu (by omega) (by omega) (by omega) h
        refine ⟨h1, ?_⟩
        rw [← h2, fM_layOrder_b90, eh, qp_bd_t, if_neg (by decide), if_neg (by show ¬ qn q ≤ qn 0; rw [qn_le (by omega) (by omega)]; omega)]
        unfold fM_layOrder_b104
        rw [eh, qp_bd_t, if_neg (by decide), show qn q - 1 = qn (q - 1) from qn_sub (b := 1) (by omega), show qn a + 1 = qn (a + 1) from qn_add a 1]
    · rw [if_neg hb] at h
      have hb0 : set / 2 ^ a % 2 = 0 := by have := Nat.mod_lt (set / 2 ^ a) (show 0 < 2 by omega); omega
      rw [hb0] at eh
      obtain ⟨h1, h2⟩ := ih (a + 1) q fu (by omega) (by omega) (by omega) h
      refine ⟨h1, ?_⟩
      rw [← h2, fM_layOrder_b90, eh, qp_bd_t, if_pos (show qn 0 = 0 from rfl)]
      unfold fM_layOrder_b104
      rw [eh, qp_bd_t, if_pos (show qn 0 = 0 from rfl), show qn q - 0 = qn q from qn_sub (Nat.zero_le q), show qn a + 1 = qn (a + 1) from qn_add a 1]
theorem eM_lay_b (hn : n ≤ 6) : ∀ (k set rest blk p fuel : Nat) (I : Nat → Nat → Int32) (l : List Nat), p + k = n → k < fuel → set < 64 → rest < 1000 → blk ≤ 720 → zlo n k set rest blk p = some l →
    ∃ I', fM_layOrder_b44 fuel (qn n) (qn set) (qn rest) (qn blk) (qn p) I J = some ((), I', J) ∧ l.length = k ∧ (∀ j, j < k → I' 53 (p + j) = qn (zat l j)) ∧ (∀ j, j < p → I' 53 j = I 53 j) ∧ ∀ c, c ≠ 53 → I' c = I c := by
  intro k
  induction k with
  | zero =>
    intro set rest blk p fuel I l hp hf _ _ _ h
    obtain ⟨fu, rfl⟩ : ∃ fu, fuel = fu + 1 := ⟨fuel - 1, by omega⟩
    have hl : [] = l := Option.some.inj h
    subst hl
    exact ⟨I, by rw [fM_layOrder_b44, if_pos (by rw [qn_le (by omega) (by omega)]; omega)], rfl, fun j hj => absurd hj (Nat.not_lt_zero j), fun _ _ => rfl, fun _ _ => rfl⟩
  | succ k ih =>
    intro set rest blk p fuel I l hp hf hs hr hb h
    obtain ⟨fu, rfl⟩ : ∃ fu, fuel = fu + 1 := ⟨fuel - 1, by omega⟩
    unfold zlo at h
    by_cases hb0 : blk = 0
    · rw [if_pos hb0] at h; cases h
    rw [if_neg hb0] at h
    have hdl := Nat.div_le_self rest blk
    have hml := Nat.mod_lt rest (show 0 < blk by omega)
    cases hx : zpo 6 set (rest / blk) 0 with
    | none => rw [hx] at h; cases h
    | some x =>
      rw [hx] at h
      dsimp only at h
      generalize hb2 : (if n ≤ p + 2 then 1 else blk / (n - 1 - p)) = blk2 at h
      cases hz : zlo n k (if set / 2 ^ x % 2 = 1 then set - 2 ^ x else set) (rest % blk) blk2 (p + 1) with
      | none => rw [hz] at h; cases h
      | some l' =>
        rw [hz] at h
        have hl : x :: l' = l := Option.some.inj h
        subst hl
        have hb2l : blk2 ≤ 720 := by
          have := Nat.div_le_self blk (n - 1 - p)
          rw [← hb2]; split <;> omega
        have hs' : (if set / 2 ^ x % 2 = 1 then set - 2 ^ x else set) < 64 := by
          split
          · exact Nat.lt_of_le_of_lt (Nat.sub_le _ _) hs
          · exact hs
        obtain ⟨h1, h2⟩ := eM_pick (J := J) (I := I) (k44 := fun a0 a1 a2 a3 a4 I J => fM_layOrder_b44 fu a0 a1 a2 a3 a4 I J) (a2 := qn n) (a4 := qn (rest % blk)) (a5 := qn blk2) (p := p) (set := set) (x := x) (by omega) hs 6 0 (rest / blk) 100000 (by omega) (by omega) (by omega) hx
        obtain ⟨I', g1, g2, g3, g4, g5⟩ := ih _ (rest % blk) blk2 (p + 1) fu (qp_up I 53 p (qn x)) l' (by omega) (by omega) hs' (by omega) hb2l hz
        refine ⟨I', ?_, by rw [List.length_cons, g2], fun j hj => ?_, fun j hj => ?_, fun c hc => ?_⟩
        · rw [← g1]
          refine Eq.trans ?_ h2
          have hm : qn rest - qn rest / qn blk * qn blk = qn (rest % blk) := by rw [qn_div (by omega) (by omega), qn_mul, qn_mod]
          have hd : qn rest / qn blk = qn (rest / blk) := qn_div (by omega) (by omega)
          have hsub := q_sub2 n (by omega) p (by omega)
          rw [fM_layOrder_b44, if_neg (by rw [qn_le (by omega) (by omega)]; omega), qp_gd_t (by show ¬ qn blk = qn 0; rw [qn_eq (by omega) (by omega)]; exact hb0), hm, hd]
          by_cases hnp : n ≤ p + 2
          · rw [if_pos hnp] at hb2
            rw [decide_eq_true hnp] at hsub
            rw [if_pos (of_decide_eq_true hsub), ← hb2]; rfl
          · rw [if_neg hnp] at hb2
            rw [decide_eq_false hnp] at hsub
            have en : qn n - 1 - qn p = qn (n - 1 - p) := by
              show qn n - qn 1 - qn p = _
              rw [qn_sub (by omega), qn_sub (by omega)]
            rw [if_neg (of_decide_eq_false hsub), en, qp_gd_t (by show ¬ qn (n - 1 - p) = qn 0; rw [qn_eq (by omega) (by omega)]; omega), qn_div (by omega) (by omega), hb2]; rfl
        · cases j with
          | zero => rw [Nat.add_zero, g4 p (by omega), qm_eq rfl]; rfl
          | succ j =>
            rw [show p + (j + 1) = p + 1 + j by omega, g3 j (by omega)]; rfl
        · rw [g4 j (by omega), qm_nj (by omega)]
        · rw [g5 c hc, qm_nk (Ne.symm hc)]
theorem eM_layOrder {c : Nat} {o : List Nat} {I : Nat → Nat → Int32} (hn : n ≤ 6) (e0 : I 37 0 = qn n) (hc : c < 1000) (h : zcode n c = some o) :
    ∃ I', fM_layOrder (qn c) I J = some ((), I', J) ∧ zrow 0 o (I' 53) ∧ ∀ c, c ≠ 53 → I' c = I c := by
  have h64 := p2_le hn
  obtain ⟨I', g1, g2, g3, g4, g5⟩ := eM_lay_b (J := J) hn n (2 ^ n - 1) c (zfac (n - 1)) 0 100000 I o (by omega) (by omega) (by omega) hc (zfac_le _ (by omega)) h
  refine ⟨I', ?_, fun p hp => g3 p (by omega), g5⟩
  have eall : ((1 : Int32) <<< (qn n &&& 31)) - 1 = qn (2 ^ n - 1) := by
    rw [q_p2 hn]
    show qn (2 ^ n) - qn 1 = _
    rw [qn_sub (Nat.pow_pos (by decide))]
  unfold fM_layOrder
  rw [e0, eall, ← g1]
  refine lp (σ := Int32) (R := fun o => o = fM_layOrder_b44 100000 (qn n) (qn (2 ^ n - 1)) (qn c) (qn (zfac (n - 1))) (qn 0) I J) (Inv := fun i s => 2 ≤ i ∧ s = qn (zfac (i - 1))) (fun fu i s => fM_layOrder_b22 fu (qn n) (qn (2 ^ n - 1)) (qn c) s (qn i) I J) (if n ≤ 2 then 2 else n) 100000 2 1 (by split <;> omega) (by split <;> omega) ⟨Nat.le_refl _, rfl⟩ ?_ ?_
  · rintro fu s ⟨-, hs⟩
    rw [fM_layOrder_b22, hs]
    by_cases h2 : n ≤ 2
    · rw [if_pos h2, if_pos (by rw [qn_le (by omega) (by omega)]; exact h2)]
      have : zfac (2 - 1) = zfac (n - 1) := by
        rcases (show n = 0 ∨ n = 1 ∨ n = 2 by omega) with rfl | rfl | rfl <;> rfl
      rw [this]; rfl
    · rw [if_neg h2, if_pos (Int32.le_refl _)]; rfl
  · rintro fu i s hi ⟨hi2, hs⟩
    refine Or.inr ⟨qn (zfac (i + 1 - 1)), ⟨by omega, rfl⟩, ?_⟩
    have hi3 : i < n := by
      split at hi <;> omega
    have hz : zfac (i - 1) * i = zfac (i + 1 - 1) := by
      obtain ⟨j, rfl⟩ : ∃ j, i = j + 1 := ⟨i - 1, by omega⟩
      show zfac j * (j + 1) = (j + 1) * zfac j
      exact Nat.mul_comm _ _
    rw [fM_layOrder_b22, if_neg (by rw [qn_le (by omega) (by omega)]; omega), hs, qn_mul, hz, show qn i + 1 = qn (i + 1) from qn_add i 1]
end LO

/-! ORDERS ONE BY ONE: by a walk that lays one behind the other; by a number -/
def zexa (e : List Nat → List (List Nat)) (s : List Nat) : Nat → List (List Nat)
  | 0 => []
  | a + 1 => zexa e s a ++ (if a ∈ s then [] else e (s ++ [a]))
def zext (n : Nat) : Nat → List Nat → List (List Nat)
  | 0, s => [s]
  | d + 1, s => zexa (zext n d) s n
def zall (n : Nat) : List (List Nat) := zext n n []
def zpo : Nat → Nat → Nat → Nat → Option Nat
  | 0, _, _, _ => none
  | f + 1, set, q, a => if set / 2 ^ a % 2 = 1 then (if q = 0 then some a else zpo f set (q - 1) (a + 1)) else zpo f set q (a + 1)
def zlo (n : Nat) : Nat → Nat → Nat → Nat → Nat → Option (List Nat)
  | 0, _, _, _, _ => some []
  | k + 1, set, rest, blk, p =>
    if blk = 0 then none else
    match zpo 6 set (rest / blk) 0 with
    | none => none
    | some x => match zlo n k (if set / 2 ^ x % 2 = 1 then set - 2 ^ x else set) (rest % blk) (if n ≤ p + 2 then 1 else blk / (n - 1 - p)) (p + 1) with
      | none => none
      | some l => some (x :: l)
def zfac : Nat → Nat
  | 0 => 1
  | n + 1 => (n + 1) * zfac n
def zcode (n c : Nat) : Option (List Nat) := zlo n n (2 ^ n - 1) c (zfac (n - 1)) 0
theorem zall_code : ∀ n, n < 7 → (List.range (zfac n)).map (zcode n) = (zall n).map some := by decide +kernel
theorem zall_ok : ∀ n, n < 7 → ∀ o ∈ zall n, o.Nodup ∧ o.length = n ∧ (∀ i ∈ o, i < n) ∧ ∀ i, i < n → i ∈ o := by decide +kernel
theorem zfac_le : ∀ n, n < 7 → zfac n ≤ 720 := by decide +kernel
theorem zall_P {n : Nat} (hn : n ≤ 6) {o : List Nat} (h : o ∈ zall n) : zP n o := by
  obtain ⟨a, b, c, d⟩ := zall_ok n (by omega) o h
  exact ⟨a, b, fun i => ⟨c i, d i⟩⟩
theorem zall_len {n : Nat} (hn : n ≤ 6) : (zall n).length = zfac n := by
  have h := congrArg List.length (zall_code n (by omega))
  rw [List.length_map, List.length_map, List.length_range] at h
  exact h.symm
def zat' : List (List Nat) → Nat → List Nat
  | [], _ => []
  | x :: _, 0 => x
  | _ :: t, p + 1 => zat' t p
theorem zat'_take {s : List (List Nat)} {k : Nat} (h : k < s.length) : s.take (k + 1) = s.take k ++ [zat' s k] := by
  induction s generalizing k with
  | nil => cases h
  | cons x t ih =>
    cases k with
    | zero => rfl
    | succ k =>
      show x :: t.take (k + 1) = x :: (t.take k ++ [zat' t k])
      rw [ih (by simpa using h)]
theorem zat'_mem : ∀ (s : List (List Nat)) (k : Nat), k < s.length → zat' s k ∈ s
  | x :: t, 0, _ => List.mem_cons_self
  | x :: t, k + 1, h => List.mem_cons_of_mem _ (zat'_mem t k (by simpa using h))
theorem zat'_get : ∀ (s : List (List Nat)) (k : Nat), k < s.length → s[k]? = some (zat' s k)
  | x :: t, 0, _ => rfl
  | x :: t, k + 1, h => zat'_get t k (by simpa using h)
theorem zcode_at {n c : Nat} (hn : n ≤ 6) (hc : c < zfac n) : zcode n c = some (zat' (zall n) c) := by
  have h : ((List.range (zfac n)).map (zcode n))[c]? = ((zall n).map some)[c]? := by rw [zall_code n (by omega)]
  rw [List.getElem?_map, List.getElem?_map, List.getElem?_range hc, zat'_get _ _ (by rw [zall_len hn]; exact hc)] at h
  exact Option.some.inj h
theorem q_andn : ∀ set, set < 64 → ∀ a, a < 6 → qn set &&& (((1 : Int32) <<< (qn a &&& 31)) ^^^ (-1)) = qn (if set / 2 ^ a % 2 = 1 then set - 2 ^ a else set) := by decide +kernel
theorem q_sub2 : ∀ n, n < 7 → ∀ p, p < 7 → decide (qn n - 2 ≤ qn p) = decide (n ≤ p + 2) := by decide +kernel

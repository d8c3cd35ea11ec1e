/-! WISH: the model's ways by number; alike -/
theorem zqd_len : ∀ (k c : Nat), (zqd k c).length = k
  | 0, _ => rfl
  | k + 1, c => by
    show (zqd k (c / 36) ++ [zqt (c % 36)]).length = k + 1
    rw [List.length_append, zqd_len k]; rfl
theorem zqd_64 : ∀ (k c : Nat), ∀ t, t ∈ zqd k c → t < 64
  | 0, _, t, h => by cases h
  | k + 1, c, t, h => by
    rcases List.mem_append.mp (show t ∈ zqd k (c / 36) ++ [zqt (c % 36)] from h) with h | h
    · exact zqd_64 k _ t h
    · rw [List.mem_singleton.mp h]
      unfold zqt
      omega
theorem zqM_at {k c : Nat} (h : c < 36 ^ k) : c < (zqM k).length ∧ zat' (zqM k) c = zqd k c := by
  have hl : (zqM k).length = 36 ^ k := by unfold zqM; rw [List.length_map, List.length_range]
  refine ⟨by rw [hl]; exact h, ?_⟩
  have h1 := zat'_get (zqM k) c (by rw [hl]; exact h)
  have h2 : (zqM k)[c]? = some (zqd k c) := by
    unfold zqM
    rw [List.getElem?_map, List.getElem?_range h]; rfl
  rw [h2] at h1
  exact (Option.some.inj h1).symm
section WI
variable {n L0 : Nat} {K P : Nat → Nat} {ds : List Nat} {kp : Nat → Option (List Nat)} {I : Nat → Nat → Int32} {J : Nat → Nat → Int64}
def zMG (I I' : Nat → Nat → Int32) : Prop := (∀ c, c ≠ 36 → c < 47 ∨ 52 < c → I' c = I c) ∧ ∀ j, j ≠ 20 → I' 36 j = I 36 j
theorem zMG_rfl : zMG I I := ⟨fun _ _ _ => rfl, fun _ _ => rfl⟩
theorem zMG_tr {I I1 I2 : Nat → Nat → Int32} (h : zMG I I1) (h' : zMG I1 I2) : zMG I I2 := ⟨fun c h1 h2 => (h'.1 c h1 h2).trans (h.1 c h1 h2), fun j hj => (h'.2 j hj).trans (h.2 j hj)⟩
theorem q_ap : ∀ x, x < 6 → ∀ y, y < 6 → (decide (qn x - qn y = 1) = decide (x = y + 1)) ∧ (decide (qn x - qn y = -1) = decide (y = x + 1)) := by decide +kernel
/-- a row of the model's gets the way -/
def zMR (r k : Nat) (w : List Nat) (I I' : Nat → Nat → Int32) : Prop :=
  I' 41 = qp_up1 (I 41) r (qn k) ∧ (I' 40 = fun j => if r * 40 ≤ j ∧ j < r * 40 + k then qn (zat w (j - r * 40)) else I 40 j) ∧ (∀ c, c ≠ 36 → c ≠ 40 → c ≠ 41 → c < 47 ∨ 52 < c → I' c = I c) ∧ ∀ j, j ≠ 20 → I' 36 j = I 36 j
theorem zMR_G {r k : Nat} {w : List Nat} {I0 I I' : Nat → Nat → Int32} (hf : zMG I0 I) (h : zMR r k w I I') : zMR r k w I0 I' := by
  obtain ⟨h1, h2, h3, h4⟩ := h
  refine ⟨by rw [h1, hf.1 41 (by omega) (by omega)], by rw [h2, hf.1 40 (by omega) (by omega)], fun c g1 g2 g3 g4 => (h3 c g1 g2 g3 g4).trans (hf.1 c g1 g4), fun j hj => (h4 j hj).trans (hf.2 j hj)⟩
theorem zp36 : ∀ k, k ≤ 3 → 36 ^ k ≤ 46656 := fun k hk => Nat.le_trans (Nat.pow_le_pow_right (by decide) hk) (by decide : 36 ^ 3 ≤ 46656)
end WI

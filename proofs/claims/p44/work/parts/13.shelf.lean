/-! AN INDEX THAT IS IN ITS ROW -/
theorem qp_vin {i c : Int32} {n : Nat} (hc : c.toInt = (n : Int)) (h1 : 0 ≤ i) (h2 : i < c) : vp_in i n := by
  rw [vp_in_iff]
  rw [Int32.le_iff_toInt_le] at h1
  rw [Int32.lt_iff_toInt_lt, hc] at h2
  have e0 : (0 : Int32).toInt = 0 := rfl
  rw [e0] at h1
  exact ⟨h1, h2⟩

/-! THE MODEL'S LINE: rows of places, moves, tickets given back -/
def zrow (off : Nat) (s : List Nat) (R : Nat → Int32) : Prop := ∀ p, p < s.length → R (off + p) = qn (zat s p)
/-- only some places of one cell are other ones -/
def zfr (c lo hi : Nat) (I I' : Nat → Nat → Int32) : Prop := (∀ c', c' ≠ c → I' c' = I c') ∧ (∀ j, j < lo ∨ hi ≤ j → I' c j = I c j)
theorem zfr_rfl {c lo hi : Nat} {I : Nat → Nat → Int32} : zfr c lo hi I I := ⟨fun _ _ => rfl, fun _ _ => rfl⟩
theorem zfr_tr {c lo hi : Nat} {I I1 I2 : Nat → Nat → Int32} (h : zfr c lo hi I I1) (h' : zfr c lo hi I1 I2) : zfr c lo hi I I2 := ⟨fun c' hc => (h'.1 c' hc).trans (h.1 c' hc), fun j hj => (h'.2 j hj).trans (h.2 j hj)⟩
theorem zfr_wd {c lo hi lo' hi' : Nat} {I I' : Nat → Nat → Int32} (h : zfr c lo hi I I') (h1 : lo' ≤ lo) (h2 : hi ≤ hi') : zfr c lo' hi' I I' := ⟨h.1, fun j hj => h.2 j (by omega)⟩
theorem zfr_up {c lo hi j : Nat} {I : Nat → Nat → Int32} {v : Int32} (h1 : lo ≤ j) (h2 : j < hi) : zfr c lo hi I (qp_up I c j v) := ⟨fun c' hc => qm_nk (Ne.symm hc), fun j' hj => qm_nj (by omega)⟩
theorem zrow_fr {c lo hi off : Nat} {s : List Nat} {I I' : Nat → Nat → Int32} (h : zfr c lo hi I I') (hr : zrow off s (I c)) (ho : off + s.length ≤ lo ∨ hi ≤ off) : zrow off s (I' c) := fun p hp => by rw [h.2 _ (by omega)]; exact hr p hp

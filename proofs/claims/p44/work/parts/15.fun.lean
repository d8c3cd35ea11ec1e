/-! METHODS AS FUNCTIONS of ints and longs: none where the machine would throw or the fuel ends -/
def qp_gd {β : Type} (c : Prop) [Decidable c] (x : Option β) : Option β := if c then x else none
theorem qp_gd_s {β : Type} {c : Prop} [Decidable c] {x : Option β} {r : β} (h : qp_gd c x = some r) : c ∧ x = some r := by
  unfold qp_gd at h
  split at h
  · next hc => exact ⟨hc, h⟩
  · cases h
theorem qp_gd_t {β : Type} {c : Prop} [Decidable c] {x : Option β} (h : c) : qp_gd c x = x := if_pos h
def qp_bd {α β : Type} (x : Option (α × (Nat → Nat → Int32) × (Nat → Nat → Int64))) (k : α → (Nat → Nat → Int32) → (Nat → Nat → Int64) → Option β) : Option β := match x with
  | some (v, I, J) => k v I J
  | none => none
theorem qp_bd_s {α β : Type} {x : Option (α × (Nat → Nat → Int32) × (Nat → Nat → Int64))} {k : α → (Nat → Nat → Int32) → (Nat → Nat → Int64) → Option β} {r : β} (h : qp_bd x k = some r) : ∃ v I J, x = some (v, I, J) ∧ k v I J = some r := by
  cases x with
  | none => cases h
  | some q => exact ⟨q.1, q.2.1, q.2.2, rfl, h⟩
theorem qp_bd_t {α β : Type} {v : α} {I : Nat → Nat → Int32} {J : Nat → Nat → Int64} {k : α → (Nat → Nat → Int32) → (Nat → Nat → Int64) → Option β} : qp_bd (some (v, I, J)) k = k v I J := rfl
theorem qp_ift {β : Type} {c : Prop} [Decidable c] {a b x : β} (hc : c) (h : (if c then a else b) = x) : a = x := by rw [if_pos hc] at h; exact h
theorem qp_iff {β : Type} {c : Prop} [Decidable c] {a b x : β} (hc : ¬ c) (h : (if c then a else b) = x) : b = x := by rw [if_neg hc] at h; exact h
theorem qp_nar01 {v : Int32} (h : v = 0 ∨ v = 1) : narrow .boolean (.int v) = .int v := by
  rcases h with rfl | rfl <;> rfl
/-- arraycopy between two int[] -/
abbrev qp_cpok (sp dp n : Int32) (n0 n1 : Nat) : Prop := ¬ sp < 0 ∧ ¬ dp < 0 ∧ ¬ n < 0 ∧ sp.toNatClampNeg + n.toNatClampNeg ≤ n0 ∧ dp.toNatClampNeg + n.toNatClampNeg ≤ n1
def qp_cpy (f : Nat → Nat → Int32) (r0 r1 : Nat) (sp dp n : Int32) : Nat → Nat → Int32 := fun k j => bif Nat.beq r1 k then va_cpy (f r0) (f r1) sp.toNatClampNeg dp.toNatClampNeg n.toNatClampNeg j else f k j
/-- the locals that are still asked for -/
def qp_msk : List Bool → List (Option Value) → List (Option Value)
  | true :: b, x :: t => x :: qp_msk b t
  | false :: b, _ :: t => none :: qp_msk b t
  | _, t => t
theorem qp_msk_len : ∀ (b : List Bool) (L : List (Option Value)), (qp_msk b L).length = L.length
  | true :: b, x :: t => by simp [qp_msk, qp_msk_len b t]
  | false :: b, x :: t => by simp [qp_msk, qp_msk_len b t]
  | [], L => by cases L <;> rfl
  | true :: b, [] => rfl
  | false :: b, [] => rfl
theorem qp_msk_at : ∀ (b : List Bool) (L : List (Option Value)) (i : Nat) (v : Value), (qp_msk b L)[i]? = some (some v) → L[i]? = some (some v)
  | true :: b, x :: t, 0, v, h => h
  | true :: b, x :: t, i + 1, v, h => by
    simp only [List.getElem?_cons_succ]
    exact qp_msk_at b t i v (by simpa [qp_msk] using h)
  | false :: b, x :: t, 0, v, h => by simp [qp_msk] at h
  | false :: b, x :: t, i + 1, v, h => by
    simp only [List.getElem?_cons_succ]
    exact qp_msk_at b t i v (by simpa [qp_msk] using h)
  | [], L, i, v, h => by cases L <;> exact h
  | true :: b, [], i, v, h => h
  | false :: b, [], i, v, h => h
section QPF
variable {l : Launch} {G : qp_G} {d mi : Nat} {M0 : qp_M} {mc ms : Nat} {Q : Option Value → qp_M → Prop} {K : List (List (Nat × Instr × Int32 × Nat))}
theorem qp_E_fg (b : List Bool) {pc : Nat} {L : List (Option Value)} {st : List Value} {M : qp_M} (k : qp_E l G d mi M0 mc ms Q (pc, qp_msk b L, st, M)) : qp_E l G d mi M0 mc ms Q (pc, L, st, M) := by
  intro p e s m args below meth cd ad0 X hr hlk ad H locs ls g1 g2 hP hD hS hls
  exact k p e s m args below meth cd ad0 X hr hlk ad H locs ls g1 g2 hP hD hS ⟨hls.1, hls.2.1, (qp_msk_len b L).trans hls.2.2.1, fun i v q => hls.2.2.2 i v (qp_msk_at b L i v q)⟩
theorem qp_E_pc {pc pc' : Nat} (e : pc = pc') {L : List (Option Value)} {st : List Value} {M : qp_M} (k : qp_E l G d mi M0 mc ms Q (pc', L, st, M)) : qp_E l G d mi M0 mc ms Q (pc, L, st, M) := by
  subst e; exact k
theorem qp_swt_df {df lo hi : Int} {lo' hi' : Int32} {offs : Array Int} {pc pc' : Nat} {x : Int32} (e : lo'.toInt = lo ∧ hi'.toInt = hi) (hp : ((pc : Int) + df).toNat = pc') (h : x < lo' ∨ hi' < x) : qp_swt df lo hi offs pc x = pc' := by
  unfold qp_swt
  rw [if_pos, hp]
  rw [← e.1, ← e.2]
  rcases h with h | h
  · exact Or.inl (Int32.lt_iff_toInt_lt.mp h)
  · exact Or.inr (Int32.lt_iff_toInt_lt.mp h)
theorem qp_cpy_e {G : qp_G} {M : qp_M} {ad : Nat → Nat} {r0 r1 : Nat} {sp dp n : Int32} (hb : (M.2.2.2.1 r1).1 = 50) : qp_e G (qp_cpy M.1 r0 r1 sp dp n, M.2) ad r1 = .inl (G.2.1, ((M.2.2.2.1 r1).2, .inl (va_cpy (M.1 r0) (M.1 r1) sp.toNatClampNeg dp.toNatClampNeg n.toNatClampNeg))) := by
  refine (qp_e_int (M := (qp_cpy M.1 r0 r1 sp dp n, M.2)) hb).trans ?_
  have e : qp_cpy M.1 r0 r1 sp dp n r1 = va_cpy (M.1 r0) (M.1 r1) sp.toNatClampNeg dp.toNatClampNeg n.toNatClampNeg := by
    funext j; unfold qp_cpy; rw [show Nat.beq r1 r1 = true from Nat.beq_refl r1]; rfl
  show Sum.inl (G.2.1, ((M.2.2.2.1 r1).2, Sum.inl (qp_cpy M.1 r0 r1 sp dp n r1))) = _
  rw [e]
theorem qp_cpy_row {f : Nat → Nat → Int32} {r0 r1 : Nat} {sp dp n : Int32} {k : Nat} (h : k ≠ r1) : qp_cpy f r0 r1 sp dp n k = f k := by
  funext j
  unfold qp_cpy
  have h0 : Nat.beq r1 k = false := Bool.eq_false_iff.mpr (fun q => h (Nat.eq_of_beq_eq_true q).symm)
  rw [h0]; rfl
end QPF
/-! what simplifies them -/
theorem qp_up_lit {α : Type} {f : Nat → Nat → α} {k j : Nat} {v : α} {k' j' : Nat} : qp_up f k j v k' j' = bif Nat.beq k k' && Nat.beq j j' then v else f k' j' := rfl
theorem qp_some3 {α β γ : Type} {a a' : α} {b b' : β} {c c' : γ} (h : some (a, b, c) = some (a', b', c')) : a = a' ∧ b = b' ∧ c = c' := by
  have q := Option.some.inj h
  exact ⟨congrArg (fun x => x.1) q, congrArg (fun x => x.2.1) q, congrArg (fun x => x.2.2) q⟩

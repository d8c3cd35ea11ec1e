/-! OVER MORE CELLS: what a method of the class does to its 36 cells, the law's rows beside them -/
def qp_g (I I' : Nat → Nat → Int32) : Nat → Nat → Int32 := fun k j => bif Nat.blt k 36 then I' k j else I k j
theorem qp_g_lo {I I' : Nat → Nat → Int32} {k : Nat} (h : k < 36) : qp_g I I' k = I' k := by
  funext j
  unfold qp_g
  rw [show Nat.blt k 36 = true from Nat.ble_eq_true_of_le h]; rfl
theorem qp_g_hi {I I' : Nat → Nat → Int32} {k : Nat} (h : 36 ≤ k) : qp_g I I' k = I k := by
  funext j
  unfold qp_g
  rw [show Nat.blt k 36 = false from Bool.eq_false_iff.mpr (fun q => by have := Nat.le_of_ble_eq_true q; omega)]; rfl
theorem qp_S0_hi : ∀ k, k < 41 → 36 ≤ k → (qp_S0 k).1 = 50 := by decide +kernel
theorem qp_lift {l : Launch} {G : qp_G} {d mi : Nat} {av : List Value} {rv : Option Value} {I I' : Nat → Nat → Int32} {J J' : Nat → Nat → Int64} {c q : Nat} (hc : (Nat.ble 36 c && Nat.ble c 41) = true) (h : qp_Met l G d mi av (qp_mk I J) 0 0 (qp_R8 rv I' J')) : qp_Met l G d mi av (qp_mkE c q I J) 0 0 (qp_R8E c q rv (qp_g I I') J') := by
  intro h9 ad sz
  have h9' : (qp_mk I J).2.2.2.2.1 ≤ 900 := by show 36 ≤ 900; omega
  have h0 := h h9' ad sz
  obtain ⟨c1, c2⟩ := qp_and hc
  have c1 := Nat.le_of_ble_eq_true c1
  have c2 := Nat.le_of_ble_eq_true c2
  have hW : ∀ (k : Nat) (x : Nat × va_E), (qp_w G (qp_mk I J) ad)[k]? = some x → (qp_w G (qp_mkE c q I J) ad)[k]? = some x := by
    intro k x hx
    have hk : k < 36 := by
      have := (List.getElem?_eq_some_iff.mp hx).1
      rw [qp_w_len] at this; exact this
    rw [qp_w_at (M := qp_mk I J) hk] at hx
    rw [qp_w_at (M := qp_mkE c q I J) (by show k < c; omega)]
    exact hx
  have hA : ∀ x : Nat, va_A (qp_w G (qp_mk I J) ad) sz x → va_A (qp_w G (qp_mkE c q I J) ad) sz x := by
    intro x hx
    rcases hx with ⟨k, e, hx⟩ | hx
    · exact Or.inl ⟨k, e, hW k _ hx⟩
    · exact Or.inr hx
  intro p e ha hcs hk s m args below hf happ hP hK
  obtain ⟨hv, q0, qP, qK, qD, ⟨qZ, qT, qS⟩, qN⟩ := hP
  obtain ⟨n, o, h1, h2, h3, ⟨⟨r, M', ad', hQ, hoc, hag, ⟨hn, hq, h8⟩, hP', hD'⟩, hz, hkp⟩, Lo, hF, hL⟩ := h0 p e ha hcs hk s m args below hf happ ⟨hv, q0, fun k x hx => qP k x (hW k x hx), qK, ⟨fun i j a b h1 h2 e => qD.1 i j a b (hW i a h1) (hW j b h2) e, fun _ _ _ => trivial⟩, ⟨qZ.narrow hA, qT.narrow hA, qS.narrow hA⟩, qN⟩ hK
  obtain ⟨rfl, rfl⟩ := hQ
  have had : ad' = ad := funext fun k => hag k (by show k < 36 ∨ 36 ≤ k; omega)
  subst had
  have hwl : ∀ (k : Nat) (x : Nat × va_E), (qp_w G (qp_mkE c q (qp_g I I') J') ad')[k]? = some x → k < c ∧ x.1 = ad' k := by
    intro k x hx
    have hk : k < c := by
      have := (List.getElem?_eq_some_iff.mp hx).1
      rw [qp_w_len] at this; exact this
    rw [qp_w_at (M := qp_mkE c q (qp_g I I') J') hk] at hx
    exact ⟨hk, by rw [← Option.some.inj hx]⟩
  refine ⟨n, o, h1, h2, h3, ⟨⟨r, qp_mkE c q (qp_g I I') J', ad', ⟨rfl, rfl⟩, hoc, fun _ _ => rfl, ⟨rfl, rfl, h9⟩, ?_, ?_⟩, hz, fun x hx hnx => hkp x hx (fun z => hnx (hA x z))⟩, Lo, hF, fun x hx => hA _ (hL x hx)⟩
  · intro k x hx
    obtain ⟨hk, -⟩ := hwl k x hx
    rw [qp_w_at (M := qp_mkE c q (qp_g I I') J') hk] at hx
    have hx := Option.some.inj hx
    subst hx
    by_cases h36 : k < 36
    · have e1 := hP' k (ad' k, qp_e G (qp_mk I' J') ad' k) (qp_w_at (M := qp_mk I' J') h36)
      have e2 : qp_e G (qp_mkE c q (qp_g I I') J') ad' k = qp_e G (qp_mk I' J') ad' k := qp_e_same (qp_g_lo h36) rfl rfl rfl
      rw [e2]; exact e1
    · have e1 := qP k (ad' k, qp_e G (qp_mkE c q I J) ad' k) (qp_w_at (M := qp_mkE c q I J) hk)
      have e2 : qp_e G (qp_mkE c q (qp_g I I') J') ad' k = qp_e G (qp_mkE c q I J) ad' k := by
        have h5 := qp_S0_hi k (by omega) (by omega)
        rw [qp_e_int (M := qp_mkE c q (qp_g I I') J') h5, qp_e_int (M := qp_mkE c q I J) h5]
        show Sum.inl (G.2.1, ((qp_S0 k).2, Sum.inl (qp_g I I' k))) = _
        rw [qp_g_hi (by omega)]
      rw [e2]
      refine e1.kept (hkp (ad' k) e1.lt ?_)
      rintro (⟨k', e', hx'⟩ | hx')
      · have hk' : k' < 36 := by
          have := (List.getElem?_eq_some_iff.mp hx').1
          rw [qp_w_len] at this; exact this
        have := qD.1 k' k _ _ (hW k' _ hx') (qp_w_at (M := qp_mkE c q I J) (ad := ad') hk) rfl
        omega
      · have := e1.lt
        rw [q0] at this
        exact absurd hx' (by show ¬ sz ≤ ad' k; exact Nat.not_le.mpr this)
  · refine ⟨fun i j a b h1 h2 e => ?_, fun k x hx => ?_⟩
    · obtain ⟨i1, i2⟩ := hwl i a h1
      obtain ⟨j1, j2⟩ := hwl j b h2
      exact qD.1 i j _ _ (qp_w_at (M := qp_mkE c q I J) (ad := ad') i1) (qp_w_at (M := qp_mkE c q I J) (ad := ad') j1) (by rw [← i2, ← j2]; exact e)
    · obtain ⟨k1, k2⟩ := hwl k x hx
      rw [k2]
      exact Or.inl ⟨k, _, qp_w_at (M := qp_mkE c q I J) (ad := ad') k1⟩
/-! the script -/
section QPD
variable {l : Launch} {G : qp_G} {d mi : Nat} {M0 : qp_M} {mc ms : Nat} {Q : Option Value → qp_M → Prop} {K : List (List (Nat × Instr × Int32 × Nat))}
theorem qp_ld_E (hK : qp_ok (qp_o mi) (qp_b mi) K) {pc t : Nat} {v i : Int32} {L : List (Option Value)} {st : List Value} {M : qp_M} (hf : qp_ft8 K pc = some (.iaload, v, t)) (hi : vp_in i G.2.2.2.2.1) (k : qp_E l G d mi M0 mc ms Q (pc + 1, L, .int (G.2.2.2.2.2 i.toNatClampNeg) :: st, M)) : qp_E l G d mi M0 mc ms Q (pc, L, .int i :: .ref 2000 :: st, M) := by
  intro p e s m args below meth cd ad0 X hr hlk ad H locs ls g1 g3 hP hD hS hl
  obtain ⟨hx, hb, hml, hown, hts, hin, hKk, hA, ⟨hZ, hT, hSc⟩, hN⟩ := id X
  have h9 : M.2.2.2.2.1 ≤ 900 := g3.2.2
  have g2 : ad 2000 = ad0 2000 := g1 2000 (Or.inr (by show M.2.2.2.2.1 ≤ 2000; omega))
  have k0 := k p e s m args below meth cd ad0 X hr hlk ad H locs ls g1 g3 hP hD hS hl
  exact va_ti (t := ad 2000) (N := G.2.2.2.2.1) (f := fun j => .int (G.2.2.2.2.2 j)) (v := .int (G.2.2.2.2.2 i.toNatClampNeg)) hx hb (by rw [g2]; exact hSc) hS hi rfl (hK _ _ hf).1 k0
theorem qp_al_E (hK : qp_ok (qp_o mi) (qp_b mi) K) {pc t : Nat} {v : Int32} {L : List (Option Value)} {st : List Value} {M : qp_M} (hf : qp_ft8 K pc = some (.arraylength, v, t)) (k : qp_E l G d mi M0 mc ms Q (pc + 1, L, .int (Int32.ofNat G.2.2.2.2.1) :: st, M)) : qp_E l G d mi M0 mc ms Q (pc, L, .ref 2000 :: st, M) := by
  intro p e s m args below meth cd ad0 X hr hlk ad H locs ls g1 g3 hP hD hS hl
  obtain ⟨hx, hb, hml, hown, hts, hin, hKk, hA, ⟨hZ, hT, hSc⟩, hN⟩ := id X
  have h9 : M.2.2.2.2.1 ≤ 900 := g3.2.2
  have g2 : ad 2000 = ad0 2000 := g1 2000 (Or.inr (by show M.2.2.2.2.1 ≤ 2000; omega))
  have k0 := k p e s m args below meth cd ad0 X hr hlk ad H locs ls g1 g3 hP hD hS hl
  exact va_tlen (t := ad 2000) hx hb (by rw [g2]; exact hSc) hS rfl (hK _ _ hf).1 k0
end QPD
def fW_cell (G : qp_G) (p1 : Int32) (I : Nat → Nat → Int32) (J : Nat → Nat → Int64) : Option (Int32 × (Nat → Nat → Int32) × (Nat → Nat → Int64)) :=
  qp_gd (0 ≤ p1 ∧ G.2.2.2.2.1 ≤ 260) <| if Int32.ofNat G.2.2.2.2.1 ≤ p1 then some ((-1676768693) * (p1 + 569), I, J) else some (G.2.2.2.2.2 p1.toNatClampNeg, I, J)
theorem gW_cell (l : Launch) (G : qp_G) (p1 : Int32) (I : Nat → Nat → Int32) (J : Nat → Nat → Int64) {v : Int32} {I' : Nat → Nat → Int32} {J' : Nat → Nat → Int64} (h : fW_cell G p1 I J = some (v, I', J')) {d : Nat} (hd : 1 ≤ d) : qp_Met l G d 131 [.ref 2000, .int p1] (qp_mk I J) 0 0 (qp_R8 (some (.int v)) I' J') := by
  have hd1 : Nat.ble 1 d = true := Nat.ble_eq_true_of_le hd
  refine qp_Met_of (by decide) (by rw [qp_r131.2]; rfl) [some (.ref 2000), some (.int p1)] (by rw [qp_r131.2]; rfl) ?_
  unfold fW_cell at h
  obtain ⟨⟨h1, h2⟩, h⟩ := qp_gd_s h
  refine qp_run_E qp_ok131 2 (c' := (2, [some (.ref 2000), some (.int p1)], [.ref 2000, .int p1], qp_mk I J)) (by with_unfolding_all rfl) hd1 trivial ?_
  refine qp_al_E qp_ok131 rfl ?_
  refine qp_br_E qp_ok131 (f := Int32.ofNat G.2.2.2.2.1 ≤ p1) (ct := (12, [some (.ref 2000), some (.int p1)], [], qp_mk I J)) (cf := (6, [some (.ref 2000), some (.int p1)], [], qp_mk I J)) (by with_unfolding_all rfl) (fun h3 => ?_) (fun h3 => ?_)
  · replace h := qp_ift h3 h
    refine qp_run_E qp_ok131 5 (c' := (20, [some (.ref 2000), some (.int p1)], [.int ((-1676768693) * (p1 + 569))], qp_mk I J)) (by with_unfolding_all rfl) hd1 trivial ?_
    obtain ⟨rfl, rfl, rfl⟩ := qp_some3 h
    exact qp_retI_E qp_ok131 rfl qp_r131.1 ⟨rfl, rfl⟩ ⟨rfl, rfl⟩
  · replace h := qp_iff h3 h
    refine qp_run_E qp_ok131 2 (c' := (8, [some (.ref 2000), some (.int p1)], [.int p1, .ref 2000], qp_mk I J)) (by with_unfolding_all rfl) hd1 trivial ?_
    refine qp_ld_E qp_ok131 rfl (qp_in_of (Nat.lt_of_le_of_lt h2 (by decide)) (fun q => Int32.not_lt.mpr h1 q) h3) ?_
    refine qp_run_E qp_ok131 1 (c' := (20, [some (.ref 2000), some (.int p1)], [.int (G.2.2.2.2.2 p1.toNatClampNeg)], qp_mk I J)) (by with_unfolding_all rfl) hd1 trivial ?_
    obtain ⟨rfl, rfl, rfl⟩ := qp_some3 h
    exact qp_retI_E qp_ok131 rfl qp_r131.1 ⟨rfl, rfl⟩ ⟨rfl, rfl⟩

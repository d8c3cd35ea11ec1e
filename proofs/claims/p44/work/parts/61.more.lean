/-! CALLS: count, digest, lots, sets, sure, odds, mid, duel -/
section XD
variable {n L0 : Nat} {K P : Nat → Nat} {ds : List Nat} {kp : Nat → Option (List Nat)} {I : Nat → Nat → Int32} {J : Nat → Nat → Int64}
/-- behind a serving -/
theorem xR_sv (h : xR n L0 K P ds kp I) : ∃ I1, fL_serve (qn (zpk (zls n (zrun n L0 ds).1))) I J = some ((), I1, J) ∧ zXV K P (zls n (zrun n L0 ds).1) (zrun n L0 ds).2 I1 ∧ (∀ c, c < 18 ∨ 22 < c → I1 c = I c) ∧ xR n L0 K P ds kp I1 := by
  have hP := xR_P h
  have hok := xR_ok h
  obtain ⟨hS, hz, ⟨h1, h2, h3⟩, h4⟩ := id h
  obtain ⟨I1, a1, a2, a3⟩ := eL_sv (J := J) hP hS.1 (zSt_kx hS h2) h3.1 h3.2.2.1 hok.2.2
  exact ⟨I1, a1, a2, a3, xR_eq h (fun c hc => a3 c (by unfold xlc at hc; omega))⟩
theorem xc_count {w : Nat} (h : xR n L0 K P ds kp I) (hw : w ≤ 11) : ∃ I1, fX_count (qn w) I J = some (qn (zam n K P (zls n (zrun n L0 ds).1) (zrun n L0 ds).2 (zrun n L0 ds).1.length ds.length (zthr I 2) (zthr I 5) (zthr I 8) w), I1, J) ∧ ∀ c, c < 36 → xqc c → I1 c = I c := by
  obtain ⟨I1, a1, a2, a3, a4⟩ := xR_sv (J := J) h
  have h3 := h.2.2.1.2.2
  obtain ⟨hS, hz, hX, hK⟩ := a4
  have et := eX_amount (I := I1) (J := J) (w := w) hS hz.2 hX hK a2 hw
  have e : zthr I1 2 = zthr I 2 ∧ zthr I1 5 = zthr I 5 ∧ zthr I1 8 = zthr I 8 := ⟨by unfold zthr; rw [a3 2 (by omega)], by unfold zthr; rw [a3 5 (by omega)], by unfold zthr; rw [a3 8 (by omega)]⟩
  rw [e.1, e.2.1, e.2.2] at et
  generalize qn (zam n K P (zls n (zrun n L0 ds).1) (zrun n L0 ds).2 (zrun n L0 ds).1.length ds.length (zthr I 2) (zthr I 5) (zthr I 8) w) = v at et ⊢
  refine ⟨I1, ?_, fun c h36 hc => by unfold xqc at hc; exact a3 c (by omega)⟩
  unfold fX_count
  have h11 : qn w ≤ qn 11 := by rw [qn_le (by omega) (by omega)]; omega
  simp (disch := omega) only [h3.2.1, a1, et, qn_l0, qn_l1, qn_l2, qn_l3, qn_l4, qn_l5, qn_l6, qn_l7, qn_l8, qn_l9, qn_l10, qn_l11, qn_l12, qn_l13, qn_l14, qn_l15, qn_l16, qn_l17, qn_l18, qn_l19, qn_l20, qn_l21, qn_l22, qn_l23, qn_l24, qn_l26, qn_l27, qn_l28, qn_l31, qn_l32, qn_l33, qn_l34, qn_l36, qn_l37, qn_l38, qn_l39, qn_l40, qn_l47, qn_l48, qn_l49, qn_l50, qn_l51, qn_l54, qn_l55, qn_l56, qn_l57, qn_l60, qn_l63, qn_l64, qn_l69, qn_l70, qn_l75, qn_l99, qn_l100, qn_l103, qn_l111, qn_l112, qn_l113, qn_l115, qn_l117, qn_l120, qn_l127, qn_l128, qn_l200, qn_l225, qn_l240, qn_l255, qn_l256, qn_l300, qn_l720, qn_l1000, qn_l48271, qn_l1000000, qn_l2147483646, qn_l2147483647, qn_add, qn_mul, qn_sub, qn_addneg, qn_div, qn_mod, qn_modn, qn_lt, qn_le, qn_eq, qn_nat, qn_m1, qn_m1', qn_c1, qn_g1, qn_g1', qn_c1', qn_and, qn_or, qn_shl1, qn_shr1, qn_64, ql_32, ql_add, ql_mul, ql_sub, ql_div, ql_mod, ql_lt, ql_le, ql_eq, ql_l0, ql_l1, qp_gd_T, qp_bd_t, ↓reduceIte, qt_le, qf_le, qt_lt, qf_lt, qt_eq, qf_eq, and_self, not_true_eq_false, not_false_eq_true, true_and, and_true, or_true, true_or, or_false, false_or, and_false, false_and, Nat.reduceAdd, Nat.reduceMul, Nat.reduceSub, Nat.reduceDiv, Nat.reduceMod, Nat.reducePow, Nat.zero_add, Nat.add_zero, Nat.zero_le, Nat.mul_zero, Nat.zero_mul, qm_nk, qm_eq, qm_nj]
def xdg (n L0 : Nat) (K P : Nat → Nat) (ds : List Nat) (I : Nat → Nat → Int32) : Int64 :=
  zdr (I 5) (I 6) 60 4 0 (zdr (I 2) (I 3) 40 6 0 (zdg (fun k => Int32.toInt64 (I 8 k)) 3 0 (zdt (zrun n L0 ds).1 (zrun n L0 ds).1.length 0 (zdg2 (fun i w => Int32.toInt64 (qn (zone n K P (zls n (zrun n L0 ds).1) (zrun n L0 ds).2 i w))) n 0 (zdg (fun w => Int32.toInt64 (qn (zam n K P (zls n (zrun n L0 ds).1) (zrun n L0 ds).2 (zrun n L0 ds).1.length ds.length (zthr I 2) (zthr I 5) (zthr I 8) w))) 12 0 17)))))
theorem xdg_eq {I' : Nat → Nat → Int32} (e2 : I' 2 = I 2) (e3 : I' 3 = I 3) (e5 : I' 5 = I 5) (e6 : I' 6 = I 6) (e8 : I' 8 = I 8) : xdg n L0 K P ds I' = xdg n L0 K P ds I := by
  unfold xdg zthr
  rw [e2, e3, e5, e6, e8]
theorem xc_digest (h : xR n L0 K P ds kp I) : ∃ I1, fX_digest I J = some (xdg n L0 K P ds I, I1, J) ∧ ∀ c, c < 36 → xqc c → I1 c = I c := by
  have hP := xR_P h
  have hok := xR_ok h
  obtain ⟨I1, a1, a2, a3, a4⟩ := xR_sv (J := J) h
  have h3 := h.2.2.1.2.2
  obtain ⟨hS, ⟨⟨b1, b4, b7⟩, hs2, hs5⟩, hX1, hK1⟩ := a4
  have hn := hS.1
  obtain ⟨x1, x2, x0, x3, x4, x5, x6, x7, x8⟩ := id hX1
  have hT6 : zT 6 (zrun n L0 ds).1 := fun t ht => ⟨by have := (hok.1 t ht).1; omega, by have := (hok.1 t ht).2; omega⟩
  refine ⟨I1, ?_, fun c h36 hc => by unfold xqc at hc; exact a3 c (by omega)⟩
  rw [← xdg_eq (I' := I1) (a3 2 (by omega)) (a3 3 (by omega)) (a3 5 (by omega)) (a3 6 (by omega)) (a3 8 (by omega))]
  unfold fX_digest xdg
  rw [h3.2.1, a1, qp_bd_t]
  refine (eX_dig20 (I := I1) (J := J) (h := 17) (f := fun w => qn (zam n K P (zls n (zrun n L0 ds).1) (zrun n L0 ds).2 (zrun n L0 ds).1.length ds.length (zthr I1 2) (zthr I1 5) (zthr I1 8) w)) (fun w hw => eX_amount hS ⟨hs2, hs5⟩ hX1 hK1 a2 hw)).trans ?_
  refine (eX_dig47 (I := I1) (J := J) (g := fun i w => qn (zone n K P (zls n (zrun n L0 ds).1) (zrun n L0 ds).2 i w)) hn x0 (fun i hi w hw => eX_trait hP hn hi hw (x2 i hi) x0 x3 a2)).trans ?_
  refine (eX_dig100 (I := I1) (J := J) hok.2.1 hT6 x5 x7).trans ?_
  refine (eX_dig157 (I := I1) (J := J) (fun _ _ => rfl)).trans ?_
  rw [eS1_dig b1 hs2, qp_bd_t, eS4_dig b4 hs5, qp_bd_t]
theorem zlots_len : ∀ (m it : Nat) (ds : List Nat), (zlots n L0 m it ds).length = ds.length + m
  | 0, it, ds => rfl
  | m + 1, it, ds => by
    show (zlots n L0 m _ _).length = _
    rw [zlots_len m, List.length_append]
    show ds.length + 1 + m = _
    omega
theorem xc_lots {m sd : Nat} (h : xR n L0 K P ds kp I) (hn0 : 0 < n) (hm1 : 1 ≤ m) (hm : m ≤ 20) (hs1 : 1 ≤ sd) (hs : sd < 2147483647) (h40 : ds.length + m ≤ 40) :
    ∃ I1 ds', fX_lots (qn m) (qn sd) I J = some (qn ((zrun n L0 ds').2 - zE K P (zls n (zrun n L0 ds').1) (zrun n L0 ds').2), I1, J) ∧ ds'.length = ds.length + m ∧ (∀ c, c ≠ 14 → c ≠ 23 → c ≠ 24 → c < 18 ∨ 22 < c → I1 c = I c) ∧ xR n L0 K P ds' kp I1 := by
  obtain ⟨hS, ⟨⟨b1, b2, b3⟩, b4, b5⟩, hX, hK⟩ := id h
  have hn := hS.1
  have e0 : I 15 0 = qn n := hX.2.2.1
  have e5 : I 14 5 = qn ds.length := hX.2.2.2.2.2.2.1
  have hd := hS.2.2.2.1.1
  have c1 : ¬ qn m < 1 := by show ¬ qn m < qn 1; rw [qn_lt (by omega) (by omega)]; omega
  have c2 : ¬ 20 < qn m := by show ¬ qn 20 < qn m; rw [qn_lt (by omega) (by omega)]; omega
  have c3 : ¬ qn sd < 1 := by show ¬ qn sd < qn 1; rw [qn_lt (by omega) (by omega)]; omega
  have c4 : qn sd < 2147483647 := by show qn sd < qn 2147483647; rw [qn_lt (by omega) (by omega)]; omega
  have c5 : ¬ qn n = 0 := by show ¬ qn n = qn 0; rw [qn_eq (by omega) (by omega)]; omega
  have c6 : qn ds.length + qn m ≤ 40 := by show qn ds.length + qn m ≤ qn 40; rw [qn_add, qn_le (by omega) (by omega)]; exact h40
  obtain ⟨I1, a1, a2, a3, a4⟩ := eX_lots_b (J := J) (m := m) (it := sd) hS (by omega) h40 hs hX
  refine ⟨I1, zlots n L0 m sd ds, ?_, zlots_len m sd ds, a4, a2, ⟨⟨?_, ?_, ?_⟩, ?_, ?_⟩, ⟨?_, ?_, a3⟩, ?_⟩
  · unfold fX_lots
    rw [if_neg c1, if_neg c2, if_neg c3, if_pos c4, e0, if_pos c5, e5, if_pos c6, qn_64 (by omega)]
    exact a1
  · rw [a4 1 (by omega) (by omega) (by omega) (by omega)]; exact b1
  · rw [a4 4 (by omega) (by omega) (by omega) (by omega)]; exact b2
  · rw [a4 7 (by omega) (by omega) (by omega) (by omega)]; exact b3
  · rw [a4 2 (by omega) (by omega) (by omega) (by omega)]; exact b4
  · rw [a4 5 (by omega) (by omega) (by omega) (by omega)]; exact b5
  · rw [a4 15 (by omega) (by omega) (by omega) (by omega)]; exact hX.1
  · rw [a4 16 (by omega) (by omega) (by omega) (by omega), a4 17 (by omega) (by omega) (by omega) (by omega)]; exact hX.2.1
  · unfold zKX at hK ⊢
    rw [a4 8 (by omega) (by omega) (by omega) (by omega), a4 9 (by omega) (by omega) (by omega) (by omega)]; exact hK
/-- the sets that want v together -/
def xsc (n : Nat) (K : Nat → Nat) (s : List Nat) (v : Nat) : Nat → Bool := fun set => decide (zsm (zws K s set) n = v)
theorem xc_sets {v : Nat} (h : xR n L0 K P ds kp I) (hn0 : 0 < n) (hv : v ≤ 20) : ∃ I1, fX_sets (qn v) I J = some (qn 1, I1, qp_up (qp_up J 0 12 (ql (zcnt (xsc n K (zls n (zrun n L0 ds).1) v) (2 ^ n)))) 0 13 (ql 1)) ∧ I1 0 11 = zfs (xsc n K (zls n (zrun n L0 ds).1) v) (2 ^ n) ∧ ∀ c, c < 36 → xqc c → I1 c = I c := by
  have hP := xR_P h
  obtain ⟨I1, a1, a2, a3, -⟩ := xR_sv (J := J) h
  obtain ⟨hS, hz, ⟨h1, h2, h3⟩, h4⟩ := h
  have hn := hS.1
  have e0 : I 15 0 = qn n := h3.1
  have c1 : ¬ qn v < 0 := by show ¬ qn v < qn 0; rw [qn_lt (by omega) (by omega)]; omega
  have c2 : qn v ≤ 20 := by show qn v ≤ qn 20; rw [qn_le (by omega) (by omega)]; omega
  have c3 : ¬ qn n = 0 := by show ¬ qn n = qn 0; rw [qn_eq (by omega) (by omega)]; omega
  have x0 : I1 15 0 = qn n := by rw [a3 15 (by omega)]; exact e0
  have h64 := p2_le hn
  generalize hs : zls n (zrun n L0 ds).1 = s at *
  generalize hc : xsc n K s v = c
  have hcT : ∀ set, zsm (zws K s set) n = v → c set = true := fun set q => by rw [← hc]; exact decide_eq_true q
  have hcF : ∀ set, ¬ zsm (zws K s set) n = v → c set = false := fun set q => by rw [← hc]; exact decide_eq_false q
  have hb18 : ∀ set, zsm (zws K s set) n ≤ 18 := fun set => by have := zsm_le (f := zws K s set) (n := n) (b := 3) (fun i _ => zws_le); omega
  have bx : fX_sets_b50 100000 (qn v) (-qn 9) (qn 0) (qn 0) I1 J = some (qn 1, qp_up I1 0 11 (zfs c (2 ^ n)), qp_up (qp_up J 0 12 (ql (zcnt c (2 ^ n)))) 0 13 (ql 1)) := by
    refine lp (σ := Int32 × Int32) (R := fun o => o = some (qn 1, qp_up I1 0 11 (zfs c (2 ^ n)), qp_up (qp_up J 0 12 (ql (zcnt c (2 ^ n)))) 0 13 (ql 1))) (Inv := fun j q => q.1 = zfs c j ∧ q.2 = qn (zcnt c j)) (fun fu j q => fX_sets_b50 fu (qn v) q.1 q.2 (qn j) I1 J) (2 ^ n) 100000 0 (-qn 9, qn 0) (Nat.zero_le _) (by omega) ⟨rfl, rfl⟩ ?_ ?_
    · rintro fu ⟨q1, q2⟩ ⟨s1, s2⟩
      dsimp only at s1 s2 ⊢
      have hcl := zcnt_le c (2 ^ n)
      have er := eX_ratio1 (I := qp_up I1 0 11 (zfs c (2 ^ n))) (J := J) (a := zcnt c (2 ^ n)) (by omega)
      rw [fX_sets_b50, x0, q_p2 hn, if_pos (Int32.le_refl _), s1, s2, qn_64 (by omega)]
      unfold fX_tell
      rw [qp_bd_t, show (1 : Int64) = ql 1 from rfl, er, qp_bd_t]
    · rintro fu j ⟨q1, q2⟩ hj ⟨s1, s2⟩
      dsimp only at s1 s2 ⊢
      have hcl := zcnt_le c j
      have hb := hb18 j
      have ew := eV_wantAll (I := I1) (J := J) (set := j) hP hn x0 a2 (by omega)
      have ej : qn j + 1 = qn (j + 1) := qn_add j 1
      have ec : qn (zcnt c j) + 1 = qn (zcnt c j + 1) := qn_add _ 1
      refine Or.inr ⟨(zfs c (j + 1), qn (zcnt c (j + 1))), ⟨rfl, rfl⟩, ?_⟩
      rw [fX_sets_b50, x0, q_p2 hn, if_neg (by rw [qn_le (by omega) (by omega)]; omega), ew, qp_bd_t, ej, s1, s2]
      by_cases hq : zsm (zws K s j) n = v
      · rw [if_neg (by rw [hq]; exact fun q => q rfl), zcnt_T (hcT j hq)]
        by_cases h0 : zcnt c j = 0
        · rw [if_neg (by rw [h0]; exact fun q => q rfl), ec, zfs_T (hcT j hq) h0]
        · rw [if_pos (by show ¬ qn _ = qn 0; rw [qn_eq (by omega) (by omega)]; exact h0), ec, zfs_N h0]
      · rw [if_pos (by rw [qn_eq (by omega) (by omega)]; exact hq), zcnt_F (hcF j hq), zfs_F (hcF j hq)]
  refine ⟨qp_up I1 0 11 (zfs c (2 ^ n)), ?_, qm_eq rfl, fun c h36 hc => by unfold xqc at hc; rw [qm_nk (by omega)]; exact a3 c (by omega)⟩
  unfold fX_sets
  rw [if_neg c1, if_pos c2, e0, if_pos c3, h3.2.1, hs, a1, qp_bd_t]
  exact bx
theorem xc_sure {v : Nat} (h : xR n L0 K P ds kp I) (hn0 : 0 < n) (hv : v ≤ 20) : ∃ I1, (∀ c, c < 36 → xqc c → I1 c = I c) ∧
    ((zcnt (xsc n K (zls n (zrun n L0 ds).1) v) (2 ^ n) = 0 ∧ fX_sure (qn v) I J = some (-qn 3, I1, J)) ∨
     (¬ zcnt (xsc n K (zls n (zrun n L0 ds).1) v) (2 ^ n) = 0 ∧ fX_sure (qn v) I J = some (qn (zie (xsc n K (zls n (zrun n L0 ds).1) v) (2 ^ n - 1) (2 ^ n)), I1, J) ∧ I1 0 11 = (qn (2 ^ n - 1) &&& (qn (zis (xsc n K (zls n (zrun n L0 ds).1) v) (2 ^ n)) ^^^ (-1))))) := by
  have hP := xR_P h
  obtain ⟨I1, a1, a2, a3, -⟩ := xR_sv (J := J) h
  obtain ⟨hS, hz, ⟨h1, h2, h3⟩, h4⟩ := h
  have hn := hS.1
  have e0 : I 15 0 = qn n := h3.1
  have c1 : ¬ qn v < 0 := by show ¬ qn v < qn 0; rw [qn_lt (by omega) (by omega)]; omega
  have c2 : qn v ≤ 20 := by show qn v ≤ qn 20; rw [qn_le (by omega) (by omega)]; omega
  have c3 : ¬ qn n = 0 := by show ¬ qn n = qn 0; rw [qn_eq (by omega) (by omega)]; omega
  have x0 : I1 15 0 = qn n := by rw [a3 15 (by omega)]; exact e0
  have h64 := p2_le hn
  have h2p : 0 < 2 ^ n := Nat.pow_pos (by decide)
  have eall : ((1 : Int32) <<< (qn n &&& 31)) - 1 = qn (2 ^ n - 1) := by
    rw [q_p2 hn]
    show qn (2 ^ n) - qn 1 = _
    rw [qn_sub (by omega)]
  generalize hs : zls n (zrun n L0 ds).1 = s at *
  generalize hc : xsc n K s v = c
  have hcT : ∀ set, zsm (zws K s set) n = v → c set = true := fun set q => by rw [← hc]; exact decide_eq_true q
  have hcF : ∀ set, ¬ zsm (zws K s set) n = v → c set = false := fun set q => by rw [← hc]; exact decide_eq_false q
  have hb18 : ∀ set, zsm (zws K s set) n ≤ 18 := fun set => by have := zsm_le (f := zws K s set) (n := n) (b := 3) (fun i _ => zws_le); omega
  have hcl := zcnt_le c (2 ^ n)
  have bx : fX_sure_b68 100000 (qn v) (qn (2 ^ n - 1)) (qn 0) (qn (2 ^ n - 1)) (qn 0) (qn 0) I1 J = if zcnt c (2 ^ n) = 0 then some (-qn 3, xfd 4 I1, J) else some (qn (zie c (2 ^ n - 1) (2 ^ n)), qp_up I1 0 11 (qn (2 ^ n - 1) &&& (qn (zis c (2 ^ n)) ^^^ (-1))), J) := by
    refine lp (σ := Int32 × Int32 × Int32) (R := fun o => o = if zcnt c (2 ^ n) = 0 then some (-qn 3, xfd 4 I1, J) else some (qn (zie c (2 ^ n - 1) (2 ^ n)), qp_up I1 0 11 (qn (2 ^ n - 1) &&& (qn (zis c (2 ^ n)) ^^^ (-1))), J)) (Inv := fun j q => q.1 = qn (zcnt c j) ∧ q.2.1 = qn (zie c (2 ^ n - 1) j) ∧ q.2.2 = qn (zis c j)) (fun fu j q => fX_sure_b68 fu (qn v) (qn (2 ^ n - 1)) q.1 q.2.1 q.2.2 (qn j) I1 J) (2 ^ n) 100000 0 (qn 0, qn (2 ^ n - 1), qn 0) (Nat.zero_le _) (by omega) ⟨rfl, rfl, rfl⟩ ?_ ?_
    · rintro fu ⟨q1, q2, q3⟩ ⟨s1, s2, s3⟩
      dsimp only at s1 s2 s3 ⊢
      rw [fX_sure_b68, if_pos (by rw [qn_lt (by omega) (by omega)]; omega), s1, s2, s3]
      by_cases h0 : zcnt c (2 ^ n) = 0
      · rw [h0, if_neg (by exact fun q => q rfl), if_pos rfl, show (4 : Int32) = qn 4 from rfl, eX_found (by omega) (by omega), qp_bd_t]
      · rw [if_pos (by show ¬ qn _ = qn 0; rw [qn_eq (by omega) (by omega)]; exact h0), if_neg h0]; rfl
    · rintro fu j ⟨q1, q2, q3⟩ hj ⟨s1, s2, s3⟩
      dsimp only at s1 s2 s3 ⊢
      have hcl := zcnt_le c j
      have hb := hb18 j
      have ew := eV_wantAll (I := I1) (J := J) (set := j) hP hn x0 a2 (by omega)
      have ej : qn j + 1 = qn (j + 1) := qn_add j 1
      have ec : qn (zcnt c j) + 1 = qn (zcnt c j + 1) := qn_add _ 1
      refine Or.inr ⟨(qn (zcnt c (j + 1)), qn (zie c (2 ^ n - 1) (j + 1)), qn (zis c (j + 1))), ⟨rfl, rfl, rfl⟩, ?_⟩
      rw [fX_sure_b68, if_neg (by rw [qn_lt (by omega) (by omega)]; omega), ew, qp_bd_t, ej, s1, s2, s3]
      by_cases hq : zsm (zws K s j) n = v
      · rw [if_neg (by rw [hq]; exact fun q => q rfl), zcnt_T (hcT j hq), zie_T (hcT j hq), zis_T (hcT j hq), ec, qn_and, qn_or]
      · rw [if_pos (by rw [qn_eq (by omega) (by omega)]; exact hq), zcnt_F (hcF j hq), zie_F (hcF j hq), zis_F (hcF j hq)]
  have xrun : fX_sure (qn v) I J = fX_sure_b68 100000 (qn v) (qn (2 ^ n - 1)) (qn 0) (qn (2 ^ n - 1)) (qn 0) (qn 0) I1 J := by
    unfold fX_sure
    rw [if_neg c1, if_pos c2, e0, if_pos c3, h3.2.1, hs, a1, qp_bd_t, x0, eall]; rfl
  by_cases h0 : zcnt c (2 ^ n) = 0
  · rw [if_pos h0] at bx
    exact ⟨xfd 4 I1, fun c h36 hc => by unfold xqc at hc; rw [xfd_ne (by omega) (by omega)]; exact a3 c (by omega), Or.inl ⟨h0, xrun.trans bx⟩⟩
  · rw [if_neg h0] at bx
    exact ⟨_, fun c h36 hc => by unfold xqc at hc; rw [qm_nk (by omega)]; exact a3 c (by omega), Or.inr ⟨h0, xrun.trans bx, qm_eq rfl⟩⟩
theorem xc_odds {i p : Nat} (h : xR n L0 K P ds kp I) (hi : i < n) (hp12 : p ≤ 12) : ∃ I1, fX_odds (qn i) (qn p) I J = some (qn 1, I1, qp_up (qp_up J 0 12 (ql (zsm (zFc n K P (zls n (zrun n L0 ds).1) (zrun n L0 ds).2 p i) (2 ^ n)) / ql (Nat.gcd (zsm (zFc n K P (zls n (zrun n L0 ds).1) (zrun n L0 ds).2 p i) (2 ^ n)) (12 ^ n)))) 0 13 (ql (12 ^ n) / ql (Nat.gcd (zsm (zFc n K P (zls n (zrun n L0 ds).1) (zrun n L0 ds).2 p i) (2 ^ n)) (12 ^ n)))) ∧ zsm (zFc n K P (zls n (zrun n L0 ds).1) (zrun n L0 ds).2 p i) (2 ^ n) ≤ 64 * 59719680 ∧ ∀ c, c < 36 → xqc c → I1 c = I c := by
  have hP := xR_P h
  have hok := xR_ok h
  obtain ⟨hS, hz, ⟨h1, h2, h3⟩, h4⟩ := h
  have hn := hS.1
  obtain ⟨I1, a1, a2⟩ := eN_ofc (J := J) (K := K) (P := P) (i := i) hP hn (zSt_kx hS h2) h3.1 h3.2.1 h3.2.2.1 hok.2.2 hp12 hi
  have x0 : I1 15 0 = qn n := by rw [a2 15 (by omega) (by omega)]; exact h3.1
  have h12 := zpw_le (b := 12) (e := n) (by omega) hn
  have h120 : 0 < 12 ^ n := Nat.pow_pos (by decide)
  have h64 := p2_le hn
  have hF : zsm (zFc n K P (zls n (zrun n L0 ds).1) (zrun n L0 ds).2 p i) (2 ^ n) ≤ 64 * 59719680 := Nat.le_trans (zsm_le (b := 59719680) (fun j _ => zFc_le hn hp12 hP.2.1)) (Nat.mul_le_mul_right _ h64)
  generalize hfs : zsm (zFc n K P (zls n (zrun n L0 ds).1) (zrun n L0 ds).2 p i) (2 ^ n) = fs at hF a1
  have er := eX_ratio (I := I1) (J := J) (a := fs) (b := 12 ^ n) (by omega) (by omega) h120
  generalize hu : ql fs / ql (Nat.gcd fs (12 ^ n)) = u at er
  generalize hv : ql (12 ^ n) / ql (Nat.gcd fs (12 ^ n)) = v at er
  have c1 : ¬ qn p < 0 := by show ¬ qn p < qn 0; rw [qn_lt (by omega) (by omega)]; omega
  have c2 : qn p ≤ 12 := by show qn p ≤ qn 12; rw [qn_le (by omega) (by omega)]; omega
  refine ⟨I1, ?_, hF, fun c h36 hc => by unfold xqc at hc; exact a2 c (by omega) (by omega)⟩
  unfold fX_odds fN_whole
  rw [eC_has h3.1 hn hi, qp_bd_t, if_neg (by decide), if_neg c1, if_pos c2, a1, qp_bd_t, x0, show (12 : Int32) = qn 12 from rfl, eN_power (by omega) (by omega), qp_bd_t, qp_bd_t, er, qp_bd_t]
theorem xc_mid {p : Nat} (h : xR n L0 K P ds kp I) (hn0 : 0 < n) (hp12 : p ≤ 12) : ∃ I1, fX_mid (qn p) I J = some (qn 1, I1, qp_up (qp_up J 0 12 (ql (zsm (zFl n K P (zls n (zrun n L0 ds).1) (zrun n L0 ds).2 p) (2 ^ n)) / ql (Nat.gcd (zsm (zFl n K P (zls n (zrun n L0 ds).1) (zrun n L0 ds).2 p) (2 ^ n)) (12 ^ n)))) 0 13 (ql (12 ^ n) / ql (Nat.gcd (zsm (zFl n K P (zls n (zrun n L0 ds).1) (zrun n L0 ds).2 p) (2 ^ n)) (12 ^ n)))) ∧ zsm (zFl n K P (zls n (zrun n L0 ds).1) (zrun n L0 ds).2 p) (2 ^ n) ≤ 64 * 59719680 ∧ ∀ c, c < 36 → xqc c → I1 c = I c := by
  have hP := xR_P h
  have hok := xR_ok h
  obtain ⟨hS, hz, ⟨h1, h2, h3⟩, h4⟩ := h
  have hn := hS.1
  have e0 : I 15 0 = qn n := h3.1
  obtain ⟨I1, a1, a2⟩ := eN_ofl (J := J) (K := K) (P := P) hP hn (zSt_kx hS h2) h3.1 h3.2.1 h3.2.2.1 hok.2.2 hp12
  have x0 : I1 15 0 = qn n := by rw [a2 15 (by omega) (by omega)]; exact h3.1
  have h12 := zpw_le (b := 12) (e := n) (by omega) hn
  have h120 : 0 < 12 ^ n := Nat.pow_pos (by decide)
  have h64 := p2_le hn
  have hF : zsm (zFl n K P (zls n (zrun n L0 ds).1) (zrun n L0 ds).2 p) (2 ^ n) ≤ 64 * 59719680 := Nat.le_trans (zsm_le (b := 59719680) (fun j _ => zFl_le hn hp12 hP.2.1 hok.2.2)) (Nat.mul_le_mul_right _ h64)
  generalize hfs : zsm (zFl n K P (zls n (zrun n L0 ds).1) (zrun n L0 ds).2 p) (2 ^ n) = fs at hF a1
  have er := eX_ratio (I := I1) (J := J) (a := fs) (b := 12 ^ n) (by omega) (by omega) h120
  generalize hu : ql fs / ql (Nat.gcd fs (12 ^ n)) = u at er
  generalize hv : ql (12 ^ n) / ql (Nat.gcd fs (12 ^ n)) = v at er
  have c1 : ¬ qn p < 0 := by show ¬ qn p < qn 0; rw [qn_lt (by omega) (by omega)]; omega
  have c2 : qn p ≤ 12 := by show qn p ≤ qn 12; rw [qn_le (by omega) (by omega)]; omega
  have c3 : ¬ qn n = 0 := by show ¬ qn n = qn 0; rw [qn_eq (by omega) (by omega)]; omega
  refine ⟨I1, ?_, hF, fun c h36 hc => by unfold xqc at hc; exact a2 c (by omega) (by omega)⟩
  unfold fX_mid fN_whole
  rw [if_neg c1, if_pos c2, e0, if_pos c3, a1, qp_bd_t, x0, show (12 : Int32) = qn 12 from rfl, eN_power (by omega) (by omega), qp_bd_t, qp_bd_t, er, qp_bd_t]
theorem xc_duel {i j b : Nat} (h : xR n L0 K P ds kp I) (hi : i < n) (hj : j < n) (hij : ¬ i = j) (hb : b ≤ 2) : ∃ I1, fX_duel (qn i) (qn j) (qn b) I J = some (qn 1, I1, J) ∧ I1 0 11 = zpl n K P (zrun n L0 ds).2 i j (2 * b) (zls n (zrun n L0 ds).1) ∧ ∀ c, c < 36 → xqc c → I1 c = I c := by
  have hP := xR_P h
  have hok := xR_ok h
  obtain ⟨hS, hz, ⟨h1, h2, h3⟩, h4⟩ := h
  have hn := hS.1
  have e0 : I 15 0 = qn n := h3.1
  have c0 : ¬ qn i = qn j := by rw [qn_eq (by omega) (by omega)]; exact hij
  have c1 : ¬ qn b < 0 := by show ¬ qn b < qn 0; rw [qn_lt (by omega) (by omega)]; omega
  have c2 : qn b ≤ 2 := by show qn b ≤ qn 2; rw [qn_le (by omega) (by omega)]; omega
  have eT : (2 : Int32) * qn b = qn (2 * b) := qn_mul 2 b
  obtain ⟨I1, a1, a2⟩ := eT_play (J := J) (K := K) (P := P) (L := (zrun n L0 ds).2) (i := i) (j := j) (I0 := qp_up (qp_up I 33 1 (qn i)) 33 2 (qn j)) hn (by rw [qm_nk (by omega), qm_nk (by omega), qm_nk (k' := 17) (by omega), qm_nk (k' := 17) (by omega)]; exact zSt_kx hS h2) (by rw [qm_nk (by omega), qm_nk (by omega)]; exact e0) (by rw [qm_nk (by omega), qm_nk (by omega)]; exact h3.2.2.1) hok.2.2 hi hj (by rw [qm_nj (by omega)]; exact qm_eq rfl) (qm_eq rfl) (2 * b) 8 (zls n (zrun n L0 ds).1) (qp_up (qp_up I 33 1 (qn i)) 33 2 (qn j)) (by omega) (by omega) hP (fun _ _ => rfl)
  generalize hv : zpl n K P (zrun n L0 ds).2 i j (2 * b) (zls n (zrun n L0 ds).1) = v at a1
  have fx : ∀ c, c ≠ 33 → c < 18 ∨ 22 < c → I1 c = I c := fun c g1 g2 => by rw [a2 c g2, qm_nk (by omega), qm_nk (by omega)]
  refine ⟨qp_up I1 0 11 v, ?_, qm_eq rfl, fun c h36 hc => by unfold xqc at hc; rw [qm_nk (by omega)]; exact fx c (by omega) (by omega)⟩
  unfold fX_duel fT_outcome
  rw [eC_has e0 hn hi, qp_bd_t, if_neg (by decide), eC_has e0 hn hj, qp_bd_t, if_neg (by decide), if_neg c0, if_neg c1, if_pos c2, h3.2.1, eT, a1, qp_bd_t, qp_bd_t]; rfl
end XD

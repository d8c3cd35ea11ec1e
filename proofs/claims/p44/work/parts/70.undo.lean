/-! THE LAW'S BLOCKS, from behind: deeds undone step by step, the end -/
abbrev wS (n L0 : Nat) (d : List Nat) : List Nat := zls n (zrun n L0 d).1
abbrev wL (n L0 : Nat) (d : List Nat) : Nat := (zrun n L0 d).2
abbrev wA (n L0 : Nat) (K P : Nat → Nat) (d : List Nat) : Nat := (zrun n L0 d).2 - zE K P (zls n (zrun n L0 d).1) (zrun n L0 d).2
/-- what holds from the first loop on: the line (deeds ds), what is kept (d0), the text, and the law's rows: who stood where, who got how many -/
def wI (n L0 : Nat) (K P : Nat → Nat) (d0 ds : List Nat) (kp : Nat → Option (List Nat)) (I : Nat → Nat → Int32) : Prop :=
  xR n L0 K P ds kp I ∧ kp 0 = some d0 ∧ wTe n L0 K P I ∧ (∀ p, p < n → I 37 p = qn (zat (wS n L0 d0) p)) ∧ ∀ i, i < n → I 38 i = qn (zG K P (wS n L0 d0) (wL n L0 d0) i)
section LA
variable {G : qp_G} {n L0 : Nat} {K P : Nat → Nat} {d0 ds : List Nat} {kp : Nat → Option (List Nat)} {I I' : Nat → Nat → Int32} {J : Nat → Nat → Int64}
theorem wTe_eq (h : wTe n L0 K P I) (e5 : I' 5 = I 5) (e6 : I' 6 = I 6) : wTe n L0 K P I' := by
  unfold wTe at h ⊢
  rw [e5, e6]; exact h
theorem wI_lq (h : wI n L0 K P d0 ds kp I) (e : lq I I') : wI n L0 K P d0 ds kp I' := by
  obtain ⟨h1, h2, h3, h4, h5⟩ := h
  refine ⟨xR_lq h1 e, h2, wTe_eq h3 (e 5 (by unfold xqc; omega)) (e 6 (by unfold xqc; omega)), ?_, ?_⟩
  · rw [e 37 (by unfold xqc; omega)]; exact h4
  · rw [e 38 (by unfold xqc; omega)]; exact h5
theorem wI_lq' (h : wI n L0 K P d0 ds kp I) (e : ∀ c, c < 39 → xqc c → I' c = I c) : wI n L0 K P d0 ds kp I' := by
  obtain ⟨h1, h2, h3, h4, h5⟩ := h
  refine ⟨xR_eq h1 (fun c hc => e c (by unfold xlc at hc; omega) (by unfold xlc at hc; unfold xqc; omega)), h2, wTe_eq h3 (e 5 (by omega) (by unfold xqc; omega)) (e 6 (by omega) (by unfold xqc; omega)), ?_, ?_⟩
  · rw [e 37 (by omega) (by unfold xqc; omega)]; exact h4
  · rw [e 38 (by omega) (by unfold xqc; omega)]; exact h5
theorem wI_move {ds' : List Nat} (h : wI n L0 K P d0 ds kp I) (e : ∀ c, c ≠ 14 → c ≠ 23 → c ≠ 24 → I' c = I c) (x : xR n L0 K P ds' kp I') : wI n L0 K P d0 ds' kp (qp_g I I') := by
  obtain ⟨h1, h2, h3, h4, h5⟩ := h
  refine ⟨xR_g x, h2, wTe_eq h3 (by rw [qp_g_lo (by omega)]; exact e 5 (by omega) (by omega) (by omega)) (by rw [qp_g_lo (by omega)]; exact e 6 (by omega) (by omega) (by omega)), ?_, ?_⟩
  · rw [qp_g_hi (by omega)]; exact h4
  · rw [qp_g_hi (by omega)]; exact h5
theorem zam_5 {n : Nat} {K P : Nat → Nat} {s : List Nat} {L nt nd : Nat} {cr ct ck : Nat → Bool} : zam n K P s L nt nd cr ct ck 5 = L - zE K P s L := rfl
theorem zam_1 {n : Nat} {K P : Nat → Nat} {s : List Nat} {L nt nd : Nat} {cr ct ck : Nat → Bool} : zam n K P s L nt nd cr ct ck 1 = L := rfl
theorem zam_2 {n : Nat} {K P : Nat → Nat} {s : List Nat} {L nt nd : Nat} {cr ct ck : Nat → Bool} : zam n K P s L nt nd cr ct ck 2 = nt := rfl
theorem zam_3 {n : Nat} {K P : Nat → Nat} {s : List Nat} {L nt nd : Nat} {cr ct ck : Nat → Bool} : zam n K P s L nt nd cr ct ck 3 = nd := rfl
theorem zam_4 {n : Nat} {K P : Nat → Nat} {s : List Nat} {L nt nd : Nat} {cr ct ck : Nat → Bool} : zam n K P s L nt nd cr ct ck 4 = zmask (zaway K P s) n := rfl
theorem zam_6 {n : Nat} {K P : Nat → Nat} {s : List Nat} {L nt nd : Nat} {cr ct ck : Nat → Bool} : zam n K P s L nt nd cr ct ck 6 = zmask (zcont K P s L) n := rfl
/-- a call that only asks, over the law's memory -/
theorem lq_c {I1 : Nat → Nat → Int32} (c : ∀ c, c < 36 → xqc c → I1 c = I c) : lq I (qp_g I I1) := lq_g c
theorem wb2191 {kc : Int32 → Int32 → Int32 → Int32 → Int32 → (Nat → Nat → Int32) → (Nat → Nat → Int64) → Option Unit} {a3 a4 a10 a27 s : Int32} {k : Nat} (hn : 0 < n) (h : wI n L0 K P d0 ds kp I) (hk : k < 16) (e39 : I 39 k = qn (zat (wS n L0 ds) 0)) (e40 : I 40 k = qn (wA n L0 K P ds)) :
    ∃ I', lq I I' ∧ fW_law_b2191 G kc a3 a4 a10 a27 (qn k) s s I J = kc a3 a4 a10 a27 (qn k + (-1)) I' J := by
  have gk : (0 : Int32) ≤ qn k ∧ qn k < 16 := by
    show qn 0 ≤ qn k ∧ qn k < qn 16
    rw [qn_le (by omega) (by omega), qn_lt (by omega) (by omega)]; omega
  obtain ⟨I1, a1, a2⟩ := xc_count (J := J) (w := 5) h.1 (by omega)
  rw [zam_5] at a1
  refine ⟨qp_g I I1, lq_c a2, ?_⟩
  unfold fW_law_b2191
  rw [if_neg (fun q => q rfl), show fX_who 0 I J = _ from xc_who (p := 0) h.1 hn, qp_bd_t, qp_gd_t gk, qn_nat (by omega), qp_g_self, e39, if_neg (fun q => q rfl), show fX_count 5 I J = _ from a1, qp_bd_t, qp_gd_t gk, qp_g_hi (by omega), e40, if_pos rfl]
theorem wb2165 {D : List Nat} {q : Nat} (hok : wOk n L0 K P) (hq : q ≤ 14) (hD : D.length = d0.length + q) (hl : d0.length ≤ 12) (hd : D.take d0.length = d0) :
    ∀ (k1 fuel : Nat) (v : Int32) (I : Nat → Nat → Int32) (J : Nat → Nat → Int64), k1 ≤ q + 1 → k1 < fuel → (v = if k1 = 0 then -1 else qn (k1 - 1)) → wI n L0 K P d0 (D.take (d0.length + min k1 q)) kp I →
      (∀ k, k ≤ q → I 39 k = qn (zat (wS n L0 (D.take (d0.length + k))) 0) ∧ I 40 k = qn (wA n L0 K P (D.take (d0.length + k)))) → fW_law_b2165 G fuel (qn n) (qn d0.length) (qn (2 ^ n - 1)) (qn q) v I J = some () := by
  have hn := hok.1
  have hn6 := hok.2.1
  intro k1
  induction k1 with
  | zero =>
    intro fuel v I J _ hf hv h hA
    obtain ⟨f, rfl⟩ : ∃ f, fuel = f + 1 := ⟨fuel - 1, by omega⟩
    rw [if_pos rfl] at hv
    subst hv
    rw [Nat.zero_min, Nat.add_zero, hd] at h
    clear hA
    have e3 : qn n - 1 = qn (n - 1) := by show qn n - qn 1 = _; rw [qn_sub hn]
    have hcmp : ∀ x : Int64, lg_cmp x x = 0 := fun x => (lg_cmp_eq x x).mpr rfl
    have hz : (zrun n L0 ([] : List Nat)).1.length = 0 := rfl
    have hw : zat (zls n (zrun n L0 ([] : List Nat)).1) (n - 1) = n - 1 := zid_at (by omega)
    obtain ⟨I1, a1, a2⟩ := xc_digest (J := J) h.1
    obtain ⟨M1, hM1⟩ : ∃ M, M = qp_g I I1 := ⟨_, rfl⟩
    have h1 : wI n L0 K P d0 d0 kp M1 := by rw [hM1]; exact wI_lq h (lq_c a2)
    have x1 : ∀ c, 1 ≤ c → c < 10 → M1 c = I c := fun c q1 q2 => by rw [hM1]; exact lq_c a2 c (by unfold xqc; omega)
    obtain ⟨I2, b1, b2, b3⟩ := xc_undo (J := J) (m := 0) h1.1 (Nat.zero_le _)
    obtain ⟨M2, hM2⟩ : ∃ M, M = qp_g M1 I2 := ⟨_, rfl⟩
    have h2 : wI n L0 K P d0 [] kp M2 := by rw [hM2]; exact wI_move h1 b2 b3
    have x2 : ∀ c, 1 ≤ c → c < 10 → M2 c = I c := fun c q1 q2 => by rw [hM2, qp_g_lo (by omega), b2 c (by omega) (by omega) (by omega)]; exact x1 c q1 q2
    obtain ⟨I3, c1, c2⟩ := xc_count (J := J) (w := 2) h2.1 (by omega)
    rw [zam_2, hz] at c1
    obtain ⟨M3, hM3⟩ : ∃ M, M = qp_g M2 I3 := ⟨_, rfl⟩
    have h3 : wI n L0 K P d0 [] kp M3 := by rw [hM3]; exact wI_lq h2 (lq_c c2)
    have x3 : ∀ c, 1 ≤ c → c < 10 → M3 c = I c := fun c q1 q2 => by rw [hM3]; exact (lq_c c2 c (by unfold xqc; omega)).trans (x2 c q1 q2)
    have ew := xc_who (J := J) h3.1 (show n - 1 < n by omega)
    rw [hw] at ew
    obtain ⟨I5, d1, d2, d3⟩ := xc_on (J := J) (k := 0) h3.1 (by omega) h3.2.1
    obtain ⟨M5, hM5⟩ : ∃ M, M = qp_g M3 I5 := ⟨_, rfl⟩
    have h5 : wI n L0 K P d0 d0 kp M5 := by rw [hM5]; exact wI_move h3 d2 d3
    have x5 : ∀ c, 1 ≤ c → c < 10 → M5 c = I c := fun c q1 q2 => by rw [hM5, qp_g_lo (by omega), d2 c (by omega) (by omega) (by omega)]; exact x3 c q1 q2
    obtain ⟨I6, f1, f2⟩ := xc_digest (J := J) h5.1
    rw [xdg_eq (I := I) (x5 2 (by omega) (by omega)) (x5 3 (by omega) (by omega)) (x5 5 (by omega) (by omega)) (x5 6 (by omega) (by omega)) (x5 8 (by omega) (by omega))] at f1
    obtain ⟨M6, hM6⟩ : ∃ M, M = qp_g M5 I6 := ⟨_, rfl⟩
    have h6 : wI n L0 K P d0 d0 kp M6 := by rw [hM6]; exact wI_lq h5 (lq_c f2)
    obtain ⟨I7, g1, g2, g3⟩ := ew_line (J := J) h6.1.2.1 hok h6.2.2.1
    obtain ⟨M7, hM7⟩ : ∃ M, M = qp_g M6 I7 := ⟨_, rfl⟩
    have h7 : xR n L0 K P [] (fun _ => none) M7 := by rw [hM7]; exact xR_g g3
    have k1 := xc_onF (J := J) (k := 0) h7 (by omega) rfl
    obtain ⟨M8, hM8⟩ : ∃ M, M = qp_g M7 (xfd 1 M7) := ⟨_, rfl⟩
    have h8 : xR n L0 K P [] (fun _ => none) M8 := by rw [hM8]; exact xR_eq h7 (fun c hc => by unfold xlc at hc; rw [qp_g_lo (by omega), xfd_ne (by omega) (by omega)])
    obtain ⟨I9, l1, l2⟩ := xc_count (J := J) (w := 3) h8 (by omega)
    rw [zam_3] at l1
    have eb : ∀ M : Nat → Nat → Int32, fW_bits (qn (2 ^ n - 1)) M J = some (qn n, M, J) := fun M => by
      have := ew_bits (I := M) (J := J) n 0 100000 hn6 (by omega)
      rw [Nat.zero_add] at this
      exact this
    rw [fW_law_b2165, if_pos (by decide), a1, qp_bd_t, ← hM1, show fX_undo 0 M1 J = _ from b1, qp_bd_t, ← hM2, Nat.sub_zero, if_neg (fun q => q rfl), show fX_count 2 M2 J = _ from c1, qp_bd_t, ← hM3, if_neg (fun q => q rfl), e3, ew, qp_bd_t, qp_g_self, if_neg (fun q => q rfl), show fX_on 0 M3 J = _ from d1, qp_bd_t, ← hM5, if_neg (fun q => q rfl), f1, qp_bd_t, ← hM6, hcmp, if_neg (fun q => q rfl), g1, qp_bd_t, ← hM7, if_neg (fun q => q rfl), show fX_on 0 M7 J = _ from k1, qp_bd_t, ← hM8, if_neg (fun q => q rfl), show fX_count 3 M8 J = _ from l1, qp_bd_t, if_neg (fun q => q rfl), eb, qp_bd_t, if_neg (fun q => q rfl)]
  | succ k ih =>
    intro fuel v I J hk hf hv h hA
    obtain ⟨f, rfl⟩ : ∃ f, fuel = f + 1 := ⟨fuel - 1, by omega⟩
    rw [if_neg (by omega), Nat.add_sub_cancel] at hv
    subst hv
    have hlen : (D.take (d0.length + min (k + 1) q)).length = d0.length + min (k + 1) q := by rw [List.length_take]; omega
    obtain ⟨I1, a1, a2, a3⟩ := xc_undo (J := J) (m := d0.length + k) h.1 (by rw [hlen]; omega)
    rw [List.take_take, show min (d0.length + k) (d0.length + min (k + 1) q) = d0.length + k by omega] at a3
    rw [hlen] at a1
    obtain ⟨M1, hM1⟩ : ∃ M, M = qp_g I I1 := ⟨_, rfl⟩
    have h1 : wI n L0 K P d0 (D.take (d0.length + k)) kp M1 := by rw [hM1]; exact wI_move h a2 a3
    have g39 : ∀ c, 36 ≤ c → M1 c = I c := fun c hc => by rw [hM1]; exact qp_g_hi hc
    obtain ⟨M2, b1, b2⟩ := wb2191 (G := G) (J := J) (kc := fun a0 a1 a2 a3 a4 I J => fW_law_b2165 G f a0 a1 a2 a3 a4 I J) (a3 := qn n) (a4 := qn d0.length) (a10 := qn (2 ^ n - 1)) (a27 := qn q) (s := if k = q then 0 else 1) (k := k) hn h1 (by omega) (by rw [g39 39 (by omega)]; exact (hA k (by omega)).1) (by rw [g39 40 (by omega)]; exact (hA k (by omega)).2)
    have h2 := wI_lq h1 b1
    have hnext := ih f (qn k + (-1)) M2 J (by omega) (by omega) (by
      by_cases hk0 : k = 0
      · rw [if_pos hk0, hk0]; rfl
      · rw [if_neg hk0]
        show qn k + -qn 1 = _
        rw [qn_addneg (by omega)]) (by rw [show min k q = k by omega]; exact h2) (fun j hj => by
      rw [b1 39 (by unfold xqc; omega), b1 40 (by unfold xqc; omega), g39 39 (by omega), g39 40 (by omega)]; exact hA j hj)
    rw [fW_law_b2165, if_neg (by show ¬ qn k < qn 0; rw [qn_lt (by omega) (by omega)]; omega), qn_add, a1, qp_bd_t, ← hM1]
    by_cases hkq : k = q
    · rw [if_pos hkq] at b2
      rw [if_neg (by rw [hkq]; exact fun z => z rfl), show d0.length + min (k + 1) q - (d0.length + k) = 0 by omega]
      exact b2.trans hnext
    · rw [if_neg hkq] at b2
      rw [if_pos (by rw [qn_eq (by omega) (by omega)]; exact hkq), show d0.length + min (k + 1) q - (d0.length + k) = 1 by omega]
      exact b2.trans hnext
end LA

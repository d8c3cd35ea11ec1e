/-! DEEDS BY CHANCE, one after the other -/
section LB
variable {G : qp_G} {n L0 : Nat} {K P : Nat → Nat} {d0 ds : List Nat} {kp : Nat → Option (List Nat)} {I I' : Nat → Nat → Int32} {J : Nat → Nat → Int64}
theorem wb2089N {kc : Int32 → Int32 → Int32 → Int32 → Int32 → Int32 → (Nat → Nat → Int32) → (Nat → Nat → Int64) → Option Unit} {a3 a10 a24 a28 : Int32} {l q : Nat} (h : wI n L0 K P d0 ds kp I) (hl : ds.length = l + q) :
    ∃ I', lq I I' ∧ fW_law_b2089 G kc a3 (qn l) a10 a24 (qn q) a28 (-4) I J = kc a3 (qn l) a10 a24 (qn q) (a28 + 1) I' J := by
  obtain ⟨I1, a1, a2⟩ := xc_count (J := J) (w := 3) h.1 (by omega)
  rw [zam_3, hl] at a1
  refine ⟨qp_g I I1, lq_c a2, ?_⟩
  unfold fW_law_b2089
  rw [if_pos rfl]
  unfold fW_law_b2121
  rw [if_neg (by decide), if_pos (by decide), show fX_count 3 I J = _ from a1, qp_bd_t, if_pos (qn_add l q).symm]
theorem wb2089Y {kc : Int32 → Int32 → Int32 → Int32 → Int32 → Int32 → (Nat → Nat → Int32) → (Nat → Nat → Int64) → Option Unit} {a3 a10 a24 a28 : Int32} {l q r : Nat} (hn : 0 < n) (hr : r < 1000) (hq : q < 15) (h : wI n L0 K P d0 ds kp I) (hl : ds.length = l + (q + 1)) :
    ∃ I', (∀ c, xqc c → c ≠ 39 → c ≠ 40 → I' c = I c) ∧ (I' 39 = qp_up1 (I 39) (q + 1) (qn (zat (wS n L0 ds) 0))) ∧ (I' 40 = qp_up1 (I 40) (q + 1) (qn (wA n L0 K P ds))) ∧ fW_law_b2089 G kc a3 (qn l) a10 a24 (qn q) a28 (qn r) I J = kc a3 (qn l) a10 a24 (qn (q + 1)) (a28 + 1) I' J := by
  have e1 : qn q + 1 = qn (q + 1) := qn_add q 1
  have gq : (0 : Int32) ≤ qn (q + 1) ∧ qn (q + 1) < 16 := by
    show qn 0 ≤ qn (q + 1) ∧ qn (q + 1) < qn 16
    rw [qn_le (by omega) (by omega), qn_lt (by omega) (by omega)]; omega
  have q4 : ∀ r, r < 1000 → ¬ qn r = -4 ∧ ¬ qn r < -4 ∧ ¬ qn r ≤ -4 ∧ ¬ qn r < 0 := by decide +kernel
  obtain ⟨z1, z2, z3, z4⟩ := q4 r hr
  have M1 : ∀ c v, 39 ≤ c → wI n L0 K P d0 ds kp (qp_up I c (q + 1) v) := fun c v hc => wI_lq' h (fun k h39 _ => qm_nk (by omega))
  obtain ⟨I1, a1, a2⟩ := xc_count (J := J) (w := 5) (M1 39 (qn (zat (wS n L0 ds) 0)) (by omega)).1 (by omega)
  rw [zam_5] at a1
  have h1 := lq_c a2
  obtain ⟨M2, hM2⟩ : ∃ M, M = qp_up (qp_g (qp_up I 39 (q + 1) (qn (zat (wS n L0 ds) 0))) I1) 40 (q + 1) (qn (wA n L0 K P ds)) := ⟨_, rfl⟩
  have f2 : ∀ c, xqc c → c ≠ 39 → c ≠ 40 → M2 c = I c := fun c hc n1 n2 => by rw [hM2, qm_nk (by omega), h1 c hc, qm_nk (by omega)]
  have h2 : wI n L0 K P d0 ds kp M2 := wI_lq' h (fun k h39 hk => f2 k hk (by omega) (by omega))
  obtain ⟨I3, b1, b2⟩ := xc_count (J := J) (w := 3) h2.1 (by omega)
  rw [zam_3, hl] at b1
  have h3 := lq_c b2
  refine ⟨qp_g M2 I3, fun c hc n1 n2 => (h3 c hc).trans (f2 c hc n1 n2), ?_, ?_, ?_⟩
  · rw [h3 39 (by unfold xqc; omega), hM2, qm_nk (by omega), h1 39 (by unfold xqc; omega), qm_own]
  · rw [h3 40 (by unfold xqc; omega), hM2, qm_own, h1 40 (by unfold xqc; omega), qm_nk (by omega)]
  · unfold fW_law_b2089
    rw [if_neg z1, show fX_who 0 I J = _ from xc_who (p := 0) h.1 hn, qp_bd_t, e1, qp_gd_t gq, qn_nat (by omega), qp_g_self, show fX_count 5 _ J = _ from a1, qp_bd_t, qp_gd_t gq, ← hM2]
    unfold fW_law_b2121
    rw [if_neg z2, if_neg z3, if_neg z4, show fX_count 3 M2 J = _ from b1, qp_bd_t, if_pos (qn_add l (q + 1)).symm]
theorem take_app {d A : List Nat} {k : Nat} : (d ++ A).take (d.length + k) = d ++ A.take k := by
  induction d with
  | nil => simp
  | cons x t ih =>
    rw [List.length_cons, show t.length + 1 + k = t.length + k + 1 by omega]
    show x :: (t ++ A).take (t.length + k) = _
    rw [ih]; rfl
/-- the law's two rows of what was -/
def wH (n L0 : Nat) (K P : Nat → Nat) (d0 A : List Nat) (I : Nat → Nat → Int32) : Prop := ∀ j, j ≤ A.length → I 39 j = qn (zat (wS n L0 (d0 ++ A.take j)) 0) ∧ I 40 j = qn (wA n L0 K P (d0 ++ A.take j))
theorem wb1981 (hG : G.2.2.2.2.1 ≤ 260) (hok : wOk n L0 K P) (hl : d0.length ≤ 12) {m : Nat} (hm : m ≤ 14) : ∀ (e k fuel : Nat) (A : List Nat) (I : Nat → Nat → Int32) (J : Nat → Nat → Int64), k + e = m → e < fuel → A.length ≤ k → wI n L0 K P d0 (d0 ++ A) kp I → wH n L0 K P d0 A I →
    fW_law_b1981 G fuel (qn n) (qn d0.length) (qn (2 ^ n - 1)) (qn m) (qn A.length) (qn k) I J = some () := by
  have hn := hok.1
  have hn6 := hok.2.1
  intro e
  induction e with
  | zero =>
    intro k fuel A I J hk hf hA h hH
    obtain ⟨f, rfl⟩ : ∃ f, fuel = f + 1 := ⟨fuel - 1, by omega⟩
    rw [fW_law_b1981, if_pos (by rw [qn_le (by omega) (by omega)]; omega)]
    refine wb2165 (kp := kp) (D := d0 ++ A) (q := A.length) hok (by omega) List.length_append hl (by have := take_app (d := d0) (A := A) (k := 0); rw [Nat.add_zero, List.take_zero, List.append_nil] at this; exact this) (A.length + 1) 100000 (qn A.length) I J (Nat.le_refl _) (by omega) (by rw [if_neg (by omega), Nat.add_sub_cancel]) ?_ (fun j hj => by rw [take_app]; exact hH j hj)
    rw [show min (A.length + 1) A.length = A.length by omega, take_app, List.take_length]
    exact h
  | succ e ih =>
    intro k fuel A I J hk hf hA h hH
    obtain ⟨f, rfl⟩ : ∃ f, fuel = f + 1 := ⟨fuel - 1, by omega⟩
    have hlen : (d0 ++ A).length = d0.length + A.length := List.length_append
    have hek : qn k + 1 = qn (k + 1) := qn_add k 1
    obtain ⟨x, ex⟩ := ew_cell (k := 24 + k) hG (by omega)
    obtain ⟨w, hw, ew⟩ := ew_up (I := I) (J := J) x (m := 4) (by omega) (by omega)
    -- nothing done
    have goN : ∀ I', lq I I' → fW_law_b2089 G (fun a0 a1 a2 a3 a4 a5 I J => fW_law_b1981 G f a0 a1 a2 a3 a4 a5 I J) (qn n) (qn d0.length) (qn (2 ^ n - 1)) (qn m) (qn A.length) (qn k) (-4) I' J = some () := by
      intro I' hI
      obtain ⟨I2, b1, b2⟩ := wb2089N (G := G) (J := J) (kc := fun a0 a1 a2 a3 a4 a5 I J => fW_law_b1981 G f a0 a1 a2 a3 a4 a5 I J) (a3 := qn n) (a10 := qn (2 ^ n - 1)) (a24 := qn m) (a28 := qn k) (wI_lq h hI) hlen
      rw [b2]
      show fW_law_b1981 G f _ _ _ _ _ (qn k + 1) I2 J = _
      rw [hek]
      have hI2 := lq_tr hI b1
      exact ih (k + 1) f A I2 J (by omega) (by omega) (by omega) (wI_lq h hI2) (fun j hj => by rw [hI2 39 (by unfold xqc; omega), hI2 40 (by unfold xqc; omega)]; exact hH j hj)
    -- a deed
    have goY : ∀ (M : Nat → Nat → Int32), lq I M → ∀ (c r : Nat) (I1 : Nat → Nat → Int32), r < 1000 → (∀ c, c ≠ 14 → c ≠ 23 → c ≠ 24 → I1 c = M c) → xR n L0 K P ((d0 ++ A) ++ [c]) kp I1 → fW_law_b2089 G (fun a0 a1 a2 a3 a4 a5 I J => fW_law_b1981 G f a0 a1 a2 a3 a4 a5 I J) (qn n) (qn d0.length) (qn (2 ^ n - 1)) (qn m) (qn A.length) (qn k) (qn r) (qp_g M I1) J = some () := by
      intro M hM c r I1 hr hI1 hx
      have hx' := wI_move (wI_lq h hM) hI1 hx
      rw [List.append_assoc] at hx'
      have g39 : ∀ c, 36 ≤ c → qp_g M I1 c = I c := fun c hc => by rw [qp_g_hi hc]; exact hM c (by unfold xqc; omega)
      obtain ⟨I2, b1, b2, b3, b4⟩ := wb2089Y (G := G) (J := J) (kc := fun a0 a1 a2 a3 a4 a5 I J => fW_law_b1981 G f a0 a1 a2 a3 a4 a5 I J) (a3 := qn n) (a10 := qn (2 ^ n - 1)) (a24 := qn m) (a28 := qn k) (l := d0.length) (q := A.length) (r := r) hn hr (by omega) hx' (by rw [List.length_append, List.length_append]; rfl)
      rw [b4]
      show fW_law_b1981 G f _ _ _ _ _ (qn k + 1) I2 J = _
      have hlA : (A ++ [c]).length = A.length + 1 := by rw [List.length_append]; rfl
      rw [hek, ← hlA]
      refine ih (k + 1) f (A ++ [c]) I2 J (by omega) (by omega) (by omega) (wI_lq' hx' (fun c h39 hc => b1 c hc (by omega) (by omega))) (fun j hj => ?_)
      rw [b2, b3, qp_up1_if, qp_up1_if, g39 39 (by omega), g39 40 (by omega)]
      rw [hlA] at hj
      by_cases hj1 : A.length + 1 = j
      · rw [if_pos hj1, if_pos hj1, ← hj1, ← hlA, List.take_length]
        exact ⟨rfl, rfl⟩
      · rw [if_neg hj1, if_neg hj1, List.take_append_of_le_length (by omega)]
        exact hH j (by omega)
    rw [fW_law_b1981, if_neg (by rw [qn_le (by omega) (by omega)]; omega), show (24 : Int32) + qn k = qn (24 + k) from qn_add 24 k, ex, qp_bd_t, qp_g_self, show fW_up x 4 = fW_up x (qn 4) from rfl, ew, qp_bd_t, qp_g_self]
    by_cases h2 : 2 ≤ w
    · rw [if_pos (by show qn 2 ≤ qn w; rw [qn_le (by omega) (by omega)]; exact h2)]
      by_cases h3 : w = 2
      · rw [if_neg (by rw [h3]; exact fun z => z rfl)]
        obtain ⟨I1, a1, a2⟩ := xc_count (J := J) (w := 2) h.1 (by omega)
        rw [zam_2] at a1
        have h1 := wI_lq h (lq_c a2)
        have ht := (xR_ok h.1).2.1
        rw [show fX_count 2 I J = _ from a1, qp_bd_t]
        by_cases h0 : (zrun n L0 (d0 ++ A)).1.length = 0
        · rw [if_neg (by rw [h0]; exact fun z => z rfl)]
          exact goN _ (lq_c a2)
        · rw [if_pos (by show ¬ qn _ = qn 0; rw [qn_eq (by omega) (by omega)]; exact h0)]
          obtain ⟨I2, b1, b2⟩ := xc_count (J := J) (w := 2) h1.1 (by omega)
          rw [zam_2] at b1
          have hI2 := lq_tr (lq_c a2) (lq_c b2)
          have hw2 := wI_lq h hI2
          obtain ⟨M2, hM2⟩ : ∃ M, M = qp_g (qp_g I I1) I2 := ⟨_, rfl⟩
          rw [← hM2] at hw2 hI2
          obtain ⟨kk, hkk, ekk⟩ := ew_up (I := I) (J := J) (x >>> ((8 : Int32) &&& 31)) (m := (zrun n L0 (d0 ++ A)).1.length) (by omega) (by omega)
          obtain ⟨I3, c1, c2, c3⟩ := xc_back (J := J) (k := kk) hw2.1 hkk (by rw [hlen]; omega)
          have hfl := zback_fall (n := n) hkk
          rw [show fX_count 2 (qp_g I I1) J = _ from b1, qp_bd_t, ekk, qp_bd_t, ← hM2, qp_g_self, c1, qp_bd_t]
          exact goY M2 hI2 _ _ I3 (by omega) c2 c3
      · rw [if_pos (by show ¬ qn w = qn 2; rw [qn_eq (by omega) (by omega)]; exact h3)]
        obtain ⟨b, hb, eb⟩ := ew_up (I := I) (J := J) (x >>> ((8 : Int32) &&& 31)) (m := 21) (by omega) (by omega)
        rw [show fW_up (x >>> ((8 : Int32) &&& 31)) 21 = fW_up (x >>> ((8 : Int32) &&& 31)) (qn 21) from rfl, eb, qp_bd_t, qp_g_self]
        have hl20 := (xR_ok h.1).2.2
        by_cases hs : (zrun n L0 (d0 ++ A)).2 = b
        · rw [xc_loavesF (J := J) h.1 hn (by omega) hs, qp_bd_t, qp_g_self]
          exact goN I lq_rfl
        · obtain ⟨I3, c1, c2, c3⟩ := xc_loaves (J := J) (l := b) h.1 hn (by omega) hs (by rw [hlen]; omega)
          rw [c1, qp_bd_t]
          exact goY I lq_rfl _ _ I3 (by omega) c2 c3
    · rw [if_neg (by show ¬ qn 2 ≤ qn w; rw [qn_le (by omega) (by omega)]; exact h2)]
      obtain ⟨i, hi, ei⟩ := ew_up (I := I) (J := J) (x >>> ((2 : Int32) &&& 31)) (m := n) hn (by omega)
      obtain ⟨p, hp, ep⟩ := ew_up (I := I) (J := J) (x >>> ((5 : Int32) &&& 31)) (m := n) hn (by omega)
      rw [ei, qp_bd_t, qp_g_self, ep, qp_bd_t, qp_g_self]
      by_cases hF : 12 ≤ (zrun n L0 (d0 ++ A)).1.length ∨ zat (zls n (zrun n L0 (d0 ++ A)).1) p = i
      · rw [xc_ticketF (J := J) h.1 hi hp hF, qp_bd_t, qp_g_self]
        exact goN I lq_rfl
      · obtain ⟨I3, c1, c2, c3⟩ := xc_ticket (J := J) h.1 hi hp (Nat.not_le.mp (fun z => hF (Or.inl z))) (fun z => hF (Or.inr z)) (by rw [hlen]; omega)
        have h12 : (zrun n L0 (d0 ++ A)).1.length < 12 := Nat.not_le.mp (fun z => hF (Or.inl z))
        rw [c1, qp_bd_t]
        exact goY I lq_rfl _ _ I3 (by omega) c2 c3
end LB

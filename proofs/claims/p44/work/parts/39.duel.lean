/-! DUEL: by turns, out of a walk over a tree; out of a row of choices that counts -/
/-- the best of the first k of f: for the first one the greatest, else the least; the first of these -/
def zch (b : Bool) (f : Nat → Int32) : Nat → Int32
  | 0 => 0
  | k + 1 => if k = 0 then f 0 else if b = true then (if f k ≤ zch b f k then zch b f k else f k) else (if zch b f k ≤ f k then zch b f k else f k)
theorem zch_0 {b : Bool} {f : Nat → Int32} : zch b f 1 = f 0 := rfl
theorem zch_s {b : Bool} {f : Nat → Int32} {k : Nat} (h0 : ¬ k = 0) : zch b f (k + 1) = if b = true then (if f k ≤ zch b f k then zch b f k else f k) else (if zch b f k ≤ f k then zch b f k else f k) := by
  show (if k = 0 then _ else _) = _
  rw [if_neg h0]
theorem zch_tK {f : Nat → Int32} {k : Nat} (h0 : ¬ k = 0) (h : f k ≤ zch true f k) : zch true f (k + 1) = zch true f k := by rw [zch_s h0, if_pos rfl, if_pos h]
theorem zch_tN {f : Nat → Int32} {k : Nat} (h0 : ¬ k = 0) (h : ¬ f k ≤ zch true f k) : zch true f (k + 1) = f k := by rw [zch_s h0, if_pos rfl, if_neg h]
theorem zch_fK {f : Nat → Int32} {k : Nat} (h0 : ¬ k = 0) (h : zch false f k ≤ f k) : zch false f (k + 1) = zch false f k := by rw [zch_s h0, if_neg (by decide), if_pos h]
theorem zch_fN {f : Nat → Int32} {k : Nat} (h0 : ¬ k = 0) (h : ¬ zch false f k ≤ f k) : zch false f (k + 1) = f k := by rw [zch_s h0, if_neg (by decide), if_neg h]
theorem zch_cases (b : Bool) (f : Nat → Int32) (Q : Int32 → Prop) (h : ∀ k, Q (f k)) : ∀ k, 0 < k → Q (zch b f k)
  | k + 1, _ => by
    by_cases h0 : k = 0
    · subst h0; exact h 0
    · have ih := zch_cases b f Q h k (by omega)
      rw [zch_s h0]
      split
      · split
        · exact ih
        · exact h k
      · split
        · exact ih
        · exact h k
def zmvr (i j t : Nat) : Nat := if t % 2 = 0 then i else j
/-- by how many loaves the first one is ahead in the end, t turns before it -/
def zpl (n : Nat) (K P : Nat → Nat) (L i j : Nat) : Nat → List Nat → Int32
  | 0, s => qn (zG K P s L i) - qn (zG K P s L j)
  | t + 1, s => zch (decide ((t + 1) % 2 = 0)) (fun p => zpl n K P L i j t (zmv (zmvr i j (t + 1)) p s)) n
theorem zpl_b {n : Nat} {K P : Nat → Nat} {L i j : Nat} (hn : 0 < n) : ∀ (t : Nat) (s : List Nat), -3 ≤ (zpl n K P L i j t s).toInt ∧ (zpl n K P L i j t s).toInt ≤ 3
  | 0, s => by
    have h1 := zG_3 (K := K) (P := P) (s := s) (L := L) (i := i)
    have h2 := zG_3 (K := K) (P := P) (s := s) (L := L) (i := j)
    show -3 ≤ (qn (zG K P s L i) - qn (zG K P s L j)).toInt ∧ (qn (zG K P s L i) - qn (zG K P s L j)).toInt ≤ 3
    rw [q_subI (by omega) (by omega)]
    omega
  | t + 1, s => zch_cases _ _ (fun v => -3 ≤ v.toInt ∧ v.toInt ≤ 3) (fun p => zpl_b hn t _) n hn
section DU
variable {n L0 : Nat} {K P : Nat → Nat} {ds : List Nat} {kp : Nat → Option (List Nat)} {I : Nat → Nat → Int32} {J : Nat → Nat → Int64}
theorem eT_play {L i j : Nat} {I0 : Nat → Nat → Int32} (hn : n ≤ 6) (hk : ∀ i, i < n → K i ≤ 5 ∧ P i ≤ 9 ∧ I0 16 i = qn (K i) ∧ I0 17 i = qn (P i)) (e0 : I0 15 0 = qn n) (e3 : I0 14 3 = qn L) (hL : L ≤ 20) (hi : i < n) (hj : j < n) (e1 : I0 33 1 = qn i) (e2 : I0 33 2 = qn j) :
    ∀ (t m : Nat) (s : List Nat) (I : Nat → Nat → Int32), t ≤ 4 → t < m → zP n s → (∀ c, c < 18 ∨ 22 < c → I c = I0 c) → ∃ I', fT_play m (qn (zpk s)) (qn t) I J = some (zpl n K P L i j t s, I', J) ∧ ∀ c, c < 18 ∨ 22 < c → I' c = I0 c := by
  intro t
  induction t with
  | zero =>
    intro m s I _ hm hP hf
    obtain ⟨m, rfl⟩ : ∃ m', m = m' + 1 := ⟨m - 1, by omega⟩
    obtain ⟨I1, a1, a2, a3⟩ := eL_sv (I := I) (J := J) (K := K) (P := P) hP hn (by rw [hf 16 (by omega), hf 17 (by omega)]; exact hk) (by rw [hf 15 (by omega)]; exact e0) (by rw [hf 14 (by omega)]; exact e3) hL
    have v1 := (a2.1 i ((hP.2.2 i).2 hi)).2.1
    have v2 := (a2.1 j ((hP.2.2 j).2 hj)).2.1
    have f : ∀ c, c < 18 ∨ 22 < c → I1 c = I0 c := fun c hc => (a3 c hc).trans (hf c hc)
    refine ⟨I1, ?_, f⟩
    rw [fT_play]
    unfold fT_play_b0 fT_leadBy
    rw [if_neg (by decide), a1, qp_bd_t, f 33 (by omega), e1, eV_gainOf (by omega), qp_bd_t, f 33 (by omega), e2, eV_gainOf (by omega), qp_bd_t, v1, v2]; rfl
  | succ t ih =>
    intro m s I ht hm hP hf
    obtain ⟨m, rfl⟩ : ∃ m', m = m' + 1 := ⟨m - 1, by omega⟩
    have key : ∀ (fl : Nat) (mv : Nat), mv < n → (fl = if (t + 1) % 2 = 0 then 1 else 0) → mv = zmvr i j (t + 1) → ∃ I', fT_play_b57 (fT_play m) 100000 (qn (zpk s)) (qn (t + 1)) (qn fl) (qn mv) (qn n) (qn 0) (qn 0) I J = some (zpl n K P L i j (t + 1) s, I', J) ∧ ∀ c, c < 18 ∨ 22 < c → I' c = I0 c := by
      intro fl mv hmv hfl hmv2
      obtain ⟨F, hF⟩ : ∃ F : Nat → Int32, F = fun p => zpl n K P L i j t (zmv (zmvr i j (t + 1)) p s) := ⟨_, rfl⟩
      have hF' : ∀ p, zpl n K P L i j t (zmv mv p s) = F p := fun p => by rw [hF, hmv2]
      have hz : zpl n K P L i j (t + 1) s = zch (decide ((t + 1) % 2 = 0)) F n := by rw [hF]; rfl
      rw [hz]
      refine lp (σ := Int32 × (Nat → Nat → Int32)) (R := fun o => ∃ I', o = some (zch (decide ((t + 1) % 2 = 0)) F n, I', J) ∧ ∀ c, c < 18 ∨ 22 < c → I' c = I0 c)
        (Inv := fun p q => q.1 = zch (decide ((t + 1) % 2 = 0)) F p ∧ ∀ c, c < 18 ∨ 22 < c → q.2 c = I0 c) (fun fu p q => fT_play_b57 (fT_play m) fu (qn (zpk s)) (qn (t + 1)) (qn fl) (qn mv) (qn n) q.1 (qn p) q.2 J) n 100000 0 (qn 0, I) (Nat.zero_le _) (by omega) ⟨rfl, hf⟩ ?_ ?_
      · rintro fu ⟨q, I1⟩ ⟨s1, s2⟩
        dsimp only at s1 s2 ⊢
        exact ⟨I1, by rw [fT_play_b57, if_pos (Int32.le_refl _), s1], s2⟩
      · rintro fu p ⟨q, I1⟩ hp ⟨s1, s2⟩
        dsimp only at s1 s2 ⊢
        have x0 : I1 15 0 = qn n := by rw [s2 15 (by omega)]; exact e0
        have eb := eD_byt (I := I1) (J := J) (t := 8 * mv + p) hP hn (by omega) (by omega)
        rw [show (8 * mv + p) / 8 = mv by omega, show (8 * mv + p) % 8 = p by omega] at eb
        obtain ⟨I2, c1, c2⟩ := ih m (zmv mv p s) I1 (by omega) (by omega) (zmv_P hP hmv) s2
        rw [hF'] at c1
        have e8 : ((8 : Int32) * qn mv) + qn p = qn (8 * mv + p) := by
          show qn 8 * qn mv + qn p = _
          rw [qn_mul, qn_add]
        have et1 : qn (t + 1) - 1 = qn t := by
          show qn (t + 1) - qn 1 = _
          rw [qn_sub (by omega)]; rfl
        have go : ∀ v, v = zch (decide ((t + 1) % 2 = 0)) F (p + 1) → fT_play_b57 (fT_play m) (fu + 1) (qn (zpk s)) (qn (t + 1)) (qn fl) (qn mv) (qn n) q (qn p) I1 J = fT_play_b57 (fT_play m) fu (qn (zpk s)) (qn (t + 1)) (qn fl) (qn mv) (qn n) v (qn (p + 1)) I2 J → ∃ s' : Int32 × (Nat → Nat → Int32), (s'.1 = zch (decide ((t + 1) % 2 = 0)) F (p + 1) ∧ ∀ c, c < 18 ∨ 22 < c → s'.2 c = I0 c) ∧ fT_play_b57 (fT_play m) (fu + 1) (qn (zpk s)) (qn (t + 1)) (qn fl) (qn mv) (qn n) q (qn p) I1 J = fT_play_b57 (fT_play m) fu (qn (zpk s)) (qn (t + 1)) (qn fl) (qn mv) (qn n) s'.1 (qn (p + 1)) s'.2 J := fun v h1 h2 => ⟨(v, I2), ⟨h1, c2⟩, h2⟩
        refine Or.inr ?_
        have run : fT_play_b57 (fT_play m) (fu + 1) (qn (zpk s)) (qn (t + 1)) (qn fl) (qn mv) (qn n) q (qn p) I1 J = if qn p = 0 then fT_play_b57 (fT_play m) fu (qn (zpk s)) (qn (t + 1)) (qn fl) (qn mv) (qn n) (F p) (qn (p + 1)) I2 J else if qn fl = 0 then (if q ≤ F p then fT_play_b57 (fT_play m) fu (qn (zpk s)) (qn (t + 1)) (qn fl) (qn mv) (qn n) q (qn (p + 1)) I2 J else fT_play_b57 (fT_play m) fu (qn (zpk s)) (qn (t + 1)) (qn fl) (qn mv) (qn n) (F p) (qn (p + 1)) I2 J) else (if F p ≤ q then fT_play_b57 (fT_play m) fu (qn (zpk s)) (qn (t + 1)) (qn fl) (qn mv) (qn n) q (qn (p + 1)) I2 J else fT_play_b57 (fT_play m) fu (qn (zpk s)) (qn (t + 1)) (qn fl) (qn mv) (qn n) (F p) (qn (p + 1)) I2 J) := by
          rw [fT_play_b57, if_neg (by rw [qn_le (by omega) (by omega)]; omega), e8, eb, qp_bd_t, et1, c1, qp_bd_t, show qn p + 1 = qn (p + 1) from qn_add p 1]
        by_cases hp0 : p = 0
        · subst hp0
          rw [if_pos (show qn 0 = 0 from rfl)] at run
          exact go (F 0) zch_0.symm run
        · rw [if_neg (by show ¬ qn p = qn 0; rw [qn_eq (by omega) (by omega)]; exact hp0)] at run
          by_cases hev : (t + 1) % 2 = 0
          · rw [if_pos hev] at hfl
            rw [decide_eq_true hev] at s1 go ⊢
            subst hfl
            rw [if_neg (by decide)] at run
            by_cases hle : F p ≤ q
            · rw [if_pos hle] at run
              exact go q (by rw [zch_tK hp0 (by rw [← s1]; exact hle)]; exact s1) run
            · rw [if_neg hle] at run
              exact go (F p) (by rw [zch_tN hp0 (by rw [← s1]; exact hle)]) run
          · rw [if_neg hev] at hfl
            rw [decide_eq_false hev] at s1 go ⊢
            subst hfl
            rw [if_pos (show qn 0 = 0 from rfl)] at run
            by_cases hle : q ≤ F p
            · rw [if_pos hle] at run
              exact go q (by rw [zch_fK hp0 (by rw [← s1]; exact hle)]; exact s1) run
            · rw [if_neg hle] at run
              exact go (F p) (by rw [zch_fN hp0 (by rw [← s1]; exact hle)]) run
    have ht2 : qn (t + 1) - qn (t + 1) / 2 * 2 = qn ((t + 1) % 2) := by
      show qn (t + 1) - qn (t + 1) / qn 2 * qn 2 = _
      rw [qn_div (by omega) (by omega), qn_mul, qn_mod]
    rw [fT_play]
    unfold fT_play_b0 fT_play_b21
    rw [if_pos (by show qn 0 < qn (t + 1); rw [qn_lt (by omega) (by omega)]; omega), ht2]
    by_cases hev : (t + 1) % 2 = 0
    · rw [hev, if_neg (by exact fun q => q rfl), if_neg (by decide), hf 33 (by omega), e1, hf 15 (by omega), e0]
      exact key 1 i hi (by rw [if_pos hev]) (by unfold zmvr; rw [if_pos hev])
    · rw [if_pos (by show ¬ qn _ = qn 0; rw [qn_eq (by omega) (by omega)]; exact hev), if_pos rfl, hf 33 (by omega), e2, hf 15 (by omega), e0]
      exact key 0 j hj (by rw [if_neg hev]) (by unfold zmvr; rw [if_neg hev])
/-! the model's row of choices -/
def zpos (i j : Nat) (s : List Nat) (ch : Nat → Nat) : Nat → List Nat
  | 0 => s
  | k + 1 => zmv (zmvr i j k) (ch k) (zpos i j s ch k)
theorem zpos_P {i j : Nat} {s : List Nat} {ch : Nat → Nat} (hP : zP n s) (hi : i < n) (hj : j < n) : ∀ k, zP n (zpos i j s ch k)
  | 0 => hP
  | k + 1 => zmv_P (zpos_P hP hi hj k) (by unfold zmvr; split <;> assumption)
theorem zpos_eq {i j : Nat} {s : List Nat} {ch ch' : Nat → Nat} : ∀ {k : Nat}, (∀ m, m < k → ch m = ch' m) → zpos i j s ch k = zpos i j s ch' k
  | 0, _ => rfl
  | k + 1, h => by
    show zmv _ (ch k) (zpos i j s ch k) = zmv _ (ch' k) (zpos i j s ch' k)
    rw [h k (by omega), zpos_eq (k := k) (fun m hm => h m (by omega))]
def zst0 (k : Nat) : Int32 := if k % 2 = 0 then -qn 1000000 else qn 1000000
def zDS (T : Nat) (I0 : Nat → Nat → Int32) (ch : Nat → Nat) (w : Nat → Int32) (I : Nat → Nat → Int32) : Prop :=
  (∀ c, c ≠ 36 → c < 47 ∨ (51 < c ∧ c ≠ 55 ∧ c ≠ 56) → I c = I0 c) ∧ (∀ j, j ≠ 20 → I 36 j = I0 36 j) ∧ ∀ m, m < T → I 55 m = qn (ch m) ∧ I 56 m = w m
theorem q_far1 {v : Int32} (h : -3 ≤ v.toInt ∧ v.toInt ≤ 3) : ¬ v ≤ -qn 1000000 := by
  rw [Int32.le_iff_toInt_le, qn_negI (by omega)]; omega
theorem q_far2 {v : Int32} (h : -3 ≤ v.toInt ∧ v.toInt ≤ 3) : ¬ qn 1000000 ≤ v := by
  rw [Int32.le_iff_toInt_le, qn_toInt (by omega)]; omega
end DU

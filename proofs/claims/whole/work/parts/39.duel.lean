/-! DUEL: by turns, out of a walk over a tree; out of a row of choices that counts -/
/-- the best of the first k of f: for the first one the greatest, else the least; the first of these -/
def zch (b : Bool) (f : Nat → Int32) : Nat → Int32
  | 0 => 0
  | k + 1 => if k = 0 then f 0 else if b = true then (if f k ≤ zch b f k then zch b f k else f k) else (if zch b f k ≤ f k then zch b f k else f k)
theorem zch_0 {b : Bool} {f : Nat → Int32} : zch b f 1 = f 0 := rfl
theorem zch_s {b : Bool} {f : Nat → Int32} {k : Nat} (h0 : ¬ k = 0) : zch b f (k + 1) = if b = true then (if f k ≤ zch b f k then zch b f k else f k) else (if zch b f k ≤ f k then zch b f k else f k) := by
  show (if k = 0 then _ else _) = _
  rw [if_neg h0]
theorem zch_tK {f : Nat → Int32} {k : Nat} (h0 : ¬ k = 0) (h : f k ≤ zch true f k) : zch true f (k + 1) = zch true f k := by rw [zch_s h0, if_pos rfl, if_pos h]
theorem zch_tN {f : Nat → Int32} {k : Nat} (h0 : ¬ k = 0) (h : ¬ f k ≤ zch true f k) : zch true f (k + 1) = f k := by rw [zch_s h0, if_pos rfl, if_neg h]
theorem zch_fK {f : Nat → Int32} {k : Nat} (h0 : ¬ k = 0) (h : zch false f k ≤ f k) : zch false f (k + 1) = zch false f k := by rw [zch_s h0, if_neg (by decide), if_pos h]
theorem zch_fN {f : Nat → Int32} {k : Nat} (h0 : ¬ k = 0) (h : ¬ zch false f k ≤ f k) : zch false f (k + 1) = f k := by rw [zch_s h0, if_neg (by decide), if_neg h]
theorem zch_cases (b : Bool) (f : Nat → Int32) (Q : Int32 → Prop) (h : ∀ k, Q (f k)) : ∀ k, 0 < k → Q (zch b f k)
  | k + 1, _ => by
    by_cases h0 : k = 0
    · subst h0; exact h 0
    · have ih := zch_cases b f Q h k (by omega)
      rw [zch_s h0]
      split
      · split
        · exact ih
        · exact h k
      · split
        · exact ih
        · exact h k
def zmvr (i j t : Nat) : Nat := if t % 2 = 0 then i else j
/-- by how many loaves the first one is ahead in the end, t turns before it -/
def zpl (n : Nat) (K P : Nat → Nat) (L i j : Nat) : Nat → List Nat → Int32
  | 0, s => qn (zG K P s L i) - qn (zG K P s L j)
  | t + 1, s => zch (decide ((t + 1) % 2 = 0)) (fun p => zpl n K P L i j t (zmv (zmvr i j (t + 1)) p s)) n
theorem zpl_b {n : Nat} {K P : Nat → Nat} {L i j : Nat} (hn : 0 < n) : ∀ (t : Nat) (s : List Nat), -3 ≤ (zpl n K P L i j t s).toInt ∧ (zpl n K P L i j t s).toInt ≤ 3
  | 0, s => by
    have h1 := zG_3 (K := K) (P := P) (s := s) (L := L) (i := i)
    have h2 := zG_3 (K := K) (P := P) (s := s) (L := L) (i := j)
    show -3 ≤ (qn (zG K P s L i) - qn (zG K P s L j)).toInt ∧ (qn (zG K P s L i) - qn (zG K P s L j)).toInt ≤ 3
    rw [q_subI (by omega) (by omega)]
    omega
  | t + 1, s => zch_cases _ _ (fun v => -3 ≤ v.toInt ∧ v.toInt ≤ 3) (fun p => zpl_b hn t _) n hn
section DU
variable {n L0 : Nat} {K P : Nat → Nat} {ds : List Nat} {kp : Nat → Option (List Nat)} {I : Nat → Nat → Int32} {J : Nat → Nat → Int64}
theorem eT_play {L i j : Nat} {I0 : Nat → Nat → Int32} (hn : n ≤ 6) (hk : ∀ i, i < n → K i ≤ 5 ∧ P i ≤ 9 ∧ I0 16 i = qn (K i) ∧ I0 17 i = qn (P i)) (e0 : I0 15 0 = qn n) (e3 : I0 14 3 = qn L) (hL : L ≤ 20) (hi : i < n) (hj : j < n) (e1 : I0 33 1 = qn i) (e2 : I0 33 2 = qn j) :
    ∀ (t m : Nat) (s : List Nat) (I : Nat → Nat → Int32), t ≤ 4 → t < m → zP n s → (∀ c, c < 18 ∨ 22 < c → I c = I0 c) → ∃ I', fT_play m (qn (zpk s)) (qn t) I J = some (zpl n K P L i j t s, I', J) ∧ ∀ c, c < 18 ∨ 22 < c → I' c = I0 c := by
  intro t
  induction t with
  | zero =>
    intro m s I _ hm hP hf
    obtain ⟨m, rfl⟩ : ∃ m', m = m' + 1 := ⟨m - 1, by omega⟩
    obtain ⟨I1, a1, a2, a3⟩ := eL_sv (I := I) (J := J) (K := K) (P := P) hP hn (by rw [hf 16 (by omega), hf 17 (by omega)]; exact hk) (by rw [hf 15 (by omega)]; exact e0) (by rw [hf 14 (by omega)]; exact e3) hL
    have v1 := (a2.1 i ((hP.2.2 i).2 hi)).2.1
    have v2 := (a2.1 j ((hP.2.2 j).2 hj)).2.1
    have f : ∀ c, c < 18 ∨ 22 < c → I1 c = I0 c := fun c hc => (a3 c hc).trans (hf c hc)
    refine ⟨I1, ?_, f⟩
    rw [fT_play]
    unfold fT_play_b0 fT_leadBy
    rw [if_neg (by decide), a1, qp_bd_t, f 33 (by omega), e1, eV_gainOf (by omega), qp_bd_t, f 33 (by omega), e2, eV_gainOf (by omega), qp_bd_t, v1, v2]; rfl
  | succ t ih =>
    intro m s I ht hm hP hf
    obtain ⟨m, rfl⟩ : ∃ m', m = m' + 1 := ⟨m - 1, by omega⟩
    have key : ∀ (fl : Nat) (mv : Nat), mv < n → (fl = if (t + 1) % 2 = 0 then 1 else 0) → mv = zmvr i j (t + 1) → ∃ I', fT_play_b57 (fT_play m) 100000 (qn (zpk s)) (qn (t + 1)) (qn fl) (qn mv) (qn n) (qn 0) (qn 0) I J = some (zpl n K P L i j (t + 1) s, I', J) ∧ ∀ c, c < 18 ∨ 22 < c → I' c = I0 c := by
      intro fl mv hmv hfl hmv2
      obtain ⟨F, hF⟩ : ∃ F : Nat → Int32, F = fun p => zpl n K P L i j t (zmv (zmvr i j (t + 1)) p s) := ⟨_, rfl⟩
      have hF' : ∀ p, zpl n K P L i j t (zmv mv p s) = F p := fun p => by rw [hF, hmv2]
      have hz : zpl n K P L i j (t + 1) s = zch (decide ((t + 1) % 2 = 0)) F n := by rw [hF]; rfl
      rw [hz]
      refine lp (σ := Int32 × (Nat → Nat → Int32)) (R := fun o => ∃ I', o = some (zch (decide ((t + 1) % 2 = 0)) F n, I', J) ∧ ∀ c, c < 18 ∨ 22 < c → I' c = I0 c)
        (Inv := fun p q => q.1 = zch (decide ((t + 1) % 2 = 0)) F p ∧ ∀ c, c < 18 ∨ 22 < c → q.2 c = I0 c) (fun fu p q => fT_play_b57 (fT_play m) fu (qn (zpk s)) (qn (t + 1)) (qn fl) (qn mv) (qn n) q.1 (qn p) q.2 J) n 100000 0 (qn 0, I) (Nat.zero_le _) (by omega) ⟨rfl, hf⟩ ?_ ?_
      · rintro fu ⟨q, I1⟩ ⟨s1, s2⟩
        dsimp only at s1 s2 ⊢
        exact ⟨I1, by rw [fT_play_b57, if_pos (Int32.le_refl _), s1], s2⟩
      · rintro fu p ⟨q, I1⟩ hp ⟨s1, s2⟩
        dsimp only at s1 s2 ⊢
        have x0 : I1 15 0 = qn n := by rw [s2 15 (by omega)]; exact e0
        have eb := eD_byt (I := I1) (J := J) (t := 8 * mv + p) hP hn (by omega) (by omega)
        rw [show (8 * mv + p) / 8 = mv by omega, show (8 * mv + p) % 8 = p by omega] at eb
        obtain ⟨I2, c1, c2⟩ := ih m (zmv mv p s) I1 (by omega) (by omega) (zmv_P hP hmv) s2
        rw [hF'] at c1
        have e8 : ((8 : Int32) * qn mv) + qn p = qn (8 * mv + p) := by
          show qn 8 * qn mv + qn p = _
          rw [qn_mul, qn_add]
        have et1 : qn (t + 1) - 1 = qn t := by
          show qn (t + 1) - qn 1 = _
          rw [qn_sub (by omega)]; rfl
        have go : ∀ v, v = zch (decide ((t + 1) % 2 = 0)) F (p + 1) → fT_play_b57 (fT_play m) (fu + 1) (qn (zpk s)) (qn (t + 1)) (qn fl) (qn mv) (qn n) q (qn p) I1 J = fT_play_b57 (fT_play m) fu (qn (zpk s)) (qn (t + 1)) (qn fl) (qn mv) (qn n) v (qn (p + 1)) I2 J → ∃ s' : Int32 × (Nat → Nat → Int32), (s'.1 = zch (decide ((t + 1) % 2 = 0)) F (p + 1) ∧ ∀ c, c < 18 ∨ 22 < c → s'.2 c = I0 c) ∧ fT_play_b57 (fT_play m) (fu + 1) (qn (zpk s)) (qn (t + 1)) (qn fl) (qn mv) (qn n) q (qn p) I1 J = fT_play_b57 (fT_play m) fu (qn (zpk s)) (qn (t + 1)) (qn fl) (qn mv) (qn n) s'.1 (qn (p + 1)) s'.2 J := fun v h1 h2 => ⟨(v, I2), ⟨h1, c2⟩, h2⟩
        refine Or.inr ?_
        have run : fT_play_b57 (fT_play m) (fu + 1) (qn (zpk s)) (qn (t + 1)) (qn fl) (qn mv) (qn n) q (qn p) I1 J = if qn p = 0 then fT_play_b57 (fT_play m) fu (qn (zpk s)) (qn (t + 1)) (qn fl) (qn mv) (qn n) (F p) (qn (p + 1)) I2 J else if qn fl = 0 then (if q ≤ F p then fT_play_b57 (fT_play m) fu (qn (zpk s)) (qn (t + 1)) (qn fl) (qn mv) (qn n) q (qn (p + 1)) I2 J else fT_play_b57 (fT_play m) fu (qn (zpk s)) (qn (t + 1)) (qn fl) (qn mv) (qn n) (F p) (qn (p + 1)) I2 J) else (if F p ≤ q then fT_play_b57 (fT_play m) fu (qn (zpk s)) (qn (t + 1)) (qn fl) (qn mv) (qn n) q (qn (p + 1)) I2 J else fT_play_b57 (fT_play m) fu (qn (zpk s)) (qn (t + 1)) (qn fl) (qn mv) (qn n) (F p) (qn (p + 1)) I2 J) := by
          rw [fT_play_b57, if_neg (by rw [qn_le (by omega) (by omega)]; omega), e8, eb, qp_bd_t, et1, c1, qp_bd_t, show qn p + 1 = qn (p + 1) from qn_add p 1]
        by_cases hp0 : p = 0
        · subst hp0
          rw [if_pos (show qn 0 = 0 from rfl)] at run
          exact go (F 0) zch_0.symm run
        · rw [if_neg (by show ¬ qn p = qn 0; rw [qn_eq (by omega) (by omega)]; exact hp0)] at run
          by_cases hev : (t + 1) % 2 = 0
          · rw [if_pos hev] at hfl
            rw [decide_eq_true hev] at s1 go ⊢
            subst hfl
            rw [if_neg (by decide)] at run
            by_cases hle : F p ≤ q
            · rw [if_pos hle] at run
              exact go q (by rw [zch_tK hp0 (by rw [← s1]; exact hle)]; exact s1) run
            · rw [if_neg hle] at run
              exact go (F p) (by rw [zch_tN hp0 (by rw [← s1]; exact hle)]) run
          · rw [if_neg hev] at hfl
            rw [decide_eq_false hev] at s1 go ⊢
            subst hfl
            rw [if_pos (show qn 0 = 0 from rfl)] at run
            by_cases hle : q ≤ F p
            · rw [if_pos hle] at run
              exact go q (by rw [zch_fK hp0 (by rw [← s1]; exact hle)]; exact s1) run
            · rw [if_neg hle] at run
              exact go (F p) (by rw [zch_fN hp0 (by rw [← s1]; exact hle)]) run
    have ht2 : qn (t + 1) - qn (t + 1) / 2 * 2 = qn ((t + 1) % 2) := by
      show qn (t + 1) - qn (t + 1) / qn 2 * qn 2 = _
      rw [qn_div (by omega) (by omega), qn_mul, qn_mod]
    rw [fT_play]
    unfold fT_play_b0 fT_play_b21
    rw [if_pos (by show qn 0 < qn (t + 1); rw [qn_lt (by omega) (by omega)]; omega), ht2]
    by_cases hev : (t + 1) % 2 = 0
    · rw [hev, if_neg (by exact fun q => q rfl), if_neg (by decide), hf 33 (by omega), e1, hf 15 (by omega), e0]
      exact key 1 i hi (by rw [if_pos hev]) (by unfold zmvr; rw [if_pos hev])
    · rw [if_pos (by show ¬ qn _ = qn 0; rw [qn_eq (by omega) (by omega)]; exact hev), if_pos rfl, hf 33 (by omega), e2, hf 15 (by omega), e0]
      exact key 0 j hj (by rw [if_neg hev]) (by unfold zmvr; rw [if_neg hev])
/-! the model's row of choices -/
def zpos (i j : Nat) (s : List Nat) (ch : Nat → Nat) : Nat → List Nat
  | 0 => s
  | k + 1 => zmv (zmvr i j k) (ch k) (zpos i j s ch k)
theorem zpos_P {i j : Nat} {s : List Nat} {ch : Nat → Nat} (hP : zP n s) (hi : i < n) (hj : j < n) : ∀ k, zP n (zpos i j s ch k)
  | 0 => hP
  | k + 1 => zmv_P (zpos_P hP hi hj k) (by unfold zmvr; split <;> assumption)
theorem zpos_eq {i j : Nat} {s : List Nat} {ch ch' : Nat → Nat} : ∀ {k : Nat}, (∀ m, m < k → ch m = ch' m) → zpos i j s ch k = zpos i j s ch' k
  | 0, _ => rfl
  | k + 1, h => by
    show zmv _ (ch k) (zpos i j s ch k) = zmv _ (ch' k) (zpos i j s ch' k)
    rw [h k (by omega), zpos_eq (k := k) (fun m hm => h m (by omega))]
def zst0 (k : Nat) : Int32 := if k % 2 = 0 then -qn 1000000 else qn 1000000
def zDS (T : Nat) (I0 : Nat → Nat → Int32) (ch : Nat → Nat) (w : Nat → Int32) (I : Nat → Nat → Int32) : Prop :=
  (∀ c, c ≠ 36 → c < 47 ∨ (51 < c ∧ c ≠ 55 ∧ c ≠ 56) → I c = I0 c) ∧ (∀ j, j ≠ 20 → I 36 j = I0 36 j) ∧ ∀ m, m < T → I 55 m = qn (ch m) ∧ I 56 m = w m
theorem eM_startOf {k : Nat} (hk : k < 4) : fM_startOf (qn k) I J = some (zst0 k, I, J) := by
  have h2 : qn k - qn k / 2 * 2 = qn (k % 2) := by
    show qn k - qn k / qn 2 * qn 2 = _
    rw [qn_div (by omega) (by omega), qn_mul, qn_mod]
  unfold fM_startOf zst0
  rw [h2]
  by_cases h : k % 2 = 0
  · rw [h, if_neg (by exact fun q => q rfl), if_pos rfl]; rfl
  · rw [if_pos (by show ¬ qn _ = qn 0; rw [qn_eq (by omega) (by omega)]; exact h), if_neg h]; rfl
theorem eM_goChoices {T i j : Nat} {I0 : Nat → Nat → Int32} {ch : Nat → Nat} {w : Nat → Int32} (hS : zSt n L0 K P ds kp) (hM : zML n L0 K P ds (I0 37)) (hi : i < n) (hj : j < n) (hT : T ≤ 4) (hD : zDS T I0 ch w I) (hch : ∀ m, m < T → ch m < n) :
    ∃ I', fM_goChoices (qn i) (qn j) (qn T) I J = some (zpl n K P (zrun n L0 ds).2 i j 0 (zpos i j (zls n (zrun n L0 ds).1) ch T), I', J) ∧ zDS T I0 ch w I' := by
  have hn := hS.1
  have hP := zSt_P hS
  have hok := zSt_ok hS
  obtain ⟨h5, h6, h7, h8, h9⟩ := hM
  obtain ⟨d1, d2, d3⟩ := hD
  obtain ⟨I1, a1, a2, a3⟩ := eM_layHand (I := I) (J := J)
  have e37 : I 37 = I0 37 := d1 37 (by omega) (by omega)
  unfold fM_goChoices
  rw [a1, qp_bd_t]
  refine lp (σ := Nat → Nat → Int32) (R := fun o => ∃ I', o = some (zpl n K P (zrun n L0 ds).2 i j 0 (zpos i j (zls n (zrun n L0 ds).1) ch T), I', J) ∧ zDS T I0 ch w I')
    (Inv := fun k I' => zrow 69 (zpos i j (zls n (zrun n L0 ds).1) ch k) (I' 47) ∧ ∀ c, c ≠ 47 → I' c = I c) (fun fu k I' => fM_goChoices_b7 fu (qn i) (qn j) (qn T) (qn k) I' J) T 100000 0 I1 (Nat.zero_le _) (by omega) ⟨fun q hq => ?_, a3⟩ ?_ ?_
  · have hq' : q < n := by have : (zpos i j (zls n (zrun n L0 ds).1) ch 0).length = n := hP.2.1; omega
    rw [a2 _ (by omega), e37]; exact h9.2.2.2.2 q (by rw [hP.2.1]; exact hq')
  · rintro fu I2 ⟨b1, b2⟩
    have hPT := zpos_P (ch := ch) hP hi hj T
    have f37 : I2 37 = I0 37 := (b2 37 (by omega)).trans e37
    obtain ⟨I3, c1, c2, c3⟩ := eM_sv_47 (J := J) (K := K) (P := P) (off := 69) (L := (zrun n L0 ds).2) (I := I2) hPT.2.1 hPT.1 (fun i hi => by have := (hPT.2.2 i).1 hi; omega) hn b1 (by omega) (fun i hi => by rw [f37]; exact zSt_km hS h6 i ((hPT.2.2 i).1 hi)) (by rw [f37]; exact h9.2.1) hok.2.2
    have v1 := (c2.1 i ((hPT.2.2 i).2 hi)).2.1
    have v2 := (c2.1 j ((hPT.2.2 j).2 hj)).2.1
    have gi : (0 : Int32) ≤ qn i ∧ qn i < 6 := by
      show qn 0 ≤ qn i ∧ qn i < qn 6
      rw [qn_le (by omega) (by omega), qn_lt (by omega) (by omega)]; omega
    have gj : (0 : Int32) ≤ qn j ∧ qn j < 6 := by
      show qn 0 ≤ qn j ∧ qn j < qn 6
      rw [qn_le (by omega) (by omega), qn_lt (by omega) (by omega)]; omega
    have x0 : I2 37 0 = qn n := by rw [f37]; exact h9.1
    refine ⟨I3, ?_, fun c g1 g2 => ?_, fun m hm => ?_, fun m hm => ?_⟩
    · rw [fM_goChoices_b7, if_pos (Int32.le_refl _), x0, show (69 : Int32) = qn 69 from rfl, c1, qp_bd_t, qp_gd_t ⟨gi, gj⟩, qn_nat (by omega), qn_nat (by omega), v1, v2]; rfl
    · rw [c3.1 c g1 (by omega), b2 c (by omega)]; exact d1 c g1 g2
    · rw [c3.2 m hm, b2 36 (by omega)]; exact d2 m hm
    · rw [c3.1 55 (by omega) (by omega), c3.1 56 (by omega) (by omega), b2 55 (by omega), b2 56 (by omega)]; exact d3 m hm
  · rintro fu k I2 hk ⟨b1, b2⟩
    have hPk := zpos_P (ch := ch) hP hi hj k
    have x0 : I2 37 0 = qn n := by rw [b2 37 (by omega), e37]; exact h9.1
    have xc : I2 55 k = qn (ch k) := by rw [b2 55 (by omega)]; exact (d3 k hk).1
    have h2 : qn k - qn k / 2 * 2 = qn (k % 2) := by
      show qn k - qn k / qn 2 * qn 2 = _
      rw [qn_div (by omega) (by omega), qn_mul, qn_mod]
    have g0 : (0 : Int32) ≤ qn k ∧ qn k < 4 := by
      show qn 0 ≤ qn k ∧ qn k < qn 4
      rw [qn_le (by omega) (by omega), qn_lt (by omega) (by omega)]; omega
    have hmv : zmvr i j k < n := by unfold zmvr; split <;> assumption
    obtain ⟨I3, c1, c2, c3⟩ := eM_goTo_47 (J := J) (I := I2) (off := 69) (i := zmvr i j k) (p := ch k) hPk hn b1 (by omega) hmv (hch k hk)
    refine Or.inr ⟨I3, ⟨c2, fun c hc => (c3.1 c hc).trans (b2 c hc)⟩, ?_⟩
    rw [fM_goChoices_b7, if_neg (by rw [qn_le (by omega) (by omega)]; omega), h2]
    unfold zmvr at c1
    by_cases hev : k % 2 = 0
    · rw [if_pos hev] at c1
      rw [hev, if_neg (by exact fun q => q rfl), qp_gd_t g0, qn_nat (by omega), x0, xc, show (69 : Int32) = qn 69 from rfl, c1, qp_bd_t, show qn k + 1 = qn (k + 1) from qn_add k 1]
    · rw [if_neg hev] at c1
      rw [if_pos (by show ¬ qn _ = qn 0; rw [qn_eq (by omega) (by omega)]; exact hev), qp_gd_t g0, qn_nat (by omega), x0, xc, show (69 : Int32) = qn 69 from rfl, c1, qp_bd_t, show qn k + 1 = qn (k + 1) from qn_add k 1]
/-- one step of the inner loop at level k -/
theorem eM_duelS {k c g : Nat} {a1 a2 a4 v wk nv : Int32} {k82 : Int32 → Int32 → Int32 → Int32 → Int32 → (Nat → Nat → Int32) → (Nat → Nat → Int64) → Option (Int32 × (Nat → Nat → Int32) × (Nat → Nat → Int64))} (hn : n ≤ 6) (hk : k < 4) (e0 : I 37 0 = qn n) (ec : I 55 k = qn c) (hc : c < n) (ew : I 56 k = wk)
    (hnv : nv = if k % 2 = 0 then (if v ≤ wk then wk else v) else (if wk ≤ v then wk else v)) :
    fM_duel_b106 k82 (g + 1) a1 a2 a4 v (qn k) (qn 1) I J = if c + 1 = n then fM_duel_b106 k82 g a1 a2 a4 nv (qn k + (-1)) (qn 1) (qp_up (qp_up (qp_up (qp_up I 56 k nv) 55 k (qn (c + 1))) 55 k 0) 56 k (zst0 k)) J else fM_duel_b106 k82 g a1 a2 a4 v (qn k) (qn 0) (qp_up (qp_up I 56 k nv) 55 k (qn (c + 1))) J := by
  have h2 : qn k - qn k / 2 * 2 = qn (k % 2) := by
    show qn k - qn k / qn 2 * qn 2 = _
    rw [qn_div (by omega) (by omega), qn_mul, qn_mod]
  have g0 : (0 : Int32) ≤ qn k ∧ qn k < 4 := by
    show qn 0 ≤ qn k ∧ qn k < qn 4
    rw [qn_le (by omega) (by omega), qn_lt (by omega) (by omega)]; omega
  have hneg : ¬ qn k < 0 := by show ¬ qn k < qn 0; rw [qn_lt (by omega) (by omega)]; omega
  have tail : ∀ v2 : Int32, v2 = nv → fM_duel_b185 (fun a0 a1 a2 a3 a4 a5 I J => fM_duel_b106 k82 g a0 a1 a2 a3 a4 a5 I J) a1 a2 a4 v (qn k) v2 (qn k) I J = if c + 1 = n then fM_duel_b106 k82 g a1 a2 a4 nv (qn k + (-1)) (qn 1) (qp_up (qp_up (qp_up (qp_up I 56 k nv) 55 k (qn (c + 1))) 55 k 0) 56 k (zst0 k)) J else fM_duel_b106 k82 g a1 a2 a4 v (qn k) (qn 0) (qp_up (qp_up I 56 k nv) 55 k (qn (c + 1))) J := by
    intro v2 hv2
    subst hv2
    have eu : qp_up I 55 k (qn (c + 1)) 55 k = qn (c + 1) := qm_eq rfl
    have e56 : qp_up (qp_up I 56 k v2) 55 k (qn (c + 1)) 56 k = v2 := by rw [qm_nk (by omega)]; exact qm_eq rfl
    unfold fM_duel_b185 fM_duel_b218
    rw [qp_gd_t ⟨g0, g0⟩, qn_nat (by omega), ec, show qn c + 1 = qn (c + 1) from qn_add c 1, eu, e0]
    by_cases hcn : c + 1 = n
    · rw [if_neg (by rw [hcn]; exact fun q => q rfl), if_pos hcn, if_neg (by decide), qp_gd_t g0, eM_startOf hk, qp_bd_t, qp_gd_t g0, e56]; rfl
    · rw [if_pos (by rw [qn_eq (by omega) (by omega)]; exact hcn), if_neg hcn, if_pos rfl]; rfl
  rw [fM_duel_b106, if_neg hneg, if_neg (by decide), h2]
  unfold fM_duel_b160
  by_cases hev : k % 2 = 0
  · rw [if_pos hev] at hnv
    rw [hev, if_neg (by exact fun q => q rfl), qp_gd_t g0, qn_nat (by omega), ew]
    by_cases hle : v ≤ wk
    · rw [if_pos hle] at hnv
      rw [if_pos hle, if_pos rfl, qp_gd_t g0]
      exact tail wk hnv.symm
    · rw [if_neg hle] at hnv
      rw [if_neg hle, if_neg (by decide)]
      exact tail v hnv.symm
  · rw [if_neg hev] at hnv
    rw [if_pos (by show ¬ qn _ = qn 0; rw [qn_eq (by omega) (by omega)]; exact hev), qp_gd_t g0, qn_nat (by omega), ew]
    by_cases hle : wk ≤ v
    · rw [if_pos hle] at hnv
      rw [if_pos hle, if_pos rfl, qp_gd_t g0]
      exact tail wk hnv.symm
    · rw [if_neg hle] at hnv
      rw [if_neg hle, if_neg (by decide)]
      exact tail v hnv.symm
theorem q_far1 {v : Int32} (h : -3 ≤ v.toInt ∧ v.toInt ≤ 3) : ¬ v ≤ -qn 1000000 := by
  rw [Int32.le_iff_toInt_le, qn_negI (by omega)]; omega
theorem q_far2 {v : Int32} (h : -3 ≤ v.toInt ∧ v.toInt ≤ 3) : ¬ qn 1000000 ≤ v := by
  rw [Int32.le_iff_toInt_le, qn_toInt (by omega)]; omega
/-- from the choices 0 at all levels from k on: the walk comes back to the level above with the value -/
theorem eM_duelC {T i j : Nat} {I0 : Nat → Nat → Int32} (hS : zSt n L0 K P ds kp) (hM : zML n L0 K P ds (I0 37)) (hi : i < n) (hj : j < n) (hT : T ≤ 4) (hTe : T % 2 = 0) :
    ∀ (t k : Nat), k + t = T → ∀ (ch : Nat → Nat) (w : Nat → Int32) (a5 : Int32) (I : Nat → Nat → Int32) (fu : Nat), zDS T I0 ch w I → (∀ m, k ≤ m → m < T → ch m = 0 ∧ w m = zst0 m) → (∀ m, m < k → ch m < n) → n ^ t ≤ fu →
      ∃ fu' g I', fM_duel_b82 fu (qn i) (qn j) (qn T) a5 (qn 1) I J = fM_duel_b106 (fun a0 a1 a2 a3 a4 I J => fM_duel_b82 fu' a0 a1 a2 a3 a4 I J) g (qn i) (qn j) (qn T) (zpl n K P (zrun n L0 ds).2 i j t (zpos i j (zls n (zrun n L0 ds).1) ch k)) (qn k + (-1)) (qn 1) I' J ∧ zDS T I0 ch w I' ∧ fu ≤ fu' + n ^ t ∧ 100000 ≤ g + t := by
  have hn := hS.1
  intro t
  induction t with
  | zero =>
    intro k hk ch w a5 I fu hD h0 hch hfu
    obtain ⟨fu, rfl⟩ : ∃ f, fu = f + 1 := ⟨fu - 1, by have : n ^ 0 = 1 := rfl; omega⟩
    have hkT : k = T := by omega
    subst hkT
    obtain ⟨I1, a1, a2⟩ := eM_goChoices (I := I) (J := J) (ch := ch) (w := w) hS hM hi hj hT hD hch
    refine ⟨fu, 100000, I1, ?_, a2, Nat.le_refl _, Nat.le_refl _⟩
    rw [fM_duel_b82, if_neg (by decide), a1, qp_bd_t, Int32.sub_eq_add_neg]; rfl
  | succ t ih =>
    intro k hk ch w a5 I fu hD h0 hch hfu
    have hkT : k < T := by omega
    obtain ⟨hck, hwk⟩ := h0 k (Nat.le_refl k) hkT
    have hpar : (decide ((t + 1) % 2 = 0)) = decide (k % 2 = 0) := by
      by_cases h : k % 2 = 0
      · rw [decide_eq_true h, decide_eq_true (by omega)]
      · rw [decide_eq_false h, decide_eq_false (by omega)]
    have hmvr : zmvr i j (t + 1) = zmvr i j k := by
      unfold zmvr
      by_cases h : k % 2 = 0
      · rw [if_pos h, if_pos (by omega)]
      · rw [if_neg h, if_neg (by omega)]
    have hz : zpl n K P (zrun n L0 ds).2 i j (t + 1) (zpos i j (zls n (zrun n L0 ds).1) ch k) = zch (decide (k % 2 = 0)) (fun p => zpl n K P (zrun n L0 ds).2 i j t (zmv (zmvr i j k) p (zpos i j (zls n (zrun n L0 ds).1) ch k))) n := by
      show zch (decide ((t + 1) % 2 = 0)) (fun p => zpl n K P (zrun n L0 ds).2 i j t (zmv (zmvr i j (t + 1)) p (zpos i j (zls n (zrun n L0 ds).1) ch k))) n = _
      rw [hpar, hmvr]
    rw [hz]
    generalize hf : (fun p => zpl n K P (zrun n L0 ds).2 i j t (zmv (zmvr i j k) p (zpos i j (zls n (zrun n L0 ds).1) ch k))) = f
    have hf' : ∀ c, zpl n K P (zrun n L0 ds).2 i j t (zmv (zmvr i j k) c (zpos i j (zls n (zrun n L0 ds).1) ch k)) = f c := fun c => by rw [← hf]
    have hfb : ∀ c, -3 ≤ (f c).toInt ∧ (f c).toInt ≤ 3 := fun c => by rw [← hf']; exact zpl_b (by omega) t _
    have key : ∀ d c, c + d = n → 0 < d → ∀ (a5 : Int32) (I : Nat → Nat → Int32) (fu : Nat), zDS T I0 (qp_up1 ch k c) (qp_up1 w k (if c = 0 then zst0 k else zch (decide (k % 2 = 0)) f c)) I → d * n ^ t ≤ fu →
        ∃ fu' g I', fM_duel_b82 fu (qn i) (qn j) (qn T) a5 (qn 1) I J = fM_duel_b106 (fun a0 a1 a2 a3 a4 I J => fM_duel_b82 fu' a0 a1 a2 a3 a4 I J) g (qn i) (qn j) (qn T) (zch (decide (k % 2 = 0)) f n) (qn k + (-1)) (qn 1) I' J ∧ zDS T I0 ch w I' ∧ fu ≤ fu' + d * n ^ t ∧ 100000 ≤ g + (t + 1) := by
      intro d
      induction d with
      | zero => intro c _ h; omega
      | succ d ihd =>
        intro c hcd _ a5 I fu hD hfu
        have hpw : (d + 1) * n ^ t = d * n ^ t + n ^ t := by rw [Nat.add_mul, Nat.one_mul]
        rw [hpw] at hfu ⊢
        obtain ⟨fu1, g1, I1, b1, b2, b3, b4⟩ := ih (k + 1) (by omega) (qp_up1 ch k c) (qp_up1 w k (if c = 0 then zst0 k else zch (decide (k % 2 = 0)) f c)) a5 I fu hD (fun m hm hmT => by rw [qp_up1_ne (by omega), qp_up1_ne (by omega)]; exact h0 m (by omega) hmT) (fun m hm => by
          rw [qp_up1_if]
          split
          · omega
          · exact hch m (by omega)) (by omega)
        have epos : zpos i j (zls n (zrun n L0 ds).1) (qp_up1 ch k c) (k + 1) = zmv (zmvr i j k) c (zpos i j (zls n (zrun n L0 ds).1) ch k) := by
          show zmv (zmvr i j k) (qp_up1 ch k c k) (zpos i j (zls n (zrun n L0 ds).1) (qp_up1 ch k c) k) = _
          rw [qp_up1_eq, zpos_eq (ch' := ch) (fun m hm => qp_up1_ne (by omega))]
        rw [epos, hf'] at b1
        have ek1 : qn (k + 1) + (-1) = qn k := by
          show qn (k + 1) + -qn 1 = _
          rw [qn_addneg (by omega)]; rfl
        rw [ek1] at b1
        obtain ⟨p1, p2, p3⟩ := id b2
        obtain ⟨q1, q2⟩ := p3 k hkT
        rw [qp_up1_eq] at q1 q2
        obtain ⟨g, rfl⟩ : ∃ g, g1 = g + 1 := ⟨g1 - 1, by omega⟩
        have hnvz : zch (decide (k % 2 = 0)) f (c + 1) = if k % 2 = 0 then (if f c ≤ (if c = 0 then zst0 k else zch (decide (k % 2 = 0)) f c) then (if c = 0 then zst0 k else zch (decide (k % 2 = 0)) f c) else f c) else (if (if c = 0 then zst0 k else zch (decide (k % 2 = 0)) f c) ≤ f c then (if c = 0 then zst0 k else zch (decide (k % 2 = 0)) f c) else f c) := by
          by_cases hc0 : c = 0
          · subst hc0
            rw [zch_0, if_pos rfl]
            unfold zst0
            by_cases hev : k % 2 = 0
            · rw [if_pos hev, if_pos hev, if_neg (q_far1 (hfb 0))]
            · rw [if_neg hev, if_neg hev, if_neg (q_far2 (hfb 0))]
          · rw [zch_s hc0, if_neg hc0]
            by_cases hev : k % 2 = 0
            · rw [decide_eq_true hev, if_pos rfl, if_pos hev]
            · rw [decide_eq_false hev, if_neg (by decide), if_neg hev]
        have est := eM_duelS (n := n) (I := I1) (J := J) (k := k) (c := c) (g := g) (a1 := qn i) (a2 := qn j) (a4 := qn T) (v := f c) (wk := if c = 0 then zst0 k else zch (decide (k % 2 = 0)) f c) (nv := zch (decide (k % 2 = 0)) f (c + 1)) (k82 := fun a0 a1 a2 a3 a4 I J => fM_duel_b82 fu1 a0 a1 a2 a3 a4 I J) hn (by omega) (by rw [p1 37 (by omega) (by omega)]; exact hM.2.2.2.2.1) q1 (by omega) q2 hnvz
        rw [est] at b1
        by_cases hcn : c + 1 = n
        · rw [if_pos hcn, hcn] at b1
          refine ⟨fu1, g, _, b1, ⟨fun c' g1 g2 => ?_, fun m hm => ?_, fun m hm => ?_⟩, by omega, by omega⟩
          · rw [qm_nk (by omega), qm_nk (by omega), qm_nk (by omega), qm_nk (by omega)]; exact p1 c' g1 g2
          · rw [qm_nk (by omega), qm_nk (by omega), qm_nk (by omega), qm_nk (by omega)]; exact p2 m hm
          · have h3 := p3 m hm
            by_cases hmk : k = m
            · subst hmk
              refine ⟨?_, ?_⟩
              · rw [qm_nk (by omega), qm_eq rfl, hck]; rfl
              · rw [qm_eq rfl, hwk]
            · rw [qp_up1_ne (by omega), qp_up1_ne (by omega)] at h3
              refine ⟨?_, ?_⟩
              · rw [qm_nk (by omega), qm_nj hmk, qm_nj hmk, qm_nk (by omega)]; exact h3.1
              · rw [qm_nj hmk, qm_nk (by omega), qm_nk (by omega), qm_nj hmk]; exact h3.2
        · rw [if_neg hcn] at b1
          obtain ⟨g, rfl⟩ : ∃ g', g = g' + 1 := ⟨g - 1, by omega⟩
          have hneg : ¬ qn k < 0 := by show ¬ qn k < qn 0; rw [qn_lt (by omega) (by omega)]; omega
          rw [fM_duel_b106, if_neg hneg, if_pos (show qn 0 = 0 from rfl), if_neg hneg] at b1
          obtain ⟨fu2, g2, I2, c1, c2, c3, c4⟩ := ihd (c + 1) (by omega) (by omega) (f c) (qp_up (qp_up I1 56 k (zch (decide (k % 2 = 0)) f (c + 1))) 55 k (qn (c + 1))) fu1 ⟨fun c' g1 g2 => by rw [qm_nk (by omega), qm_nk (by omega)]; exact p1 c' g1 g2, fun m hm => by rw [qm_nk (by omega), qm_nk (by omega)]; exact p2 m hm, fun m hm => by
            have h3 := p3 m hm
            by_cases hmk : k = m
            · subst hmk
              rw [qp_up1_eq, qp_up1_eq, if_neg (by omega)]
              exact ⟨qm_eq rfl, by rw [qm_nk (by omega)]; exact qm_eq rfl⟩
            · rw [qp_up1_ne (by omega), qp_up1_ne (by omega)] at h3 ⊢
              exact ⟨by rw [qm_nj hmk, qm_nk (by omega)]; exact h3.1, by rw [qm_nk (by omega), qm_nj hmk]; exact h3.2⟩⟩ (by omega)
          exact ⟨fu2, g2, I2, b1.trans c1, c2, by omega, c4⟩
    have hup : zDS T I0 (qp_up1 ch k 0) (qp_up1 w k (if 0 = 0 then zst0 k else zch (decide (k % 2 = 0)) f 0)) I := by
      obtain ⟨d1, d2, d3⟩ := hD
      refine ⟨d1, d2, fun m hm => ?_⟩
      rw [qp_up1_if, qp_up1_if, if_pos rfl]
      by_cases hmk : k = m
      · subst hmk
        rw [if_pos rfl, if_pos rfl, ← hck, ← hwk]; exact d3 k hm
      · rw [if_neg hmk, if_neg hmk]; exact d3 m hm
    have hpw : n ^ (t + 1) = n * n ^ t := Nat.pow_succ'
    obtain ⟨fu', g, I', a1, a2, a3, a4⟩ := key n 0 (by omega) (by omega) a5 I fu hup (by omega)
    exact ⟨fu', g, I', a1, a2, by omega, a4⟩
end DU
theorem sim_duel (p q r : Int32) : zsim (fX_duel p q r) (fM_duel p q r) := by
  intro I J h
  obtain ⟨n, L0, K, P, ds, kp, hR⟩ := id h
  obtain ⟨hS, hC, hL⟩ := hR
  have hn := hS.1
  have hP := zSt_P hS
  have hok := zSt_ok hS
  obtain ⟨⟨h1, h2, h3⟩, h4, hM, h10⟩ := id hL
  have e0' : I 37 0 = qn n := hM.2.2.2.2.1
  have e0 : I 15 0 = qn n := h3.1
  rcases qn_cs n (by omega) p with ⟨i, hi, rfl⟩ | ⟨-, hp⟩
  case inr =>
    refine ⟨-qn 1, I, J, I, J, ?_, ?_, h⟩
    · unfold fX_duel
      simp (disch := omega) only [eC_hasF e0 hp, qn_l0, qn_l1, qn_l2, qn_l3, qn_l4, qn_l5, qn_l6, qn_l7, qn_l8, qn_l9, qn_l10, qn_l11, qn_l12, qn_l13, qn_l14, qn_l15, qn_l16, qn_l17, qn_l18, qn_l19, qn_l20, qn_l21, qn_l22, qn_l23, qn_l24, qn_l26, qn_l27, qn_l28, qn_l31, qn_l32, qn_l33, qn_l34, qn_l36, qn_l37, qn_l38, qn_l39, qn_l40, qn_l47, qn_l48, qn_l49, qn_l50, qn_l51, qn_l54, qn_l55, qn_l56, qn_l57, qn_l60, qn_l63, qn_l64, qn_l69, qn_l70, qn_l75, qn_l99, qn_l100, qn_l103, qn_l111, qn_l112, qn_l113, qn_l115, qn_l117, qn_l120, qn_l127, qn_l128, qn_l200, qn_l225, qn_l240, qn_l255, qn_l256, qn_l300, qn_l720, qn_l1000, qn_l48271, qn_l1000000, qn_l2147483646, qn_l2147483647, qn_add, qn_mul, qn_sub, qn_addneg, qn_div, qn_mod, qn_modn, qn_lt, qn_le, qn_eq, qn_nat, qn_m1, qn_m1', qn_c1, qn_g1, qn_g1', qn_c1', qn_and, qn_or, qn_shl1, qn_shr1, qn_64, ql_32, ql_add, ql_mul, ql_sub, ql_div, ql_mod, ql_lt, ql_le, ql_eq, ql_l0, ql_l1, qp_gd_T, qp_bd_t, ↓reduceIte, qt_le, qf_le, qt_lt, qf_lt, qt_eq, qf_eq, and_self, not_true_eq_false, not_false_eq_true, true_and, and_true, or_true, true_or, or_false, false_or, and_false, false_and, Nat.reduceAdd, Nat.reduceMul, Nat.reduceSub, Nat.reduceDiv, Nat.reduceMod, Nat.reducePow, Nat.zero_add, Nat.add_zero, Nat.zero_le, Nat.mul_zero, Nat.zero_mul, qm_nk, qm_eq, qm_nj]
    · unfold fM_duel
      simp (disch := omega) only [eM_isOneF e0' hn hp, qn_l0, qn_l1, qn_l2, qn_l3, qn_l4, qn_l5, qn_l6, qn_l7, qn_l8, qn_l9, qn_l10, qn_l11, qn_l12, qn_l13, qn_l14, qn_l15, qn_l16, qn_l17, qn_l18, qn_l19, qn_l20, qn_l21, qn_l22, qn_l23, qn_l24, qn_l26, qn_l27, qn_l28, qn_l31, qn_l32, qn_l33, qn_l34, qn_l36, qn_l37, qn_l38, qn_l39, qn_l40, qn_l47, qn_l48, qn_l49, qn_l50, qn_l51, qn_l54, qn_l55, qn_l56, qn_l57, qn_l60, qn_l63, qn_l64, qn_l69, qn_l70, qn_l75, qn_l99, qn_l100, qn_l103, qn_l111, qn_l112, qn_l113, qn_l115, qn_l117, qn_l120, qn_l127, qn_l128, qn_l200, qn_l225, qn_l240, qn_l255, qn_l256, qn_l300, qn_l720, qn_l1000, qn_l48271, qn_l1000000, qn_l2147483646, qn_l2147483647, qn_add, qn_mul, qn_sub, qn_addneg, qn_div, qn_mod, qn_modn, qn_lt, qn_le, qn_eq, qn_nat, qn_m1, qn_m1', qn_c1, qn_g1, qn_g1', qn_c1', qn_and, qn_or, qn_shl1, qn_shr1, qn_64, ql_32, ql_add, ql_mul, ql_sub, ql_div, ql_mod, ql_lt, ql_le, ql_eq, ql_l0, ql_l1, qp_gd_T, qp_bd_t, ↓reduceIte, qt_le, qf_le, qt_lt, qf_lt, qt_eq, qf_eq, and_self, not_true_eq_false, not_false_eq_true, true_and, and_true, or_true, true_or, or_false, false_or, and_false, false_and, Nat.reduceAdd, Nat.reduceMul, Nat.reduceSub, Nat.reduceDiv, Nat.reduceMod, Nat.reducePow, Nat.zero_add, Nat.add_zero, Nat.zero_le, Nat.mul_zero, Nat.zero_mul, qm_nk, qm_eq, qm_nj]
  rcases qn_cs n (by omega) q with ⟨j, hj, rfl⟩ | ⟨-, hp⟩
  case inr =>
    refine ⟨-qn 1, I, J, I, J, ?_, ?_, h⟩
    · unfold fX_duel
      simp (disch := omega) only [eC_has e0 hn hi, eC_hasF e0 hp, qn_l0, qn_l1, qn_l2, qn_l3, qn_l4, qn_l5, qn_l6, qn_l7, qn_l8, qn_l9, qn_l10, qn_l11, qn_l12, qn_l13, qn_l14, qn_l15, qn_l16, qn_l17, qn_l18, qn_l19, qn_l20, qn_l21, qn_l22, qn_l23, qn_l24, qn_l26, qn_l27, qn_l28, qn_l31, qn_l32, qn_l33, qn_l34, qn_l36, qn_l37, qn_l38, qn_l39, qn_l40, qn_l47, qn_l48, qn_l49, qn_l50, qn_l51, qn_l54, qn_l55, qn_l56, qn_l57, qn_l60, qn_l63, qn_l64, qn_l69, qn_l70, qn_l75, qn_l99, qn_l100, qn_l103, qn_l111, qn_l112, qn_l113, qn_l115, qn_l117, qn_l120, qn_l127, qn_l128, qn_l200, qn_l225, qn_l240, qn_l255, qn_l256, qn_l300, qn_l720, qn_l1000, qn_l48271, qn_l1000000, qn_l2147483646, qn_l2147483647, qn_add, qn_mul, qn_sub, qn_addneg, qn_div, qn_mod, qn_modn, qn_lt, qn_le, qn_eq, qn_nat, qn_m1, qn_m1', qn_c1, qn_g1, qn_g1', qn_c1', qn_and, qn_or, qn_shl1, qn_shr1, qn_64, ql_32, ql_add, ql_mul, ql_sub, ql_div, ql_mod, ql_lt, ql_le, ql_eq, ql_l0, ql_l1, qp_gd_T, qp_bd_t, ↓reduceIte, qt_le, qf_le, qt_lt, qf_lt, qt_eq, qf_eq, and_self, not_true_eq_false, not_false_eq_true, true_and, and_true, or_true, true_or, or_false, false_or, and_false, false_and, Nat.reduceAdd, Nat.reduceMul, Nat.reduceSub, Nat.reduceDiv, Nat.reduceMod, Nat.reducePow, Nat.zero_add, Nat.add_zero, Nat.zero_le, Nat.mul_zero, Nat.zero_mul, qm_nk, qm_eq, qm_nj]
    · unfold fM_duel
      simp (disch := omega) only [eM_isOne e0' hn hi, eM_isOneF e0' hn hp, qn_l0, qn_l1, qn_l2, qn_l3, qn_l4, qn_l5, qn_l6, qn_l7, qn_l8, qn_l9, qn_l10, qn_l11, qn_l12, qn_l13, qn_l14, qn_l15, qn_l16, qn_l17, qn_l18, qn_l19, qn_l20, qn_l21, qn_l22, qn_l23, qn_l24, qn_l26, qn_l27, qn_l28, qn_l31, qn_l32, qn_l33, qn_l34, qn_l36, qn_l37, qn_l38, qn_l39, qn_l40, qn_l47, qn_l48, qn_l49, qn_l50, qn_l51, qn_l54, qn_l55, qn_l56, qn_l57, qn_l60, qn_l63, qn_l64, qn_l69, qn_l70, qn_l75, qn_l99, qn_l100, qn_l103, qn_l111, qn_l112, qn_l113, qn_l115, qn_l117, qn_l120, qn_l127, qn_l128, qn_l200, qn_l225, qn_l240, qn_l255, qn_l256, qn_l300, qn_l720, qn_l1000, qn_l48271, qn_l1000000, qn_l2147483646, qn_l2147483647, qn_add, qn_mul, qn_sub, qn_addneg, qn_div, qn_mod, qn_modn, qn_lt, qn_le, qn_eq, qn_nat, qn_m1, qn_m1', qn_c1, qn_g1, qn_g1', qn_c1', qn_and, qn_or, qn_shl1, qn_shr1, qn_64, ql_32, ql_add, ql_mul, ql_sub, ql_div, ql_mod, ql_lt, ql_le, ql_eq, ql_l0, ql_l1, qp_gd_T, qp_bd_t, ↓reduceIte, qt_le, qf_le, qt_lt, qf_lt, qt_eq, qf_eq, and_self, not_true_eq_false, not_false_eq_true, true_and, and_true, or_true, true_or, or_false, false_or, and_false, false_and, Nat.reduceAdd, Nat.reduceMul, Nat.reduceSub, Nat.reduceDiv, Nat.reduceMod, Nat.reducePow, Nat.zero_add, Nat.add_zero, Nat.zero_le, Nat.mul_zero, Nat.zero_mul, qm_nk, qm_eq, qm_nj]
  by_cases hij : i = j
  · refine ⟨-qn 1, I, J, I, J, ?_, ?_, h⟩
    · unfold fX_duel
      rw [eC_has e0 hn hi, qp_bd_t, if_neg (by decide), eC_has e0 hn hj, qp_bd_t, if_neg (by decide), if_pos (by rw [hij])]; rfl
    · unfold fM_duel
      rw [eM_isOne e0' hn hi, qp_bd_t, if_neg (by decide), eM_isOne e0' hn hj, qp_bd_t, if_neg (by decide), if_pos (by rw [hij])]; rfl
  have c0 : ¬ qn i = qn j := by rw [qn_eq (by omega) (by omega)]; exact hij
  rcases qn_cs 3 (by omega) r with ⟨b, hb, rfl⟩ | ⟨-, hr⟩
  case inr =>
    have hin : fM_in (Int32.toInt64 r) 0 2 I J = some (qn 0, I, J) := eM_inPF (lo := 0) (hi := 3) (by omega) (by omega) rfl hr
    refine ⟨-qn 1, I, J, I, J, ?_, ?_, h⟩
    · unfold fX_duel
      rw [eC_has e0 hn hi, qp_bd_t, if_neg (by decide), eC_has e0 hn hj, qp_bd_t, if_neg (by decide), if_neg c0]
      by_cases h0 : r < 0
      · rw [if_pos h0]; rfl
      · rcases hr with hr | hr
        · exact absurd hr h0
        · rw [if_neg h0, if_neg (by
            rw [Int32.le_iff_toInt_le] at hr ⊢
            rw [qn_toInt (by omega)] at hr
            have e20 : (2 : Int32).toInt = 2 := rfl
            omega)]; rfl
    · unfold fM_duel
      rw [eM_isOne e0' hn hi, qp_bd_t, if_neg (by decide), eM_isOne e0' hn hj, qp_bd_t, if_neg (by decide), if_neg c0, hin]; rfl
  have c1 : ¬ qn b < 0 := by show ¬ qn b < qn 0; rw [qn_lt (by omega) (by omega)]; omega
  have c2 : qn b ≤ 2 := by show qn b ≤ qn 2; rw [qn_le (by omega) (by omega)]; omega
  have eT : (2 : Int32) * qn b = qn (2 * b) := qn_mul 2 b
  obtain ⟨I1, a1, a2⟩ := eT_play (J := J) (K := K) (P := P) (L := (zrun n L0 ds).2) (i := i) (j := j) (I0 := qp_up (qp_up I 33 1 (qn i)) 33 2 (qn j)) hn (by rw [qm_nk (by omega), qm_nk (by omega), qm_nk (k' := 17) (by omega), qm_nk (k' := 17) (by omega)]; exact zSt_kx hS h2) (by rw [qm_nk (by omega), qm_nk (by omega)]; exact e0) (by rw [qm_nk (by omega), qm_nk (by omega)]; exact h3.2.2.1) hok.2.2 hi hj (by rw [qm_nj (by omega)]; exact qm_eq rfl) (qm_eq rfl) (2 * b) 8 (zls n (zrun n L0 ds).1) (qp_up (qp_up I 33 1 (qn i)) 33 2 (qn j)) (by omega) (by omega) hP (fun _ _ => rfl)
  generalize hv : zpl n K P (zrun n L0 ds).2 i j (2 * b) (zls n (zrun n L0 ds).1) = v at a1
  have fx : ∀ c, c ≠ 33 → c < 18 ∨ 22 < c → I1 c = I c := fun c g1 g2 => by rw [a2 c g2, qm_nk (by omega), qm_nk (by omega)]
  -- the model's side, from X's end
  have f1 : ∀ c, 36 ≤ c → qp_up I1 0 11 v c = I c := fun c hc => by rw [qm_nk (by omega)]; exact fx c (by omega) (by omega)
  generalize hI0 : qp_up I1 0 11 v = I0 at f1
  have hM0 : zML n L0 K P ds (I0 37) := by rw [f1 37 (by omega)]; exact hM
  have e00 : I0 37 0 = qn n := by rw [f1 37 (by omega)]; exact e0'
  have hinit : ∃ I2, fM_duel_b46 100000 (qn i) (qn j) (qn (2 * b)) (qn 0) (qn 0) I0 J = fM_duel_b82 100000 (qn i) (qn j) (qn (2 * b)) (qn 0) (qn 1) I2 J ∧ zDS (2 * b) I0 (fun _ => 0) zst0 I2 := by
    refine lp (σ := Nat → Nat → Int32) (R := fun o => ∃ I2, o = fM_duel_b82 100000 (qn i) (qn j) (qn (2 * b)) (qn 0) (qn 1) I2 J ∧ zDS (2 * b) I0 (fun _ => 0) zst0 I2) (Inv := fun k I' => (∀ c, c ≠ 55 → c ≠ 56 → I' c = I0 c) ∧ ∀ m, m < k → I' 55 m = qn 0 ∧ I' 56 m = zst0 m) (fun fu k I' => fM_duel_b46 fu (qn i) (qn j) (qn (2 * b)) (qn 0) (qn k) I' J) (2 * b) 100000 0 I0 (Nat.zero_le _) (by omega) ⟨fun _ _ _ => rfl, fun m hm => by omega⟩ ?_ ?_
    · rintro fu I2 ⟨g1, g2⟩
      exact ⟨I2, by rw [fM_duel_b46, if_pos (Int32.le_refl _)]; rfl, fun c h1 h2 => g1 c (by omega) (by omega), fun m _ => by rw [g1 36 (by omega) (by omega)], g2⟩
    · rintro fu k I2 hk ⟨g1, g2⟩
      have g0 : (0 : Int32) ≤ qn k ∧ qn k < 4 := by
        show qn 0 ≤ qn k ∧ qn k < qn 4
        rw [qn_le (by omega) (by omega), qn_lt (by omega) (by omega)]; omega
      refine Or.inr ⟨qp_up (qp_up I2 55 k 0) 56 k (zst0 k), ⟨fun c h1 h2 => by rw [qm_nk (by omega), qm_nk (by omega)]; exact g1 c h1 h2, fun m hm => ?_⟩, ?_⟩
      · by_cases hmk : k = m
        · subst hmk
          exact ⟨by rw [qm_nk (by omega)]; exact qm_eq rfl, qm_eq rfl⟩
        · have h3 := g2 m (by omega)
          exact ⟨by rw [qm_nk (by omega), qm_nj hmk]; exact h3.1, by rw [qm_nj hmk, qm_nk (by omega)]; exact h3.2⟩
      · rw [fM_duel_b46, if_neg (by rw [qn_le (by omega) (by omega)]; omega), qp_gd_t g0, qn_nat (by omega), eM_startOf (by omega), qp_bd_t, qp_gd_t g0, show qn k + 1 = qn (k + 1) from qn_add k 1]
  obtain ⟨I2, b1, b2⟩ := hinit
  have hpw : n ^ (2 * b) ≤ 1296 := Nat.le_trans (Nat.pow_le_pow_left hn _) (Nat.le_trans (Nat.pow_le_pow_right (by decide) (show 2 * b ≤ 4 by omega)) (by decide : 6 ^ 4 ≤ 1296))
  obtain ⟨fu', g, I3, d1, d2, d3, d4⟩ := eM_duelC (J := J) (T := 2 * b) (I0 := I0) hS hM0 hi hj (by omega) (by omega) (2 * b) 0 (by omega) (fun _ => 0) zst0 (qn 0) I2 100000 b2 (fun m _ _ => ⟨rfl, rfl⟩) (fun m hm => by omega) (by omega)
  have ez : zpos i j (zls n (zrun n L0 ds).1) (fun _ => 0) 0 = zls n (zrun n L0 ds).1 := rfl
  rw [ez, hv] at d1
  obtain ⟨g, rfl⟩ : ∃ g', g = g' + 1 := ⟨g - 1, by omega⟩
  obtain ⟨fu', rfl⟩ : ∃ f, fu' = f + 1 := ⟨fu' - 1, by omega⟩
  have hm1 : qn 0 + (-1) < 0 := by decide
  rw [fM_duel_b106, if_pos hm1, if_pos hm1] at d1
  have d1' : fM_duel_b82 100000 (qn i) (qn j) (qn (2 * b)) (qn 0) (qn 1) I2 J = some (qn 1, qp_up I3 36 9 v, J) := by
    refine d1.trans ?_
    show fM_duel_b82 (fu' + 1) (qn i) (qn j) (qn (2 * b)) v 0 I3 J = _
    rw [fM_duel_b82, if_pos rfl]; rfl
  refine ⟨qn 1, I0, J, qp_up I3 36 9 v, J, ?_, ?_, ?_⟩
  · unfold fX_duel fT_outcome
    rw [eC_has e0 hn hi, qp_bd_t, if_neg (by decide), eC_has e0 hn hj, qp_bd_t, if_neg (by decide), if_neg c0, if_neg c1, if_pos c2, h3.2.1, eT, a1, qp_bd_t, qp_bd_t, ← hI0]; rfl
  · unfold fM_duel
    rw [eM_isOne e00 hn hi, qp_bd_t, if_neg (by decide), eM_isOne e00 hn hj, qp_bd_t, if_neg (by decide), if_neg c0, show fM_in (Int32.toInt64 (qn b)) 0 2 I0 J = some (qn 1, I0, J) by rw [qn_64 (by omega)]; exact eM_inN (a := b) (b := 0) (c := 2) (by omega) (by omega) (by omega) (by omega), qp_bd_t, if_pos (by decide), eT]
    exact b1.trans d1'
  · refine zR_tell h (fun c hc => ?_) ?_ ?_ ?_
    · have hc' : c ≠ 36 ∧ (c < 47 ∨ (51 < c ∧ c ≠ 55 ∧ c ≠ 56)) ∧ c ≠ 0 ∧ c ≠ 33 ∧ (c < 18 ∨ 22 < c) := by unfold zlc zcc at hc; omega
      rw [qm_nk (by omega), d2.1 c hc'.1 hc'.2.1, ← hI0, qm_nk (by omega)]; exact fx c hc'.2.2.2.1 hc'.2.2.2.2
    · rw [qm_nj (by omega), d2.2.1 8 (by omega), f1 36 (by omega)]
    · rw [qm_nk (by omega), d2.1 0 (by omega) (by omega), ← hI0, qm_nj (by omega), fx 0 (by omega) (by omega)]
    · rw [qm_eq rfl, qm_nk (by omega), d2.1 0 (by omega) (by omega), ← hI0, qm_eq rfl]

/-! THE MODEL'S DEEDS; WHAT HOLDS BETWEEN CLASS AND MODEL -/
/-- a deed as the model numbers it -/
def zmc (c : Nat) : Nat := 100 * (c / 64) + c % 64
def zMs (n : Nat) (st : ZR) (R : Nat → Int32) : Prop := R 0 = qn n ∧ R 55 = qn st.2 ∧ R 56 = qn st.1.length ∧ zrow 57 st.1 R ∧ zrow 69 (zls n st.1) R
def zrd (ds : List Nat) (R : Nat → Int32) : Prop := ∀ d, d < ds.length → R (15 + d) = qn (zmc (zat ds d))
def zfall (n : Nat) (st : ZR) (c : Nat) : Nat := if c / 64 = 2 then (zback n (c % 64) st.1).2.2 else 0
theorem zMs_eq {n : Nat} {st : ZR} {R R' : Nat → Int32} (h : zMs n st R) (hl : st.1.length ≤ 12) (hn : n ≤ 6) (hT : zT n st.1) (e0 : R' 0 = R 0) (e : ∀ j, 55 ≤ j → j < 75 → R' j = R j) : zMs n st R' := by
  obtain ⟨x0, x1, x2, x3, x4⟩ := h
  have hlz : (zls n st.1).length = n := (zls_P hT).2.1
  exact ⟨by rw [e0]; exact x0, by rw [e 55 (by omega) (by omega)]; exact x1, by rw [e 56 (by omega) (by omega)]; exact x2, fun p hp => by rw [e (57 + p) (by omega) (by omega)]; exact x3 p hp, fun p hp => by rw [e (69 + p) (by omega) (by omega)]; exact x4 p hp⟩
/-! the line on both sides; kept ones -/
def zSt (n L0 : Nat) (K P : Nat → Nat) (ds : List Nat) (kp : Nat → Option (List Nat)) : Prop :=
  n ≤ 6 ∧ L0 ≤ 20 ∧ (∀ i, i < n → K i ≤ 5 ∧ 1 ≤ P i ∧ P i ≤ 9) ∧ (ds.length ≤ 40 ∧ zval n ([], L0) ds) ∧ ∀ k, k < 3 → ∀ d, kp k = some d → d.length ≤ 40 ∧ zval n ([], L0) d
def zXL (n L0 : Nat) (K P : Nat → Nat) (ds : List Nat) (I : Nat → Nat → Int32) : Prop := I 15 1 = qn L0 ∧ (∀ i, i < n → I 16 i = qn (K i) ∧ I 17 i = qn (P i)) ∧ zXs n (zrun n L0 ds) ds I
def zML (n L0 : Nat) (K P : Nat → Nat) (ds : List Nat) (R : Nat → Int32) : Prop := R 1 = qn L0 ∧ (∀ i, i < n → R (2 + i) = qn (K i) ∧ R (8 + i) = qn (P i)) ∧ R 14 = qn ds.length ∧ zrd ds R ∧ zMs n (zrun n L0 ds) R
def zKX (kp : Nat → Option (List Nat)) (I : Nat → Nat → Int32) : Prop := ∀ k, k < 3 → (kp k = none → I 8 k = -qn 1) ∧ ∀ d, kp k = some d → I 8 k = qn d.length ∧ ∀ j, j < d.length → I 9 (k * 40 + j) = qn (zat d j)
def zKM (n L0 : Nat) (K P : Nat → Nat) (kp : Nat → Option (List Nat)) (I : Nat → Nat → Int32) : Prop := ∀ k, k < 3 → (kp k = none → I 39 k = qn 0) ∧ ∀ d, kp k = some d → I 39 k = qn 1 ∧ zML n L0 K P d (fun j => I 38 (75 * k + j))
def zLn (n L0 : Nat) (K P : Nat → Nat) (ds : List Nat) (kp : Nat → Option (List Nat)) (I : Nat → Nat → Int32) : Prop :=
  zXL n L0 K P ds I ∧ zKX kp I ∧ zML n L0 K P ds (I 37) ∧ zKM n L0 K P kp I
/-- what is common -/
def zC (I : Nat → Nat → Int32) (J : Nat → Nat → Int64) : Prop :=
  (I 1 0 = qn 40 ∧ I 4 0 = qn 60 ∧ I 7 0 = qn 40) ∧ (I 41 = I 2 ∧ I 40 = I 3 ∧ I 43 = I 5 ∧ I 42 = I 6 ∧ I 44 = I 35) ∧ (I 36 8 = I 0 10 ∧ I 36 9 = I 0 11 ∧ J 36 10 = J 0 12 ∧ J 36 11 = J 0 13) ∧
  (∀ r, r < 6 → I 2 r = -qn 1 ∨ ∃ m, m ≤ 40 ∧ I 2 r = qn m) ∧ ∀ t, t < 4 → I 5 t = -qn 1 ∨ ∃ m, m ≤ 60 ∧ I 5 t = qn m
def zR (I : Nat → Nat → Int32) (J : Nat → Nat → Int64) : Prop := ∃ n L0 K P ds kp, zSt n L0 K P ds kp ∧ zC I J ∧ zLn n L0 K P ds kp I
def zsim {α : Type} (f g : (Nat → Nat → Int32) → (Nat → Nat → Int64) → Option (α × (Nat → Nat → Int32) × (Nat → Nat → Int64))) : Prop :=
  ∀ (I : Nat → Nat → Int32) (J : Nat → Nat → Int64), zR I J → ∃ v I1 J1 I2 J2, f I J = some (v, I1, J1) ∧ g I1 J1 = some (v, I2, J2) ∧ zR I2 J2
/-- the cells of the line -/
def zlc (c : Nat) : Prop := c = 8 ∨ c = 9 ∨ (14 ≤ c ∧ c < 18) ∨ c = 23 ∨ c = 24 ∨ (37 ≤ c ∧ c < 40)
theorem zXs_eq {n : Nat} {st : ZR} {ds : List Nat} {I I' : Nat → Nat → Int32} (h : zXs n st ds I) (e : ∀ c, c = 14 ∨ c = 15 ∨ c = 23 ∨ c = 24 → I' c = I c) : zXs n st ds I' := by
  unfold zXs at h ⊢
  rw [e 14 (by omega), e 15 (by omega), e 23 (by omega), e 24 (by omega)]; exact h
theorem zLn_eq {n L0 : Nat} {K P : Nat → Nat} {ds : List Nat} {kp : Nat → Option (List Nat)} {I I' : Nat → Nat → Int32} (h : zLn n L0 K P ds kp I) (e : ∀ c, zlc c → I' c = I c) : zLn n L0 K P ds kp I' := by
  unfold zlc at e
  obtain ⟨h1, h2, h3, h4⟩ := h
  refine ⟨?_, ?_, by rw [e 37 (by omega)]; exact h3, ?_⟩
  · unfold zXL at h1 ⊢
    rw [e 15 (by omega), e 16 (by omega), e 17 (by omega)]
    exact ⟨h1.1, h1.2.1, zXs_eq h1.2.2 (fun c hc => e c (by omega))⟩
  · unfold zKX at h2 ⊢
    rw [e 8 (by omega), e 9 (by omega)]; exact h2
  · unfold zKM at h4 ⊢
    rw [e 38 (by omega), e 39 (by omega)]; exact h4
/-- the relation stays where the line's cells do and what is common is -/
theorem zR_of {I I' : Nat → Nat → Int32} {J J' : Nat → Nat → Int64} (h : zR I J) (e : ∀ c, zlc c → I' c = I c) (hc : zC I' J') : zR I' J' := by
  obtain ⟨n, L0, K, P, ds, kp, h1, h2, h3⟩ := h
  exact ⟨n, L0, K, P, ds, kp, h1, hc, zLn_eq h3 e⟩
/-- the cells of what is common, but the two objects -/
def zcc (c : Nat) : Prop := (1 ≤ c ∧ c < 8) ∨ c = 35 ∨ (40 ≤ c ∧ c < 45)
theorem zC_eq {I I' : Nat → Nat → Int32} {J J' : Nat → Nat → Int64} (h : zC I J) (e : ∀ c, zcc c → I' c = I c) (e1 : I' 36 8 = I' 0 10) (e2 : I' 36 9 = I' 0 11) (e3 : J' 36 10 = J' 0 12) (e4 : J' 36 11 = J' 0 13) : zC I' J' := by
  unfold zcc at e
  obtain ⟨h1, h2, h3, h4, h5⟩ := h
  refine ⟨?_, ?_, ⟨e1, e2, e3, e4⟩, ?_, ?_⟩
  · rw [e 1 (by omega), e 4 (by omega), e 7 (by omega)]; exact h1
  · rw [e 41 (by omega), e 40 (by omega), e 43 (by omega), e 42 (by omega), e 44 (by omega), e 2 (by omega), e 3 (by omega), e 5 (by omega), e 6 (by omega), e 35 (by omega)]; exact h2
  · rw [e 2 (by omega)]; exact h4
  · rw [e 5 (by omega)]; exact h5

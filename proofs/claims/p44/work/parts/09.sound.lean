/-! A STEP OF THE FUNCTION IS A STEP OF THE MACHINE -/
theorem qp_up_row {α : Type} {f : Nat → Nat → α} {k j : Nat} {v : α} {k' : Nat} (h : k' ≠ k) : qp_up f k j v k' = f k' := funext fun _ => qp_up_ne h
theorem qp_up_upd {f : Nat → Nat → Int32} {k j : Nat} {v : Int32} : qp_up f k j v k = upd (f k) j v := by
  funext j'
  unfold upd
  by_cases h : j' = j
  · subst h; rw [if_pos rfl, qp_up_eq]
  · rw [if_neg h, qp_up_nj h]
theorem qp_get_ne {M M' : qp_M} {ci r k : Nat} (h1 : M'.1 r k = M.1 r k) (h2 : M'.2.1 r k = M.2.1 r k) (h3 : M'.2.2.1 r k = M.2.2.1 r k) : qp_get M' ci r k = qp_get M ci r k := by
  unfold qp_get; rw [h1, h2, h3]
theorem qp_e_same {G : qp_G} {M M' : qp_M} {ad : Nat → Nat} {r : Nat} (h1 : M'.1 r = M.1 r) (h2 : M'.2.1 r = M.2.1 r) (h3 : M'.2.2.1 r = M.2.2.1 r) (h4 : M'.2.2.2.1 r = M.2.2.2.1 r) : qp_e G M' ad r = qp_e G M ad r := by
  unfold qp_e qp_fs
  rw [h1, h4]
  have e : ∀ (ci : Nat), (fun k => qp_tr ad (qp_get M' ci r k)) = (fun k => qp_tr ad (qp_get M ci r k)) := fun ci => funext fun k => congrArg (qp_tr ad) (qp_get_ne (by rw [h1]) (by rw [h2]) (by rw [h3]))
  rw [e]
theorem qp_fs_set {M M' : qp_M} {ad : Nat → Nat} {r k : Nat} {w : Value} (h4 : M'.2.2.2.1 r = M.2.2.2.1 r) (hk : qp_tr ad (qp_get M' (M.2.2.2.1 r).1 r k) = w) (ho : ∀ j, j ≠ k → qp_get M' (M.2.2.2.1 r).1 r j = qp_get M (M.2.2.2.1 r).1 r j) : qp_fs M' ad r = (qp_fs M ad r).set k w := by
  apply List.ext_getElem?
  intro j
  unfold qp_fs
  rw [h4, List.getElem?_set]
  by_cases hj : k = j
  · subst hj
    rw [if_pos rfl]
    by_cases hl : k < (M.2.2.2.1 r).2
    · rw [if_pos (by simpa using hl)]
      simp [hl, hk]
    · rw [if_neg (by simpa using hl)]
      simp [hl]
  · rw [if_neg hj]
    by_cases hl : j < (M.2.2.2.1 r).2
    · simp [hl, ho j (fun q => hj q.symm)]
    · simp [hl]
theorem qp_fs_at {M : qp_M} {ad : Nat → Nat} {r k : Nat} (h : k < (M.2.2.2.1 r).2) : (qp_fs M ad r)[k]? = some (qp_tr ad (qp_get M (M.2.2.2.1 r).1 r k)) := by simp [qp_fs, h]
theorem qp_e_obj {G : qp_G} {M : qp_M} {ad : Nat → Nat} {r t : Nat} (h : (M.2.2.2.1 r).1 = t) (ht : t < 50) : qp_e G M ad r = .inr (t, qp_fs M ad r) := by
  have e1 : Nat.beq (M.2.2.2.1 r).1 50 = false := Bool.eq_false_iff.mpr (fun q => by have := Nat.eq_of_beq_eq_true q; omega)
  have e2 : Nat.beq (M.2.2.2.1 r).1 51 = false := Bool.eq_false_iff.mpr (fun q => by have := Nat.eq_of_beq_eq_true q; omega)
  unfold qp_e
  rw [e1, e2, h]
  rfl
theorem qp_e_int {G : qp_G} {M : qp_M} {ad : Nat → Nat} {r : Nat} (h : (M.2.2.2.1 r).1 = 50) : qp_e G M ad r = .inl (G.2.1, ((M.2.2.2.1 r).2, .inl (M.1 r))) := by
  unfold qp_e; rw [h]; rfl
theorem qp_e_boo {G : qp_G} {M : qp_M} {ad : Nat → Nat} {r : Nat} (h : (M.2.2.2.1 r).1 = 51) : qp_e G M ad r = .inl (G.2.2.1, ((M.2.2.2.1 r).2, .inl (M.1 r))) := by
  unfold qp_e; rw [h]; rfl
theorem qp_and {a b : Bool} (h : (a && b) = true) : a = true ∧ b = true := by simpa using h
theorem qp_blt {a b : Nat} (h : Nat.blt a b = true) : a < b := by
  unfold Nat.blt at h
  exact Nat.le_of_ble_eq_true h
theorem qp_kn_tr {n : Nat} {ad ad' : Nat → Nat} (ha : ∀ k, k < n → ad' k = ad k) (h1 : ∀ k, 1000 ≤ k → ad' k = ad k) {v : Value} (h : qp_kn n v = true) : qp_tr ad' v = qp_tr ad v := by
  cases v with
  | ref r =>
    unfold qp_kn at h
    rcases (Bool.or_eq_true _ _).mp h with h | h
    · show Value.ref _ = Value.ref _
      rw [ha r (qp_blt h)]
    · show Value.ref _ = Value.ref _
      rw [h1 r (Nat.le_of_ble_eq_true h)]
  | _ => rfl
theorem qp_mk1_old {M : qp_M} {tag n k : Nat} (h : k < M.2.2.2.2.1) : (qp_mk1 M tag n).1 k = M.1 k ∧ (qp_mk1 M tag n).2.1 k = M.2.1 k ∧ (qp_mk1 M tag n).2.2.1 k = M.2.2.1 k ∧ (qp_mk1 M tag n).2.2.2.1 k = M.2.2.2.1 k := by
  have h0 : Nat.beq M.2.2.2.2.1 k = false := Bool.eq_false_iff.mpr (fun q => by have := Nat.eq_of_beq_eq_true q; omega)
  refine ⟨funext fun j => ?_, funext fun j => ?_, funext fun j => ?_, ?_⟩
  · show (bif Nat.beq M.2.2.2.2.1 k then _ else _) = _; rw [h0]; rfl
  · show (bif Nat.beq M.2.2.2.2.1 k then _ else _) = _; rw [h0]; rfl
  · show (bif Nat.beq M.2.2.2.2.1 k then _ else _) = _; rw [h0]; rfl
  · exact qp_up1_ne (by omega)
theorem qp_mk1_new {M : qp_M} {tag n : Nat} : (∀ j, (qp_mk1 M tag n).1 M.2.2.2.2.1 j = 0) ∧ (∀ j, (qp_mk1 M tag n).2.1 M.2.2.2.2.1 j = 0) ∧ (∀ j, (qp_mk1 M tag n).2.2.1 M.2.2.2.2.1 j = none) ∧ (qp_mk1 M tag n).2.2.2.1 M.2.2.2.2.1 = (tag, n) := by
  have h0 : Nat.beq M.2.2.2.2.1 M.2.2.2.2.1 = true := by simp
  refine ⟨fun j => ?_, fun j => ?_, fun j => ?_, qp_up1_eq⟩
  · show (bif Nat.beq M.2.2.2.2.1 M.2.2.2.2.1 then _ else _) = _; rw [h0]; rfl
  · show (bif Nat.beq M.2.2.2.2.1 M.2.2.2.2.1 then _ else _) = _; rw [h0]; rfl
  · show (bif Nat.beq M.2.2.2.2.1 M.2.2.2.2.1 then _ else _) = _; rw [h0]; rfl
theorem qp_known {G : qp_G} {M : qp_M} {ad ad' : Nat → Nat} {pc tag n : Nat} {L : List (Option Value)} {st : List Value} (ha : ∀ k, k < M.2.2.2.2.1 → ad' k = ad k) (h1 : ∀ k, 1000 ≤ k → ad' k = ad k) (hk : qp_knw (pc, L, st, M) = true) :
    (∀ v, some v ∈ L → qp_tr ad' v = qp_tr ad v) ∧ st.map (qp_tr ad') = st.map (qp_tr ad) ∧ ∀ k, k < M.2.2.2.2.1 → qp_e G (qp_mk1 M tag n) ad' k = qp_e G M ad k := by
  unfold qp_knw at hk
  obtain ⟨hk, k3⟩ := qp_and hk
  obtain ⟨k1, k2⟩ := qp_and hk
  refine ⟨fun v hv => qp_kn_tr ha h1 (List.all_eq_true.mp k1 _ hv), List.map_congr_left (fun v hv => qp_kn_tr ha h1 (List.all_eq_true.mp k2 _ hv)), fun k hl => ?_⟩
  have h3 := List.all_eq_true.mp k3 k (List.mem_range.mpr hl)
  obtain ⟨e1, e2, e3, e4⟩ := qp_mk1_old (tag := tag) (n := n) hl
  by_cases c1 : (M.2.2.2.1 k).1 = 50
  · rw [qp_e_int (by rw [e4]; exact c1), qp_e_int c1, e1, e4]
  · by_cases c2 : (M.2.2.2.1 k).1 = 51
    · rw [qp_e_boo (by rw [e4]; exact c2), qp_e_boo c2, e1, e4]
    · have d1 : Nat.beq (M.2.2.2.1 k).1 50 = false := Bool.eq_false_iff.mpr (fun q => c1 (Nat.eq_of_beq_eq_true q))
      have d2 : Nat.beq (M.2.2.2.1 k).1 51 = false := Bool.eq_false_iff.mpr (fun q => c2 (Nat.eq_of_beq_eq_true q))
      have f1 : qp_e G M ad k = .inr ((M.2.2.2.1 k).1, qp_fs M ad k) := by unfold qp_e; rw [d1, d2]; rfl
      have f2 : qp_e G (qp_mk1 M tag n) ad' k = .inr ((M.2.2.2.1 k).1, qp_fs (qp_mk1 M tag n) ad' k) := by unfold qp_e; rw [e4, d1, d2]; rfl
      rw [f1, f2]
      congr 2
      unfold qp_fs
      rw [e4]
      apply List.map_congr_left
      intro j hj
      simp only [d1, d2, Bool.or_false, cond_false] at h3
      have h4 := List.all_eq_true.mp h3 j hj
      rw [qp_get_ne (M := M) (M' := qp_mk1 M tag n) (by rw [e1]) (by rw [e2]) (by rw [e3])]
      exact qp_kn_tr ha h1 h4
theorem qp_Ls_kn {ls : Array Slot} {nL : Nat} {ad ad' : Nat → Nat} {L : List (Option Value)} (h : qp_Ls ls nL ad L) (hk : ∀ v, some v ∈ L → qp_tr ad' v = qp_tr ad v) : qp_Ls ls nL ad' L :=
  ⟨h.1, h.2.1, h.2.2.1, fun i v hi => by rw [hk v (List.mem_of_getElem? hi)]; exact h.2.2.2 i v hi⟩
theorem qp_fit_of {lim : Nat × Nat} {M : qp_M} (h : qp_fit lim M = true) : M.2.2.2.2.1 ≤ lim.1 ∧ M.2.2.2.2.2 ≤ lim.2 ∧ M.2.2.2.2.1 ≤ 900 := by
  unfold qp_fit at h
  obtain ⟨h, h3⟩ := qp_and h
  obtain ⟨h1, h2⟩ := qp_and h
  exact ⟨Nat.le_of_ble_eq_true h1, Nat.le_of_ble_eq_true h2, Nat.le_of_ble_eq_true h3⟩
def qp_X (p : Program) (s : State) (m : MethodId) (args : Array Value) (meth : Method) (cd : Code) (G : qp_G) (o : Nat) (bs : ByteArray) (nL : Nat) (ini : Bool) (A : Nat → Prop) (tl : Nat → Nat) : Prop :=
  p.tables.exec = Jvm.exec ∧ cd.code = bs ∧ cd.maxLocals = nL ∧ s.vm.findClass (qp_R o) = some m.cls ∧ (∀ w ∈ qp_tb, w.before args s = true) ∧ (ini = true → meth.name = "<init>") ∧ va_K G.1 qp_cl (qp_tys G) s ∧ (∀ q : Nat, s.heap.size ≤ q → A q) ∧ (va_Z "QueuePlaces" "LETTERS" "[I" (.ref (tl 1000)) A s s.heap ∧ va_T .int (tl 1000) 6 (fun j => .int (qp_let j)) A s s.heap ∧ va_T .int (tl 2000) G.2.2.2.2.1 (fun j => .int (G.2.2.2.2.2 j)) A s s.heap) ∧ (∀ w ∈ qp_nest, va_Nw w s)
def qp_V (p : Program) (l : Launch) (e : Env) (R : Room) (s : State) (m : MethodId) (args : Array Value) (below : List Frame) (meth : Method) (cd : Code) (G : qp_G) (nL : Nat) (A : Nat → Prop) (n0 q0 : Nat) (ad0 : Nat → Nat) (Z : State → Prop) (c : qp_C) : Prop :=
  ∀ (ad : Nat → Nat) (H : Heap) (locs : List Loc) (ls : Array Slot), (∀ k, (k < n0 ∨ c.2.2.2.2.2.2.2.1 ≤ k) → ad k = ad0 k) → n0 ≤ c.2.2.2.2.2.2.2.1 ∧ q0 ≤ c.2.2.2.2.2.2.2.2 ∧ c.2.2.2.2.2.2.2.1 ≤ 900 → va_P G.1 qp_cl (qp_w G c.2.2.2 ad) H → va_D A (qp_w G c.2.2.2 ad) → va_S A s.heap H locs → qp_Ls ls nL ad c.2.1 →
    W p l e R s m args below meth cd H locs (c.2.2.2.2.2.2.2.1 - n0) (c.2.2.2.2.2.2.2.2 - q0) Z (F0 m c.1 ls (c.2.2.1.map (qp_tr ad)))
section QPS
variable {p : Program} {l : Launch} {e : Env} {R : Room} {s : State} {m : MethodId} {args : Array Value} {below : List Frame} {meth : Method} {cd : Code} {G : qp_G} {o : Nat} {bs : ByteArray} {nL : Nat} {ini : Bool} {A : Nat → Prop} {n0 q0 : Nat} {ad0 : Nat → Nat} {Z : State → Prop} {lim : Nat × Nat}
theorem qp_getstatic (X : qp_X p s m args meth cd G o bs nL ini A ad0) {ix t : Nat} (ho : qp_lk (qp_gR o) ix = some t) {H : Heap} {locs : List Loc} {cells slots pc : Nat} {ls : Array Slot} {st : List Value} (hd : decode bs pc = .ok (.getstatic ix, 3)) (hS : va_S A s.heap H locs)
    (k : W p l e R s m args below meth cd H locs cells slots Z (F0 m (pc + 3) ls (.ref (ad0 1000) :: st))) : W p l e R s m args below meth cd H locs cells slots Z (F0 m pc ls st) := by
  obtain ⟨hx, hb, hml, hown, hts, hin, hK, hA, ⟨hZ, hT, hSc⟩, hN⟩ := X
  have hm := qp_lk_mem ho
  unfold qp_gR at hm
  split at hm
  · next =>
    simp only [List.mem_cons, Prod.mk.injEq, List.not_mem_nil, or_false] at hm
    obtain ⟨rfl, rfl⟩ := hm
    exact va_getsN hx hb hZ hS hown (va_Nw.use rfl (hN _ (List.mem_append_right _ List.mem_cons_self))) (fun _ h => h) hd k
  · cases hm
set_option maxHeartbeats 4000000 in
theorem qp_W1 (X : qp_X p s m args meth cd G o bs nL ini A ad0) {c c' : qp_C} {i : Instr} {v : Int32} {t : Nat} {f : Option Prop} (hd : decode bs c.1 = .ok (i, qp_il i t)) (ho : qp_opd o c.1 i v t = true) (h : qp_step lim o ini i v t c = some (f, c')) (hf : ∀ q, f = some q → q) (hlim : lim.1 ≤ n0 + R.cells ∧ lim.2 ≤ q0 + R.slots) (hR : 1 ≤ R.frames ∧ 40 ≤ R.locals)
    (k : qp_V p l e R s m args below meth cd G nL A n0 q0 ad0 Z c') : qp_V p l e R s m args below meth cd G nL A n0 q0 ad0 Z c := by
  have X0 := X
  obtain ⟨hx, hb, hml, hown, hts, hin, hK, hA, ⟨hZ, hT, hSc⟩, hN⟩ := X
  obtain ⟨pc, L, st, M⟩ := c
  intro ad H locs ls g1 g3 hP hD hS hl
  dsimp only at hd ho g1 g3 hP hD hl ⊢
  have g2 : ad 1000 = ad0 1000 := g1 1000 (Or.inr (by omega))
  have hlL : qp_len L = nL := by rw [qp_len_eq]; exact hl.2.2.1
  cases i with
  | iconst n =>
    simp only [qp_step, qp_psh, Option.some.injEq, Prod.mk.injEq] at h
    obtain ⟨rfl, rfl⟩ := h
    exact lv_iconst hx hb hd (by simpa [qp_opd] using ho) (k ad H locs ls g1 g3 hP hD hS hl)
  | bipush n =>
    simp only [qp_step, qp_psh, Option.some.injEq, Prod.mk.injEq] at h
    obtain ⟨rfl, rfl⟩ := h
    exact lv_bipush hx hb hd (by simpa [qp_opd] using ho) (k ad H locs ls g1 g3 hP hD hS hl)
  | sipush n =>
    simp only [qp_step, qp_psh, Option.some.injEq, Prod.mk.injEq] at h
    obtain ⟨rfl, rfl⟩ := h
    exact lv_sipush hx hb hd (by simpa [qp_opd] using ho) (k ad H locs ls g1 g3 hP hD hS hl)
  | ldc n =>
    simp only [qp_step, qp_psh, Option.some.injEq, Prod.mk.injEq] at h
    obtain ⟨rfl, rfl⟩ := h
    exact lv_ldc hx hb hown (hts _ (qp_mK (by simpa [qp_opd] using ho))) hd (k ad H locs ls g1 g3 hP hD hS hl)
  | ldc_w n =>
    simp only [qp_step, qp_psh, Option.some.injEq, Prod.mk.injEq] at h
    obtain ⟨rfl, rfl⟩ := h
    exact lv_ldcw hx hb hown (hts _ (qp_mK (by simpa [qp_opd] using ho))) hd (k ad H locs ls g1 g3 hP hD hS hl)
  | lconst n =>
    simp only [qp_step, qp_psh, Option.some.injEq, Prod.mk.injEq] at h
    obtain ⟨rfl, rfl⟩ := h
    exact lv_lconst hx hb hd (by rcases n with ⟨n, hn⟩; rcases (by omega : n = 0 ∨ n = 1) with rfl | rfl <;> rfl) (k ad H locs ls g1 g3 hP hD hS hl)
  | ldc2_w n =>
    simp only [qp_step] at h
    split at h
    · next w hw =>
      simp only [qp_psh, Option.some.injEq, Prod.mk.injEq] at h
      obtain ⟨rfl, rfl⟩ := h
      exact lv_ldc2 hx hb hown (hts _ (qp_mL8 hw)) hd (k ad H locs ls g1 g3 hP hD hS hl)
    · cases h
  | iload j =>
    simp only [qp_step, qp_ldI] at h
    split at h
    · next x hx1 =>
      simp only [Option.some.injEq, Prod.mk.injEq] at h
      obtain ⟨rfl, rfl⟩ := h
      exact lv_iload hx hb hd (qp_Ls_at hl hx1) (k ad H locs ls g1 g3 hP hD hS hl)
    · cases h
  | iload_n j =>
    simp only [qp_step, qp_ldI] at h
    split at h
    · next x hx1 =>
      simp only [Option.some.injEq, Prod.mk.injEq] at h
      obtain ⟨rfl, rfl⟩ := h
      exact lv_iload_n hx hb hd rfl (qp_Ls_at hl hx1) (k ad H locs ls g1 g3 hP hD hS hl)
    · cases h
  | lload j =>
    simp only [qp_step, qp_ldL] at h
    split at h
    · next x hx1 =>
      simp only [Option.some.injEq, Prod.mk.injEq] at h
      obtain ⟨rfl, rfl⟩ := h
      exact lv_lload hx hb hd (qp_Ls_at hl hx1) (k ad H locs ls g1 g3 hP hD hS hl)
    · cases h
  | lload_n j =>
    simp only [qp_step, qp_ldL] at h
    split at h
    · next x hx1 =>
      simp only [Option.some.injEq, Prod.mk.injEq] at h
      obtain ⟨rfl, rfl⟩ := h
      exact lv_lload_n hx hb hd rfl (qp_Ls_at hl hx1) (k ad H locs ls g1 g3 hP hD hS hl)
    · cases h
  | aload j =>
    simp only [qp_step, qp_ldR] at h
    split at h
    · next x hx1 =>
      simp only [Option.some.injEq, Prod.mk.injEq] at h
      obtain ⟨rfl, rfl⟩ := h
      exact lv_aload hx hb hd (qp_Ls_at hl hx1) (k ad H locs ls g1 g3 hP hD hS hl)
    · cases h
  | aload_n j =>
    simp only [qp_step, qp_ldR] at h
    split at h
    · next x hx1 =>
      simp only [Option.some.injEq, Prod.mk.injEq] at h
      obtain ⟨rfl, rfl⟩ := h
      exact lv_aload_n hx hb hd rfl (qp_Ls_at hl hx1) (k ad H locs ls g1 g3 hP hD hS hl)
    · cases h
  | istore j =>
    simp only [qp_step, qp_stI] at h
    split at h
    · next x st' =>
      cases hb8 : Nat.blt j (qp_len L) with
      | false => rw [hb8] at h; cases h
      | true =>
        rw [hb8] at h
        simp only [cond_true, Option.some.injEq, Prod.mk.injEq] at h
        obtain ⟨rfl, rfl⟩ := h
        exact lv_istore hx hb hd (qp_Ls_has hl) (by rw [← hlL]; exact qp_blt hb8) rfl (fun ls' h' => k ad H locs ls' g1 g3 hP hD hS (qp_Ls_sto (v := .int x) hl.2.2.1 h'))
    · cases h
  | istore_n j =>
    simp only [qp_step, qp_stI] at h
    split at h
    · next x st' =>
      cases hb8 : Nat.blt j.val (qp_len L) with
      | false => rw [hb8] at h; cases h
      | true =>
        rw [hb8] at h
        simp only [cond_true, Option.some.injEq, Prod.mk.injEq] at h
        obtain ⟨rfl, rfl⟩ := h
        exact lv_istore_n hx hb hd rfl (qp_Ls_has hl) (by rw [← hlL]; exact qp_blt hb8) rfl (fun ls' h' => k ad H locs ls' g1 g3 hP hD hS (qp_Ls_sto (v := .int x) hl.2.2.1 h'))
    · cases h
  | lstore j =>
    simp only [qp_step, qp_stL] at h
    split at h
    · next x st' =>
      cases hb8 : Nat.blt (j + 1) (qp_len L) with
      | false => rw [hb8] at h; cases h
      | true =>
        rw [hb8] at h
        simp only [cond_true, Option.some.injEq, Prod.mk.injEq] at h
        obtain ⟨rfl, rfl⟩ := h
        exact lv_lstore hx hb hd (qp_Ls_has hl) (by rw [← hlL]; exact qp_blt hb8) rfl (fun ls' h' => k ad H locs ls' g1 g3 hP hD hS (qp_Ls_stoL (v := .long x) hl.2.2.1 h'))
    · cases h
  | lstore_n j =>
    simp only [qp_step, qp_stL] at h
    split at h
    · next x st' =>
      cases hb8 : Nat.blt (j.val + 1) (qp_len L) with
      | false => rw [hb8] at h; cases h
      | true =>
        rw [hb8] at h
        simp only [cond_true, Option.some.injEq, Prod.mk.injEq] at h
        obtain ⟨rfl, rfl⟩ := h
        exact lv_lstore_n hx hb hd rfl (qp_Ls_has hl) (by rw [← hlL]; exact qp_blt hb8) rfl (fun ls' h' => k ad H locs ls' g1 g3 hP hD hS (qp_Ls_stoL (v := .long x) hl.2.2.1 h'))
    · cases h
  | astore j =>
    simp only [qp_step, qp_stR] at h
    split at h
    · next x st' =>
      cases hb8 : Nat.blt j (qp_len L) with
      | false => rw [hb8] at h; cases h
      | true =>
        rw [hb8] at h
        simp only [cond_true, Option.some.injEq, Prod.mk.injEq] at h
        obtain ⟨rfl, rfl⟩ := h
        exact lv_astore hx hb hd (qp_Ls_has hl) (by rw [← hlL]; exact qp_blt hb8) rfl (fun ls' h' => k ad H locs ls' g1 g3 hP hD hS (qp_Ls_sto (v := .ref x) hl.2.2.1 h'))
    · cases h
  | astore_n j =>
    simp only [qp_step, qp_stR] at h
    split at h
    · next x st' =>
      cases hb8 : Nat.blt j.val (qp_len L) with
      | false => rw [hb8] at h; cases h
      | true =>
        rw [hb8] at h
        simp only [cond_true, Option.some.injEq, Prod.mk.injEq] at h
        obtain ⟨rfl, rfl⟩ := h
        exact lv_astore_n hx hb hd rfl (qp_Ls_has hl) (by rw [← hlL]; exact qp_blt hb8) rfl (fun ls' h' => k ad H locs ls' g1 g3 hP hD hS (qp_Ls_sto (v := .ref x) hl.2.2.1 h'))
    · cases h
  | iinc j n =>
    simp only [qp_step] at h
    split at h
    · next x hx1 =>
      simp only [Option.some.injEq, Prod.mk.injEq] at h
      obtain ⟨rfl, rfl⟩ := h
      have hv : Int32.ofInt n = v := by simpa [qp_opd] using ho
      have hj : j < nL := by
        rw [qp_nth_eq] at hx1
        have := (List.getElem?_eq_some_iff.mp hx1).1
        rw [hl.2.2.1] at this
        exact this
      obtain ⟨kx, hkx⟩ := List.getElem?_of_mem (qp_lv_mem (ad := ad) (L := L) (i := j) (w := .int x) |>.mpr ⟨.int x, by rw [← qp_nth_eq]; exact hx1, rfl⟩)
      exact lv_iinc hx hb hd (qp_Ls_has hl) hkx (by rw [hv]) hj rfl (fun ls' h' => k ad H locs ls' g1 g3 hP hD hS (qp_Ls_sto (v := .int (x + v)) hl.2.2.1 h'))
    · cases h
  | dup =>
    simp only [qp_step] at h
    split at h
    · simp only [Option.some.injEq, Prod.mk.injEq] at h
      obtain ⟨rfl, rfl⟩ := h
      exact lv_dup hx hb hd rfl (k ad H locs ls g1 g3 hP hD hS hl)
    · simp only [Option.some.injEq, Prod.mk.injEq] at h
      obtain ⟨rfl, rfl⟩ := h
      exact lv_dup hx hb hd rfl (k ad H locs ls g1 g3 hP hD hS hl)
    · cases h
  | dup2 =>
    simp only [qp_step] at h
    split at h
    · simp only [Option.some.injEq, Prod.mk.injEq] at h
      obtain ⟨rfl, rfl⟩ := h
      exact lv_dup2_11 hx hb hd rfl rfl (k ad H locs ls g1 g3 hP hD hS hl)
    · cases h
  | pop =>
    simp only [qp_step] at h
    split at h
    · simp only [Option.some.injEq, Prod.mk.injEq] at h
      obtain ⟨rfl, rfl⟩ := h
      exact lv_pop hx hb hd rfl (k ad H locs ls g1 g3 hP hD hS hl)
    · cases h
  | iadd =>
    simp only [qp_step, qp_two] at h
    split at h
    · simp only [Option.some.injEq, Prod.mk.injEq] at h
      obtain ⟨rfl, rfl⟩ := h
      exact lv_iadd hx hb hd (k ad H locs ls g1 g3 hP hD hS hl)
    · cases h
  | isub =>
    simp only [qp_step, qp_two] at h
    split at h
    · simp only [Option.some.injEq, Prod.mk.injEq] at h
      obtain ⟨rfl, rfl⟩ := h
      exact lv_isub hx hb hd (k ad H locs ls g1 g3 hP hD hS hl)
    · cases h
  | imul =>
    simp only [qp_step, qp_two] at h
    split at h
    · simp only [Option.some.injEq, Prod.mk.injEq] at h
      obtain ⟨rfl, rfl⟩ := h
      exact lv_imul hx hb hd (k ad H locs ls g1 g3 hP hD hS hl)
    · cases h
  | iand =>
    simp only [qp_step, qp_two] at h
    split at h
    · simp only [Option.some.injEq, Prod.mk.injEq] at h
      obtain ⟨rfl, rfl⟩ := h
      exact lv_iand hx hb hd (k ad H locs ls g1 g3 hP hD hS hl)
    · cases h
  | ior =>
    simp only [qp_step, qp_two] at h
    split at h
    · simp only [Option.some.injEq, Prod.mk.injEq] at h
      obtain ⟨rfl, rfl⟩ := h
      exact lv_ior hx hb hd (k ad H locs ls g1 g3 hP hD hS hl)
    · cases h
  | ixor =>
    simp only [qp_step, qp_two] at h
    split at h
    · simp only [Option.some.injEq, Prod.mk.injEq] at h
      obtain ⟨rfl, rfl⟩ := h
      exact lv_ixor hx hb hd (k ad H locs ls g1 g3 hP hD hS hl)
    · cases h
  | ishl =>
    simp only [qp_step, qp_two] at h
    split at h
    · simp only [Option.some.injEq, Prod.mk.injEq] at h
      obtain ⟨rfl, rfl⟩ := h
      exact lv_ishl hx hb hd (k ad H locs ls g1 g3 hP hD hS hl)
    · cases h
  | ishr =>
    simp only [qp_step, qp_two] at h
    split at h
    · simp only [Option.some.injEq, Prod.mk.injEq] at h
      obtain ⟨rfl, rfl⟩ := h
      exact lv_ishr hx hb hd (k ad H locs ls g1 g3 hP hD hS hl)
    · cases h
  | iushr =>
    simp only [qp_step, qp_two] at h
    split at h
    · simp only [Option.some.injEq, Prod.mk.injEq] at h
      obtain ⟨rfl, rfl⟩ := h
      exact lv_iushr hx hb hd rfl (k ad H locs ls g1 g3 hP hD hS hl)
    · cases h
  | idiv =>
    simp only [qp_step, qp_two] at h
    split at h
    · simp only [Option.some.injEq, Prod.mk.injEq] at h
      obtain ⟨rfl, rfl⟩ := h
      exact lv_idiv hx hb hd (hf _ rfl) (k ad H locs ls g1 g3 hP hD hS hl)
    · cases h
  | irem =>
    simp only [qp_step, qp_two] at h
    split at h
    · simp only [Option.some.injEq, Prod.mk.injEq] at h
      obtain ⟨rfl, rfl⟩ := h
      exact lv_irem hx hb hd (hf _ rfl) (k ad H locs ls g1 g3 hP hD hS hl)
    · cases h
  | ladd =>
    simp only [qp_step, qp_twoL] at h
    split at h
    · simp only [Option.some.injEq, Prod.mk.injEq] at h
      obtain ⟨rfl, rfl⟩ := h
      exact lv_ladd hx hb hd (k ad H locs ls g1 g3 hP hD hS hl)
    · cases h
  | lsub =>
    simp only [qp_step, qp_twoL] at h
    split at h
    · simp only [Option.some.injEq, Prod.mk.injEq] at h
      obtain ⟨rfl, rfl⟩ := h
      exact lv_lsub hx hb hd (k ad H locs ls g1 g3 hP hD hS hl)
    · cases h
  | lmul =>
    simp only [qp_step, qp_twoL] at h
    split at h
    · simp only [Option.some.injEq, Prod.mk.injEq] at h
      obtain ⟨rfl, rfl⟩ := h
      exact lv_lmul hx hb hd (k ad H locs ls g1 g3 hP hD hS hl)
    · cases h
  | ldiv =>
    simp only [qp_step, qp_twoL] at h
    split at h
    · simp only [Option.some.injEq, Prod.mk.injEq] at h
      obtain ⟨rfl, rfl⟩ := h
      exact lv_ldiv hx hb hd (hf _ rfl) (k ad H locs ls g1 g3 hP hD hS hl)
    · cases h
  | lrem =>
    simp only [qp_step, qp_twoL] at h
    split at h
    · simp only [Option.some.injEq, Prod.mk.injEq] at h
      obtain ⟨rfl, rfl⟩ := h
      exact lv_lrem hx hb hd (hf _ rfl) (k ad H locs ls g1 g3 hP hD hS hl)
    · cases h
  | ineg =>
    simp only [qp_step] at h
    split at h
    · simp only [Option.some.injEq, Prod.mk.injEq] at h
      obtain ⟨rfl, rfl⟩ := h
      exact lv_ineg hx hb hd (k ad H locs ls g1 g3 hP hD hS hl)
    · cases h
  | lshl =>
    simp only [qp_step] at h
    split at h
    · simp only [Option.some.injEq, Prod.mk.injEq] at h
      obtain ⟨rfl, rfl⟩ := h
      exact lv_lshl hx hb hd rfl (k ad H locs ls g1 g3 hP hD hS hl)
    · cases h
  | lcmp =>
    simp only [qp_step] at h
    split at h
    · simp only [Option.some.injEq, Prod.mk.injEq] at h
      obtain ⟨rfl, rfl⟩ := h
      exact W.lcmp hx hb hd (k ad H locs ls g1 g3 hP hD hS hl)
    · cases h
  | i2l =>
    simp only [qp_step] at h
    split at h
    · simp only [Option.some.injEq, Prod.mk.injEq] at h
      obtain ⟨rfl, rfl⟩ := h
      exact lv_i2l hx hb hd rfl (k ad H locs ls g1 g3 hP hD hS hl)
    · cases h
  | l2i =>
    simp only [qp_step] at h
    split at h
    · simp only [Option.some.injEq, Prod.mk.injEq] at h
      obtain ⟨rfl, rfl⟩ := h
      exact lv_l2i hx hb hd rfl (k ad H locs ls g1 g3 hP hD hS hl)
    · cases h
  | i2b =>
    simp only [qp_step] at h
    split at h
    · simp only [Option.some.injEq, Prod.mk.injEq] at h
      obtain ⟨rfl, rfl⟩ := h
      exact lv_i2b hx hb hd rfl (k ad H locs ls g1 g3 hP hD hS hl)
    · cases h
  | goto off =>
    simp only [qp_step, Option.some.injEq, Prod.mk.injEq] at h
    obtain ⟨rfl, rfl⟩ := h
    exact lv_goto hx hb hd (by simpa [qp_opd] using ho) (k ad H locs ls g1 g3 hP hD hS hl)
  | tableswitch df lo hi offs =>
    simp only [qp_step] at h
    split at h
    · next x st' =>
      simp only [Option.some.injEq, Prod.mk.injEq] at h
      obtain ⟨rfl, rfl⟩ := h
      have k0 := k ad H locs ls g1 g3 hP hD hS hl
      simp only [qp_opd, Bool.and_eq_true, decide_eq_true_eq] at ho
      obtain ⟨⟨o1, o2⟩, o3⟩ := ho
      dsimp only at k0
      unfold qp_swt at k0
      by_cases hc : x.toInt < lo ∨ hi < x.toInt
      · rw [if_pos hc] at k0
        exact lv_tableOut hx hb hd hc (Int.toNat_of_nonneg o1).symm k0
      · rw [if_neg hc] at k0
        have hlt : (x.toInt - lo).toNat < offs.size := by omega
        have hget : offs[(x.toInt - lo).toNat]? = some (offs[(x.toInt - lo).toNat]) := Array.getElem?_eq_getElem hlt
        have hgd : offs.getD (x.toInt - lo).toNat 0 = offs[(x.toInt - lo).toNat] := by simp [hlt]
        rw [hgd] at k0
        have h0 : (0 : Int) ≤ (pc : Int) + offs[(x.toInt - lo).toNat] := by
          have := (Array.all_eq_true.mp o2) _ hlt
          simpa using this
        exact lv_tableIn hx hb hd (fun q => hc (Or.inl q)) (fun q => hc (Or.inr q)) hget (Int.toNat_of_nonneg h0).symm k0
    · cases h
  | iaload =>
    simp only [qp_step, qp_aldI] at h
    split at h
    · next i r st' =>
      cases hb1 : Nat.beq r 1000 with
      | true =>
        rw [hb1] at h
        simp only [cond_true, Option.some.injEq, Prod.mk.injEq] at h
        obtain ⟨rfl, rfl⟩ := h
        have hr : r = 1000 := Nat.eq_of_beq_eq_true hb1
        subst hr
        have k0 := k ad H locs ls g1 g3 hP hD hS hl
        exact va_ti (t := ad 1000) (N := 6) (f := fun j => .int (qp_let j)) (v := .int (qp_let i.toNatClampNeg)) hx hb (by rw [g2]; exact hT) hS (hf _ rfl) rfl hd k0
      | false =>
        rw [hb1, cond_false] at h
        cases hb2 : (Nat.blt r M.2.2.2.2.1 && Nat.beq (M.2.2.2.1 r).1 50) with
        | false => rw [hb2] at h; cases h
        | true =>
          rw [hb2] at h
          simp only [cond_true, Option.some.injEq, Prod.mk.injEq] at h
          obtain ⟨rfl, rfl⟩ := h
          obtain ⟨b1, b2⟩ := qp_and hb2
          have ha := qp_w_at (G := G) (M := M) (ad := ad) (qp_blt b1)
          rw [qp_e_int (Nat.eq_of_beq_eq_true b2)] at ha
          exact va_iald hx hb hK hP r 0 ha rfl (hf _ rfl) hd (k ad H locs ls g1 g3 hP hD hS hl)
    · cases h
  | baload =>
    simp only [qp_step, qp_aldB] at h
    split at h
    · next i r st' =>
      cases hb2 : (Nat.blt r M.2.2.2.2.1 && Nat.beq (M.2.2.2.1 r).1 51) with
      | false => rw [hb2] at h; cases h
      | true =>
        rw [hb2] at h
        simp only [cond_true, Option.some.injEq, Prod.mk.injEq] at h
        obtain ⟨rfl, rfl⟩ := h
        obtain ⟨b1, b2⟩ := qp_and hb2
        have ha := qp_w_at (G := G) (M := M) (ad := ad) (qp_blt b1)
        rw [qp_e_boo (Nat.eq_of_beq_eq_true b2)] at ha
        exact va_zald hx hb hK hP r 1 ha rfl (hf _ rfl) hd (k ad H locs ls g1 g3 hP hD hS hl)
    · cases h
  | iastore =>
    simp only [qp_step, qp_astI] at h
    split at h
    · next x i r st' =>
      cases hb2 : (Nat.blt r M.2.2.2.2.1 && Nat.beq (M.2.2.2.1 r).1 50) with
      | false => rw [hb2] at h; cases h
      | true =>
        rw [hb2] at h
        simp only [cond_true, Option.some.injEq, Prod.mk.injEq] at h
        obtain ⟨rfl, rfl⟩ := h
        obtain ⟨b1, b2⟩ := qp_and hb2
        have b3 := Nat.eq_of_beq_eq_true b2
        have ha := qp_w_at (G := G) (M := M) (ad := ad) (qp_blt b1)
        rw [qp_e_int b3] at ha
        refine va_iast hx hb hK hP hD hS r 0 ha rfl (hf _ rfl) hd (fun H1 locs1 hP1 hD1 hS1 => ?_)
        have e := qp_w_set (G := G) (M := M) (M' := (qp_up M.1 r i.toNatClampNeg x, M.2)) (ad := ad) (r := r) (e := .inl (G.2.1, ((M.2.2.2.1 r).2, .inl (upd (M.1 r) i.toNatClampNeg x)))) rfl ((qp_e_int (M := (qp_up M.1 r i.toNatClampNeg x, M.2)) b3).trans (by show Sum.inl (G.2.1, ((M.2.2.2.1 r).2, Sum.inl (qp_up M.1 r i.toNatClampNeg x r))) = _; rw [qp_up_upd])) (fun k' hk' => qp_e_same (qp_up_row hk') rfl rfl rfl)
        rw [e] at hP1 hD1
        exact k ad H1 locs1 ls g1 g3 hP1 hD1 hS1 hl
    · cases h
  | bastore =>
    simp only [qp_step, qp_astB] at h
    split at h
    · next x i r st' =>
      cases hb2 : (Nat.blt r M.2.2.2.2.1 && Nat.beq (M.2.2.2.1 r).1 51) with
      | false => rw [hb2] at h; cases h
      | true =>
        rw [hb2] at h
        simp only [cond_true, Option.some.injEq, Prod.mk.injEq] at h
        obtain ⟨rfl, rfl⟩ := h
        obtain ⟨b1, b2⟩ := qp_and hb2
        have b3 := Nat.eq_of_beq_eq_true b2
        have ha := qp_w_at (G := G) (M := M) (ad := ad) (qp_blt b1)
        rw [qp_e_boo b3] at ha
        have hf2 := hf _ rfl
        refine va_zast hx hb hK hP hD hS r 1 ha rfl hf2.1 hd (fun H1 locs1 hP1 hD1 hS1 => ?_)
        rw [hf2.2] at hP1 hD1
        have e := qp_w_set (G := G) (M := M) (M' := (qp_up M.1 r i.toNatClampNeg x, M.2)) (ad := ad) (r := r) (e := .inl (G.2.2.1, ((M.2.2.2.1 r).2, .inl (upd (M.1 r) i.toNatClampNeg x)))) rfl ((qp_e_boo (M := (qp_up M.1 r i.toNatClampNeg x, M.2)) b3).trans (by show Sum.inl (G.2.2.1, ((M.2.2.2.1 r).2, Sum.inl (qp_up M.1 r i.toNatClampNeg x r))) = _; rw [qp_up_upd])) (fun k' hk' => qp_e_same (qp_up_row hk') rfl rfl rfl)
        rw [e] at hP1 hD1
        exact k ad H1 locs1 ls g1 g3 hP1 hD1 hS1 hl
    · cases h
  | arraylength =>
    simp only [qp_step, qp_aln] at h
    split at h
    · next r st' =>
      cases hb1 : Nat.beq r 1000 with
      | true =>
        rw [hb1] at h
        simp only [cond_true, Option.some.injEq, Prod.mk.injEq] at h
        obtain ⟨rfl, rfl⟩ := h
        have hr : r = 1000 := Nat.eq_of_beq_eq_true hb1
        subst hr
        exact va_tlen (t := ad 1000) hx hb (by rw [g2]; exact hT) hS rfl hd (k ad H locs ls g1 g3 hP hD hS hl)
      | false =>
        rw [hb1, cond_false] at h
        cases hb2 : (Nat.blt r M.2.2.2.2.1 && Nat.ble 50 (M.2.2.2.1 r).1) with
        | false => rw [hb2] at h; cases h
        | true =>
          rw [hb2] at h
          simp only [cond_true, Option.some.injEq, Prod.mk.injEq] at h
          obtain ⟨rfl, rfl⟩ := h
          obtain ⟨b1, b2⟩ := qp_and hb2
          have ha := qp_w_at (G := G) (M := M) (ad := ad) (qp_blt b1)
          have hobj := hP r _ ha
          by_cases c1 : (M.2.2.2.1 r).1 = 50
          · rw [qp_e_int c1] at ha
            exact va_alen hx hb hK hP r 0 ha rfl rfl hd (k ad H locs ls g1 g3 hP hD hS hl)
          · by_cases c2 : (M.2.2.2.1 r).1 = 51
            · rw [qp_e_boo c2] at ha
              exact va_alen hx hb hK hP r 1 ha rfl rfl hd (k ad H locs ls g1 g3 hP hD hS hl)
            · have e1 : Nat.beq (M.2.2.2.1 r).1 50 = false := Bool.eq_false_iff.mpr (fun q => c1 (Nat.eq_of_beq_eq_true q))
              have e2 : Nat.beq (M.2.2.2.1 r).1 51 = false := Bool.eq_false_iff.mpr (fun q => c2 (Nat.eq_of_beq_eq_true q))
              have e3 : qp_e G M ad r = .inr ((M.2.2.2.1 r).1, qp_fs M ad r) := by unfold qp_e; rw [e1, e2]; rfl
              rw [e3] at hobj
              obtain ⟨r', h1, -⟩ := hobj
              have hl1 := (List.getElem?_eq_some_iff.mp h1).1
              have hl2 := Nat.le_of_ble_eq_true b2
              simp [qp_cl] at hl1
              omega
    · cases h
  | getfield ix =>
    simp only [qp_step, qp_gtf] at h
    split at h
    · next r st' =>
      cases hb2 : (Nat.blt r M.2.2.2.2.1 && (Nat.beq (M.2.2.2.1 r).1 (t / 100) && Nat.blt (t % 100) (M.2.2.2.1 r).2)) with
      | false => rw [hb2] at h; cases h
      | true =>
        rw [hb2] at h
        simp only [cond_true, Option.some.injEq, Prod.mk.injEq] at h
        obtain ⟨rfl, rfl⟩ := h
        obtain ⟨b1, b2⟩ := qp_and hb2
        obtain ⟨b3, b4⟩ := qp_and b2
        have b5 := Nat.eq_of_beq_eq_true b3
        have hlk : qp_lk (qp_fR o) ix = some t := by simpa [qp_opd] using ho
        obtain ⟨m1, m2⟩ := qp_mFN hlk
        have ha := qp_w_at (G := G) (M := M) (ad := ad) (qp_blt b1)
        rw [qp_e_obj b5 (by omega)] at ha
        have hv := qp_fs_at (M := M) (ad := ad) (r := r) (qp_blt b4)
        rw [b5] at hv
        exact va_get (C := qp_R (t / 100)) (T := qp_T (t / 100)) (N := qp_N (t / 100)) (ci := t / 100) hx hb hts (qp_mU m1) hown hK hP r ha (qp_cl_at m1) (t % 100) m2 (hts _ (qp_mF hlk)) (fun _ h9 => h9) hv hd (k ad H locs ls g1 g3 hP hD hS hl)
    · cases h
  | putfield ix =>
    simp only [qp_step, qp_ptf] at h
    split at h
    · next v0 r st' =>
      cases hb2 : (Nat.blt r M.2.2.2.2.1 && (Nat.beq (M.2.2.2.1 r).1 (t / 100) && (Nat.blt (t % 100) (M.2.2.2.1 r).2 && ((ini && Nat.beq (t / 100) o) || !qp_fin (t / 100) (t % 100))))) with
      | false => rw [hb2] at h; cases h
      | true =>
        rw [hb2, cond_true] at h
        split at h
        · next M' hM' =>
          simp only [Option.some.injEq, Prod.mk.injEq] at h
          obtain ⟨rfl, rfl⟩ := h
          obtain ⟨b1, b2⟩ := qp_and hb2
          obtain ⟨b3, b4⟩ := qp_and b2
          obtain ⟨b6, b7⟩ := qp_and b4
          have b5 := Nat.eq_of_beq_eq_true b3
          have hlk : qp_lk (qp_fR o) ix = some t := by simpa [qp_opd] using ho
          obtain ⟨m1, m2⟩ := qp_mFN hlk
          have ha := qp_w_at (G := G) (M := M) (ad := ad) (qp_blt b1)
          rw [qp_e_obj b5 (by omega)] at ha
          have hft := qp_hft _ m1 _ m2
          have key : (narrow (qp_ty (t / 100) (t % 100)) (qp_tr ad v0) = qp_tr ad v0) ∧ fits (qp_ty (t / 100) (t % 100)) (qp_tr ad v0) = true ∧ (qp_w G M ad).set r (ad r, .inr (t / 100, (qp_fs M ad r).set (t % 100) (qp_tr ad v0))) = qp_w G M' ad ∧ M'.2.2.2.2 = M.2.2.2.2 := by
            unfold qp_put at hM'
            split at hM'
            · next x hft0 =>
              rw [hft0] at hft
              have hty : qp_ty (t / 100) (t % 100) = .int := by simpa using hft
              simp only [Option.some.injEq] at hM'
              subst hM'
              refine ⟨by rw [hty]; rfl, by rw [hty]; rfl, ?_, rfl⟩
              refine qp_w_set rfl ?_ (fun k' hk' => qp_e_same (qp_up_row hk') rfl rfl rfl)
              rw [qp_e_obj (M := (qp_up M.1 r (t % 100) x, M.2)) b5 (by omega)]
              rw [qp_fs_set (M := M) (M' := (qp_up M.1 r (t % 100) x, M.2)) (k := t % 100) (w := .int x) rfl (by rw [b5]; unfold qp_get; rw [hft0]; show qp_tr ad (.int (qp_up M.1 r (t % 100) x r (t % 100))) = _; rw [qp_up_eq]; rfl) (fun j hj => qp_get_ne (qp_up_nj hj) rfl rfl)]
              rfl
            · next x hft0 =>
              rw [hft0] at hft
              have hty : qp_ty (t / 100) (t % 100) = .long := by simpa using hft
              simp only [Option.some.injEq] at hM'
              subst hM'
              refine ⟨by rw [hty]; rfl, by rw [hty]; rfl, ?_, rfl⟩
              refine qp_w_set rfl ?_ (fun k' hk' => qp_e_same rfl (qp_up_row hk') rfl rfl)
              rw [qp_e_obj (M := (M.1, qp_up M.2.1 r (t % 100) x, M.2.2)) b5 (by omega)]
              rw [qp_fs_set (M := M) (M' := (M.1, qp_up M.2.1 r (t % 100) x, M.2.2)) (k := t % 100) (w := .long x) rfl (by rw [b5]; unfold qp_get; rw [hft0]; show qp_tr ad (.long (qp_up M.2.1 r (t % 100) x r (t % 100))) = _; rw [qp_up_eq]; rfl) (fun j hj => qp_get_ne rfl (qp_up_nj hj) rfl)]
              rfl
            · next q hft0 =>
              rw [hft0] at hft
              simp only [Option.some.injEq] at hM'
              subst hM'
              refine ⟨?_, ?_, ?_, rfl⟩
              · revert hft; cases qp_ty (t / 100) (t % 100) <;> intro hft <;> first | rfl | (exact absurd hft (by simp [qp_isr]))
              · revert hft; cases qp_ty (t / 100) (t % 100) <;> intro hft <;> first | rfl | (exact absurd hft (by simp [qp_isr]))
              refine qp_w_set rfl ?_ (fun k' hk' => qp_e_same rfl rfl (qp_up_row hk') rfl)
              rw [qp_e_obj (M := (M.1, M.2.1, qp_up M.2.2.1 r (t % 100) (some q), M.2.2.2)) b5 (by omega)]
              rw [qp_fs_set (M := M) (M' := (M.1, M.2.1, qp_up M.2.2.1 r (t % 100) (some q), M.2.2.2)) (k := t % 100) (w := .ref (ad q)) rfl (by rw [b5]; unfold qp_get; rw [hft0]; show qp_tr ad (va_rf (qp_up M.2.2.1 r (t % 100) (some q) r (t % 100))) = _; rw [qp_up_eq]; rfl) (fun j hj => qp_get_ne rfl rfl (qp_up_nj hj))]
              rfl
            · cases hM'
          obtain ⟨k1, k2, k3, k4⟩ := key
          have hlen : t % 100 < (qp_fs M ad r).length := by simpa [qp_fs] using qp_blt b6
          have kk : ∀ (H1 : Heap) (locs1 : List Loc), va_P G.1 qp_cl ((qp_w G M ad).set r (ad r, .inr (t / 100, (qp_fs M ad r).set (t % 100) (qp_tr ad v0)))) H1 → va_D A ((qp_w G M ad).set r (ad r, .inr (t / 100, (qp_fs M ad r).set (t % 100) (qp_tr ad v0)))) → va_S A s.heap H1 locs1 → W p l e R s m args below meth cd H1 locs1 (M.2.2.2.2.1 - n0) (M.2.2.2.2.2 - q0) Z (F0 m (pc + 3) ls (st'.map (qp_tr ad))) := by
            intro H1 locs1 hP1 hD1 hS1
            rw [k3] at hP1 hD1
            have k0 := k ad H1 locs1 ls (by dsimp only; rw [k4]; exact g1) (by dsimp only; rw [k4]; exact g3) hP1 hD1 hS1 hl
            dsimp only at k0
            rw [k4] at k0
            exact k0
          cases hfn : qp_fin (t / 100) (t % 100) with
          | false =>
            exact va_put (C := qp_R (t / 100)) (T := qp_T (t / 100)) (N := qp_N (t / 100)) (ci := t / 100) hx hb hts (qp_mU m1) (qp_ty (t / 100)) (qp_hty _ m1) (qp_hnm _ m1) hown hK hP hD hS r ha (qp_cl_at m1) (t % 100) m2 (hts _ (qp_mF hlk)) (fun _ h9 => h9) (by rw [qp_hfin _ m1 _ m2]; exact hfn) (qp_hty _ m1 _ m2) k1 k2 hlen hd kk
          | true =>
            rw [hfn] at b7
            simp only [Bool.not_true, Bool.or_false, Bool.and_eq_true] at b7
            exact va_putF (C := qp_R (t / 100)) (T := qp_T (t / 100)) (N := qp_N (t / 100)) (ci := t / 100) hx hb hts (qp_mU m1) (qp_ty (t / 100)) (qp_hty _ m1) (qp_hnm _ m1) hown hK hP hD hS r ha (qp_cl_at m1) (t % 100) m2 (hts _ (qp_mF hlk)) (fun _ h9 => h9) (by rw [qp_hfin _ m1 _ m2]; exact hfn) (hin b7.1) (by show qp_R (t / 100) = _; rw [Nat.eq_of_beq_eq_true b7.2]) (qp_hty _ m1 _ m2) k1 k2 hlen hd kk
        · cases h
    · cases h
  | getstatic ix =>
    simp only [qp_step, qp_psh, Option.some.injEq, Prod.mk.injEq] at h
    obtain ⟨rfl, rfl⟩ := h
    have k0 := k ad H locs ls g1 g3 hP hD hS hl
    refine qp_getstatic X0 (by simpa [qp_opd] using ho) hd hS ?_
    rw [← g2]
    exact k0
  | invokespecial ix =>
    simp only [qp_step] at h
    cases hb1 : Nat.beq t 5 with
    | false => rw [hb1] at h; cases h
    | true =>
      rw [hb1, cond_true] at h
      split at h
      · next r st' =>
        cases hb2 : Nat.ble (qp_cat st') 8 with
        | false => rw [hb2] at h; cases h
        | true =>
          rw [hb2] at h
          simp only [cond_true, Option.some.injEq, Prod.mk.injEq] at h
          obtain ⟨rfl, rfl⟩ := h
          have ht : t = 5 := Nat.eq_of_beq_eq_true hb1
          subst ht
          have hlk : qp_lk (qp_iR o) ix = some 5 := by simpa [qp_opd] using ho
          have hw := qp_mV hlk rfl
          refine W.objInit hx hb hown (idx := ix) (hts _ hw) (hts _ qp_mO2) (hts _ qp_mO1) rfl (by rw [hml]; exact hl.1) rfl hd hR.1 ?_ (k ad H locs ls g1 g3 hP hD hS hl)
          show 2 * 0 + ((st'.map (qp_tr ad)).map (fun v => v.category)).sum + 12 ≤ _
          rw [qp_cat_tr]
          have := Nat.le_of_ble_eq_true hb2
          omega
      · cases h
  | new ix =>
    simp only [qp_step, qp_nw, Option.some.injEq, Prod.mk.injEq] at h
    obtain ⟨rfl, rfl⟩ := h
    obtain ⟨f1, f2⟩ := qp_and (hf _ rfl)
    obtain ⟨f3, f4, f5⟩ := qp_fit_of f1
    have f3' : M.2.2.2.2.1 + 1 ≤ lim.1 := f3
    have f4' : M.2.2.2.2.2 + qp_N t ≤ lim.2 := f4
    have f5' : M.2.2.2.2.1 + 1 ≤ 900 := f5
    have hlk : qp_lk (qp_nR o) ix = some t := by simpa [qp_opd] using ho
    have m1 := qp_mCN hlk
    refine va_new (C := qp_R t) (T := qp_T t) (N := qp_N t) (ci := t) (fs := (List.range (qp_N t)).map (fun k => defaultValue (qp_ty t k))) hx hb hts (qp_mU m1) (qp_ty t) (qp_hty _ m1) hown (hts _ (qp_mC hlk)) (hts _ (qp_mI m1)) (hts _ (qp_mZ (by omega))) hK hP hD hS hA (qp_cl_at m1) (fun j hj => by simp [vp_V, hj]) (by omega) (by omega) hd (fun q H1 hP1 hD1 hS1 => ?_)
    have a1 : ∀ k', k' < M.2.2.2.2.1 → qp_up1 ad M.2.2.2.2.1 q k' = ad k' := fun k' hk' => qp_up1_ne (by omega)
    have a2 : ∀ k', 1000 ≤ k' → qp_up1 ad M.2.2.2.2.1 q k' = ad k' := fun k' hk' => qp_up1_ne (by omega)
    obtain ⟨n1, n2, n3⟩ := qp_known (G := G) (tag := t) (n := qp_N t) a1 a2 f2
    obtain ⟨z1, z2, z3, z4⟩ := qp_mk1_new (M := M) (tag := t) (n := qp_N t)
    have e0 : qp_e G (qp_mk1 M t (qp_N t)) (qp_up1 ad M.2.2.2.2.1 q) M.2.2.2.2.1 = .inr (t, (List.range (qp_N t)).map (fun k => defaultValue (qp_ty t k))) := by
      rw [qp_e_obj (by rw [z4]) (by omega)]
      congr 2
      unfold qp_fs
      rw [z4]
      apply List.map_congr_left
      intro j hj
      have hft := qp_hft _ m1 j (List.mem_range.mp hj)
      unfold qp_get
      split at hft
      · next h0 => rw [h0]; show qp_tr _ (.int ((qp_mk1 M t (qp_N t)).1 M.2.2.2.2.1 j)) = _; rw [z1, of_decide_eq_true hft]; rfl
      · next h0 => rw [h0]; show qp_tr _ (.long ((qp_mk1 M t (qp_N t)).2.1 M.2.2.2.2.1 j)) = _; rw [z2, of_decide_eq_true hft]; rfl
      · next h0 =>
        rw [h0]; show qp_tr _ (va_rf ((qp_mk1 M t (qp_N t)).2.2.1 M.2.2.2.2.1 j)) = _; rw [z3]
        revert hft
        cases qp_ty t j <;> intro hft <;> first | rfl | (exact absurd hft (by simp [qp_isr]))
      · cases hft
    have e1 := qp_w_app (G := G) (M := M) (M' := qp_mk1 M t (qp_N t)) (ad := ad) (ad' := qp_up1 ad M.2.2.2.2.1 q) rfl e0 a1 n3
    rw [qp_up1_eq] at e1
    rw [e1] at hP1 hD1
    have k0 := k (qp_up1 ad M.2.2.2.2.1 q) H1 locs ls (fun k' hk' => by
      have hk2 : k' < n0 ∨ M.2.2.2.2.1 + 1 ≤ k' := hk'
      rw [qp_up1_ne (by omega)]
      exact g1 k' (by omega)) ⟨by show n0 ≤ M.2.2.2.2.1 + 1; omega, by show q0 ≤ M.2.2.2.2.2 + qp_N t; omega, f5⟩ hP1 hD1 hS1 (qp_Ls_kn hl n1)
    dsimp only at k0
    have e2 : (Value.ref M.2.2.2.2.1 :: st).map (qp_tr (qp_up1 ad M.2.2.2.2.1 q)) = .ref q :: st.map (qp_tr ad) := by
      rw [List.map_cons, n2]
      show Value.ref _ :: _ = _
      rw [qp_up1_eq]
    rw [e2] at k0
    refine W.cs ?_ ?_ k0
    · show _ = M.2.2.2.2.1 + 1 - n0; omega
    · show _ = M.2.2.2.2.2 + qp_N t - q0; omega
  | newarray ty =>
    have hcase : (ty = .int ∧ qp_nwa lim 50 (pc, L, st, M) = some (f, c')) ∨ (ty = .boolean ∧ qp_nwa lim 51 (pc, L, st, M) = some (f, c')) := by
      cases ty <;> first | exact Or.inl ⟨rfl, h⟩ | exact Or.inr ⟨rfl, h⟩ | (simp [qp_step] at h)
    rcases hcase with ⟨rfl, hn⟩ | ⟨rfl, hn⟩
    · clear h
      have h := hn
      simp only [qp_nwa] at h
      split at h
      · next nn st' =>
        simp only [Option.some.injEq, Prod.mk.injEq] at h
        obtain ⟨rfl, rfl⟩ := h
        obtain ⟨p1, p2, p3⟩ := hf _ rfl
        obtain ⟨f1, f2⟩ := qp_and p3
        obtain ⟨f3, f4, f5⟩ := qp_fit_of f1
        have f3' : M.2.2.2.2.1 + 1 ≤ lim.1 := f3
        have f4' : M.2.2.2.2.2 + nn.toNatClampNeg ≤ lim.2 := f4
        have f5' : M.2.2.2.2.1 + 1 ≤ 900 := f5
        refine va_newa (atype := .int) (ty := .int) (a0 := (nn.toNatClampNeg, .inl (fun _ => 0))) hx hb (hts _ qp_mA1) rfl hK hP hD hS hA (fun _ => rfl) p1 rfl (by show _ * 4 ≤ _; omega) (by omega) (by omega) hd (fun q cA H1 hK1 hP1 hD1 hS1 => ?_)
        have ecA : cA = G.2.1 := by
          have r1 : s.vm.findClass ("[" ++ (FieldType.int).toString) = some cA := (hK1.2 2 (cA, .int) rfl).2
          have r2 : s.vm.findClass ("[" ++ (FieldType.int).toString) = some G.2.1 := (hK.2 0 (G.2.1, .int) rfl).2
          rw [r1] at r2
          exact Option.some.inj r2
        subst ecA
        have a1 : ∀ k', k' < M.2.2.2.2.1 → qp_up1 ad M.2.2.2.2.1 q k' = ad k' := fun k' hk' => qp_up1_ne (by omega)
        have a2 : ∀ k', 1000 ≤ k' → qp_up1 ad M.2.2.2.2.1 q k' = ad k' := fun k' hk' => qp_up1_ne (by omega)
        obtain ⟨n1, n2, n3⟩ := qp_known (G := G) (tag := 50) (n := nn.toNatClampNeg) a1 a2 f2
        obtain ⟨z1, z2, z3, z4⟩ := qp_mk1_new (M := M) (tag := 50) (n := nn.toNatClampNeg)
        have e0 : qp_e G (qp_mk1 M 50 nn.toNatClampNeg) (qp_up1 ad M.2.2.2.2.1 q) M.2.2.2.2.1 = .inl (G.2.1, (nn.toNatClampNeg, .inl (fun _ => 0))) := by
          rw [qp_e_int (by rw [z4]), z4]
          congr 3
          exact congrArg Sum.inl (funext z1)
        have e1 := qp_w_app (G := G) (M := M) (M' := qp_mk1 M 50 nn.toNatClampNeg) (ad := ad) (ad' := qp_up1 ad M.2.2.2.2.1 q) rfl e0 a1 n3
        rw [qp_up1_eq] at e1
        rw [e1] at hP1 hD1
        have k0 := k (qp_up1 ad M.2.2.2.2.1 q) H1 locs ls (fun k' hk' => by
          have hk2 : k' < n0 ∨ M.2.2.2.2.1 + 1 ≤ k' := hk'
          rw [qp_up1_ne (by omega)]
          exact g1 k' (by omega)) ⟨by show n0 ≤ M.2.2.2.2.1 + 1; omega, by show q0 ≤ M.2.2.2.2.2 + nn.toNatClampNeg; omega, f5⟩ hP1 hD1 hS1 (qp_Ls_kn hl n1)
        dsimp only at k0
        have e2 : (Value.ref M.2.2.2.2.1 :: st').map (qp_tr (qp_up1 ad M.2.2.2.2.1 q)) = .ref q :: st'.map (qp_tr ad) := by
          have n2' : (st'.map (qp_tr (qp_up1 ad M.2.2.2.2.1 q))) = st'.map (qp_tr ad) := (List.cons.inj n2).2
          rw [List.map_cons, n2']
          show Value.ref _ :: _ = _
          rw [qp_up1_eq]
        rw [e2] at k0
        refine W.cs ?_ ?_ k0
        · show _ = M.2.2.2.2.1 + 1 - n0; omega
        · show _ = M.2.2.2.2.2 + nn.toNatClampNeg - q0; omega
      · cases h
    · clear h
      have h := hn
      simp only [qp_nwa] at h
      split at h
      · next nn st' =>
        simp only [Option.some.injEq, Prod.mk.injEq] at h
        obtain ⟨rfl, rfl⟩ := h
        obtain ⟨p1, p2, p3⟩ := hf _ rfl
        obtain ⟨f1, f2⟩ := qp_and p3
        obtain ⟨f3, f4, f5⟩ := qp_fit_of f1
        have f3' : M.2.2.2.2.1 + 1 ≤ lim.1 := f3
        have f4' : M.2.2.2.2.2 + nn.toNatClampNeg ≤ lim.2 := f4
        have f5' : M.2.2.2.2.1 + 1 ≤ 900 := f5
        refine va_newa (atype := .boolean) (ty := .boolean) (a0 := (nn.toNatClampNeg, .inl (fun _ => 0))) hx hb (hts _ qp_mA2) rfl hK hP hD hS hA (fun _ => rfl) p1 rfl (by show _ * 1 ≤ _; omega) (by omega) (by omega) hd (fun q cA H1 hK1 hP1 hD1 hS1 => ?_)
        have ecA : cA = G.2.2.1 := by
          have r1 : s.vm.findClass ("[" ++ (FieldType.boolean).toString) = some cA := (hK1.2 2 (cA, .boolean) rfl).2
          have r2 : s.vm.findClass ("[" ++ (FieldType.boolean).toString) = some G.2.2.1 := (hK.2 1 (G.2.2.1, .boolean) rfl).2
          rw [r1] at r2
          exact Option.some.inj r2
        subst ecA
        have a1 : ∀ k', k' < M.2.2.2.2.1 → qp_up1 ad M.2.2.2.2.1 q k' = ad k' := fun k' hk' => qp_up1_ne (by omega)
        have a2 : ∀ k', 1000 ≤ k' → qp_up1 ad M.2.2.2.2.1 q k' = ad k' := fun k' hk' => qp_up1_ne (by omega)
        obtain ⟨n1, n2, n3⟩ := qp_known (G := G) (tag := 51) (n := nn.toNatClampNeg) a1 a2 f2
        obtain ⟨z1, z2, z3, z4⟩ := qp_mk1_new (M := M) (tag := 51) (n := nn.toNatClampNeg)
        have e0 : qp_e G (qp_mk1 M 51 nn.toNatClampNeg) (qp_up1 ad M.2.2.2.2.1 q) M.2.2.2.2.1 = .inl (G.2.2.1, (nn.toNatClampNeg, .inl (fun _ => 0))) := by
          rw [qp_e_boo (by rw [z4]), z4]
          congr 3
          exact congrArg Sum.inl (funext z1)
        have e1 := qp_w_app (G := G) (M := M) (M' := qp_mk1 M 51 nn.toNatClampNeg) (ad := ad) (ad' := qp_up1 ad M.2.2.2.2.1 q) rfl e0 a1 n3
        rw [qp_up1_eq] at e1
        rw [e1] at hP1 hD1
        have k0 := k (qp_up1 ad M.2.2.2.2.1 q) H1 locs ls (fun k' hk' => by
          have hk2 : k' < n0 ∨ M.2.2.2.2.1 + 1 ≤ k' := hk'
          rw [qp_up1_ne (by omega)]
          exact g1 k' (by omega)) ⟨by show n0 ≤ M.2.2.2.2.1 + 1; omega, by show q0 ≤ M.2.2.2.2.2 + nn.toNatClampNeg; omega, f5⟩ hP1 hD1 hS1 (qp_Ls_kn hl n1)
        dsimp only at k0
        have e2 : (Value.ref M.2.2.2.2.1 :: st').map (qp_tr (qp_up1 ad M.2.2.2.2.1 q)) = .ref q :: st'.map (qp_tr ad) := by
          have n2' : (st'.map (qp_tr (qp_up1 ad M.2.2.2.2.1 q))) = st'.map (qp_tr ad) := (List.cons.inj n2).2
          rw [List.map_cons, n2']
          show Value.ref _ :: _ = _
          rw [qp_up1_eq]
        rw [e2] at k0
        refine W.cs ?_ ?_ k0
        · show _ = M.2.2.2.2.1 + 1 - n0; omega
        · show _ = M.2.2.2.2.2 + nn.toNatClampNeg - q0; omega
      · cases h
  | _ => simp [qp_step] at h
end QPS

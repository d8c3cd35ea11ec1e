/-! THE RULES: calls by contract, ends, and what a method's contract is -/
def qp_B (G : qp_G) (M : qp_M) (ad : Nat → Nat) (sz : Nat) (U : State) : Prop :=
  U.heap.size = sz ∧ va_P G.1 qp_cl (qp_w G M ad) U.heap ∧ va_K G.1 qp_cl (qp_tys G) U ∧ va_D (fun _ => True) (qp_w G M ad) ∧ (va_Z "QueuePlaces" "LETTERS" "[I" (.ref (ad 1000)) (va_A (qp_w G M ad) sz) U U.heap ∧ va_T .int (ad 1000) 6 (fun j => .int (qp_let j)) (va_A (qp_w G M ad) sz) U U.heap ∧ va_T .int (ad 2000) G.2.2.2.2.1 (fun j => .int (G.2.2.2.2.2 j)) (va_A (qp_w G M ad) sz) U U.heap) ∧ ∀ w ∈ qp_nest, va_Nw w U
def qp_Qf (G : qp_G) (M : qp_M) (ad : Nat → Nat) (sz mc ms : Nat) (Q : Option Value → qp_M → Prop) (st : State) (oc : Outcome) (t : State) : Prop :=
  (∃ (r : Option Value) (M' : qp_M) (ad' : Nat → Nat), Q r M' ∧ oc = .returned (r.map (qp_tr ad')) ∧ (∀ k, (k < M.2.2.2.2.1 ∨ M'.2.2.2.2.1 ≤ k) → ad' k = ad k) ∧ (M'.2.2.2.2.1 = M.2.2.2.2.1 + mc ∧ M'.2.2.2.2.2 = M.2.2.2.2.2 + ms ∧ M'.2.2.2.2.1 ≤ 900) ∧ va_P G.1 qp_cl (qp_w G M' ad') t.heap ∧ va_D (va_A (qp_w G M ad) sz) (qp_w G M' ad')) ∧ va_F (va_A (qp_w G M ad) sz) st t
/-- a method's contract: called with these arguments over this memory (by at most d frames above it) it returns, and Q holds of what it answers and of the memory then -/
def qp_Met (l : Launch) (G : qp_G) (d mi : Nat) (av : List Value) (M : qp_M) (mc ms : Nat) (Q : Option Value → qp_M → Prop) : Prop :=
  M.2.2.2.2.1 ≤ 900 → ∀ (ad : Nat → Nat) (sz : Nat), Met l (qp_y mi) (qp_cw mi :: qp_tb) ({ frames := d, cells := mc, slots := ms, locals := 64 * d } : Room) (va_Pc (av.map (qp_tr ad)) (qp_B G M ad sz)) (fun _ st o t => qp_Qf G M ad sz mc ms Q st o t) mc ms (va_A (qp_w G M ad) sz)
theorem qp_nest_warm {s U : State} (hW : s.WarmedH U.vm) (h : ∀ w ∈ qp_nest, va_Nw w s) : ∀ w ∈ qp_nest, va_Nw w U := by
  intro w hw
  have h0 := h w hw
  unfold qp_nest at hw
  rcases List.mem_append.mp hw with h1 | h1
  · obtain ⟨o, -, h2⟩ := List.mem_flatMap.mp h1
    obtain ⟨q, -, rfl⟩ := List.mem_map.mp h2
    exact va_Nw.warmM hW h0
  · simp only [List.mem_cons, List.not_mem_nil, or_false] at h1
    subst h1
    exact va_Nw.warmF hW h0
theorem qp_goodIn {ws : List Cond} (h : ∀ w ∈ ws, w ∈ qp_tb) : GoodIn qp_tb ws := fun w hw => ⟨h w hw, good_of_word (qp_tb_good (h w hw)).2⟩
theorem qp_B_blind {G : qp_G} {M : qp_M} {ad : Nat → Nat} {sz : Nat} {av : List Value} : FrameBlind (va_Pc av (qp_B G M ad sz)) := by
  intro a U g mk q
  obtain ⟨q0, q1, qP, qK, qD, ⟨qZ, qT, qS⟩, qN⟩ := q
  exact ⟨q0, q1, qP, va_K.moved (u := U) (U := U.calling g mk a) (Vm.Alike.refl U.vm) qK, qD, ⟨va_Z.moved (u := U) (U := U.calling g mk a) (Vm.Alike.refl U.vm) qZ, va_T.moved (u := U) (U := U.calling g mk a) (Vm.Alike.refl U.vm) qT, va_T.moved (u := U) (U := U.calling g mk a) (Vm.Alike.refl U.vm) qS⟩, fun w hw => va_Nw.same (u := U) (U := U.calling g mk a) (by
    unfold qp_nest at hw
    rcases List.mem_append.mp hw with h1 | h1
    · obtain ⟨o, -, h2⟩ := List.mem_flatMap.mp h1
      obtain ⟨q, -, rfl⟩ := List.mem_map.mp h2
      rfl
    · simp only [List.mem_cons, List.not_mem_nil, or_false] at h1
      subst h1
      rfl) rfl (qN w hw)⟩
def qp_kl (n : Nat) (L : List (Option Value)) (rest : List Value) : Bool := L.all (fun x => match x with | some v => qp_kn n v | none => true) && rest.all (qp_kn n)
section QPC
variable {p : Program} {l : Launch} {e : Env} {R : Room} {s : State} {m : MethodId} {args : Array Value} {below : List Frame} {meth : Method} {cd : Code} {G : qp_G} {o : Nat} {bs : ByteArray} {nL : Nat} {ini : Bool} {A : Nat → Prop} {n0 q0 : Nat} {ad0 : Nat → Nat} {Z : State → Prop} {lim : Nat × Nat}
theorem qp_run_W (X : qp_X p s m args meth cd G o bs nL ini A ad0) {K : List (List (Nat × Instr × Int32 × Nat))} (hK : qp_ok o bs K) (hlim : lim.1 ≤ n0 + R.cells ∧ lim.2 ≤ q0 + R.slots) (hR : 1 ≤ R.frames ∧ 40 ≤ R.locals) :
    ∀ (n : Nat) {c c' : qp_C} {f : Prop}, qp_run lim o ini K n c = some (f, c') → f → qp_V p l e R s m args below meth cd G nL A n0 q0 ad0 Z c' → qp_V p l e R s m args below meth cd G nL A n0 q0 ad0 Z c
  | 0, c, c', f, h, hf, k => by
    simp only [qp_run, Option.some.injEq, Prod.mk.injEq] at h
    rw [h.2]; exact k
  | n + 1, c, c', f, h, hf, k => by
    unfold qp_run at h
    split at h
    · next en hen =>
      obtain ⟨hd, ho⟩ := hK _ _ hen
      split at h
      · next c1 hc1 =>
        exact qp_W1 X hd ho hc1 (fun q hq => by cases hq) hlim hR (qp_run_W X hK hlim hR n h hf k)
      · next pr c1 hc1 =>
        split at h
        · next q c2 hc2 =>
          simp only [Option.some.injEq, Prod.mk.injEq] at h
          obtain ⟨rfl, rfl⟩ := h
          exact qp_W1 X hd ho hc1 (fun q' hq => by cases hq; exact hf.1) hlim hR (qp_run_W X hK hlim hR n hc2 hf.2 k)
        · cases h
      · cases h
    · cases h
theorem qp_br_W (X : qp_X p s m args meth cd G o bs nL ini A ad0) {K : List (List (Nat × Instr × Int32 × Nat))} (hK : qp_ok o bs K) {c ct cf : qp_C} {f : Prop} (h : qp_br K c = some (f, ct, cf))
    (kt : f → qp_V p l e R s m args below meth cd G nL A n0 q0 ad0 Z ct) (kf : ¬ f → qp_V p l e R s m args below meth cd G nL A n0 q0 ad0 Z cf) : qp_V p l e R s m args below meth cd G nL A n0 q0 ad0 Z c := by
  obtain ⟨hx, hb, hml, hown, hts, hin, hK', hA, ⟨hZ, hT, hSc⟩, hN⟩ := X
  unfold qp_br at h
  split at h
  · next en hen =>
    obtain ⟨hd, ho⟩ := hK _ _ hen
    obtain ⟨i, v, t⟩ := en
    obtain ⟨pc, L, st, M⟩ := c
    dsimp only at h hd ho
    split at h
    · next cc8 off x st' =>
      simp only [Option.some.injEq, Prod.mk.injEq] at h
      obtain ⟨rfl, rfl, rfl⟩ := h
      have ht : (pc : Int) + off = (t : Int) := by simpa [qp_opd] using ho
      intro ad H locs ls g1 g3 hP hD hS hl
      cases cc8 with
      | eq => exact lv_if_eq hx hb hd ht (fun q => kt q ad H locs ls g1 g3 hP hD hS hl) (fun q => kf q ad H locs ls g1 g3 hP hD hS hl)
      | ne => exact lv_if_ne hx hb hd ht (fun q => kt q ad H locs ls g1 g3 hP hD hS hl) (fun q => kf (fun n => n q) ad H locs ls g1 g3 hP hD hS hl)
      | lt => exact lv_if_lt hx hb hd ht (fun q => kt q ad H locs ls g1 g3 hP hD hS hl) (fun q => kf q ad H locs ls g1 g3 hP hD hS hl)
      | ge => exact lv_if_ge hx hb hd ht (fun q => kt q ad H locs ls g1 g3 hP hD hS hl) (fun q => kf q ad H locs ls g1 g3 hP hD hS hl)
      | gt => exact lv_if_gt hx hb hd ht (fun q => kt q ad H locs ls g1 g3 hP hD hS hl) (fun q => kf q ad H locs ls g1 g3 hP hD hS hl)
      | le => exact lv_if_le hx hb hd ht (fun q => kt q ad H locs ls g1 g3 hP hD hS hl) (fun q => kf q ad H locs ls g1 g3 hP hD hS hl)
    · next cc8 off y x st' =>
      simp only [Option.some.injEq, Prod.mk.injEq] at h
      obtain ⟨rfl, rfl, rfl⟩ := h
      have ht : (pc : Int) + off = (t : Int) := by simpa [qp_opd] using ho
      intro ad H locs ls g1 g3 hP hD hS hl
      cases cc8 with
      | eq => exact lv_icmp_eq hx hb hd ht (fun q => kt q ad H locs ls g1 g3 hP hD hS hl) (fun q => kf q ad H locs ls g1 g3 hP hD hS hl)
      | ne => exact lv_icmp_ne hx hb hd ht (fun q => kt q ad H locs ls g1 g3 hP hD hS hl) (fun q => kf (fun n => n q) ad H locs ls g1 g3 hP hD hS hl)
      | lt => exact lv_icmp_lt hx hb hd ht (fun q => kt q ad H locs ls g1 g3 hP hD hS hl) (fun q => kf q ad H locs ls g1 g3 hP hD hS hl)
      | ge => exact lv_icmp_ge hx hb hd ht (fun q => kt q ad H locs ls g1 g3 hP hD hS hl) (fun q => kf q ad H locs ls g1 g3 hP hD hS hl)
      | gt => exact lv_icmp_gt hx hb hd ht (fun q => kt q ad H locs ls g1 g3 hP hD hS hl) (fun q => kf q ad H locs ls g1 g3 hP hD hS hl)
      | le => exact lv_icmp_le hx hb hd ht (fun q => kt q ad H locs ls g1 g3 hP hD hS hl) (fun q => kf q ad H locs ls g1 g3 hP hD hS hl)
    · cases h
  · cases h
theorem qp_A_in {M : qp_M} {ad : Nat → Nat} {H : Heap} {locs : List Loc} (hA : ∀ q : Nat, s.heap.size ≤ q → A q) (hD : va_D A (qp_w G M ad)) (hS : va_S A s.heap H locs) : ∀ q, va_A (qp_w G M ad) H.size q → A q := by
  intro q h
  rcases h with ⟨k, e, h⟩ | h
  · exact hD.2 k (q, e) h
  · exact hA q (Nat.le_trans hS.1 h)
theorem qp_B_of (X : qp_X p s m args meth cd G o bs nL ini A ad0) {M : qp_M} {ad : Nat → Nat} {H : Heap} {locs : List Loc} (g2 : ad 1000 = ad0 1000 ∧ ad 2000 = ad0 2000) (hP : va_P G.1 qp_cl (qp_w G M ad) H) (hD : va_D A (qp_w G M ad)) (hS : va_S A s.heap H locs) {U : State} (hU : U.heap = H) (hW : s.WarmedH U.vm) : qp_B G M ad H.size U := by
  obtain ⟨hx, hb, hml, hown, hts, hin, hK, hA, ⟨hZ, hT, hSc⟩, hN⟩ := X
  have hAi := qp_A_in (A := A) hA hD hS
  subst hU
  have hq : ∀ a : Nat, a < s.heap.size → ¬ A a → U.heap[a]? = s.heap[a]? := hS.2.1
  refine ⟨rfl, hP, va_K.moved hW.alike hK, hD.weaken (fun _ _ _ _ => trivial), ⟨?_, ?_, ?_⟩, qp_nest_warm hW hN⟩
  · rw [g2.1]; exact ((hZ.moved hW.alike).kept hq).narrow hAi
  · rw [g2.1]; exact ((hT.moved hW.alike).kept hq).narrow hAi
  · rw [g2.2]; exact ((hSc.moved hW.alike).kept hq).narrow hAi
theorem qp_go (X : qp_X p s m args meth cd G o bs nL ini A ad0) {pc mc ms : Nat} {L : List (Option Value)} {st rest : List Value} {M : qp_M} {Q : Option Value → qp_M → Prop}
    (hr : ∀ (ad : Nat → Nat) (H : Heap) (locs : List Loc) (ls : Array Slot), (ad 1000 = ad0 1000 ∧ ad 2000 = ad0 2000) → va_P G.1 qp_cl (qp_w G M ad) H → va_D A (qp_w G M ad) → va_S A s.heap H locs → qp_Ls ls nL ad L → n0 ≤ M.2.2.2.2.1 ∧ q0 ≤ M.2.2.2.2.2 ∧ M.2.2.2.2.1 ≤ 900 →
      va_Run p l e R s m args below meth cd H locs (M.2.2.2.2.1 - n0) (M.2.2.2.2.2 - q0) mc ms (F0 m pc ls (st.map (qp_tr ad))) (rest.map (qp_tr ad)) (qp_Qf G M ad H.size mc ms Q) (va_A (qp_w G M ad) H.size))
    (hkn : mc = 0 ∨ qp_kl M.2.2.2.2.1 L rest = true)
    (k : ∀ (r : Option Value) (M' : qp_M), Q r M' → M'.2.2.2.2.1 = M.2.2.2.2.1 + mc → M'.2.2.2.2.2 = M.2.2.2.2.2 + ms → qp_V p l e R s m args below meth cd G nL A n0 q0 ad0 Z (pc + 3, L, r.toList ++ rest, M')) : qp_V p l e R s m args below meth cd G nL A n0 q0 ad0 Z (pc, L, st, M) := by
  have hA := X.2.2.2.2.2.2.2.1
  intro ad H locs ls g1 g3 hP hD hS hl
  dsimp only at g1 g3 hP hD hl ⊢
  have g2 : ad 1000 = ad0 1000 ∧ ad 2000 = ad0 2000 := ⟨g1 1000 (Or.inr (by omega)), g1 2000 (Or.inr (by omega))⟩
  have hAi := qp_A_in (A := A) hA hD hS
  intro T hT X1
  obtain ⟨v, st₀, t, T', L', h0, X', hL, e1, e2, ⟨⟨r, M', ad', hQ, hoc, hag, ⟨hn, hq, h9⟩, hP', hD'⟩, hz, hk⟩, stp⟩ := hr ad H locs ls g2 hP hD hS hl g3 T hT X1
  rw [h0] at hz hk
  have hv : v = r.map (qp_tr ad') := by cases hoc; rfl
  subst hv
  have b2 : ∀ k, 1000 ≤ k → ad' k = ad k := fun k hk => hag k (Or.inr (by omega))
  have kn : (∀ v, some v ∈ L → qp_tr ad' v = qp_tr ad v) ∧ rest.map (qp_tr ad') = rest.map (qp_tr ad) := by
    rcases hkn with rfl | hkn
    · have : ad' = ad := funext fun k => hag k (by omega)
      rw [this]
      exact ⟨fun _ _ => rfl, rfl⟩
    · obtain ⟨k1, k2⟩ := qp_and hkn
      exact ⟨fun v hv => qp_kn_tr (fun k hk => hag k (Or.inl hk)) b2 (List.all_eq_true.mp k1 _ hv), List.map_congr_left (fun v hv => qp_kn_tr (fun k hk => hag k (Or.inl hk)) b2 (List.all_eq_true.mp k2 _ hv))⟩
  have k0 := k r M' hQ hn hq ad' T'.heap (locs ++ L') ls (fun k' hk' => by
      have hk2 : k' < n0 ∨ M'.2.2.2.2.1 ≤ k' := hk'
      rw [hag k' (by omega)]
      exact g1 k' (by omega)) ⟨by show n0 ≤ M'.2.2.2.2.1; omega, by show q0 ≤ M'.2.2.2.2.2; omega, h9⟩ (by rw [e1]; exact hP') (hD'.weaken (fun k q _ h => hAi q.1 h))
    ⟨Nat.le_trans hS.1 (by rw [e1]; exact hz), fun q h1 h2 => by rw [e1, hk q (Nat.lt_of_lt_of_le h1 hS.1) (fun z => h2 (hAi q z))]; exact hS.2.1 q h1 h2, fun q hq => by
      rcases List.mem_append.mp hq with h | h
      · exact hS.2.2 q h
      · exact hAi _ (hL q h)⟩ (qp_Ls_kn hl kn.1)
  dsimp only at k0
  have e3 : (r.toList ++ rest).map (qp_tr ad') = (r.map (qp_tr ad')).toList ++ rest.map (qp_tr ad) := by
    rw [List.map_append, kn.2]
    cases r <;> rfl
  rw [e3] at k0
  have k1 : W p l e R s m args below meth cd T'.heap (locs ++ L') (M.2.2.2.2.1 - n0 + mc) (M.2.2.2.2.2 - q0 + ms) Z (F0 m (pc + 3) ls ((r.map (qp_tr ad')).toList ++ rest.map (qp_tr ad))) := W.cs (by omega) (by omega) k0
  obtain ⟨t2, a1, b1⟩ := k1 T' rfl X'
  exact ⟨t2, stp t2 a1, b1⟩
/-- what a call needs of the room -/
def qp_rm (R : Room) (d mc ms n0 q0 : Nat) (M : qp_M) : Prop := d + 1 ≤ R.frames ∧ 64 * (d + 1) ≤ R.locals ∧ M.2.2.2.2.1 - n0 + mc ≤ R.cells ∧ M.2.2.2.2.2 - q0 + ms ≤ R.slots
theorem qp_callS_W (X : qp_X p s m args meth cd G o bs nL ini A ad0) {K : List (List (Nat × Instr × Int32 × Nat))} (hK : qp_ok o bs K) {pc d mi mc ms ix t : Nat} {v : Int32} {L : List (Option Value)} {st rest av : List Value} {M : qp_M} {Q : Option Value → qp_M → Prop}
    (hf : qp_ft8 K pc = some (.invokestatic ix, v, t)) (hmi : t = 10 * mi + 1 ∨ t = 10 * mi + 7) (hlt : mi < 141) (hsta : qp_sta mi = true) (hM : qp_Met l G d mi av M mc ms Q) (hna : qp_na mi = av.length) (hst : st = av.reverse ++ rest) (hcat : Nat.ble (qp_cat rest) 8 = true) (hR : qp_rm R d mc ms n0 q0 M) (hkn : mc = 0 ∨ qp_kl M.2.2.2.2.1 L rest = true)
    (k : ∀ (r : Option Value) (M' : qp_M), Q r M' → M'.2.2.2.2.1 = M.2.2.2.2.1 + mc → M'.2.2.2.2.2 = M.2.2.2.2.2 + ms → qp_V p l e R s m args below meth cd G nL A n0 q0 ad0 Z (pc + 3, L, r.toList ++ rest, M')) : qp_V p l e R s m args below meth cd G nL A n0 q0 ad0 Z (pc, L, st, M) := by
  refine qp_go X (fun ad H locs ls g2 hP hD hS hl g3 => ?_) hkn k
  obtain ⟨hx, hb, hml, hown, hts, hin, hKk, hA, hZT, hN⟩ := id X
  obtain ⟨hd, ho⟩ := hK _ _ hf
  have hlk : qp_lk (qp_iR o) ix = some t := by simpa [qp_opd] using ho
  obtain ⟨y1, y2, y3, y4, y5, y6, y7⟩ := qp_mY hlt
  have hs := qp_mS hlt
  rw [hsta] at hs
  have hin2 : Cond.initialized (qp_y mi).cls ∈ qp_tb := by rw [y1]; exact qp_mZ y2
  subst hst
  have hroom : d + 1 ≤ R.frames ∧ 8 + (qp_mL mi + 11) + 64 * d ≤ R.locals := ⟨hR.1, by have h9 := hR.2.1; omega⟩
  rcases hmi with hmi | hmi
  · subst hmi
    have e1 : (10 * mi + 1) / 10 = mi := by omega
    have e2 : (10 * mi + 1) % 10 = 1 := by omega
    have hw := qp_mV hlk (by unfold qp_nst; dsimp only; rw [e2]; rfl)
    have hw' : Cond.methodLink (qp_R o) ix (qp_y mi) ∈ qp_tb := by
      have : qp_wiw o (ix, 10 * mi + 1) = Cond.methodLink (qp_R o) ix (qp_y mi) := by unfold qp_wiw; dsimp only; rw [e2, e1]; rfl
      rw [← this]; exact hw
    have hgood : GoodIn qp_tb (va_wsS (qp_R o) ix (qp_y mi) (qp_cw mi :: qp_tb)) := qp_goodIn (fun w hw9 => by
      unfold va_wsS at hw9
      simp only [List.mem_append, List.mem_cons, List.not_mem_nil, or_false] at hw9
      rcases hw9 with (rfl | rfl | rfl) | (rfl | h)
      · exact hw'
      · exact hs
      · exact hin2
      · exact qp_mW hlt
      · exact h)
    exact va_runS (nL := nL) (own := qp_R o) (As := av.map (qp_tr ad)) (rest := rest.map (qp_tr ad)) (index := ix) (y := qp_y mi) (bytes := qp_b mi) (maxL := qp_mL mi) (ret := qp_rt mi) (n := qp_na mi) (H := H) (locs := locs) (cells := M.2.2.2.2.1 - n0) (slots := M.2.2.2.2.2 - q0) (g := F0 m pc ls ((av.reverse ++ rest).map (qp_tr ad))) ⟨hx, hb, hml, hown, hts⟩ (hM g3.2.2 ad H.size) (va_cwS (qp_na mi) hts hgood rfl rfl rfl ⟨y4.1, y4.2, y5⟩ ⟨hR.1, by have h9 := hR.2.1; show 8 + (qp_mL mi + 11) + 64 * d ≤ _; omega⟩) ⟨qp_B_blind, fun U hU hW => ⟨rfl, qp_B_of X g2 hP hD hS hU hW⟩⟩ rfl (by rw [List.length_map, hna]) hl.1 (by show (av.reverse ++ rest).map (qp_tr ad) = _; rw [List.map_append, List.map_reverse]) (by
        show 2 * 0 + ((rest.map (qp_tr ad)).map (fun v => v.category)).sum ≤ 8
        rw [qp_cat_tr]
        have := Nat.le_of_ble_eq_true hcat
        omega) hd ⟨hR.2.2.1, hR.2.2.2⟩
  · subst hmi
    have e1 : (10 * mi + 7) / 10 = mi := by omega
    have e2 : (10 * mi + 7) % 10 = 7 := by omega
    have hlk2 := qp_lk_mem hlk
    have ho15 : o < 14 := by
      rcases Nat.lt_or_ge o 14 with q | q
      · exact q
      · rw [qp_iR_0 o q] at hlk2; cases hlk2
    have hnw : va_Nw (.methodLinkNest (qp_R o) ix (qp_y mi) "QueuePlaces") s := by
      refine hN _ (List.mem_append_left _ (List.mem_flatMap.mpr ⟨o, List.mem_range.mpr ho15, List.mem_map.mpr ⟨(ix, 10 * mi + 7), List.mem_filter.mpr ⟨hlk2, by unfold qp_nst; dsimp only; rw [e2]; rfl⟩, ?_⟩⟩))
      dsimp only
      rw [e1]
    have hgood : GoodIn qp_tb (qp_cw mi :: qp_tb) := qp_goodIn (fun w hw9 => by
      rcases List.mem_cons.mp hw9 with rfl | h
      · exact qp_mW hlt
      · exact h)
    exact va_runSN (host := "QueuePlaces") (nL := nL) (own := qp_R o) (As := av.map (qp_tr ad)) (rest := rest.map (qp_tr ad)) (index := ix) (y := qp_y mi) (bytes := qp_b mi) (maxL := qp_mL mi) (ret := qp_rt mi) (n := qp_na mi) (H := H) (locs := locs) (cells := M.2.2.2.2.1 - n0) (slots := M.2.2.2.2.2 - q0) (g := F0 m pc ls ((av.reverse ++ rest).map (qp_tr ad))) ⟨hx, hb, hml, hown, hts⟩ (hM g3.2.2 ad H.size) ⟨va_cnB (qp_na mi) hts hgood rfl rfl rfl hnw (hts _ hin2) ⟨y4.1, y4.2, y5⟩ hroom, hts _ hs, trivial⟩ ⟨qp_B_blind, fun U hU hW => ⟨rfl, qp_B_of X g2 hP hD hS hU hW⟩⟩ rfl (by rw [List.length_map, hna]) hl.1 (by show (av.reverse ++ rest).map (qp_tr ad) = _; rw [List.map_append, List.map_reverse]) (by
        show 2 * 0 + ((rest.map (qp_tr ad)).map (fun v => v.category)).sum ≤ 8
        rw [qp_cat_tr]
        have := Nat.le_of_ble_eq_true hcat
        omega) hd ⟨hR.2.2.1, hR.2.2.2⟩
theorem qp_callV_W (X : qp_X p s m args meth cd G o bs nL ini A ad0) {K : List (List (Nat × Instr × Int32 × Nat))} (hK : qp_ok o bs K) {pc d mi mc ms ix t b : Nat} {v : Int32} {L : List (Option Value)} {st rest av : List Value} {M : qp_M} {Q : Option Value → qp_M → Prop}
    (hf : qp_ft8 K pc = some (.invokevirtual ix, v, t)) (hmi : t = 10 * mi ∨ t = 10 * mi + 3) (hlt : mi < 141) (hsta : qp_sta mi = false ∧ qp_ini mi = false) (hM : qp_Met l G d mi (.ref b :: av) M mc ms Q) (hna : qp_na mi = av.length) (hst : st = av.reverse ++ .ref b :: rest) (hb8 : (Nat.blt b M.2.2.2.2.1 && Nat.beq (M.2.2.2.1 b).1 (qp_o mi)) = true) (ho11 : qp_o mi < 10) (hcat : Nat.ble (qp_cat rest) 8 = true) (hR : qp_rm R d mc ms n0 q0 M) (hkn : mc = 0 ∨ qp_kl M.2.2.2.2.1 L rest = true)
    (k : ∀ (r : Option Value) (M' : qp_M), Q r M' → M'.2.2.2.2.1 = M.2.2.2.2.1 + mc → M'.2.2.2.2.2 = M.2.2.2.2.2 + ms → qp_V p l e R s m args below meth cd G nL A n0 q0 ad0 Z (pc + 3, L, r.toList ++ rest, M')) : qp_V p l e R s m args below meth cd G nL A n0 q0 ad0 Z (pc, L, st, M) := by
  refine qp_go X (fun ad H locs ls g2 hP hD hS hl g3 => ?_) hkn k
  obtain ⟨hx, hb, hml, hown, hts, hin, hKk, hA, hZT, hN⟩ := id X
  obtain ⟨hd, ho⟩ := hK _ _ hf
  have hlk : qp_lk (qp_iR o) ix = some t := by simpa [qp_opd] using ho
  obtain ⟨y1, y2, y3, y4, y5, y6, y7⟩ := qp_mY hlt
  have hs := qp_mS hlt
  rw [hsta.1] at hs
  have hse := qp_mX hlt hsta.1 hsta.2
  have hin2 : Cond.initialized (qp_y mi).cls ∈ qp_tb := by rw [y1]; exact qp_mZ y2
  subst hst
  obtain ⟨b1, b2⟩ := qp_and hb8
  have b3 := Nat.eq_of_beq_eq_true b2
  have ha := qp_w_at (G := G) (M := M) (ad := ad) (qp_blt b1)
  rw [qp_e_obj b3 (by omega)] at ha
  have hrecv := va_recv hKk hP (ci := qp_o mi) (q0 := b) (qp_cl_at ho11) ha
  have hrecv2 : ∃ cellB : Cell, H[ad b]? = some cellB ∧ cellB.vm.isStatics = false ∧ s.vm.findClass (qp_y mi).cls = some cellB.cls := by rw [y1]; exact hrecv
  have hroom : d + 1 ≤ R.frames ∧ 8 + (qp_mL mi + 11) + 64 * d ≤ R.locals := ⟨hR.1, by have h9 := hR.2.1; omega⟩
  have hW8 : 2 * (F0 m pc ls ((av.reverse ++ Value.ref b :: rest).map (qp_tr ad))).monitorRoom + ((rest.map (qp_tr ad)).map (fun v => v.category)).sum ≤ 8 := by
    show 2 * 0 + ((rest.map (qp_tr ad)).map (fun v => v.category)).sum ≤ 8
    rw [qp_cat_tr]
    have := Nat.le_of_ble_eq_true hcat
    omega
  have hstk : (av.reverse ++ Value.ref b :: rest).map (qp_tr ad) = (av.map (qp_tr ad)).reverse ++ Value.ref (ad b) :: rest.map (qp_tr ad) := by rw [List.map_append, List.map_reverse]; rfl
  rcases hmi with hmi | hmi
  · subst hmi
    have e1 : (10 * mi) / 10 = mi := by omega
    have e2 : (10 * mi) % 10 = 0 := by omega
    have hw := qp_mV hlk (by unfold qp_nst; dsimp only; rw [e2]; rfl)
    have hw' : Cond.methodLink (qp_R o) ix (qp_y mi) ∈ qp_tb := by
      have : qp_wiw o (ix, 10 * mi) = Cond.methodLink (qp_R o) ix (qp_y mi) := by unfold qp_wiw; dsimp only; rw [e2, e1]; rfl
      rw [← this]; exact hw
    have hgood : GoodIn qp_tb (wsV (qp_R o) ix (qp_y mi).cls (qp_y mi) (qp_cw mi :: qp_tb)) := qp_goodIn (fun w hw9 => by
      unfold wsV at hw9
      simp only [List.mem_append, List.mem_cons, List.not_mem_nil, or_false] at hw9
      rcases hw9 with (rfl | rfl | rfl | rfl) | (rfl | h)
      · exact hw'
      · exact hs
      · exact hse
      · exact hin2
      · exact qp_mW hlt
      · exact h)
    exact va_runV (nL := nL) (own := qp_R o) (C := (qp_y mi).cls) (b := ad b) (As := av.map (qp_tr ad)) (rest := rest.map (qp_tr ad)) (index := ix) (y := qp_y mi) (bytes := qp_b mi) (maxL := qp_mL mi) (ret := qp_rt mi) (n := qp_na mi) (H := H) (locs := locs) (cells := M.2.2.2.2.1 - n0) (slots := M.2.2.2.2.2 - q0) (g := F0 m pc ls ((av.reverse ++ Value.ref b :: rest).map (qp_tr ad))) ⟨hx, hb, hml, hown, hts⟩ (hM g3.2.2 ad H.size) (cwV (qp_na mi) hts hgood rfl rfl rfl ⟨rfl, y4.1, y4.2, y5⟩ hroom) ⟨qp_B_blind, hrecv2, fun U hU hW => ⟨rfl, qp_B_of X g2 hP hD hS hU hW⟩⟩ rfl (by rw [List.length_map, hna]) hl.1 hstk hW8 hd ⟨hR.2.2.1, hR.2.2.2⟩
  · subst hmi
    have e1 : (10 * mi + 3) / 10 = mi := by omega
    have e2 : (10 * mi + 3) % 10 = 3 := by omega
    have hlk2 := qp_lk_mem hlk
    have ho15 : o < 14 := by
      rcases Nat.lt_or_ge o 14 with q | q
      · exact q
      · rw [qp_iR_0 o q] at hlk2; cases hlk2
    have hnw : va_Nw (.methodLinkNest (qp_R o) ix (qp_y mi) "QueuePlaces") s := by
      refine hN _ (List.mem_append_left _ (List.mem_flatMap.mpr ⟨o, List.mem_range.mpr ho15, List.mem_map.mpr ⟨(ix, 10 * mi + 3), List.mem_filter.mpr ⟨hlk2, by unfold qp_nst; dsimp only; rw [e2]; rfl⟩, ?_⟩⟩))
      dsimp only
      rw [e1]
    have hgood : GoodIn qp_tb (qp_cw mi :: qp_tb) := qp_goodIn (fun w hw9 => by
      rcases List.mem_cons.mp hw9 with rfl | h
      · exact qp_mW hlt
      · exact h)
    exact va_runVN (nL := nL) (own := qp_R o) (host := "QueuePlaces") (C := (qp_y mi).cls) (b := ad b) (As := av.map (qp_tr ad)) (rest := rest.map (qp_tr ad)) (index := ix) (y := qp_y mi) (bytes := qp_b mi) (maxL := qp_mL mi) (ret := qp_rt mi) (n := qp_na mi) (H := H) (locs := locs) (cells := M.2.2.2.2.1 - n0) (slots := M.2.2.2.2.2 - q0) (g := F0 m pc ls ((av.reverse ++ Value.ref b :: rest).map (qp_tr ad))) ⟨hx, hb, hml, hown, hts⟩ (hM g3.2.2 ad H.size) ⟨va_cnB (qp_na mi) hts hgood rfl rfl rfl hnw (hts _ hin2) ⟨y4.1, y4.2, y5⟩ hroom, hts _ hs, hts _ hse⟩ ⟨qp_B_blind, hrecv2, fun U hU hW => ⟨rfl, qp_B_of X g2 hP hD hS hU hW⟩⟩ rfl (by rw [List.length_map, hna]) hl.1 hstk hW8 hd ⟨hR.2.2.1, hR.2.2.2⟩
theorem qp_callI_W (X : qp_X p s m args meth cd G o bs nL ini A ad0) {K : List (List (Nat × Instr × Int32 × Nat))} (hK : qp_ok o bs K) {pc d mi mc ms ix t b : Nat} {v : Int32} {L : List (Option Value)} {st rest av : List Value} {M : qp_M} {Q : Option Value → qp_M → Prop}
    (hf : qp_ft8 K pc = some (.invokespecial ix, v, t)) (hmi : t = 10 * mi + 2 ∨ t = 10 * mi + 4) (hlt : mi < 141) (hsta : qp_sta mi = false ∧ qp_ini mi = true) (hret : qp_rt mi = none) (hM : qp_Met l G d mi (.ref b :: av) M mc ms Q) (hna : qp_na mi = av.length) (hst : st = av.reverse ++ .ref b :: rest) (hcat : Nat.ble (qp_cat rest) 8 = true) (hR : qp_rm R d mc ms n0 q0 M) (hkn : mc = 0 ∨ qp_kl M.2.2.2.2.1 L rest = true)
    (k : ∀ (r : Option Value) (M' : qp_M), Q r M' → M'.2.2.2.2.1 = M.2.2.2.2.1 + mc → M'.2.2.2.2.2 = M.2.2.2.2.2 + ms → qp_V p l e R s m args below meth cd G nL A n0 q0 ad0 Z (pc + 3, L, r.toList ++ rest, M')) : qp_V p l e R s m args below meth cd G nL A n0 q0 ad0 Z (pc, L, st, M) := by
  refine qp_go X (fun ad H locs ls g2 hP hD hS hl g3 => ?_) hkn k
  obtain ⟨hx, hb, hml, hown, hts, hin, hKk, hA, hZT, hN⟩ := id X
  obtain ⟨hd, ho⟩ := hK _ _ hf
  have hlk : qp_lk (qp_iR o) ix = some t := by simpa [qp_opd] using ho
  obtain ⟨y1, y2, y3, y4, y5, y6, y7⟩ := qp_mY hlt
  have hs := qp_mS hlt
  rw [hsta.1] at hs
  have hin2 : Cond.initialized (qp_y mi).cls ∈ qp_tb := by rw [y1]; exact qp_mZ y2
  subst hst
  have hroom : d + 1 ≤ R.frames ∧ 8 + (qp_mL mi + 11) + 64 * d ≤ R.locals := ⟨hR.1, by have h9 := hR.2.1; omega⟩
  have hW8 : 2 * (F0 m pc ls ((av.reverse ++ Value.ref b :: rest).map (qp_tr ad))).monitorRoom + ((rest.map (qp_tr ad)).map (fun v => v.category)).sum ≤ 8 := by
    show 2 * 0 + ((rest.map (qp_tr ad)).map (fun v => v.category)).sum ≤ 8
    rw [qp_cat_tr]
    have := Nat.le_of_ble_eq_true hcat
    omega
  have hstk : (av.reverse ++ Value.ref b :: rest).map (qp_tr ad) = (av.map (qp_tr ad)).reverse ++ Value.ref (ad b) :: rest.map (qp_tr ad) := by rw [List.map_append, List.map_reverse]; rfl
  have hcw : qp_cw mi = Cond.code (qp_y mi) (qp_b mi) (qp_mL mi) none := by unfold qp_cw; rw [hret]
  have hgood : GoodIn qp_tb (qp_cw mi :: qp_tb) := qp_goodIn (fun w hw9 => by
      rcases List.mem_cons.mp hw9 with rfl | h
      · exact qp_mW hlt
      · exact h)
  have hM1 := hM g3.2.2 ad H.size
  rw [hcw] at hgood hM1
  rcases hmi with hmi | hmi
  · subst hmi
    have e1 : (10 * mi + 2) / 10 = mi := by omega
    have e2 : (10 * mi + 2) % 10 = 2 := by omega
    have hw := qp_mV hlk (by unfold qp_nst; dsimp only; rw [e2]; rfl)
    have hw' : Cond.methodLink (qp_R o) ix (qp_y mi) ∈ qp_tb := by
      have : qp_wiw o (ix, 10 * mi + 2) = Cond.methodLink (qp_R o) ix (qp_y mi) := by unfold qp_wiw; dsimp only; rw [e2, e1]; rfl
      rw [← this]; exact hw
    exact va_runI (nL := nL) (own := qp_R o) (b := ad b) (As := av.map (qp_tr ad)) (rest := rest.map (qp_tr ad)) (index := ix) (y := qp_y mi) (bytes := qp_b mi) (maxL := qp_mL mi) (n := qp_na mi) (H := H) (locs := locs) (cells := M.2.2.2.2.1 - n0) (slots := M.2.2.2.2.2 - q0) (g := F0 m pc ls ((av.reverse ++ Value.ref b :: rest).map (qp_tr ad))) ⟨hx, hb, hml, hown, hts⟩ hM1 ⟨callB_of (qp_na mi) hts hgood rfl rfl rfl (hts _ hin2) (hts _ hw') ⟨y4.1, y4.2, y5⟩ hroom, y7 hsta.2, hts _ hs⟩ ⟨qp_B_blind, fun U hU hW => ⟨rfl, qp_B_of X g2 hP hD hS hU hW⟩⟩ rfl (by rw [List.length_map, hna]) hl.1 hstk hW8 hd ⟨hR.2.2.1, hR.2.2.2⟩
  · subst hmi
    have e1 : (10 * mi + 4) / 10 = mi := by omega
    have e2 : (10 * mi + 4) % 10 = 4 := by omega
    have hlk2 := qp_lk_mem hlk
    have ho15 : o < 14 := by
      rcases Nat.lt_or_ge o 14 with q | q
      · exact q
      · rw [qp_iR_0 o q] at hlk2; cases hlk2
    have hnw : va_Nw (.methodLinkNest (qp_R o) ix (qp_y mi) "QueuePlaces") s := by
      refine hN _ (List.mem_append_left _ (List.mem_flatMap.mpr ⟨o, List.mem_range.mpr ho15, List.mem_map.mpr ⟨(ix, 10 * mi + 4), List.mem_filter.mpr ⟨hlk2, by unfold qp_nst; dsimp only; rw [e2]; rfl⟩, ?_⟩⟩))
      dsimp only
      rw [e1]
    exact va_runIN (nL := nL) (own := qp_R o) (host := "QueuePlaces") (b := ad b) (As := av.map (qp_tr ad)) (rest := rest.map (qp_tr ad)) (index := ix) (y := qp_y mi) (bytes := qp_b mi) (maxL := qp_mL mi) (n := qp_na mi) (H := H) (locs := locs) (cells := M.2.2.2.2.1 - n0) (slots := M.2.2.2.2.2 - q0) (g := F0 m pc ls ((av.reverse ++ Value.ref b :: rest).map (qp_tr ad))) ⟨hx, hb, hml, hown, hts⟩ hM1 ⟨va_cnB (qp_na mi) hts hgood rfl rfl rfl hnw (hts _ hin2) ⟨y4.1, y4.2, y5⟩ hroom, y7 hsta.2, hts _ hs⟩ ⟨qp_B_blind, fun U hU hW => ⟨rfl, qp_B_of X g2 hP hD hS hU hW⟩⟩ rfl (by rw [List.length_map, hna]) hl.1 hstk hW8 hd ⟨hR.2.2.1, hR.2.2.2⟩
end QPC

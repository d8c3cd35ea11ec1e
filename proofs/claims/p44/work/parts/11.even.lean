/-! THE JUDGEMENT THAT METHODS ARE PROVED IN: from frame c on, method mi (called over M0) comes to its end with Q -/
def qp_E (l : Launch) (G : qp_G) (d mi : Nat) (M0 : qp_M) (mc ms : Nat) (Q : Option Value → qp_M → Prop) (c : qp_C) : Prop :=
  ∀ (p : Program) (e : Env) (s : State) (m : MethodId) (args : Array Value) (below : List Frame) (meth : Method) (cd : Code) (ad0 : Nat → Nat),
    qp_X p s m args meth cd G (qp_o mi) (qp_b mi) (qp_mL mi) (qp_ini mi) (va_A (qp_w G M0 ad0) s.heap.size) ad0 → meth.sig.returnType = qp_rt mi → meth.locks = false →
    qp_V p l e ({ frames := d, cells := mc, slots := ms, locals := 64 * d } : Room) s m args below meth cd G (qp_mL mi) (va_A (qp_w G M0 ad0) s.heap.size) M0.2.2.2.2.1 M0.2.2.2.2.2 ad0
      (MQ below (fun _ st o t => qp_Qf G M0 ad0 s.heap.size mc ms Q st o t) args s mc ms (va_A (qp_w G M0 ad0) s.heap.size)) c
section QPE
variable {l : Launch} {G : qp_G} {d mi : Nat} {M0 : qp_M} {mc ms : Nat} {Q : Option Value → qp_M → Prop} {K : List (List (Nat × Instr × Int32 × Nat))}
theorem qp_run_E (hK : qp_ok (qp_o mi) (qp_b mi) K) (n : Nat) {c c' : qp_C} {f : Prop} (h : qp_run (M0.2.2.2.2.1 + mc, M0.2.2.2.2.2 + ms) (qp_o mi) (qp_ini mi) K n c = some (f, c')) (hd : Nat.ble 1 d = true) (hf : f) (k : qp_E l G d mi M0 mc ms Q c') : qp_E l G d mi M0 mc ms Q c := by
  intro p e s m args below meth cd ad0 X hr hl
  have hd1 := Nat.le_of_ble_eq_true hd
  exact qp_run_W X hK ⟨Nat.le_refl _, Nat.le_refl _⟩ ⟨hd1, by show 40 ≤ 64 * d; omega⟩ n h hf (k p e s m args below meth cd ad0 X hr hl)
theorem qp_br_E (hK : qp_ok (qp_o mi) (qp_b mi) K) {c ct cf : qp_C} {f : Prop} (h : qp_br K c = some (f, ct, cf)) (kt : f → qp_E l G d mi M0 mc ms Q ct) (kf : ¬ f → qp_E l G d mi M0 mc ms Q cf) : qp_E l G d mi M0 mc ms Q c := by
  intro p e s m args below meth cd ad0 X hr hl
  exact qp_br_W X hK h (fun q => kt q p e s m args below meth cd ad0 X hr hl) (fun q => kf q p e s m args below meth cd ad0 X hr hl)
/-- the room of a call by a method of d frames -/
def qp_rmE (d d' mc ms mc' ms' : Nat) (M0 M : qp_M) : Prop := d' + 1 ≤ d ∧ M.2.2.2.2.1 - M0.2.2.2.2.1 + mc' ≤ mc ∧ M.2.2.2.2.2 - M0.2.2.2.2.2 + ms' ≤ ms
theorem qp_callS_E (hK : qp_ok (qp_o mi) (qp_b mi) K) {pc d' mj mc' ms' ix t : Nat} {v : Int32} {L : List (Option Value)} {st rest av : List Value} {M : qp_M} {Q' : Option Value → qp_M → Prop}
    (hf : qp_ft8 K pc = some (.invokestatic ix, v, t)) (hmi : t = 10 * mj + 1 ∨ t = 10 * mj + 7) (hlt : mj < 141) (hsta : qp_sta mj = true) (hna : qp_na mj = av.length) (hM : qp_Met l G d' mj av M mc' ms' Q') (hst : st = av.reverse ++ rest) (hcat : Nat.ble (qp_cat rest) 8 = true) (hR : qp_rmE d d' mc ms mc' ms' M0 M) (hkn : mc' = 0 ∨ qp_kl M.2.2.2.2.1 L rest = true)
    (k : ∀ (r : Option Value) (M' : qp_M), Q' r M' → M'.2.2.2.2.1 = M.2.2.2.2.1 + mc' → M'.2.2.2.2.2 = M.2.2.2.2.2 + ms' → qp_E l G d mi M0 mc ms Q (pc + 3, L, r.toList ++ rest, M')) : qp_E l G d mi M0 mc ms Q (pc, L, st, M) := by
  intro p e s m args below meth cd ad0 X hr hl
  exact qp_callS_W X hK hf hmi hlt hsta hM hna hst hcat ⟨hR.1, by show 64 * (d' + 1) ≤ 64 * d; have := hR.1; omega, hR.2.1, hR.2.2⟩ hkn (fun r M' h1 h2 h3 => k r M' h1 h2 h3 p e s m args below meth cd ad0 X hr hl)
theorem qp_callV_E (hK : qp_ok (qp_o mi) (qp_b mi) K) {pc d' mj mc' ms' ix t b : Nat} {v : Int32} {L : List (Option Value)} {st rest av : List Value} {M : qp_M} {Q' : Option Value → qp_M → Prop}
    (hf : qp_ft8 K pc = some (.invokevirtual ix, v, t)) (hmi : t = 10 * mj ∨ t = 10 * mj + 3) (hlt : mj < 141) (hsta : qp_sta mj = false ∧ qp_ini mj = false) (hna : qp_na mj = av.length) (ho11 : qp_o mj < 10) (hM : qp_Met l G d' mj (.ref b :: av) M mc' ms' Q') (hst : st = av.reverse ++ .ref b :: rest) (hb8 : (Nat.blt b M.2.2.2.2.1 && Nat.beq (M.2.2.2.1 b).1 (qp_o mj)) = true) (hcat : Nat.ble (qp_cat rest) 8 = true) (hR : qp_rmE d d' mc ms mc' ms' M0 M) (hkn : mc' = 0 ∨ qp_kl M.2.2.2.2.1 L rest = true)
    (k : ∀ (r : Option Value) (M' : qp_M), Q' r M' → M'.2.2.2.2.1 = M.2.2.2.2.1 + mc' → M'.2.2.2.2.2 = M.2.2.2.2.2 + ms' → qp_E l G d mi M0 mc ms Q (pc + 3, L, r.toList ++ rest, M')) : qp_E l G d mi M0 mc ms Q (pc, L, st, M) := by
  intro p e s m args below meth cd ad0 X hr hl
  exact qp_callV_W X hK hf hmi hlt hsta hM hna hst hb8 ho11 hcat ⟨hR.1, by show 64 * (d' + 1) ≤ 64 * d; have := hR.1; omega, hR.2.1, hR.2.2⟩ hkn (fun r M' h1 h2 h3 => k r M' h1 h2 h3 p e s m args below meth cd ad0 X hr hl)
theorem qp_callI_E (hK : qp_ok (qp_o mi) (qp_b mi) K) {pc d' mj mc' ms' ix t b : Nat} {v : Int32} {L : List (Option Value)} {st rest av : List Value} {M : qp_M} {Q' : Option Value → qp_M → Prop}
    (hf : qp_ft8 K pc = some (.invokespecial ix, v, t)) (hmi : t = 10 * mj + 2 ∨ t = 10 * mj + 4) (hlt : mj < 141) (hsta : qp_sta mj = false ∧ qp_ini mj = true) (hret : qp_rt mj = none) (hna : qp_na mj = av.length) (hM : qp_Met l G d' mj (.ref b :: av) M mc' ms' Q') (hst : st = av.reverse ++ .ref b :: rest) (hcat : Nat.ble (qp_cat rest) 8 = true) (hR : qp_rmE d d' mc ms mc' ms' M0 M) (hkn : mc' = 0 ∨ qp_kl M.2.2.2.2.1 L rest = true)
    (k : ∀ (r : Option Value) (M' : qp_M), Q' r M' → M'.2.2.2.2.1 = M.2.2.2.2.1 + mc' → M'.2.2.2.2.2 = M.2.2.2.2.2 + ms' → qp_E l G d mi M0 mc ms Q (pc + 3, L, r.toList ++ rest, M')) : qp_E l G d mi M0 mc ms Q (pc, L, st, M) := by
  intro p e s m args below meth cd ad0 X hr hl
  exact qp_callI_W X hK hf hmi hlt hsta hret hM hna hst hcat ⟨hR.1, by show 64 * (d' + 1) ≤ 64 * d; have := hR.1; omega, hR.2.1, hR.2.2⟩ hkn (fun r M' h1 h2 h3 => k r M' h1 h2 h3 p e s m args below meth cd ad0 X hr hl)
/-- what an end has to show of the room -/
def qp_fin8 (M0 M : qp_M) (mc ms : Nat) : Prop := M.2.2.2.2.1 = M0.2.2.2.2.1 + mc ∧ M.2.2.2.2.2 = M0.2.2.2.2.2 + ms
theorem qp_end {p : Program} {s : State} {m : MethodId} {args : Array Value} {meth : Method} {cd : Code} {ad0 ad : Nat → Nat} {o nL : Nat} {bs : ByteArray} {ini : Bool} {M : qp_M} {H : Heap} {locs : List Loc} (X : qp_X p s m args meth cd G o bs nL ini (va_A (qp_w G M0 ad0) s.heap.size) ad0) (g1 : ∀ k, (k < M0.2.2.2.2.1 ∨ M.2.2.2.2.1 ≤ k) → ad k = ad0 k) (h9 : M.2.2.2.2.1 ≤ 900) (hP : va_P G.1 qp_cl (qp_w G M ad) H) (hD : va_D (va_A (qp_w G M0 ad0) s.heap.size) (qp_w G M ad)) (hS : va_S (va_A (qp_w G M0 ad0) s.heap.size) s.heap H locs) (hfin : qp_fin8 M0 M mc ms) {r : Option Value} {r' : Option Value} (hr : r' = r.map (qp_tr ad)) (hQ : Q r M) {t : State} (ht : t.heap = H) : qp_Qf G M0 ad0 s.heap.size mc ms Q s (.returned r') t := by
  subst hr
  exact ⟨⟨r, M, ad, hQ, rfl, g1, ⟨hfin.1, hfin.2, h9⟩, by rw [ht]; exact hP, hD⟩, hS.F ht⟩
theorem qp_retI_E (hK : qp_ok (qp_o mi) (qp_b mi) K) {pc : Nat} {v0 : Int32} {t : Nat} (hf : qp_ft8 K pc = some (.ireturn, v0, t)) (hrt : qp_rt mi = some .int) {L : List (Option Value)} {v : Int32} {M : qp_M} (hfin : qp_fin8 M0 M mc ms) (hQ : Q (some (.int v)) M) : qp_E l G d mi M0 mc ms Q (pc, L, [.int v], M) := by
  intro p e s m args below meth cd ad0 X hr hlk ad H locs ls g1 g3 hP hD hS hl
  obtain ⟨hd, -⟩ := hK _ _ hf
  dsimp only at g1 g3 hP hD hl ⊢
  rw [show M.2.2.2.2.1 - M0.2.2.2.2.1 = mc by have := hfin.1; omega, show M.2.2.2.2.2 - M0.2.2.2.2.2 = ms by have := hfin.2; omega]
  exact W.iret (v := v) X.1 X.2.1 (hr.trans hrt) (fun t ht hW => qp_end X g1 g3.2.2 hP hD hS hfin (r := some (.int v)) rfl hQ ht) hS.2.2 hd hlk
theorem qp_retZ_E (hK : qp_ok (qp_o mi) (qp_b mi) K) {pc : Nat} {v0 : Int32} {t : Nat} (hf : qp_ft8 K pc = some (.ireturn, v0, t)) (hrt : qp_rt mi = some .boolean) {L : List (Option Value)} {v : Int32} {M : qp_M} (hv : narrow .boolean (.int v) = .int v) (hfin : qp_fin8 M0 M mc ms) (hQ : Q (some (.int v)) M) : qp_E l G d mi M0 mc ms Q (pc, L, [.int v], M) := by
  intro p e s m args below meth cd ad0 X hr hlk ad H locs ls g1 g3 hP hD hS hl
  obtain ⟨hd, -⟩ := hK _ _ hf
  dsimp only at g1 g3 hP hD hl ⊢
  rw [show M.2.2.2.2.1 - M0.2.2.2.2.1 = mc by have := hfin.1; omega, show M.2.2.2.2.2 - M0.2.2.2.2.2 = ms by have := hfin.2; omega]
  exact W.zret (v := v) (ty := .boolean) X.1 X.2.1 (hr.trans hrt) hv (fun t ht hW => qp_end X g1 g3.2.2 hP hD hS hfin (r := some (.int v)) rfl hQ ht) hS.2.2 hd hlk
theorem qp_retL_E (hK : qp_ok (qp_o mi) (qp_b mi) K) {pc : Nat} {v0 : Int32} {t : Nat} (hf : qp_ft8 K pc = some (.lreturn, v0, t)) (hrt : qp_rt mi = some .long) {L : List (Option Value)} {v : Int64} {M : qp_M} (hfin : qp_fin8 M0 M mc ms) (hQ : Q (some (.long v)) M) : qp_E l G d mi M0 mc ms Q (pc, L, [.long v], M) := by
  intro p e s m args below meth cd ad0 X hr hlk ad H locs ls g1 g3 hP hD hS hl
  obtain ⟨hd, -⟩ := hK _ _ hf
  dsimp only at g1 g3 hP hD hl ⊢
  rw [show M.2.2.2.2.1 - M0.2.2.2.2.1 = mc by have := hfin.1; omega, show M.2.2.2.2.2 - M0.2.2.2.2.2 = ms by have := hfin.2; omega]
  exact W.lret (v := v) X.1 X.2.1 (hr.trans hrt) (fun t ht hW => qp_end X g1 g3.2.2 hP hD hS hfin (r := some (.long v)) rfl hQ ht) hS.2.2 hd hlk
theorem qp_retV_E (hK : qp_ok (qp_o mi) (qp_b mi) K) {pc : Nat} {v0 : Int32} {t : Nat} (hf : qp_ft8 K pc = some (.return_, v0, t)) (hrt : qp_rt mi = none) {L : List (Option Value)} {M : qp_M} (hfin : qp_fin8 M0 M mc ms) (hQ : Q none M) : qp_E l G d mi M0 mc ms Q (pc, L, [], M) := by
  intro p e s m args below meth cd ad0 X hr hlk ad H locs ls g1 g3 hP hD hS hl
  obtain ⟨hd, -⟩ := hK _ _ hf
  dsimp only at g1 g3 hP hD hl ⊢
  rw [show M.2.2.2.2.1 - M0.2.2.2.2.1 = mc by have := hfin.1; omega, show M.2.2.2.2.2 - M0.2.2.2.2.2 = ms by have := hfin.2; omega]
  exact W.vret X.1 X.2.1 (hr.trans hrt) (fun t ht hW => qp_end X g1 g3.2.2 hP hD hS hfin (r := none) rfl hQ ht) hS.2.2 hd hlk
end QPE
/-- the locals at a method's entry -/
def qp_ent8 : List Value → List (Option Value)
  | [] => []
  | .long x :: t => some (.long x) :: none :: qp_ent8 t
  | .double x :: t => some (.double x) :: none :: qp_ent8 t
  | v :: t => some v :: qp_ent8 t
def qp_loc (av : List Value) (n : Nat) : List (Option Value) := qp_ent8 av ++ List.replicate (n - qp_len (qp_ent8 av)) none
theorem qp_ent8_len (ad : Nat → Nat) (av : List Value) : (lg_sl (av.map (qp_tr ad))).length = (qp_ent8 av).length := by
  induction av with
  | nil => rfl
  | cons v t ih =>
    have e : lg_sl ((v :: t).map (qp_tr ad)) = lg_sl [qp_tr ad v] ++ lg_sl (t.map (qp_tr ad)) := by simp [lg_sl]
    rw [e, List.length_append, ih]
    cases v <;> simp [qp_ent8, lg_sl, qp_tr, Value.category] <;> omega
theorem qp_ent8_mem (ad : Nat → Nat) : ∀ (av : List Value) (k i : Nat) (v : Value), (qp_ent8 av)[i]? = some (some v) → (k + i, qp_tr ad v) ∈ lv_args k (av.map (qp_tr ad))
  | [], k, i, v, h => by simp [qp_ent8] at h
  | w :: t, k, i, v, h => by
    have two : ∀ (w' : Value), qp_ent8 (w :: t) = some w :: none :: qp_ent8 t → w.category = 2 → (k + i, qp_tr ad v) ∈ lv_args k ((w :: t).map (qp_tr ad)) := by
      intro w' he hc
      rw [he] at h
      match i, h with
      | 0, h =>
        simp only [List.getElem?_cons_zero, Option.some.injEq] at h
        subst h
        simp [lv_args]
      | 1, h => simp at h
      | j + 2, h =>
        have h' : (qp_ent8 t)[j]? = some (some v) := by simpa using h
        have := qp_ent8_mem ad t (k + 2) j v h'
        simp only [List.map_cons, lv_args, qp_tr_cat, hc, if_true]
        rw [show k + (j + 2) = k + 2 + j by omega]
        exact List.mem_cons_of_mem _ this
    have one : qp_ent8 (w :: t) = some w :: qp_ent8 t → ¬ w.category = 2 → (k + i, qp_tr ad v) ∈ lv_args k ((w :: t).map (qp_tr ad)) := by
      intro he hc
      rw [he] at h
      match i, h with
      | 0, h =>
        simp only [List.getElem?_cons_zero, Option.some.injEq] at h
        subst h
        simp [lv_args]
      | j + 1, h =>
        have h' : (qp_ent8 t)[j]? = some (some v) := by simpa using h
        have := qp_ent8_mem ad t (k + 1) j v h'
        simp only [List.map_cons, lv_args, qp_tr_cat, hc, if_false]
        rw [show k + (j + 1) = k + 1 + j by omega]
        exact List.mem_cons_of_mem _ this
    cases w with
    | long x => exact two (.long x) rfl rfl
    | double x => exact two (.double x) rfl rfl
    | int x => exact one rfl (by simp [Value.category])
    | float x => exact one rfl (by simp [Value.category])
    | ref x => exact one rfl (by simp [Value.category])
    | null => exact one rfl (by simp [Value.category])
    | retAddr x => exact one rfl (by simp [Value.category])
theorem qp_ofW {l : Launch} {y : MethodName} {ws ws' : List Cond} {rm : Room} {Pc : Array Value → State → Prop} {Qc : Array Value → State → Outcome → State → Prop} {mc ms : Nat} {free : Addr → Prop} {cc : ByteArray} {maxL : Nat} {ret : Option FieldType}
    (hy : plainFor y = true) (hw : ws = Cond.code y cc maxL ret :: ws')
    (body : ∀ p e s m args below meth c s₁, BodyLoose p l y (headSpec ws rm) cc maxL ret e s m args below meth c s₁ → c.maxLocals = maxL → Pc args s →
      W p l e (headSpec ws rm).room s m args below meth c s.heap [] 0 0 (MQ below Qc args s mc ms free) (entryFrame m args maxL)) : Met l y ws rm Pc Qc mc ms free := by
  refine MetFree.of_bodySF (code := cc) (maxLocals := maxL) (ret := ret) hy ?_ ?_
  · intro args s m h hn
    obtain ⟨meth, c, h1, h2, h3, h4, h5, h6, -, -⟩ := Cond.code_spec hn (atoms_spec (ws := ws) h _ (by rw [hw]; exact List.mem_cons_self))
    exact ⟨meth, c, h1, h2, h3, h4, h5, h6⟩
  · intro p e s m args below meth c s₁ B hml hP _
    have hh0 : s₁.heap = s.heap := by rw [B.state]; rfl
    obtain ⟨t, a1, o, b1, b2, b3⟩ := body p e s m args below meth c s₁ B hml hP s₁ hh0 (Stand.of_body B)
    exact ⟨t, o, a1, b1, b2, ⟨b3.1, b3.2⟩⟩
theorem qp_Met_of {l : Launch} {G : qp_G} {d mi : Nat} {av : List Value} {M : qp_M} {mc ms : Nat} {Q : Option Value → qp_M → Prop} (hlt : mi < 141) (hlen : Nat.ble (qp_len (qp_ent8 av)) (qp_mL mi) = true) (L : List (Option Value)) (hL : qp_loc av (qp_mL mi) = L)
    (h : qp_E l G d mi M mc ms Q (0, L, [], M)) : qp_Met l G d mi av M mc ms Q := by
  intro h9 ad sz
  obtain ⟨y1, y2, y3, y4, y5, y6, y7⟩ := qp_mY hlt
  refine qp_ofW (cc := qp_b mi) (maxL := qp_mL mi) (ret := qp_rt mi) y3 rfl ?_
  intro p e s m args below meth c s₁ B hml hv
  obtain ⟨rfl, hsz, hP, hK, hD0, ⟨hZ, hT, hSc⟩, hN⟩ := hv
  have hts := atoms_spec (ws := qp_cw mi :: qp_tb) B.pre
  have hown : s.vm.findClass (qp_y mi).cls = some m.cls := findClass_of_methodNamed B.named
  rw [y1] at hown
  subst hsz
  have hlL := Nat.le_of_ble_eq_true hlen
  rw [qp_len_eq] at hlL
  have hlL2 : (lg_sl (av.map (qp_tr ad))).length ≤ qp_mL mi := by rw [qp_ent8_len]; exact hlL
  rw [lg_entry_eq]
  have hl := lv_entry (av.map (qp_tr ad)) (n := qp_mL mi) hlL2
  have hLs : qp_Ls ((lg_sl (av.map (qp_tr ad)) ++ List.replicate (qp_mL mi - (lg_sl (av.map (qp_tr ad))).length) Slot.unset).toArray) (qp_mL mi) ad L := by
    refine ⟨hl.1, hl.2.1, ?_, fun i v hi => ?_⟩
    · rw [← hL]
      unfold qp_loc
      rw [qp_len_eq, List.length_append, List.length_replicate]
      omega
    · rw [← hL] at hi
      unfold qp_loc at hi
      by_cases hi2 : i < (qp_ent8 av).length
      · rw [List.getElem?_append_left hi2] at hi
        have := qp_ent8_mem ad av 0 i v hi
        rw [Nat.zero_add] at this
        exact hl.2.2 _ this
      · rw [List.getElem?_append_right (by omega)] at hi
        have := List.eq_of_mem_replicate (List.mem_of_getElem? hi)
        cases this
  have hX : qp_X p s m ((av.map (qp_tr ad)).toArray) meth c G (qp_o mi) (qp_b mi) (qp_mL mi) (qp_ini mi) (va_A (qp_w G M ad) s.heap.size) ad :=
    ⟨B.exec, B.bytes, hml, hown, fun w hw => hts w (List.mem_cons_of_mem _ hw), fun q => (name_of_methodNamed B.named B.method).1.trans (y7 q), hK, fun q hq => Or.inr hq, ⟨hZ, hT, hSc⟩, hN⟩
  have k0 := h p e s m _ below meth c ad hX B.returns B.notSynchronized ad s.heap [] _ (fun _ _ => rfl) ⟨Nat.le_refl _, Nat.le_refl _, h9⟩ hP (hD0.self) va_S.rf hLs
  dsimp only at k0
  rw [Nat.sub_self, Nat.sub_self] at k0
  exact k0

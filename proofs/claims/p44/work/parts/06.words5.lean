/-! the words, by name -/
theorem qp_mK {o x : Nat} {v : Int32} (h : qp_lk (qp_kR o) x = some v) : Cond.constant (qp_R o) x v ∈ qp_tb := by
  have hm := qp_lk_mem h
  unfold qp_kR at hm
  split at hm
  · exact qp_in _ qp_wk0 (by decide +kernel) _ (List.mem_map.mpr ⟨_, hm, rfl⟩)
  · exact qp_in _ qp_wk11 (by decide +kernel) _ (List.mem_map.mpr ⟨_, hm, rfl⟩)
  · exact qp_in _ qp_wk13 (by decide +kernel) _ (List.mem_map.mpr ⟨_, hm, rfl⟩)
  · exact absurd hm List.not_mem_nil
theorem qp_mL8 {o x : Nat} {v : Int64} (h : qp_lk (qp_lR o) x = some v) : Cond.constantLong (qp_R o) x v ∈ qp_tb := by
  have hm := qp_lk_mem h
  unfold qp_lR at hm
  split at hm
  · exact qp_in _ qp_wL0 (by decide +kernel) _ (List.mem_map.mpr ⟨_, hm, rfl⟩)
  · exact qp_in _ qp_wL1 (by decide +kernel) _ (List.mem_map.mpr ⟨_, hm, rfl⟩)
  · exact qp_in _ qp_wL13 (by decide +kernel) _ (List.mem_map.mpr ⟨_, hm, rfl⟩)
  · exact absurd hm List.not_mem_nil
theorem qp_mC {o x t : Nat} (h : qp_lk (qp_nR o) x = some t) : Cond.classLink (qp_R o) x (qp_R t) ∈ qp_tb := by
  have hm := qp_lk_mem h
  unfold qp_nR at hm
  split at hm
  · exact qp_in _ qp_wc0 (by decide +kernel) _ (List.mem_map.mpr ⟨_, hm, rfl⟩)
  · exact qp_in _ qp_wc2 (by decide +kernel) _ (List.mem_map.mpr ⟨_, hm, rfl⟩)
  · exact qp_in _ qp_wc4 (by decide +kernel) _ (List.mem_map.mpr ⟨_, hm, rfl⟩)
  · exact qp_in _ qp_wc13 (by decide +kernel) _ (List.mem_map.mpr ⟨_, hm, rfl⟩)
  · exact absurd hm List.not_mem_nil
theorem qp_mF {o x t : Nat} (h : qp_lk (qp_fR o) x = some t) : qp_wfw o (x, t) ∈ qp_tb := by
  have hm := qp_lk_mem h
  unfold qp_fR at hm
  split at hm
  · exact qp_in _ qp_wf0 (by decide +kernel) _ (List.mem_map.mpr ⟨_, hm, rfl⟩)
  · exact qp_in _ qp_wf1 (by decide +kernel) _ (List.mem_map.mpr ⟨_, hm, rfl⟩)
  · exact qp_in _ qp_wf2 (by decide +kernel) _ (List.mem_map.mpr ⟨_, hm, rfl⟩)
  · exact qp_in _ qp_wf3 (by decide +kernel) _ (List.mem_map.mpr ⟨_, hm, rfl⟩)
  · exact qp_in _ qp_wf4 (by decide +kernel) _ (List.mem_map.mpr ⟨_, hm, rfl⟩)
  · exact qp_in _ qp_wf5 (by decide +kernel) _ (List.mem_map.mpr ⟨_, hm, rfl⟩)
  · exact qp_in _ qp_wf6 (by decide +kernel) _ (List.mem_map.mpr ⟨_, hm, rfl⟩)
  · exact qp_in _ qp_wf7 (by decide +kernel) _ (List.mem_map.mpr ⟨_, hm, rfl⟩)
  · exact qp_in _ qp_wf8 (by decide +kernel) _ (List.mem_map.mpr ⟨_, hm, rfl⟩)
  · exact qp_in _ qp_wf9 (by decide +kernel) _ (List.mem_map.mpr ⟨_, hm, rfl⟩)
  · exact absurd hm List.not_mem_nil
theorem qp_mV {o x t : Nat} (h : qp_lk (qp_iR o) x = some t) (hk : qp_nst (x, t) = false) : qp_wiw o (x, t) ∈ qp_tb := by
  have hm := qp_lk_mem h
  unfold qp_iR at hm
  split at hm
  · exact qp_in _ qp_wv0 (by decide +kernel) _ (List.mem_map.mpr ⟨_, List.mem_filter.mpr ⟨hm, by rw [hk]; rfl⟩, rfl⟩)
  · exact qp_in _ qp_wv1 (by decide +kernel) _ (List.mem_map.mpr ⟨_, List.mem_filter.mpr ⟨hm, by rw [hk]; rfl⟩, rfl⟩)
  · exact qp_in _ qp_wv2 (by decide +kernel) _ (List.mem_map.mpr ⟨_, List.mem_filter.mpr ⟨hm, by rw [hk]; rfl⟩, rfl⟩)
  · exact qp_in _ qp_wv3 (by decide +kernel) _ (List.mem_map.mpr ⟨_, List.mem_filter.mpr ⟨hm, by rw [hk]; rfl⟩, rfl⟩)
  · exact qp_in _ qp_wv4 (by decide +kernel) _ (List.mem_map.mpr ⟨_, List.mem_filter.mpr ⟨hm, by rw [hk]; rfl⟩, rfl⟩)
  · exact qp_in _ qp_wv5 (by decide +kernel) _ (List.mem_map.mpr ⟨_, List.mem_filter.mpr ⟨hm, by rw [hk]; rfl⟩, rfl⟩)
  · exact qp_in _ qp_wv6 (by decide +kernel) _ (List.mem_map.mpr ⟨_, List.mem_filter.mpr ⟨hm, by rw [hk]; rfl⟩, rfl⟩)
  · exact qp_in _ qp_wv7 (by decide +kernel) _ (List.mem_map.mpr ⟨_, List.mem_filter.mpr ⟨hm, by rw [hk]; rfl⟩, rfl⟩)
  · exact qp_in _ qp_wv8 (by decide +kernel) _ (List.mem_map.mpr ⟨_, List.mem_filter.mpr ⟨hm, by rw [hk]; rfl⟩, rfl⟩)
  · exact qp_in _ qp_wv9 (by decide +kernel) _ (List.mem_map.mpr ⟨_, List.mem_filter.mpr ⟨hm, by rw [hk]; rfl⟩, rfl⟩)
  · exact qp_in _ qp_wv10 (by decide +kernel) _ (List.mem_map.mpr ⟨_, List.mem_filter.mpr ⟨hm, by rw [hk]; rfl⟩, rfl⟩)
  · exact qp_in _ qp_wv13 (by decide +kernel) _ (List.mem_map.mpr ⟨_, List.mem_filter.mpr ⟨hm, by rw [hk]; rfl⟩, rfl⟩)
  · exact absurd hm List.not_mem_nil
theorem qp_lt15 {α : Type} {f : Nat → List (Nat × α)} (h0 : ∀ o, 14 ≤ o → f o = []) {P : Nat → Nat × α → Bool} (hP : (List.range 14).all (fun o => (f o).all (P o)) = true) {o x : Nat} {t : α} (h : qp_lk (f o) x = some t) : P o (x, t) = true := by
  by_cases ho : o < 14
  · exact List.all_eq_true.mp (List.all_eq_true.mp hP o (List.mem_range.mpr ho)) _ (qp_lk_mem h)
  · rw [h0 o (Nat.le_of_not_lt ho)] at h
    cases h
theorem qp_fR_0 : ∀ o, 14 ≤ o → qp_fR o = [] := by
  intro o ho
  unfold qp_fR
  split <;> first | omega | rfl
theorem qp_iR_0 : ∀ o, 14 ≤ o → qp_iR o = [] := by
  intro o ho
  unfold qp_iR
  split <;> first | omega | rfl
theorem qp_nR_0 : ∀ o, 14 ≤ o → qp_nR o = [] := by
  intro o ho
  unfold qp_nR
  split <;> first | omega | rfl
theorem qp_mFN {o x t : Nat} (h : qp_lk (qp_fR o) x = some t) : t / 100 < 10 ∧ t % 100 < qp_N (t / 100) := by
  have h1 := qp_lt15 qp_fR_0 (P := fun _ q => decide (q.2 / 100 < 10) && decide (q.2 % 100 < qp_N (q.2 / 100))) qp_wfN h
  simpa using h1
theorem qp_mCN {o x t : Nat} (h : qp_lk (qp_nR o) x = some t) : t < 10 := by
  have h1 := qp_lt15 qp_nR_0 (P := fun _ q => decide (q.2 < 10)) qp_wcN h
  simpa using h1
theorem qp_mU {ci : Nat} (h : ci < 10) : ∀ w ∈ qp_u ci, w ∈ qp_tb := by
  rcases (by omega : ci = 0 ∨ ci = 1 ∨ ci = 2 ∨ ci = 3 ∨ ci = 4 ∨ ci = 5 ∨ ci = 6 ∨ ci = 7 ∨ ci = 8 ∨ ci = 9) with rfl | rfl | rfl | rfl | rfl | rfl | rfl | rfl | rfl | rfl
  · exact qp_in _ qp_wl0 (by decide +kernel)
  · exact qp_in _ qp_wl1 (by decide +kernel)
  · exact qp_in _ qp_wl2 (by decide +kernel)
  · exact qp_in _ qp_wl3 (by decide +kernel)
  · exact qp_in _ qp_wl4 (by decide +kernel)
  · exact qp_in _ qp_wl5 (by decide +kernel)
  · exact qp_in _ qp_wl6 (by decide +kernel)
  · exact qp_in _ qp_wl7 (by decide +kernel)
  · exact qp_in _ qp_wl8 (by decide +kernel)
  · exact qp_in _ qp_wl9 (by decide +kernel)
theorem qp_mI {t : Nat} (h : t < 10) : Cond.instantiable (qp_R t) (qp_N t) ∈ qp_tb := qp_in _ qp_wi (by decide +kernel) _ (List.mem_map.mpr ⟨t, List.mem_range.mpr h, rfl⟩)
theorem qp_mZ {t : Nat} (h : t < 14) : Cond.initialized (qp_R t) ∈ qp_tb := qp_in _ qp_wz (by decide +kernel) _ (List.mem_map.mpr ⟨t, List.mem_range.mpr h, rfl⟩)
theorem qp_mO1 : Cond.code Lib.objectInit ⟨#[0xb1]⟩ 1 none ∈ qp_tb := qp_in _ qp_wo (by decide +kernel) _ List.mem_cons_self
theorem qp_mO2 : Cond.instanceMethod Lib.objectInit ∈ qp_tb := qp_in _ qp_wo (by decide +kernel) _ (List.mem_cons_of_mem _ List.mem_cons_self)
theorem qp_mA1 : Cond.arrayClass .int ∈ qp_tb := qp_in _ qp_wr (by decide +kernel) _ List.mem_cons_self
theorem qp_mA2 : Cond.arrayClass .boolean ∈ qp_tb := qp_in _ qp_wr (by decide +kernel) _ (List.mem_cons_of_mem _ List.mem_cons_self)
theorem qp_mW {mi : Nat} (h : mi < 141) : qp_cw mi ∈ qp_tb := by
  rcases (by omega : (0 ≤ mi ∧ mi < 20) ∨ (20 ≤ mi ∧ mi < 40) ∨ (40 ≤ mi ∧ mi < 60) ∨ (60 ≤ mi ∧ mi < 80) ∨ (80 ≤ mi ∧ mi < 100) ∨ (100 ≤ mi ∧ mi < 120) ∨ (120 ≤ mi ∧ mi < 140) ∨ (140 ≤ mi ∧ mi < 141)) with h1 | h1 | h1 | h1 | h1 | h1 | h1 | h1
  · exact qp_in _ qp_wm0 (by decide +kernel) _ (List.mem_map.mpr ⟨mi, List.mem_range'_1.mpr ⟨h1.1, by omega⟩, rfl⟩)
  · exact qp_in _ qp_wm1 (by decide +kernel) _ (List.mem_map.mpr ⟨mi, List.mem_range'_1.mpr ⟨h1.1, by omega⟩, rfl⟩)
  · exact qp_in _ qp_wm2 (by decide +kernel) _ (List.mem_map.mpr ⟨mi, List.mem_range'_1.mpr ⟨h1.1, by omega⟩, rfl⟩)
  · exact qp_in _ qp_wm3 (by decide +kernel) _ (List.mem_map.mpr ⟨mi, List.mem_range'_1.mpr ⟨h1.1, by omega⟩, rfl⟩)
  · exact qp_in _ qp_wm4 (by decide +kernel) _ (List.mem_map.mpr ⟨mi, List.mem_range'_1.mpr ⟨h1.1, by omega⟩, rfl⟩)
  · exact qp_in _ qp_wm5 (by decide +kernel) _ (List.mem_map.mpr ⟨mi, List.mem_range'_1.mpr ⟨h1.1, by omega⟩, rfl⟩)
  · exact qp_in _ qp_wm6 (by decide +kernel) _ (List.mem_map.mpr ⟨mi, List.mem_range'_1.mpr ⟨h1.1, by omega⟩, rfl⟩)
  · exact qp_in _ qp_wm7 (by decide +kernel) _ (List.mem_map.mpr ⟨mi, List.mem_range'_1.mpr ⟨h1.1, by omega⟩, rfl⟩)
theorem qp_mS {mi : Nat} (h : mi < 141) : (bif qp_sta mi then Cond.static (qp_y mi) else Cond.instanceMethod (qp_y mi)) ∈ qp_tb := by
  rcases (by omega : (0 ≤ mi ∧ mi < 20) ∨ (20 ≤ mi ∧ mi < 40) ∨ (40 ≤ mi ∧ mi < 60) ∨ (60 ≤ mi ∧ mi < 80) ∨ (80 ≤ mi ∧ mi < 100) ∨ (100 ≤ mi ∧ mi < 120) ∨ (120 ≤ mi ∧ mi < 140) ∨ (140 ≤ mi ∧ mi < 141)) with h1 | h1 | h1 | h1 | h1 | h1 | h1 | h1
  · exact qp_in _ qp_ws0 (by decide +kernel) _ (List.mem_map.mpr ⟨mi, List.mem_range'_1.mpr ⟨h1.1, by omega⟩, rfl⟩)
  · exact qp_in _ qp_ws1 (by decide +kernel) _ (List.mem_map.mpr ⟨mi, List.mem_range'_1.mpr ⟨h1.1, by omega⟩, rfl⟩)
  · exact qp_in _ qp_ws2 (by decide +kernel) _ (List.mem_map.mpr ⟨mi, List.mem_range'_1.mpr ⟨h1.1, by omega⟩, rfl⟩)
  · exact qp_in _ qp_ws3 (by decide +kernel) _ (List.mem_map.mpr ⟨mi, List.mem_range'_1.mpr ⟨h1.1, by omega⟩, rfl⟩)
  · exact qp_in _ qp_ws4 (by decide +kernel) _ (List.mem_map.mpr ⟨mi, List.mem_range'_1.mpr ⟨h1.1, by omega⟩, rfl⟩)
  · exact qp_in _ qp_ws5 (by decide +kernel) _ (List.mem_map.mpr ⟨mi, List.mem_range'_1.mpr ⟨h1.1, by omega⟩, rfl⟩)
  · exact qp_in _ qp_ws6 (by decide +kernel) _ (List.mem_map.mpr ⟨mi, List.mem_range'_1.mpr ⟨h1.1, by omega⟩, rfl⟩)
  · exact qp_in _ qp_ws7 (by decide +kernel) _ (List.mem_map.mpr ⟨mi, List.mem_range'_1.mpr ⟨h1.1, by omega⟩, rfl⟩)
theorem qp_mX {mi : Nat} (h : mi < 141) (h2 : qp_sta mi = false) (h3 : qp_ini mi = false) : Cond.selects (qp_y mi).cls (qp_y mi) (qp_y mi) ∈ qp_tb := by
  rcases (by omega : (0 ≤ mi ∧ mi < 20) ∨ (20 ≤ mi ∧ mi < 40) ∨ (40 ≤ mi ∧ mi < 60) ∨ (60 ≤ mi ∧ mi < 80) ∨ (80 ≤ mi ∧ mi < 100) ∨ (100 ≤ mi ∧ mi < 120) ∨ (120 ≤ mi ∧ mi < 140) ∨ (140 ≤ mi ∧ mi < 141)) with h1 | h1 | h1 | h1 | h1 | h1 | h1 | h1
  · exact qp_in _ qp_wx0 (by decide +kernel) _ (List.mem_map.mpr ⟨mi, List.mem_filter.mpr ⟨List.mem_range'_1.mpr ⟨h1.1, by omega⟩, by rw [h2, h3]; rfl⟩, rfl⟩)
  · exact qp_in _ qp_wx1 (by decide +kernel) _ (List.mem_map.mpr ⟨mi, List.mem_filter.mpr ⟨List.mem_range'_1.mpr ⟨h1.1, by omega⟩, by rw [h2, h3]; rfl⟩, rfl⟩)
  · exact qp_in _ qp_wx2 (by decide +kernel) _ (List.mem_map.mpr ⟨mi, List.mem_filter.mpr ⟨List.mem_range'_1.mpr ⟨h1.1, by omega⟩, by rw [h2, h3]; rfl⟩, rfl⟩)
  · exact qp_in _ qp_wx3 (by decide +kernel) _ (List.mem_map.mpr ⟨mi, List.mem_filter.mpr ⟨List.mem_range'_1.mpr ⟨h1.1, by omega⟩, by rw [h2, h3]; rfl⟩, rfl⟩)
  · exact qp_in _ qp_wx4 (by decide +kernel) _ (List.mem_map.mpr ⟨mi, List.mem_filter.mpr ⟨List.mem_range'_1.mpr ⟨h1.1, by omega⟩, by rw [h2, h3]; rfl⟩, rfl⟩)
  · exact qp_in _ qp_wx5 (by decide +kernel) _ (List.mem_map.mpr ⟨mi, List.mem_filter.mpr ⟨List.mem_range'_1.mpr ⟨h1.1, by omega⟩, by rw [h2, h3]; rfl⟩, rfl⟩)
  · exact qp_in _ qp_wx6 (by decide +kernel) _ (List.mem_map.mpr ⟨mi, List.mem_filter.mpr ⟨List.mem_range'_1.mpr ⟨h1.1, by omega⟩, by rw [h2, h3]; rfl⟩, rfl⟩)
  · exact qp_in _ qp_wx7 (by decide +kernel) _ (List.mem_map.mpr ⟨mi, List.mem_filter.mpr ⟨List.mem_range'_1.mpr ⟨h1.1, by omega⟩, by rw [h2, h3]; rfl⟩, rfl⟩)
theorem qp_mY {mi : Nat} (h : mi < 141) : (qp_y mi).cls = qp_R (qp_o mi) ∧ qp_o mi < 14 ∧ plainFor (qp_y mi) = true ∧ ((qp_y mi).cls ≠ "java/lang/invoke/MethodHandle" ∧ (qp_y mi).cls ≠ "java/lang/invoke/VarHandle") ∧ (parseMethodDescriptor (qp_y mi).desc).map (fun d => d.parameters.length) = some (qp_na mi) ∧ qp_mL mi ≤ 40 ∧ (qp_ini mi = true → (qp_y mi).name = "<init>") := by
  have h1 := List.all_eq_true.mp qp_wy mi (List.mem_range.mpr h)
  simp only [Bool.and_eq_true, decide_eq_true_eq, Bool.or_eq_true, Bool.not_eq_true'] at h1
  obtain ⟨⟨⟨⟨⟨⟨a1, a2⟩, a3⟩, a4⟩, a5⟩, a6⟩, a7⟩ := h1
  exact ⟨a1, a2, a3, a4, a5, a6, fun q => a7.elim (fun z => absurd (q.symm.trans z) (by decide)) id⟩
theorem qp_hty : ∀ ci, ci < 10 → ∀ k, k < qp_N ci → parseFieldDescriptor (qp_T ci k).2.2.1 = some (qp_ty ci k) := by decide +kernel
theorem qp_hnm : ∀ ci, ci < 10 → ∀ a, a < qp_N ci → ∀ b, b < qp_N ci → a ≠ b → (qp_T ci a).2.1 ≠ (qp_T ci b).2.1 := by decide +kernel
theorem qp_hfin : ∀ ci, ci < 10 → ∀ k, k < qp_N ci → (qp_T ci k).2.2.2 = qp_fin ci k := by decide +kernel
def qp_isr : FieldType → Bool
  | .object _ => true
  | .array _ => true
  | _ => false
theorem qp_hft : ∀ ci, ci < 10 → ∀ k, k < qp_N ci → (match qp_ft ci k with | 0 => decide (qp_ty ci k = .int) | 1 => decide (qp_ty ci k = .long) | 2 => qp_isr (qp_ty ci k) | _ => false) = true := by decide +kernel

theorem qp_hL13 : qp_kL13.all (fun b => b.all (qp_ent 13 code)) = true := by decide +kernel
theorem qp_hL14 : qp_kL14.all (fun b => b.all (qp_ent 13 code)) = true := by decide +kernel
theorem qp_hL15 : qp_kL15.all (fun b => b.all (qp_ent 13 code)) = true := by decide +kernel
theorem qp_hL16 : qp_kL16.all (fun b => b.all (qp_ent 13 code)) = true := by decide +kernel
theorem qp_hL17 : qp_kL17.all (fun b => b.all (qp_ent 13 code)) = true := by decide +kernel
theorem qp_hL18 : qp_kL18.all (fun b => b.all (qp_ent 13 code)) = true := by decide +kernel
theorem qp_hL : qp_all 13 code qp_kL = true := by
  unfold qp_all qp_kL
  simp only [List.all_append, Bool.and_eq_true]
  exact ⟨qp_hL0, ⟨qp_hL1, ⟨qp_hL2, ⟨qp_hL3, ⟨qp_hL4, ⟨qp_hL5, ⟨qp_hL6, ⟨qp_hL7, ⟨qp_hL8, ⟨qp_hL9, ⟨qp_hL10, ⟨qp_hL11, ⟨qp_hL12, ⟨qp_hL13, ⟨qp_hL14, ⟨qp_hL15, ⟨qp_hL16, ⟨qp_hL17, qp_hL18⟩⟩⟩⟩⟩⟩⟩⟩⟩⟩⟩⟩⟩⟩⟩⟩⟩⟩

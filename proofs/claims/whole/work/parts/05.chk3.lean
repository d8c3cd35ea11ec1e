theorem qp_hL8 : qp_kL8.all (fun b => b.all (qp_ent 14 code)) = true := by decide +kernel
theorem qp_hL9 : qp_kL9.all (fun b => b.all (qp_ent 14 code)) = true := by decide +kernel
theorem qp_hL10 : qp_kL10.all (fun b => b.all (qp_ent 14 code)) = true := by decide +kernel
theorem qp_hL : qp_all 14 code qp_kL = true := by
  unfold qp_all qp_kL
  simp only [List.all_append, Bool.and_eq_true]
  exact ⟨qp_hL0, ⟨qp_hL1, ⟨qp_hL2, ⟨qp_hL3, ⟨qp_hL4, ⟨qp_hL5, ⟨qp_hL6, ⟨qp_hL7, ⟨qp_hL8, ⟨qp_hL9, qp_hL10⟩⟩⟩⟩⟩⟩⟩⟩⟩⟩

theorem qp_hL7 : qp_kL7.all (fun b => b.all (qp_ent 13 code)) = true := by decide +kernel
theorem qp_hL8 : qp_kL8.all (fun b => b.all (qp_ent 13 code)) = true := by decide +kernel
theorem qp_hL9 : qp_kL9.all (fun b => b.all (qp_ent 13 code)) = true := by decide +kernel
theorem qp_hL10 : qp_kL10.all (fun b => b.all (qp_ent 13 code)) = true := by decide +kernel
theorem qp_hL11 : qp_kL11.all (fun b => b.all (qp_ent 13 code)) = true := by decide +kernel
theorem qp_hL12 : qp_kL12.all (fun b => b.all (qp_ent 13 code)) = true := by decide +kernel

theorem qp_hL4 : qp_kL4.all (fun b => b.all (qp_ent 14 code)) = true := by decide +kernel
theorem qp_hL5 : qp_kL5.all (fun b => b.all (qp_ent 14 code)) = true := by decide +kernel
theorem qp_hL6 : qp_kL6.all (fun b => b.all (qp_ent 14 code)) = true := by decide +kernel
theorem qp_hL7 : qp_kL7.all (fun b => b.all (qp_ent 14 code)) = true := by decide +kernel

theorem qp_hL0 : qp_kL0.all (fun b => b.all (qp_ent 14 code)) = true := by decide +kernel
theorem qp_hL1 : qp_kL1.all (fun b => b.all (qp_ent 14 code)) = true := by decide +kernel
theorem qp_hL2 : qp_kL2.all (fun b => b.all (qp_ent 14 code)) = true := by decide +kernel
theorem qp_hL3 : qp_kL3.all (fun b => b.all (qp_ent 14 code)) = true := by decide +kernel

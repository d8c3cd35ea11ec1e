theorem qp_hL0 : qp_kL0.all (fun b => b.all (qp_ent 13 code)) = true := by decide +kernel
theorem qp_hL1 : qp_kL1.all (fun b => b.all (qp_ent 13 code)) = true := by decide +kernel
theorem qp_hL2 : qp_kL2.all (fun b => b.all (qp_ent 13 code)) = true := by decide +kernel
theorem qp_hL3 : qp_kL3.all (fun b => b.all (qp_ent 13 code)) = true := by decide +kernel
theorem qp_hL4 : qp_kL4.all (fun b => b.all (qp_ent 13 code)) = true := by decide +kernel
theorem qp_hL5 : qp_kL5.all (fun b => b.all (qp_ent 13 code)) = true := by decide +kernel
theorem qp_hL6 : qp_kL6.all (fun b => b.all (qp_ent 13 code)) = true := by decide +kernel

theorem qp_wm6 : (List.range' 120 20).map qp_cw = [793, 797, 801, 805, 810, 815, 821, 829, 833, 838, 842, 847, 851, 855, 858, 862, 866, 869, 872, 875].filterMap (fun i => lw_tbl[i]?) := by decide +kernel
theorem qp_wm7 : (List.range' 140 1).map qp_cw = [879].filterMap (fun i => lw_tbl[i]?) := by decide +kernel

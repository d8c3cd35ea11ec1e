/-! THE TABLES' WORDS: what the pools' entries, the methods and the classes rest on is among the Statement's words -/
def qp_tb : List Cond := lw_tbl.filter goodWord
theorem qp_tb_of {w : Cond} (h : w ∈ lw_tbl) (hg : goodWord w = true) : w ∈ qp_tb := List.mem_filter.mpr ⟨h, hg⟩
theorem qp_tb_good {w : Cond} (h : w ∈ qp_tb) : w ∈ lw_tbl ∧ goodWord w = true := List.mem_filter.mp h
theorem qp_in {ws : List Cond} (ps : List Nat) (h : ws = ps.filterMap (fun i => lw_tbl[i]?)) (hg : ws.all goodWord = true) : ∀ w ∈ ws, w ∈ qp_tb := by
  intro w hw
  have h1 := List.all_eq_true.mp hg w hw
  rw [h] at hw
  obtain ⟨i, -, hi⟩ := List.mem_filterMap.mp hw
  exact qp_tb_of (List.mem_of_getElem? hi) h1
def qp_wfw (o : Nat) (q : Nat × Nat) : Cond := .fieldLink (qp_R o) q.1 (qp_R (q.2 / 100)) (qp_T (q.2 / 100) (q.2 % 100)).2.1 (qp_T (q.2 / 100) (q.2 % 100)).2.2.1
theorem qp_wf0 : (qp_fR 0).map (qp_wfw 0) = [92, 122, 138, 166, 169, 204, 210, 215, 218, 220, 222, 275, 320, 321, 322, 323, 324, 325, 326, 327, 328, 329, 330, 331, 332, 333].filterMap (fun i => lw_tbl[i]?) := by decide +kernel
theorem qp_wf1 : (qp_fR 1).map (qp_wfw 1) = [91, 93, 94].filterMap (fun i => lw_tbl[i]?) := by decide +kernel
theorem qp_wf2 : (qp_fR 2).map (qp_wfw 2) = [125, 137, 139, 140, 141].filterMap (fun i => lw_tbl[i]?) := by decide +kernel
theorem qp_wf3 : (qp_fR 3).map (qp_wfw 3) = [116, 124, 126, 127].filterMap (fun i => lw_tbl[i]?) := by decide +kernel
theorem qp_wf4 : (qp_fR 4).map (qp_wfw 4) = [115, 123, 199, 205, 211, 216, 219, 221, 223, 224].filterMap (fun i => lw_tbl[i]?) := by decide +kernel
theorem qp_wf5 : (qp_fR 5).map (qp_wfw 5) = [121, 165, 167, 170, 171, 172, 173, 174, 175, 176, 177].filterMap (fun i => lw_tbl[i]?) := by decide +kernel
theorem qp_wf6 : (qp_fR 6).map (qp_wfw 6) = [119, 202, 208, 213, 248, 249, 250, 251, 252, 253].filterMap (fun i => lw_tbl[i]?) := by decide +kernel
theorem qp_wf7 : (qp_fR 7).map (qp_wfw 7) = [120, 203, 209, 274, 276, 277, 278, 279].filterMap (fun i => lw_tbl[i]?) := by decide +kernel
theorem qp_wf8 : (qp_fR 8).map (qp_wfw 8) = [118, 201, 206, 212, 297, 298, 299].filterMap (fun i => lw_tbl[i]?) := by decide +kernel
theorem qp_wf9 : (qp_fR 9).map (qp_wfw 9) = [117, 168, 200, 207, 214, 217, 313, 314].filterMap (fun i => lw_tbl[i]?) := by decide +kernel
theorem qp_wf10 : (qp_fR 10).map (qp_wfw 10) = [955, 956, 957, 958, 959, 960, 961, 962, 963, 964, 965, 966, 967, 968, 969, 970, 971, 972, 973, 974, 975, 976, 977, 978, 979, 980, 981].filterMap (fun i => lw_tbl[i]?) := by decide +kernel
theorem qp_wfN : (List.range 15).all (fun o => (qp_fR o).all (fun q => decide (q.2 / 100 < 11) && decide (q.2 % 100 < qp_N (q.2 / 100)))) = true := by decide +kernel
abbrev qp_u (ci : Nat) : List Cond := u_ws (qp_R ci) (qp_T ci) (qp_N ci)
theorem qp_wl0 : qp_u 0 = [334, 336, 338, 340, 342, 344, 346, 348, 350, 352, 354, 356, 358, 360].filterMap (fun i => lw_tbl[i]?) := by decide +kernel
theorem qp_wl1 : qp_u 1 = [95, 97, 99].filterMap (fun i => lw_tbl[i]?) := by decide +kernel
theorem qp_wl2 : qp_u 2 = [142, 144, 146, 148].filterMap (fun i => lw_tbl[i]?) := by decide +kernel
theorem qp_wl3 : qp_u 3 = [128, 130, 132, 134].filterMap (fun i => lw_tbl[i]?) := by decide +kernel
theorem qp_wl4 : qp_u 4 = [225, 227, 229, 231, 233, 235, 237, 239].filterMap (fun i => lw_tbl[i]?) := by decide +kernel
theorem qp_wl5 : qp_u 5 = [178, 180, 182, 184, 186, 188, 190, 192, 194, 196].filterMap (fun i => lw_tbl[i]?) := by decide +kernel
theorem qp_wl6 : qp_u 6 = [254, 256, 258, 260, 262, 264].filterMap (fun i => lw_tbl[i]?) := by decide +kernel
theorem qp_wl7 : qp_u 7 = [280, 282, 284, 286, 288].filterMap (fun i => lw_tbl[i]?) := by decide +kernel
theorem qp_wl8 : qp_u 8 = [300, 302, 304].filterMap (fun i => lw_tbl[i]?) := by decide +kernel
theorem qp_wl9 : qp_u 9 = [315, 317].filterMap (fun i => lw_tbl[i]?) := by decide +kernel
theorem qp_wl10 : qp_u 10 = [982, 984, 986, 988, 990, 992, 994, 996, 998, 1000, 1002, 1004, 1006, 1008, 1010, 1012, 1014, 1016, 1018, 1020, 1022, 1024, 1026, 1028, 1030, 1032, 1034].filterMap (fun i => lw_tbl[i]?) := by decide +kernel
theorem qp_wi : (List.range 11).map (fun t => Cond.instantiable (qp_R t) (qp_N t)) = [75, 83, 104, 110, 152, 160, 243, 269, 292, 308, 950].filterMap (fun i => lw_tbl[i]?) := by decide +kernel
theorem qp_wz : (List.range 14).map (fun t => Cond.initialized (qp_R t)) = [59, 60, 62, 63, 64, 65, 66, 67, 68, 69, 70, 72, 73, 61].filterMap (fun i => lw_tbl[i]?) := by decide +kernel
def qp_wiw (o : Nat) (q : Nat × Nat) : Cond := bif Nat.beq (q.2 % 10) 5 then .methodLink (qp_R o) q.1 Lib.objectInit else bif Nat.beq (q.2 % 10) 6 then .methodLink (qp_R o) q.1 arraycopyName else .methodLink (qp_R o) q.1 (qp_y (q.2 / 10))
def qp_nst (q : Nat × Nat) : Bool := Nat.beq (q.2 % 10) 3 || Nat.beq (q.2 % 10) 4
theorem qp_wv0 : ((qp_iR 0).filter (fun q => !qp_nst q)).map (qp_wiw 0) = [79, 84, 105, 244, 270, 293, 309, 367, 371, 375, 379, 388, 392, 396, 404, 408, 413, 417, 429, 437, 442, 454, 455, 472, 513, 527, 541, 545, 571, 575, 576, 577, 585, 589, 593, 597, 612, 613, 620, 628, 632, 657, 661, 670, 680, 692, 697, 705, 710, 728, 758, 766, 770, 774, 778, 795, 799, 806, 814, 823, 836, 851, 869, 877, 892, 897, 917, 921, 926, 944].filterMap (fun i => lw_tbl[i]?) := by decide +kernel
theorem qp_wv1 : ((qp_iR 1).filter (fun q => !qp_nst q)).map (qp_wiw 1) = [87, 88, 383, 400, 412, 441, 446, 447, 459].filterMap (fun i => lw_tbl[i]?) := by decide +kernel
theorem qp_wv2 : ((qp_iR 2).filter (fun q => !qp_nst q)).map (qp_wiw 2) = [108, 476, 480, 484, 485, 486, 490, 494, 495, 499, 505].filterMap (fun i => lw_tbl[i]?) := by decide +kernel
theorem qp_wv3 : ((qp_iR 3).filter (fun q => !qp_nst q)).map (qp_wiw 3) = [114, 517, 518, 522, 526, 925].filterMap (fun i => lw_tbl[i]?) := by decide +kernel
theorem qp_wv4 : ((qp_iR 4).filter (fun q => !qp_nst q)).map (qp_wiw 4) = [156, 161, 531, 549, 581, 601, 617, 618, 619, 636, 640, 649, 674, 675, 714, 715, 896].filterMap (fun i => lw_tbl[i]?) := by decide +kernel
theorem qp_wv5 : ((qp_iR 5).filter (fun q => !qp_nst q)).map (qp_wiw 5) = [164, 553, 556, 557, 560, 563, 567, 568, 827].filterMap (fun i => lw_tbl[i]?) := by decide +kernel
theorem qp_wv6 : ((qp_iR 6).filter (fun q => !qp_nst q)).map (qp_wiw 6) = [247, 732, 736, 745, 749, 750, 751, 752, 753, 757].filterMap (fun i => lw_tbl[i]?) := by decide +kernel
theorem qp_wv7 : ((qp_iR 7).filter (fun q => !qp_nst q)).map (qp_wiw 7) = [273, 786, 790, 791, 792, 793, 794, 818].filterMap (fun i => lw_tbl[i]?) := by decide +kernel
theorem qp_wv8 : ((qp_iR 8).filter (fun q => !qp_nst q)).map (qp_wiw 8) = [296, 840, 844, 845, 846].filterMap (fun i => lw_tbl[i]?) := by decide +kernel
theorem qp_wv9 : ((qp_iR 9).filter (fun q => !qp_nst q)).map (qp_wiw 9) = [312, 855, 859, 860, 861, 862, 866, 881].filterMap (fun i => lw_tbl[i]?) := by decide +kernel
theorem qp_wv10 : ((qp_iR 10).filter (fun q => !qp_nst q)).map (qp_wiw 10) = [954, 1041, 1045, 1048, 1056, 1060, 1081, 1093, 1097, 1101, 1105, 1109, 1114, 1118, 1125, 1132, 1137, 1141, 1145, 1149, 1152, 1155, 1159, 1162, 1170, 1173, 1181, 1185, 1188, 1191, 1194, 1201, 1218, 1242, 1246, 1262, 1270, 1275, 1279, 1283, 1287, 1303, 1315, 1319, 1328, 1332, 1347, 1354, 1375, 1379, 1383, 1387].filterMap (fun i => lw_tbl[i]?) := by decide +kernel
theorem qp_wv11 : ((qp_iR 11).filter (fun q => !qp_nst q)).map (qp_wiw 11) = [534, 584, 604, 605, 643, 646, 739].filterMap (fun i => lw_tbl[i]?) := by decide +kernel
theorem qp_wv14 : ((qp_iR 14).filter (fun q => !qp_nst q)).map (qp_wiw 14) = [76, 363, 384, 421, 425, 433, 450, 460, 464, 468, 509, 537, 608, 624, 653, 662, 666, 676, 684, 688, 693, 701, 706, 716, 720, 724, 762, 802, 810, 819, 828, 832, 847, 873, 885, 901, 905, 909, 913, 930, 934, 938, 951, 1037, 1052, 1064, 1065, 1069, 1073, 1077, 1085, 1089, 1121, 1128, 1166, 1177, 1197, 1205, 1210, 1214, 1222, 1226, 1230, 1234, 1238, 1250, 1254, 1258, 1266, 1290, 1294, 1299, 1307, 1311, 1323, 1336, 1340, 1358, 1362, 1366, 1370, 1390, 1394, 1398].filterMap (fun i => lw_tbl[i]?) := by decide +kernel
def qp_nest : List Cond := (List.range 15).flatMap (fun o => ((qp_iR o).filter qp_nst).map (fun q => Cond.methodLinkNest (qp_R o) q.1 (qp_y (q.2 / 10)) "QueuePlaces")) ++ [.fieldLinkNest "QueuePlaces$Reader" 70 "QueuePlaces" "LETTERS" "[I"  "QueuePlaces"]
theorem qp_wn : qp_nest = [153, 782, 111, 158, 503].filterMap (fun i => lw_tbl[i]?) := by decide +kernel
theorem qp_wc0 : (qp_nR 0).map (fun q => Cond.classLink (qp_R 0) q.1 (qp_R q.2)) = [82, 103, 151, 242, 268, 291, 307].filterMap (fun i => lw_tbl[i]?) := by decide +kernel
theorem qp_wc2 : (qp_nR 2).map (fun q => Cond.classLink (qp_R 2) q.1 (qp_R q.2)) = [109].filterMap (fun i => lw_tbl[i]?) := by decide +kernel
theorem qp_wc4 : (qp_nR 4).map (fun q => Cond.classLink (qp_R 4) q.1 (qp_R q.2)) = [157, 159].filterMap (fun i => lw_tbl[i]?) := by decide +kernel
theorem qp_wc14 : (qp_nR 14).map (fun q => Cond.classLink (qp_R 14) q.1 (qp_R q.2)) = [74, 949].filterMap (fun i => lw_tbl[i]?) := by decide +kernel
theorem qp_wcN : (List.range 15).all (fun o => (qp_nR o).all (fun q => decide (q.2 < 11))) = true := by decide +kernel
theorem qp_wk0 : (qp_kR 0).map (fun q => Cond.constant (qp_R 0) q.1 q.2) = [889].filterMap (fun i => lw_tbl[i]?) := by decide +kernel
theorem qp_wk10 : (qp_kR 10).map (fun q => Cond.constant (qp_R 10) q.1 q.2) = [1298, 1318].filterMap (fun i => lw_tbl[i]?) := by decide +kernel
theorem qp_wk12 : (qp_kR 12).map (fun q => Cond.constant (qp_R 12) q.1 q.2) = [742, 743, 744].filterMap (fun i => lw_tbl[i]?) := by decide +kernel
theorem qp_wL0 : (qp_lR 0).map (fun q => Cond.constantLong (qp_R 0) q.1 q.2) = [890, 891, 942, 943].filterMap (fun i => lw_tbl[i]?) := by decide +kernel
theorem qp_wL1 : (qp_lR 1).map (fun q => Cond.constantLong (qp_R 1) q.1 q.2) = [948].filterMap (fun i => lw_tbl[i]?) := by decide +kernel
theorem qp_wL10 : (qp_lR 10).map (fun q => Cond.constantLong (qp_R 10) q.1 q.2) = [1044, 1084, 1113, 1136, 1209, 1221, 1274, 1327, 1344, 1345, 1346, 1351, 1352, 1353, 1374, 1402, 1403].filterMap (fun i => lw_tbl[i]?) := by decide +kernel
/-- a method's own words -/
def qp_stL8 : List Nat := [2, 2, 1, 2, 2, 2, 2, 2, 2, 2, 2, 0, 0, 0, 0, 0, 0, 0, 0, 0, 0, 0, 0, 0, 0, 0, 0, 0, 0, 0, 0, 0, 0, 0, 0, 0, 0, 0, 0, 0, 0, 0, 0, 0, 0, 0, 0, 0, 0, 1, 1, 0, 0, 0, 0, 1, 1, 1, 0, 1, 0, 0, 1, 0, 0, 0, 0, 1, 1, 0, 0, 0, 0, 0, 0, 0, 1, 1, 1, 0, 0, 0, 0, 0, 0, 0, 0, 0, 0, 0, 0, 0, 0, 0, 0, 0, 0, 0, 0, 1, 1, 0, 0, 0, 0, 0, 0, 0, 0, 0, 0, 0, 1, 0, 0, 0, 0, 0, 0, 0, 0, 0, 0, 0, 0, 0, 0, 1, 0, 0, 0, 0, 0, 0, 0, 0, 0, 0, 0, 0, 0, 0, 0, 0, 0, 0, 2, 0, 1, 1, 0, 0, 0, 0, 0, 0, 0, 0, 1, 0, 0, 0, 0, 0, 0, 0, 0, 1, 0, 1, 0, 0, 0, 0, 0, 1, 1, 0, 1, 0, 0, 1, 0, 0, 0, 1, 1, 1, 1, 0, 0, 0, 0, 0, 1, 0, 0, 0, 0, 0, 0, 0, 0, 0, 0, 0, 0, 0, 0, 0, 0, 1, 0, 0, 0, 0, 0, 0, 1, 0, 0, 0, 0, 0, 0, 0, 0, 0, 0, 0, 0, 0, 0, 0, 1, 0, 0, 0]
def qp_sta (mi : Nat) : Bool := Nat.beq ((qp_stL8.getD mi 0)) 1
def qp_ini (mi : Nat) : Bool := Nat.beq ((qp_stL8.getD mi 0)) 2
def qp_cw (mi : Nat) : Cond := .code (qp_y mi) (qp_b mi) (qp_mL mi) (qp_rt mi)
theorem qp_wo : [Cond.code Lib.objectInit ⟨#[0xb1]⟩ 1 none, Cond.instanceMethod Lib.objectInit] = [81, 80].filterMap (fun i => lw_tbl[i]?) := by decide +kernel
theorem qp_wa : [Cond.native arraycopyName, Cond.static arraycopyName, Cond.initialized "java/lang/System"] = [449, 448, 71].filterMap (fun i => lw_tbl[i]?) := by decide +kernel
theorem qp_wr : [Cond.arrayClass .int, Cond.arrayClass .boolean] = [102, 267].filterMap (fun i => lw_tbl[i]?) := by decide +kernel
theorem qp_wq : [Cond.laysStatic "QueuePlaces" "LETTERS" "[I"] = [504].filterMap (fun i => lw_tbl[i]?) := by decide +kernel

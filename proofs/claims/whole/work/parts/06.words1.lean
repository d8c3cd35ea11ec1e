/-! THE TABLES' WORDS: what the pools' entries, the methods and the classes rest on is among the Statement's words -/
def qp_tb : List Cond := lw_tbl.filter goodWord
theorem qp_tb_of {w : Cond} (h : w ∈ lw_tbl) (hg : goodWord w = true) : w ∈ qp_tb := List.mem_filter.mpr ⟨h, hg⟩
theorem qp_tb_good {w : Cond} (h : w ∈ qp_tb) : w ∈ lw_tbl ∧ goodWord w = true := List.mem_filter.mp h
theorem qp_in {ws : List Cond} (ps : List Nat) (h : ws = ps.filterMap (fun i => lw_tbl[i]?)) (hg : ws.all goodWord = true) : ∀ w ∈ ws, w ∈ qp_tb := by
  intro w hw
  have h1 := List.all_eq_true.mp hg w hw
  rw [h] at hw
  obtain ⟨i, -, hi⟩ := List.mem_filterMap.mp hw
  exact qp_tb_of (List.mem_of_getElem? hi) h1
def qp_wfw (o : Nat) (q : Nat × Nat) : Cond := .fieldLink (qp_R o) q.1 (qp_R (q.2 / 100)) (qp_T (q.2 / 100) (q.2 % 100)).2.1 (qp_T (q.2 / 100) (q.2 % 100)).2.2.1
theorem qp_wf0 : (qp_fR 0).map (qp_wfw 0) = [91, 121, 137, 165, 168, 203, 209, 214, 217, 219, 221, 274, 319, 320, 321, 322, 323, 324, 325, 326, 327, 328, 329, 330, 331, 332].filterMap (fun i => lw_tbl[i]?) := by decide +kernel
theorem qp_wf1 : (qp_fR 1).map (qp_wfw 1) = [90, 92, 93].filterMap (fun i => lw_tbl[i]?) := by decide +kernel
theorem qp_wf2 : (qp_fR 2).map (qp_wfw 2) = [124, 136, 138, 139, 140].filterMap (fun i => lw_tbl[i]?) := by decide +kernel
theorem qp_wf3 : (qp_fR 3).map (qp_wfw 3) = [115, 123, 125, 126].filterMap (fun i => lw_tbl[i]?) := by decide +kernel
theorem qp_wf4 : (qp_fR 4).map (qp_wfw 4) = [114, 122, 198, 204, 210, 215, 218, 220, 222, 223].filterMap (fun i => lw_tbl[i]?) := by decide +kernel
theorem qp_wf5 : (qp_fR 5).map (qp_wfw 5) = [120, 164, 166, 169, 170, 171, 172, 173, 174, 175, 176].filterMap (fun i => lw_tbl[i]?) := by decide +kernel
theorem qp_wf6 : (qp_fR 6).map (qp_wfw 6) = [119, 202, 207, 212, 247, 248, 249, 250, 251, 252].filterMap (fun i => lw_tbl[i]?) := by decide +kernel
theorem qp_wf7 : (qp_fR 7).map (qp_wfw 7) = [118, 201, 208, 273, 275, 276, 277, 278].filterMap (fun i => lw_tbl[i]?) := by decide +kernel
theorem qp_wf8 : (qp_fR 8).map (qp_wfw 8) = [117, 200, 206, 211, 296, 297, 298].filterMap (fun i => lw_tbl[i]?) := by decide +kernel
theorem qp_wf9 : (qp_fR 9).map (qp_wfw 9) = [116, 167, 199, 205, 213, 216, 312, 313].filterMap (fun i => lw_tbl[i]?) := by decide +kernel
theorem qp_wf10 : (qp_fR 10).map (qp_wfw 10) = [958, 959, 960, 961, 962, 963, 964, 965, 966, 967, 968, 969, 970, 971, 972, 973, 974, 975, 976, 977, 978, 979, 980, 981, 982, 983, 984].filterMap (fun i => lw_tbl[i]?) := by decide +kernel
theorem qp_wfN : (List.range 15).all (fun o => (qp_fR o).all (fun q => decide (q.2 / 100 < 11) && decide (q.2 % 100 < qp_N (q.2 / 100)))) = true := by decide +kernel
abbrev qp_u (ci : Nat) : List Cond := u_ws (qp_R ci) (qp_T ci) (qp_N ci)
theorem qp_wl0 : qp_u 0 = [333, 335, 337, 339, 341, 343, 345, 347, 349, 351, 353, 355, 357, 359].filterMap (fun i => lw_tbl[i]?) := by decide +kernel
theorem qp_wl1 : qp_u 1 = [94, 96, 98].filterMap (fun i => lw_tbl[i]?) := by decide +kernel
theorem qp_wl2 : qp_u 2 = [141, 143, 145, 147].filterMap (fun i => lw_tbl[i]?) := by decide +kernel
theorem qp_wl3 : qp_u 3 = [127, 129, 131, 133].filterMap (fun i => lw_tbl[i]?) := by decide +kernel
theorem qp_wl4 : qp_u 4 = [224, 226, 228, 230, 232, 234, 236, 238].filterMap (fun i => lw_tbl[i]?) := by decide +kernel
theorem qp_wl5 : qp_u 5 = [177, 179, 181, 183, 185, 187, 189, 191, 193, 195].filterMap (fun i => lw_tbl[i]?) := by decide +kernel
theorem qp_wl6 : qp_u 6 = [253, 255, 257, 259, 261, 263].filterMap (fun i => lw_tbl[i]?) := by decide +kernel
theorem qp_wl7 : qp_u 7 = [279, 281, 283, 285, 287].filterMap (fun i => lw_tbl[i]?) := by decide +kernel
theorem qp_wl8 : qp_u 8 = [299, 301, 303].filterMap (fun i => lw_tbl[i]?) := by decide +kernel
theorem qp_wl9 : qp_u 9 = [314, 316].filterMap (fun i => lw_tbl[i]?) := by decide +kernel
theorem qp_wl10 : qp_u 10 = [985, 987, 989, 991, 993, 995, 997, 999, 1001, 1003, 1005, 1007, 1009, 1011, 1013, 1015, 1017, 1019, 1021, 1023, 1025, 1027, 1029, 1031, 1033, 1035, 1037].filterMap (fun i => lw_tbl[i]?) := by decide +kernel
theorem qp_wi : (List.range 11).map (fun t => Cond.instantiable (qp_R t) (qp_N t)) = [74, 82, 103, 109, 151, 159, 242, 268, 291, 307, 953].filterMap (fun i => lw_tbl[i]?) := by decide +kernel
theorem qp_wz : (List.range 14).map (fun t => Cond.initialized (qp_R t)) = [58, 59, 61, 62, 63, 64, 65, 66, 67, 68, 69, 71, 72, 60].filterMap (fun i => lw_tbl[i]?) := by decide +kernel
def qp_wiw (o : Nat) (q : Nat × Nat) : Cond := bif Nat.beq (q.2 % 10) 5 then .methodLink (qp_R o) q.1 Lib.objectInit else bif Nat.beq (q.2 % 10) 6 then .methodLink (qp_R o) q.1 arraycopyName else .methodLink (qp_R o) q.1 (qp_y (q.2 / 10))
def qp_nst (q : Nat × Nat) : Bool := Nat.beq (q.2 % 10) 3 || Nat.beq (q.2 % 10) 4 || Nat.beq (q.2 % 10) 7
theorem qp_wv0 : ((qp_iR 0).filter (fun q => !qp_nst q)).map (qp_wiw 0) = [78, 83, 104, 243, 269, 292, 308, 366, 370, 374, 378, 395, 399, 403, 411, 412, 416, 417, 429, 437, 442, 457, 458, 475, 516, 530, 544, 548, 572, 576, 577, 578, 586, 590, 594, 598, 613, 614, 621, 629, 633, 658, 662, 671, 681, 693, 698, 706, 711, 729, 759, 767, 771, 775, 779, 795, 799, 806, 814, 823, 836, 854, 872, 880, 895, 900, 920, 924, 929, 947].filterMap (fun i => lw_tbl[i]?) := by decide +kernel
theorem qp_wv1 : ((qp_iR 1).filter (fun q => !qp_nst q)).map (qp_wiw 1) = [86, 87, 382, 383, 387, 407, 441, 446, 447, 450, 462].filterMap (fun i => lw_tbl[i]?) := by decide +kernel
theorem qp_wv2 : ((qp_iR 2).filter (fun q => !qp_nst q)).map (qp_wiw 2) = [107, 479, 483, 487, 488, 489, 493, 497, 498, 502, 508].filterMap (fun i => lw_tbl[i]?) := by decide +kernel
theorem qp_wv3 : ((qp_iR 3).filter (fun q => !qp_nst q)).map (qp_wiw 3) = [113, 520, 521, 525, 529, 928].filterMap (fun i => lw_tbl[i]?) := by decide +kernel
theorem qp_wv4 : ((qp_iR 4).filter (fun q => !qp_nst q)).map (qp_wiw 4) = [155, 160, 534, 552, 582, 602, 618, 619, 620, 637, 641, 650, 675, 676, 715, 716, 899].filterMap (fun i => lw_tbl[i]?) := by decide +kernel
theorem qp_wv5 : ((qp_iR 5).filter (fun q => !qp_nst q)).map (qp_wiw 5) = [163, 556, 559, 560, 563, 566, 570, 571, 827].filterMap (fun i => lw_tbl[i]?) := by decide +kernel
theorem qp_wv6 : ((qp_iR 6).filter (fun q => !qp_nst q)).map (qp_wiw 6) = [246, 733, 737, 746, 750, 751, 752, 753, 754, 758].filterMap (fun i => lw_tbl[i]?) := by decide +kernel
theorem qp_wv7 : ((qp_iR 7).filter (fun q => !qp_nst q)).map (qp_wiw 7) = [272, 786, 790, 791, 792, 793, 794, 818].filterMap (fun i => lw_tbl[i]?) := by decide +kernel
theorem qp_wv8 : ((qp_iR 8).filter (fun q => !qp_nst q)).map (qp_wiw 8) = [295, 840, 843, 847, 848, 849].filterMap (fun i => lw_tbl[i]?) := by decide +kernel
theorem qp_wv9 : ((qp_iR 9).filter (fun q => !qp_nst q)).map (qp_wiw 9) = [311, 858, 862, 863, 864, 865, 869, 884].filterMap (fun i => lw_tbl[i]?) := by decide +kernel
theorem qp_wv10 : ((qp_iR 10).filter (fun q => !qp_nst q)).map (qp_wiw 10) = [957, 1044, 1048, 1051, 1059, 1063, 1084, 1096, 1100, 1104, 1108, 1112, 1117, 1121, 1128, 1135, 1140, 1144, 1148, 1152, 1155, 1158, 1162, 1165, 1173, 1176, 1184, 1188, 1191, 1194, 1197, 1204, 1221, 1245, 1249, 1265, 1273, 1278, 1282, 1286, 1290, 1306, 1318, 1322, 1331, 1335, 1350, 1357, 1378, 1382, 1386, 1390].filterMap (fun i => lw_tbl[i]?) := by decide +kernel
theorem qp_wv11 : ((qp_iR 11).filter (fun q => !qp_nst q)).map (qp_wiw 11) = [537, 585, 605, 606, 644, 647, 740].filterMap (fun i => lw_tbl[i]?) := by decide +kernel
theorem qp_wv14 : ((qp_iR 14).filter (fun q => !qp_nst q)).map (qp_wiw 14) = [75, 362, 391, 421, 425, 433, 453, 463, 467, 471, 512, 540, 609, 625, 654, 663, 667, 677, 685, 689, 694, 702, 707, 717, 721, 725, 763, 802, 810, 819, 828, 832, 850, 876, 888, 904, 908, 912, 916, 933, 937, 941, 954, 1040, 1055, 1067, 1068, 1072, 1076, 1080, 1088, 1092, 1124, 1131, 1169, 1180, 1200, 1208, 1213, 1217, 1225, 1229, 1233, 1237, 1241, 1253, 1257, 1261, 1269, 1293, 1297, 1302, 1310, 1314, 1326, 1339, 1343, 1361, 1365, 1369, 1373, 1393, 1397, 1401].filterMap (fun i => lw_tbl[i]?) := by decide +kernel
def qp_nest : List Cond := (List.range 15).flatMap (fun o => ((qp_iR o).filter qp_nst).map (fun q => Cond.methodLinkNest (qp_R o) q.1 (qp_y (q.2 / 10)) "QueuePlaces")) ++ [.fieldLinkNest "QueuePlaces$Reader" 70 "QueuePlaces" "LETTERS" "[I"  "QueuePlaces"]
theorem qp_wn : qp_nest = [152, 783, 110, 157, 506].filterMap (fun i => lw_tbl[i]?) := by decide +kernel
theorem qp_wc0 : (qp_nR 0).map (fun q => Cond.classLink (qp_R 0) q.1 (qp_R q.2)) = [81, 102, 150, 241, 267, 290, 306].filterMap (fun i => lw_tbl[i]?) := by decide +kernel
theorem qp_wc2 : (qp_nR 2).map (fun q => Cond.classLink (qp_R 2) q.1 (qp_R q.2)) = [108].filterMap (fun i => lw_tbl[i]?) := by decide +kernel
theorem qp_wc4 : (qp_nR 4).map (fun q => Cond.classLink (qp_R 4) q.1 (qp_R q.2)) = [156, 158].filterMap (fun i => lw_tbl[i]?) := by decide +kernel
theorem qp_wc14 : (qp_nR 14).map (fun q => Cond.classLink (qp_R 14) q.1 (qp_R q.2)) = [73, 952].filterMap (fun i => lw_tbl[i]?) := by decide +kernel
theorem qp_wcN : (List.range 15).all (fun o => (qp_nR o).all (fun q => decide (q.2 < 11))) = true := by decide +kernel
theorem qp_wk0 : (qp_kR 0).map (fun q => Cond.constant (qp_R 0) q.1 q.2) = [892].filterMap (fun i => lw_tbl[i]?) := by decide +kernel
theorem qp_wk10 : (qp_kR 10).map (fun q => Cond.constant (qp_R 10) q.1 q.2) = [1301, 1321].filterMap (fun i => lw_tbl[i]?) := by decide +kernel
theorem qp_wk12 : (qp_kR 12).map (fun q => Cond.constant (qp_R 12) q.1 q.2) = [743, 744, 745].filterMap (fun i => lw_tbl[i]?) := by decide +kernel
theorem qp_wL0 : (qp_lR 0).map (fun q => Cond.constantLong (qp_R 0) q.1 q.2) = [893, 894, 945, 946].filterMap (fun i => lw_tbl[i]?) := by decide +kernel
theorem qp_wL1 : (qp_lR 1).map (fun q => Cond.constantLong (qp_R 1) q.1 q.2) = [951].filterMap (fun i => lw_tbl[i]?) := by decide +kernel
theorem qp_wL10 : (qp_lR 10).map (fun q => Cond.constantLong (qp_R 10) q.1 q.2) = [1047, 1087, 1116, 1139, 1212, 1224, 1277, 1330, 1347, 1348, 1349, 1354, 1355, 1356, 1377, 1405, 1406].filterMap (fun i => lw_tbl[i]?) := by decide +kernel
/-- a method's own words -/
def qp_stL8 : List Nat := [2, 2, 1, 2, 2, 2, 2, 2, 2, 2, 2, 0, 0, 0, 0, 0, 0, 0, 0, 0, 0, 0, 0, 0, 0, 0, 0, 0, 0, 0, 0, 1, 0, 0, 0, 0, 0, 0, 0, 0, 0, 0, 0, 0, 0, 0, 0, 0, 0, 0, 1, 1, 0, 0, 0, 0, 1, 1, 1, 0, 0, 0, 1, 0, 0, 0, 0, 1, 1, 0, 0, 0, 0, 0, 0, 0, 1, 1, 1, 0, 0, 0, 0, 0, 0, 0, 0, 0, 0, 0, 0, 0, 0, 0, 0, 0, 0, 0, 0, 1, 1, 0, 0, 0, 0, 0, 0, 0, 0, 1, 0, 0, 1, 0, 0, 0, 0, 0, 0, 0, 0, 0, 1, 0, 0, 0, 0, 0, 1, 0, 0, 0, 0, 0, 0, 0, 0, 0, 0, 0, 0, 0, 0, 0, 0, 0, 0, 2, 0, 1, 1, 0, 0, 0, 0, 0, 0, 0, 0, 1, 0, 0, 0, 0, 0, 0, 0, 0, 1, 0, 1, 0, 0, 0, 0, 0, 1, 1, 0, 1, 0, 0, 1, 0, 0, 0, 1, 1, 1, 1, 0, 0, 0, 0, 0, 1, 0, 0, 0, 0, 0, 0, 0, 0, 0, 0, 0, 0, 0, 0, 0, 0, 1, 0, 0, 0, 0, 0, 0, 1, 0, 0, 0, 0, 0, 0, 0, 0, 0, 0, 0, 0, 0, 0, 0, 1, 0, 0, 0]
def qp_sta (mi : Nat) : Bool := Nat.beq ((qp_stL8.getD mi 0)) 1
def qp_ini (mi : Nat) : Bool := Nat.beq ((qp_stL8.getD mi 0)) 2
def qp_cw (mi : Nat) : Cond := .code (qp_y mi) (qp_b mi) (qp_mL mi) (qp_rt mi)
theorem qp_wo : [Cond.code Lib.objectInit ⟨#[0xb1]⟩ 1 none, Cond.instanceMethod Lib.objectInit] = [80, 79].filterMap (fun i => lw_tbl[i]?) := by decide +kernel
theorem qp_wa : [Cond.native arraycopyName, Cond.static arraycopyName, Cond.initialized "java/lang/System"] = [452, 451, 70].filterMap (fun i => lw_tbl[i]?) := by decide +kernel
theorem qp_wr : [Cond.arrayClass .int, Cond.arrayClass .boolean] = [101, 266].filterMap (fun i => lw_tbl[i]?) := by decide +kernel
theorem qp_wq : [Cond.laysStatic "QueuePlaces" "LETTERS" "[I"] = [507].filterMap (fun i => lw_tbl[i]?) := by decide +kernel

/-! THE TABLES' WORDS: what the pools' entries, the methods and the classes rest on is among the Statement's words -/
def qp_tb : List Cond := lw_tbl.filter goodWord
theorem qp_tb_of {w : Cond} (h : w ∈ lw_tbl) (hg : goodWord w = true) : w ∈ qp_tb := List.mem_filter.mpr ⟨h, hg⟩
theorem qp_tb_good {w : Cond} (h : w ∈ qp_tb) : w ∈ lw_tbl ∧ goodWord w = true := List.mem_filter.mp h
theorem qp_in {ws : List Cond} (ps : List Nat) (h : ws = ps.filterMap (fun i => lw_tbl[i]?)) (hg : ws.all goodWord = true) : ∀ w ∈ ws, w ∈ qp_tb := by
  intro w hw
  have h1 := List.all_eq_true.mp hg w hw
  rw [h] at hw
  obtain ⟨i, -, hi⟩ := List.mem_filterMap.mp hw
  exact qp_tb_of (List.mem_of_getElem? hi) h1
def qp_wfw (o : Nat) (q : Nat × Nat) : Cond := .fieldLink (qp_R o) q.1 (qp_R (q.2 / 100)) (qp_T (q.2 / 100) (q.2 % 100)).2.1 (qp_T (q.2 / 100) (q.2 % 100)).2.2.1
theorem qp_wf0 : (qp_fR 0).map (qp_wfw 0) = [56, 86, 102, 130, 133, 168, 174, 179, 182, 184, 186, 239, 284, 285, 286, 287, 288, 289, 290, 291, 292, 293, 294, 295, 296, 297].filterMap (fun i => lw_tbl[i]?) := by decide +kernel
theorem qp_wf1 : (qp_fR 1).map (qp_wfw 1) = [55, 57, 58].filterMap (fun i => lw_tbl[i]?) := by decide +kernel
theorem qp_wf2 : (qp_fR 2).map (qp_wfw 2) = [89, 101, 103, 104, 105].filterMap (fun i => lw_tbl[i]?) := by decide +kernel
theorem qp_wf3 : (qp_fR 3).map (qp_wfw 3) = [80, 88, 90, 91].filterMap (fun i => lw_tbl[i]?) := by decide +kernel
theorem qp_wf4 : (qp_fR 4).map (qp_wfw 4) = [79, 87, 163, 169, 175, 180, 183, 185, 187, 188].filterMap (fun i => lw_tbl[i]?) := by decide +kernel
theorem qp_wf5 : (qp_fR 5).map (qp_wfw 5) = [85, 129, 131, 134, 135, 136, 137, 138, 139, 140, 141].filterMap (fun i => lw_tbl[i]?) := by decide +kernel
theorem qp_wf6 : (qp_fR 6).map (qp_wfw 6) = [84, 167, 172, 177, 212, 213, 214, 215, 216, 217].filterMap (fun i => lw_tbl[i]?) := by decide +kernel
theorem qp_wf7 : (qp_fR 7).map (qp_wfw 7) = [83, 166, 173, 238, 240, 241, 242, 243].filterMap (fun i => lw_tbl[i]?) := by decide +kernel
theorem qp_wf8 : (qp_fR 8).map (qp_wfw 8) = [82, 165, 171, 176, 261, 262, 263].filterMap (fun i => lw_tbl[i]?) := by decide +kernel
theorem qp_wf9 : (qp_fR 9).map (qp_wfw 9) = [81, 132, 164, 170, 178, 181, 277, 278].filterMap (fun i => lw_tbl[i]?) := by decide +kernel
theorem qp_wfN : (List.range 14).all (fun o => (qp_fR o).all (fun q => decide (q.2 / 100 < 10) && decide (q.2 % 100 < qp_N (q.2 / 100)))) = true := by decide +kernel
abbrev qp_u (ci : Nat) : List Cond := u_ws (qp_R ci) (qp_T ci) (qp_N ci)
theorem qp_wl0 : qp_u 0 = [298, 300, 302, 304, 306, 308, 310, 312, 314, 316, 318, 320, 322, 324].filterMap (fun i => lw_tbl[i]?) := by decide +kernel
theorem qp_wl1 : qp_u 1 = [59, 61, 63].filterMap (fun i => lw_tbl[i]?) := by decide +kernel
theorem qp_wl2 : qp_u 2 = [106, 108, 110, 112].filterMap (fun i => lw_tbl[i]?) := by decide +kernel
theorem qp_wl3 : qp_u 3 = [92, 94, 96, 98].filterMap (fun i => lw_tbl[i]?) := by decide +kernel
theorem qp_wl4 : qp_u 4 = [189, 191, 193, 195, 197, 199, 201, 203].filterMap (fun i => lw_tbl[i]?) := by decide +kernel
theorem qp_wl5 : qp_u 5 = [142, 144, 146, 148, 150, 152, 154, 156, 158, 160].filterMap (fun i => lw_tbl[i]?) := by decide +kernel
theorem qp_wl6 : qp_u 6 = [218, 220, 222, 224, 226, 228].filterMap (fun i => lw_tbl[i]?) := by decide +kernel
theorem qp_wl7 : qp_u 7 = [244, 246, 248, 250, 252].filterMap (fun i => lw_tbl[i]?) := by decide +kernel
theorem qp_wl8 : qp_u 8 = [264, 266, 268].filterMap (fun i => lw_tbl[i]?) := by decide +kernel
theorem qp_wl9 : qp_u 9 = [279, 281].filterMap (fun i => lw_tbl[i]?) := by decide +kernel
theorem qp_wi : (List.range 10).map (fun t => Cond.instantiable (qp_R t) (qp_N t)) = [39, 47, 68, 74, 116, 124, 207, 233, 256, 272].filterMap (fun i => lw_tbl[i]?) := by decide +kernel
theorem qp_wz : (List.range 14).map (fun t => Cond.initialized (qp_R t)) = [25, 26, 28, 29, 30, 31, 32, 33, 34, 35, 36, 37, 27, 24].filterMap (fun i => lw_tbl[i]?) := by decide +kernel
def qp_wiw (o : Nat) (q : Nat × Nat) : Cond := bif Nat.beq (q.2 % 10) 5 then .methodLink (qp_R o) q.1 Lib.objectInit else bif Nat.beq (q.2 % 10) 6 then .methodLink (qp_R o) q.1 arraycopyName else .methodLink (qp_R o) q.1 (qp_y (q.2 / 10))
def qp_nst (q : Nat × Nat) : Bool := Nat.beq (q.2 % 10) 3 || Nat.beq (q.2 % 10) 4 || Nat.beq (q.2 % 10) 7
theorem qp_wv0 : ((qp_iR 0).filter (fun q => !qp_nst q)).map (qp_wiw 0) = [43, 48, 69, 208, 234, 257, 273, 331, 335, 339, 343, 360, 364, 368, 376, 377, 381, 382, 394, 431, 445, 455, 463, 467, 481, 507, 511, 520, 530, 538, 543, 548, 549, 556, 598, 636, 644, 648, 652, 656, 672, 676, 683, 691, 700, 701, 714, 732, 750, 758, 773, 778, 798, 802, 807, 818, 822, 823, 824, 825, 826, 830, 835, 839].filterMap (fun i => lw_tbl[i]?) := by decide +kernel
theorem qp_wv1 : ((qp_iR 1).filter (fun q => !qp_nst q)).map (qp_wiw 1) = [51, 52, 347, 348, 352, 372, 811, 844].filterMap (fun i => lw_tbl[i]?) := by decide +kernel
theorem qp_wv2 : ((qp_iR 2).filter (fun q => !qp_nst q)).map (qp_wiw 2) = [72, 398, 402, 406, 407, 408, 412, 416, 417, 421, 427].filterMap (fun i => lw_tbl[i]?) := by decide +kernel
theorem qp_wv3 : ((qp_iR 3).filter (fun q => !qp_nst q)).map (qp_wiw 3) = [78, 435, 436, 440, 444, 806].filterMap (fun i => lw_tbl[i]?) := by decide +kernel
theorem qp_wv4 : ((qp_iR 4).filter (fun q => !qp_nst q)).map (qp_wiw 4) = [120, 125, 449, 471, 475, 485, 489, 499, 524, 525, 560, 564, 582, 777, 834].filterMap (fun i => lw_tbl[i]?) := by decide +kernel
theorem qp_wv5 : ((qp_iR 5).filter (fun q => !qp_nst q)).map (qp_wiw 5) = [128, 568, 569, 570, 573, 574, 578, 579, 705].filterMap (fun i => lw_tbl[i]?) := by decide +kernel
theorem qp_wv6 : ((qp_iR 6).filter (fun q => !qp_nst q)).map (qp_wiw 6) = [211, 602, 606, 615, 619, 625, 626, 627, 631, 635].filterMap (fun i => lw_tbl[i]?) := by decide +kernel
theorem qp_wv7 : ((qp_iR 7).filter (fun q => !qp_nst q)).map (qp_wiw 7) = [237, 663, 667, 668, 669, 670, 671, 695].filterMap (fun i => lw_tbl[i]?) := by decide +kernel
theorem qp_wv8 : ((qp_iR 8).filter (fun q => !qp_nst q)).map (qp_wiw 8) = [260, 718, 721, 725, 726, 727].filterMap (fun i => lw_tbl[i]?) := by decide +kernel
theorem qp_wv9 : ((qp_iR 9).filter (fun q => !qp_nst q)).map (qp_wiw 9) = [276, 736, 740, 741, 742, 743, 747, 762].filterMap (fun i => lw_tbl[i]?) := by decide +kernel
theorem qp_wv10 : ((qp_iR 10).filter (fun q => !qp_nst q)).map (qp_wiw 10) = [452, 478, 492, 493, 496, 609, 622].filterMap (fun i => lw_tbl[i]?) := by decide +kernel
theorem qp_wv13 : ((qp_iR 13).filter (fun q => !qp_nst q)).map (qp_wiw 13) = [40, 327, 356, 386, 390, 459, 503, 512, 516, 526, 534, 539, 544, 552, 586, 590, 594, 640, 679, 687, 696, 706, 710, 728, 754, 766, 782, 786, 790, 794, 812, 845, 849, 853, 856, 859, 863, 867, 870, 873, 876].filterMap (fun i => lw_tbl[i]?) := by decide +kernel
def qp_nest : List Cond := (List.range 14).flatMap (fun o => ((qp_iR o).filter qp_nst).map (fun q => Cond.methodLinkNest (qp_R o) q.1 (qp_y (q.2 / 10)) "QueuePlaces")) ++ [.fieldLinkNest "QueuePlaces$Reader" 70 "QueuePlaces" "LETTERS" "[I"  "QueuePlaces"]
theorem qp_wn : qp_nest = [117, 660, 75, 122, 425].filterMap (fun i => lw_tbl[i]?) := by decide +kernel
theorem qp_wc0 : (qp_nR 0).map (fun q => Cond.classLink (qp_R 0) q.1 (qp_R q.2)) = [46, 67, 115, 206, 232, 255, 271].filterMap (fun i => lw_tbl[i]?) := by decide +kernel
theorem qp_wc2 : (qp_nR 2).map (fun q => Cond.classLink (qp_R 2) q.1 (qp_R q.2)) = [73].filterMap (fun i => lw_tbl[i]?) := by decide +kernel
theorem qp_wc4 : (qp_nR 4).map (fun q => Cond.classLink (qp_R 4) q.1 (qp_R q.2)) = [121, 123].filterMap (fun i => lw_tbl[i]?) := by decide +kernel
theorem qp_wc13 : (qp_nR 13).map (fun q => Cond.classLink (qp_R 13) q.1 (qp_R q.2)) = [38].filterMap (fun i => lw_tbl[i]?) := by decide +kernel
theorem qp_wcN : (List.range 14).all (fun o => (qp_nR o).all (fun q => decide (q.2 < 10))) = true := by decide +kernel
theorem qp_wk0 : (qp_kR 0).map (fun q => Cond.constant (qp_R 0) q.1 q.2) = [770].filterMap (fun i => lw_tbl[i]?) := by decide +kernel
theorem qp_wk11 : (qp_kR 11).map (fun q => Cond.constant (qp_R 11) q.1 q.2) = [612, 613, 614].filterMap (fun i => lw_tbl[i]?) := by decide +kernel
theorem qp_wk13 : (qp_kR 13).map (fun q => Cond.constant (qp_R 13) q.1 q.2) = [848, 852, 880].filterMap (fun i => lw_tbl[i]?) := by decide +kernel
theorem qp_wL0 : (qp_lR 0).map (fun q => Cond.constantLong (qp_R 0) q.1 q.2) = [771, 772, 816, 817].filterMap (fun i => lw_tbl[i]?) := by decide +kernel
theorem qp_wL1 : (qp_lR 1).map (fun q => Cond.constantLong (qp_R 1) q.1 q.2) = [843].filterMap (fun i => lw_tbl[i]?) := by decide +kernel
theorem qp_wL13 : (qp_lR 13).map (fun q => Cond.constantLong (qp_R 13) q.1 q.2) = [881].filterMap (fun i => lw_tbl[i]?) := by decide +kernel
/-- a method's own words -/
def qp_stL8 : List Nat := [2, 2, 1, 2, 2, 2, 2, 2, 2, 2, 2, 0, 0, 0, 0, 0, 0, 0, 0, 0, 0, 0, 0, 0, 0, 0, 0, 0, 0, 0, 0, 0, 0, 0, 0, 0, 0, 0, 0, 1, 1, 0, 0, 0, 0, 0, 1, 1, 0, 0, 1, 1, 1, 0, 0, 0, 0, 0, 0, 0, 0, 0, 0, 0, 1, 0, 0, 0, 0, 1, 0, 1, 0, 0, 0, 0, 0, 0, 1, 1, 0, 1, 1, 0, 0, 0, 0, 0, 0, 0, 0, 1, 0, 0, 1, 0, 0, 0, 0, 0, 0, 0, 0, 0, 1, 0, 0, 0, 0, 0, 1, 0, 0, 0, 0, 0, 0, 0, 0, 0, 0, 0, 0, 0, 0, 0, 0, 0, 0, 0, 0, 1, 1, 1, 1, 0, 0, 1, 1, 1, 0]
def qp_sta (mi : Nat) : Bool := Nat.beq ((qp_stL8.getD mi 0)) 1
def qp_ini (mi : Nat) : Bool := Nat.beq ((qp_stL8.getD mi 0)) 2
def qp_cw (mi : Nat) : Cond := .code (qp_y mi) (qp_b mi) (qp_mL mi) (qp_rt mi)
theorem qp_wo : [Cond.code Lib.objectInit ⟨#[0xb1]⟩ 1 none, Cond.instanceMethod Lib.objectInit] = [45, 44].filterMap (fun i => lw_tbl[i]?) := by decide +kernel
theorem qp_wr : [Cond.arrayClass .int, Cond.arrayClass .boolean] = [66, 231].filterMap (fun i => lw_tbl[i]?) := by decide +kernel
theorem qp_wq : [Cond.laysStatic "QueuePlaces" "LETTERS" "[I"] = [426].filterMap (fun i => lw_tbl[i]?) := by decide +kernel
